/-! the model's singing and turn -/
section MT
variable {E B I : z_He} {mu len at0 : Nat → Nat} {T i : Nat} {S : t_S} {X : (Nat → Int32) → Int32} {W : Nat → (Nat → Int32) → Int32} {fa : Nat → Int32}
theorem t_beat_55 {a : Nat} (ha : S.1 i 5 = nI a) (ha2 : a < 2 ^ 31) : t_beat E len T W fa i S = t_end E len i a (t_spend E W fa i a (t_w S i 6 (S.1 i 6 - nI T))) := by
  unfold t_beat
  rw [ha, nI_clamp ha2]
theorem m_gh_t {I J K : z_He} {d w : Prop} (h : m_gh I J i False False) (g : m_gh J K i d w) : m_gh I K i d w := by
  obtain ⟨h1, h2, -, h4, -, h6⟩ := h
  obtain ⟨h41, h42⟩ := h4 id
  obtain ⟨h61, h62⟩ := h6 (fun q => q.1)
  unfold m_gh at g ⊢
  rw [h1, h2, h41, h42, h61, h62] at g
  exact g
theorem m_gh_iff {I J : z_He} {d w d' w' : Prop} (h : m_gh I J i d w) (hd : d' ↔ d) (hw : w' ↔ w) : m_gh I J i d' w' := by
  unfold m_gh at h ⊢
  rw [hd, hw]
  exact h
theorem m_sing (hB : m_B (mu 9) E B) (hR : RelL E mu len) (hL : t_Law E (mu 9) X W) (hT : E 102 4 = nI T) (hT1 : 60 ≤ T) (hT2 : T ≤ 600) (hi : i < 8) : ∀ (n N : Nat) (I : z_He) (S : t_S) (a ph : Nat), t_act len i S a ph → a < len i → S.1 i 9 = 0 → ph < 60 * n → ph < 2 ^ 20 → n ≤ N → m_In B I S → (∀ j, j < 8 → j ≠ 5 → j ≠ 6 → I 124 j = fa j) → ∃ I', z_lp (fX13_turnOf_b166 102 (nI i) (z_Rm mu)) N I = some I' ∧ m_In B I' (t_sing E len T W fa i n S) ∧ I' 131 = I 131 ∧ m_gh I I' i (¬ (t_sing E len T W fa i n S).1 i 5 < nI (len i)) ((t_sing E len T W fa i n S).1 i 9 = 1) := by
  have l60 := (hR.2.2.2.2.2.2.1 i hi).1
  intro n
  induction n with
  | zero => intro N I S a ph h _ _ hp; omega
  | succ n ih =>
    intro N I S a ph h hal h9 hp hp2 hN hI hfa
    obtain ⟨N, rfl⟩ : ∃ q, N = q + 1 := ⟨N - 1, by omega⟩
    have eT : I 102 4 = nI T := by rw [m_st hB hI (by decide) (by unfold m_dirt; omega), hT]
    have r6 : I 103 (48 + i) = nI ph := by rw [m_rd hI hi (f := 6) (by decide) (by omega), h.2.2.1]
    have hb : fX13_turnOf_b166 102 (nI i) (z_Rm mu) I = _ := rfl
    conv at hb =>
      rhs
      unfold fX13_turnOf_b166
    dsimp only at hb
    rw [show z_Rm mu 102 0 = 103 from rfl, n_l48, eT] at hb
    simp only [z_g_t (k_103 (show 48 + i < 82 by omega)), nI_clamp (show 48 + i < 2 ^ 31 by omega), r6, z_l_s] at hb
    unfold t_sing
    rw [h.2.2.1]
    by_cases c1 : ph < T
    · rw [if_pos (nI_lt c1 (by omega))] at hb ⊢
      refine ⟨I, ?_, hI, rfl, m_gh_no (fun _ _ _ => rfl) (fun q => q ?_) (fun q => ?_)⟩
      · unfold z_lp
        rw [hb]
      · rw [h.1]; exact nI_lt hal (by omega)
      · rw [h9] at q; exact absurd q (by decide)
    · rw [if_neg (nI_nlt (by omega) (by omega))] at hb ⊢
      obtain ⟨q1, q2, e1, ph', e2, e3⟩ := t_beat_ok (E := E) (fa := fa) (W := W) hL.2.1 l60 hT1 h (by omega)
      have g1 : m_In B (z_u I 103 (48 + i) (nI ph - nI T)) (t_w S i 6 (nI ph - nI T)) := m_In_w hI hi (by decide) (by omega)
      obtain ⟨J, f1, f2, f3, f4, f5⟩ := m_sings (fa := fa) hB hR hL g1 (fun j h1 h2 h3 => by rw [u_o (by decide)]; exact hfa j h1 h2 h3) hi hal (by rw [t_w_f (by decide), h.1]) (by rw [t_w_f (by decide), h9])
      have eb : t_end E len i a (t_spend E W fa i a (t_w S i 6 (nI ph - nI T))) = t_beat E len T W fa i S := by rw [t_beat_55 h.1 (by omega), h.2.2.1]
      rw [eb] at f2 f5
      rw [t_w_f (show (5 : Nat) ≠ 6 by decide), h.1, n_s1] at f5
      have f5' : m_gh I J i (¬ (t_beat E len T W fa i S).1 i 5 < nI (len i)) ((t_beat E len T W fa i S).1 i 9 = 1) := by
        rw [e3.1]
        exact m_gh_pre (fun _ _ _ => by rw [u_o (by decide)]) f5
      rw [f1, z_b_s] at hb
      have hJ131 : J 131 = I 131 := by rw [f4, u_o (by decide)]
      by_cases act : a + 1 < len i ∧ (t_beat E len T W fa i S).1 i 9 = 0
      · obtain ⟨K, k1, k2, k3, k4⟩ := ih N J _ _ _ e3 act.1 act.2 (by omega) (by omega) (by omega) f2 f3
        refine ⟨K, ?_, k2, by rw [k3, hJ131], ?_⟩
        · unfold z_lp
          rw [hb]
          exact k1
        · refine m_gh_t (m_gh_iff f5' ?_ ?_) k4
          · constructor
            · intro q; exact q.elim
            · intro q
              rw [e3.1] at q
              exact q (nI_lt act.1 (by omega))
          · constructor
            · intro q; exact q.elim
            · intro q
              rw [act.2] at q
              exact absurd q (by decide)
      · have ph0 : ph' = 0 := by
          rcases e3.2.2.2.2.2 with q | q
          · exact absurd q act
          · exact q.1
        have st : t_sing E len T W fa i n (t_beat E len T W fa i S) = t_beat E len T W fa i S := by
          cases n with
          | zero => rfl
          | succ n =>
            unfold t_sing
            rw [e3.2.2.1, if_pos (nI_lt (show ph' < T by omega) (by omega))]
        rw [st]
        obtain ⟨N, rfl⟩ : ∃ q, N = q + 1 := ⟨N - 1, by omega⟩
        refine ⟨J, ?_, f2, hJ131, f5'⟩
        unfold z_lp
        rw [hb]
        dsimp only
        have hJ : fX13_turnOf_b166 102 (nI i) (z_Rm mu) J = some (.inr J) := by
          have eT' : J 102 4 = nI T := by rw [m_st hB f2 (by decide) (by unfold m_dirt; omega), hT]
          have r6' : J 103 (48 + i) = nI ph' := by rw [m_rd f2 hi (f := 6) (by decide) (by omega), e3.2.2.1]
          unfold fX13_turnOf_b166
          dsimp only
          rw [show z_Rm mu 102 0 = 103 from rfl, n_l48, eT']
          simp only [z_g_t (k_103 (show 48 + i < 82 by omega)), nI_clamp (show 48 + i < 2 ^ 31 by omega), r6']
          rw [if_pos (nI_lt (show ph' < T by omega) (by omega))]
        unfold z_lp
        rw [hJ]
end MT
/-! what the model feels -/
theorem n_bits_cnt (p : Nat → Bool) : fX13_bits (nI (n_set p 8)) = some (nI (n_cnt p 8)) := by
  unfold fX13_bits
  refine (z_lp_b 8 (nI (n_cnt p 8)) (fun k => (nI (n_cnt p k), nI k)) rfl ?_ ?_ (by decide)).trans rfl
  · intro k hk
    unfold fX13_bits_b4
    dsimp only
    rw [if_neg (n_8 hk), n_setk hk, z_l_s, z_l_s, n_s1]
    show _ = some (Sum.inl (nI (if p k = true then _ else _), _))
    by_cases c : p k = true
    · rw [if_pos c, if_pos c, n_s1]
    · rw [if_neg c, if_neg c]
      congr 3
      exact n_nI0 _
  · unfold fX13_bits_b4
    dsimp only
    rw [if_pos n_88]
theorem n_cnt_0 {p : Nat → Bool} : ∀ {n : Nat}, n_cnt p n = 0 ↔ ∀ k, k < n → p k = false
  | 0 => by simp [n_cnt]
  | n + 1 => by
    unfold n_cnt
    constructor
    · intro h k hk
      by_cases c : p n = true
      · rw [if_pos c] at h; omega
      · rw [if_neg c] at h
        by_cases e : k = n
        · subst e; simpa using c
        · exact n_cnt_0.mp h k (by omega)
    · intro h
      rw [if_neg (by rw [h n (by omega)]; decide)]
      exact n_cnt_0.mpr (fun k hk => h k (by omega))
theorem h_r_congr {I E : z_He} {i j : Nat} (h0 : I 103 j = E 103 j) (h1 : I 103 (16 + j) = E 103 (16 + j)) (h2 : I 103 (16 + i) = E 103 (16 + i)) (h3 : I 103 (24 + i) = E 103 (24 + i)) (h4 : I 102 3 = E 102 3) : h_r I i j = h_r E i j := by
  unfold h_r
  rw [h0, h1, h2, h3, h4]
section MF
variable {E B I : z_He} {mu len at0 : Nat → Nat} {T i : Nat} {S : t_S} {X : (Nat → Int32) → Int32} {W : Nat → (Nat → Int32) → Int32}
theorem m_V (h : m_In B I S) (hok : t_ok E len S) : r_V I 103 len := by
  refine v_of (fun j hj => ?_) ?_ ?_
  · have e : ∀ f, f < 10 → I 103 (8 * f + j) = S.1 j f := fun f hf => h.2.1 j f hj hf
    have := hok.1 j hj
    unfold v_ok at this ⊢
    dsimp only
    rw [e 0 (by decide), e 1 (by decide), e 2 (by decide), e 3 (by decide), e 4 (by decide), e 5 (by decide), e 6 (by decide), e 7 (by decide), e 9 (by decide)]
    obtain ⟨g1, g2, g3, g4, g5, g6, g7, g8, g9, g10⟩ := this
    exact ⟨g1, g2, g3, g4, g5, g6, g7, g8, g9, fun h0 f hf => by rw [e f hf]; exact g10 h0 f hf⟩
  · rw [h.2.2.1]; exact hok.2.2.1
  · rw [h.2.2.2.1]; exact hok.2.2.2
theorem m_stat (h : m_In B I S) (hok : t_ok E len S) {j f k : Nat} (hj : j < 8) (hf : f < 5) (hk : k = 8 * f + j) : I 103 k = E 103 k := by
  rw [m_rd h hj (by omega) hk, hok.2.1 j f hj hf, hk]
theorem m_hr (hB : m_B (mu 9) E B) (h : m_In B I S) (hok : t_ok E len S) {j : Nat} (hi : i < 8) (hj : j < 8) : h_r I i j = h_r E i j :=
  h_r_congr (m_stat h hok hj (f := 0) (by decide) (by omega)) (m_stat h hok hj (f := 2) (by decide) (by omega)) (m_stat h hok hi (f := 2) (by decide) (by omega)) (m_stat h hok hi (f := 3) (by decide) (by omega)) (m_st hB h (by decide) (by unfold m_dirt; omega))
theorem m_heard2 (hB : m_B (mu 9) E B) (h : m_In B I S) (hok : t_ok E len S) (hi : i < 8) (ht : ¬ S.1 i 0 = 0) : fX13_heardBy 102 (nI i) I (z_Rm mu) = some (nI (n_set (t_he E i) 8)) := by
  have t1 : I 103 i = 1 := by
    rw [m_rd h hi (f := 0) (by decide) (by omega)]
    exact (hok.1 i hi).1.resolve_left ht
  rw [m_heard (m_V h hok) hi, heard_told t1]
  congr 2
  apply n_set_congr
  intro j hj
  unfold t_he
  rw [m_hr hB h hok hi hj]
theorem m_ahead (hB : m_B (mu 9) E B) (h : m_In B I S) (hok : t_ok E len S) (hi : i < 8) (ht : ¬ S.1 i 0 = 0) (hat : ∀ j, j < 8 → I 131 j = nI (at0 j) ∧ at0 j ≤ 60) : fX13_aheadOf 102 (nI i) I (z_Rm mu) = some (t_ahead E at0 i) := by
  have c8 := n_cnt_le (t_he E i) 8
  unfold fX13_aheadOf t_ahead
  rw [z_g_t m_ob, m_heard2 hB h hok hi ht, z_b_s]
  by_cases c : n_cnt (t_he E i) 8 = 0
  · rw [if_pos c, if_pos (n_set_0.mpr (n_cnt_0.mp c))]
  · rw [if_neg c, if_neg (fun q => c (n_cnt_0.mpr (n_set_0.mp q)))]
    have lp : z_lp (fX13_aheadOf_b17 102 (nI i) (nI (n_set (t_he E i) 8)) I (z_Rm mu)) 300 ((0 : Int32), (0 : Int32)) = some (nI (t_sum (t_he E i) at0 8)) := by
      refine z_lp_tr (fun k => (nI (t_sum (t_he E i) at0 k), nI k)) (n := 8) (fun k hk => ?_) ?_ 300 (by decide)
      · unfold fX13_aheadOf_b17
        dsimp only
        rw [if_neg (n_8 hk), n_sethas hk, z_b_s, show z_Rm mu 102 42 = 131 from rfl, z_g_t (n_ok (n := 8) (show z_len 1 131 = 8 from rfl) hk (by decide)), nI_clamp (show k < 2 ^ 31 by omega), (hat k hk).1, n_add]
        simp only [z_l_s, n_s1]
        show _ = some (Sum.inl (nI (if t_he E i k = true then _ else _), _))
        by_cases c : t_he E i k = true
        · rw [if_pos c, if_neg (by decide), if_pos c]
        · rw [if_neg c, if_pos rfl, if_neg c]
      · unfold fX13_aheadOf_b17
        dsimp only
        rw [if_pos n_88]
    rw [lp, z_b_s, n_bits_cnt, z_b_s, z_g_t (nI_ne0 (by omega) (by omega)), show z_Rm mu 102 42 = 131 from rfl, z_g_t (n_ok (n := 8) (show z_len 1 131 = 8 from rfl) hi (by decide)), nI_clamp (show i < 2 ^ 31 by omega), (hat i hi).1]
theorem m_feels (hB : m_B (mu 9) E B) (hR : RelL E mu len) (h : m_In B I S) (hok : t_ok E len S) (hi : i < 8) (ht : ¬ S.1 i 0 = 0) (hat : ∀ j, j < 8 → I 131 j = nI (at0 j) ∧ at0 j ≤ 60) (ha : S.1 i 5 = nI (at0 i)) (hal : at0 i < len i) : ∃ I', fX13_feels 102 (nI i) I (z_Rm mu) = some I' ∧ m_In B I' S ∧ (∀ b, b ≠ 124 → I' b = I b) ∧ ∀ j, j < 8 → I' 124 j = t_let E at0 i (S.1 i 7) (S.2 0) j := by
  have l60 := (hR.2.2.2.2.2.2.1 i hi).1
  have ok : ∀ k, k < 8 → z_ok 1 124 (nI k) := fun k hk => n_ok (n := 8) rfl hk (by decide)
  have g1 := m_In_d (b := 124) (k := 0) (v := nI i) h (Or.inr (Or.inl rfl))
  have g2 := m_In_d (b := 124) (k := 1) (v := S.1 i 1) g1 (Or.inr (Or.inl rfl))
  have g3 := m_In_d (b := 124) (k := 2) (v := nI (at0 i)) g2 (Or.inr (Or.inl rfl))
  have g4 := m_In_d (b := 124) (k := 3) (v := t_ahead E at0 i) g3 (Or.inr (Or.inl rfl))
  have g5 := m_In_d (b := 124) (k := 4) (v := nI (n_cnt (t_he E i) 8)) g4 (Or.inr (Or.inl rfl))
  have g6 := m_In_d (b := 124) (k := 5) (v := S.1 i 7) g5 (Or.inr (Or.inl rfl))
  have g7 := m_In_d (b := 124) (k := 6) (v := E 106 (60 * i + at0 i)) g6 (Or.inr (Or.inl rfl))
  have g8 := m_In_d (b := 124) (k := 7) (v := z_rem (S.2 0) 100) g7 (Or.inr (Or.inl rfl))
  have ah := m_ahead (mu := mu) (at0 := at0) hB g3 hok hi ht (fun j hj => by rw [u_o (by decide), u_o (by decide), u_o (by decide)]; exact hat j hj)
  have he := m_heard2 (mu := mu) hB g4 hok hi ht
  have e1 : z_u I 124 0 (nI i) 103 (8 + i) = S.1 i 1 := m_rd g1 hi (by decide) (by omega)
  have e7 : z_u (z_u (z_u (z_u (z_u I 124 0 (nI i)) 124 1 (S.1 i 1)) 124 2 (nI (at0 i))) 124 3 (t_ahead E at0 i)) 124 4 (nI (n_cnt (t_he E i) 8)) 103 (56 + i) = S.1 i 7 := m_rd g5 hi (by decide) (by omega)
  have e131 : z_u (z_u I 124 0 (nI i)) 124 1 (S.1 i 1) 131 i = nI (at0 i) := by rw [u_o (by decide), u_o (by decide)]; exact (hat i hi).1
  have nn : fX13_noteNow 102 (nI i) (z_u (z_u (z_u (z_u (z_u (z_u I 124 0 (nI i)) 124 1 (S.1 i 1)) 124 2 (nI (at0 i))) 124 3 (t_ahead E at0 i)) 124 4 (nI (n_cnt (t_he E i) 8))) 124 5 (S.1 i 7)) (z_Rm mu) = some (E 106 (60 * i + at0 i)) := by
    unfold fX13_noteNow
    rw [z_g_t m_ob, m_done hB hR g6 hi, z_b_s, if_pos (show S.1 i 5 < nI (len i) by rw [ha]; exact nI_lt hal (by omega)), if_pos rfl, show z_Rm mu 102 0 = 103 from rfl, show z_Rm mu 102 5 = 106 from rfl, n_l40, z_g_t (k_103 (show 40 + i < 82 by omega)), nI_clamp (show 40 + i < 2 ^ 31 by omega), m_rd g6 hi (f := 5) (by decide) (show 40 + i = 8 * 5 + i by omega), ha, n_l60, z_g_t (k_480 (show z_len 1 106 = 480 from rfl) hi (show at0 i < 60 by omega)), nI_clamp (show 60 * i + at0 i < 2 ^ 31 by omega), m_st hB g6 (show 102 ≤ 106 ∧ 106 ≠ 104 by decide) (by unfold m_dirt; omega)]
  unfold fX13_feels
  rw [z_g_t m_ob, show z_Rm mu 102 0 = 103 from rfl, show z_Rm mu 102 33 = 124 from rfl, show z_Rm mu 102 42 = 131 from rfl, n_l8, n_l56, z_g_t (show z_ok 1 124 0 from ok 0 (by decide)), z_l_s, show (0 : Int32).toNatClampNeg = 0 from rfl, z_g_t (k_103 (show 8 + i < 82 by omega)), z_g_t (show z_ok 1 124 1 from ok 1 (by decide)), z_l_s, show (1 : Int32).toNatClampNeg = 1 from rfl, nI_clamp (show 8 + i < 2 ^ 31 by omega), e1, z_g_t (n_ok (n := 8) (show z_len 1 131 = 8 from rfl) hi (by decide)), z_g_t (show z_ok 1 124 2 from ok 2 (by decide)), z_l_s, show (2 : Int32).toNatClampNeg = 2 from rfl, nI_clamp (show i < 2 ^ 31 by omega), e131, ah, z_b_s, z_g_t (show z_ok 1 124 3 from ok 3 (by decide)), z_l_s, show (3 : Int32).toNatClampNeg = 3 from rfl, he, z_b_s, n_bits_cnt, z_b_s, z_g_t (show z_ok 1 124 4 from ok 4 (by decide)), z_l_s, show (4 : Int32).toNatClampNeg = 4 from rfl, z_g_t (k_103 (show 56 + i < 82 by omega)), z_g_t (show z_ok 1 124 5 from ok 5 (by decide)), z_l_s, show (5 : Int32).toNatClampNeg = 5 from rfl, nI_clamp (show 56 + i < 2 ^ 31 by omega), e7, nn, z_b_s, z_g_t (show z_ok 1 124 6 from ok 6 (by decide)), z_l_s, show (6 : Int32).toNatClampNeg = 6 from rfl, z_g_t (show z_ok 1 103 80 from k_103 (k := 80) (by decide)), z_g_t (show z_ok 1 124 7 from ok 7 (by decide)), z_l_s, show (7 : Int32).toNatClampNeg = 7 from rfl, show (80 : Int32).toNatClampNeg = 80 from rfl, g7.2.2.1]
  refine ⟨_, rfl, g8, fun b hb => ?_, fun j hj => ?_⟩
  · rw [u_o hb, u_o hb, u_o hb, u_o hb, u_o hb, u_o hb, u_o hb, u_o hb]
  · have e1 := hok.2.1 i 1 hi (by decide)
    rw [show 8 * 1 + i = 8 + i by omega] at e1
    unfold t_let
    simp only [z_u_eq]
    have : j = 0 ∨ j = 1 ∨ j = 2 ∨ j = 3 ∨ j = 4 ∨ j = 5 ∨ j = 6 ∨ j = 7 := by omega
    rcases this with rfl | rfl | rfl | rfl | rfl | rfl | rfl | rfl <;> simp [e1]
theorem m_came (hB : m_B (mu 9) E B) (hR : RelL E mu len) (h : m_In B I S) (hok : t_ok E len S) (hi : i < 8) (hat : ∀ j, j < 8 → I 131 j = nI (at0 j) ∧ at0 j ≤ len j) : fX13_allCame 102 (nI i) I (z_Rm mu) = some (if t_came E len at0 i = true then 1 else 0) := by
  have l60 : ∀ j, j < 8 → len j ≤ 60 := fun j hj => (hR.2.2.2.2.2.2.1 j hj).1
  have e7 : I 107 = E 107 := funext fun k => m_st hB h (by decide) (by unfold m_dirt; omega)
  have fw : ∀ j m, j < 8 → m ≤ len j → fX13_holdsTo 102 (nI j) (nI m) I (z_Rm mu) = some (nI (t_F E j m)) := fun j m hj hm => by
    rw [m_holdsTo (Nat.le_trans hm (l60 j hj)) hj (fun k hk => ?_), e7]
    · rfl
    · obtain ⟨a7, -⟩ := m_roll hR hj (show k < len j by omega)
      rw [e7]
      rcases a7 with q | q
      · exact ⟨0, by decide, q⟩
      · exact ⟨1, by decide, q⟩
  have fb : ∀ j m, t_F E j m ≤ m := by
    intro j m
    unfold t_F
    induction m with
    | zero => exact Nat.le_refl 0
    | succ m ih => unfold r_sum; split <;> omega
  have bi := fb i (at0 i)
  have li := l60 i hi
  have hai := (hat i hi).2
  unfold fX13_allCame t_came
  rw [z_g_t m_ob, show z_Rm mu 102 42 = 131 from rfl, z_g_t (n_ok (n := 8) (show z_len 1 131 = 8 from rfl) hi (by decide)), nI_clamp (show i < 2 ^ 31 by omega), (hat i hi).1, fw i _ hi hai, z_b_s]
  have lp := lp_all (body := fX13_allCame_b14 102 (nI (t_F E i (at0 i))) I (z_Rm mu)) (e := fun j => E 103 j == 0 || decide (t_F E j (len j) < t_F E i (at0 i)) || decide (t_F E i (at0 i) ≤ t_F E j (at0 j))) (n := 8) (x := .inl (0 : Int32)) (y := .inr ()) (fun k hk => ?_) ?_ 8 0 300 (by decide) (by decide)
  · have lp' : z_lp (fX13_allCame_b14 102 (nI (t_F E i (at0 i))) I (z_Rm mu)) 300 (0 : Int32) = _ := lp
    rw [lp', z_b_s]
    by_cases c : n_al (fun j => E 103 j == 0 || decide (t_F E j (len j) < t_F E i (at0 i)) || decide (t_F E i (at0 i) ≤ t_F E j (at0 j))) 0 8 = true
    · rw [if_pos c, if_pos c]; rfl
    · rw [if_neg c, if_neg c]; rfl
  · have bk := fb k (at0 k)
    have bk2 := fb k (len k)
    have lk := l60 k hk
    have hak := (hat k hk).2
    have e0 : I 103 k = E 103 k := m_stat h hok hk (f := 0) (by decide) (by omega)
    have e110 : I 110 k = nI (len k) := by rw [m_st hB h (by decide) (by unfold m_dirt; omega), (hR.2.2.2.2.2.2.1 k hk).2.2.1]
    unfold fX13_allCame_b14
    dsimp only
    rw [if_neg (n_8 hk), m_told hk, z_b_s, show z_Rm mu 102 9 = 110 from rfl, show z_Rm mu 102 42 = 131 from rfl, z_g_t (k_110 hk)]
    simp only [nI_clamp (show k < 2 ^ 31 by omega), e110, fw k (len k) hk (Nat.le_refl _), z_g_t (n_ok (n := 8) (show z_len 1 131 = 8 from rfl) hk (by decide)), (hat k hk).1, (n_mn (show at0 k < 2 ^ 31 by omega) (show len k < 2 ^ 31 by omega)).2, Nat.min_eq_left hak, fw k (at0 k) hk hak, z_b_s, z_l_s, n_s1, e0]
    have e01 : E 103 k = 0 ∨ E 103 k = 1 := (hR.2.1.1 k hk).1
    by_cases c0 : E 103 k = 0
    · rw [if_neg (show ¬ E 103 k = 1 by rw [c0]; decide), if_pos rfl, if_pos (by simp [c0])]
    · rw [if_pos (e01.resolve_left c0), if_neg (by decide)]
      by_cases c1 : t_F E k (len k) < t_F E i (at0 i)
      · rw [if_neg (nI_ge c1 (by omega)), if_pos (by simp [c1])]
      · rw [if_pos (nI_le (by omega) (by omega))]
        by_cases c2 : t_F E i (at0 i) ≤ t_F E k (at0 k)
        · rw [if_pos (nI_le c2 (by omega)), if_pos (by simp [c2])]
        · rw [if_neg (nI_ge (by omega) (by omega)), if_neg (by simp [c0]; omega)]
  · unfold fX13_allCame_b14
    dsimp only
    rw [if_pos n_88]
end MF
