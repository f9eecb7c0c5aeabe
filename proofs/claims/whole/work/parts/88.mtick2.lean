/-! the model's TICK, with what is noted of it -/
def t_hiD (p : Nat → Bool) : Nat → Option Nat
  | 0 => none
  | k + 1 => if p k = true then some k else t_hiD p k
def t_loD (p : Nat → Bool) : Nat → Option Nat
  | 0 => none
  | k + 1 => match t_loD p k with
    | some q => some q
    | none => if p k = true then some k else none
theorem t_hiD_congr {p q : Nat → Bool} : ∀ {k : Nat}, (∀ j, j < k → p j = q j) → t_hiD p k = t_hiD q k
  | 0, _ => rfl
  | k + 1, h => by
    unfold t_hiD
    rw [h k (by omega), t_hiD_congr (fun j hj => h j (by omega))]
theorem t_loD_congr {p q : Nat → Bool} : ∀ {k : Nat}, (∀ j, j < k → p j = q j) → t_loD p k = t_loD q k
  | 0, _ => rfl
  | k + 1, h => by
    unfold t_loD
    rw [h k (by omega), t_loD_congr (fun j hj => h j (by omega))]
theorem t_loD_lt {p : Nat → Bool} : ∀ {k q : Nat}, t_loD p k = some q → q < k
  | 0, q, h => by cases h
  | k + 1, q, h => by
    unfold t_loD at h
    cases e : t_loD p k with
    | some r =>
      rw [e] at h
      cases h
      have := t_loD_lt e
      omega
    | none =>
      rw [e] at h
      dsimp only at h
      by_cases c : p k = true
      · rw [if_pos c] at h
        cases h
        omega
      · rw [if_neg c] at h
        cases h
def t_nm (o : Option Nat) (v : Int32) : Int32 := match o with
  | none => v
  | some q => nI q
def t_tm (o : Option Nat) (v w : Int32) : Int32 := match o with
  | none => v
  | some _ => w
def t_dn (len : Nat → Nat) (S S' : t_S) (j : Nat) : Bool := t_on len S j && !decide (S'.1 j 5 < nI (len j))
def t_vn (len : Nat → Nat) (S S' : t_S) (j : Nat) : Bool := t_on len S j && (S.1 j 9 == 0) && (S'.1 j 9 == 1)
def m_G (I : z_He) (tg sp ld dw fw ww : Int32) : Prop := I 102 46 = tg ∧ I 102 47 = sp ∧ I 102 48 = ld ∧ I 102 49 = dw ∧ I 102 50 = fw ∧ I 102 51 = ww
def t_fw (o : Option Nat) (fw : Int32) : Int32 := if fw = -1 then t_nm o fw else fw
def t_ww (o : Option Nat) (fw ww tg : Int32) : Int32 := if fw = -1 then t_tm o ww tg else ww
theorem n_m1 {q : Nat} (h : q < 2 ^ 31) : ¬ nI q = -1 := by
  intro e
  have := nI_pos h
  rw [e] at this
  exact this (by decide)
section MK
variable {E B I : z_He} {mu len : Nat → Nat} {T n : Nat} {S : t_S} {X : (Nat → Int32) → Int32} {W : Nat → (Nat → Int32) → Int32} {tg sp ld dw fw ww : Int32}
theorem m_run (hB : m_B (mu 9) E B) (hR : RelL E mu len) (hL : t_Law E (mu 9) X W) (hT : E 102 4 = nI T) (hT1 : 60 ≤ T) (hT2 : T ≤ 600) (hok : t_ok E len S) (h : m_In B I S) (hat : ∀ j, j < 8 → I 131 j = nI (t_at S j)) (hG : m_G I tg sp ld dw fw ww) : ∃ I', z_lp (fX13_tickGoes_b41 102 (z_Rm mu)) 300 ((0 : Int32), I) = some I' ∧ m_In B I' (t_run E len T X W (t_at S) S 8) ∧ m_G I' tg sp (t_nm (t_hiD (t_dn len S (t_run E len T X W (t_at S) S 8)) 8) ld) (t_tm (t_hiD (t_dn len S (t_run E len T X W (t_at S) S 8)) 8) dw tg) (t_fw (t_loD (t_vn len S (t_run E len T X W (t_at S) S 8)) 8) fw) (t_ww (t_loD (t_vn len S (t_run E len T X W (t_at S) S 8)) 8) fw ww tg) := by
  have h60 : ∀ j, j < 8 → len j ≤ 60 := fun j hj => (hR.2.2.2.2.2.2.1 j hj).1
  have hat0 := fun j (hj : j < 8) => t_at_ok hok h60 hj
  refine lp_inv (body := fX13_tickGoes_b41 102 (z_Rm mu)) (fun k s => s.1 = nI k ∧ m_In B s.2 (t_run E len T X W (t_at S) S k) ∧ (∀ j, j < 8 → s.2 131 j = nI (t_at S j)) ∧ m_G s.2 tg sp (t_nm (t_hiD (t_dn len S (t_run E len T X W (t_at S) S k)) k) ld) (t_tm (t_hiD (t_dn len S (t_run E len T X W (t_at S) S k)) k) dw tg) (t_fw (t_loD (t_vn len S (t_run E len T X W (t_at S) S k)) k) fw) (t_ww (t_loD (t_vn len S (t_run E len T X W (t_at S) S k)) k) fw ww tg)) _ (n := 8) (fun k s hk hp => ?_) (fun s hp => ?_) 300 _ (by decide) ⟨rfl, h, hat, ?_⟩
  · obtain ⟨p, J⟩ := s
    obtain ⟨p1, p2, p3, p4⟩ := hp
    dsimp only at p1 p2 p3 p4
    subst p1
    obtain ⟨r1, r2, r3⟩ := t_run_ok (X := X) hL.2.1 h60 hT1 hT2 hok k (by omega)
    have rk := r2 k (Nat.le_refl k)
    have ha : (t_run E len T X W (t_at S) S k).1 k 5 = nI (t_at S k) := by rw [rk]; exact (hat0 k hk).1
    obtain ⟨o1, o2, o3⟩ := t_one_ok (X := X) (i := k) (at0 := t_at S) hL.2.1 (h60 k hk) hT1 hT2 hk r1 ha (hat0 k hk).2
    have hsk : t_run E len T X W (t_at S) S (k + 1) = t_one E len T X W (t_at S) k (t_run E len T X W (t_at S) S k) := rfl
    rw [hsk]
    generalize t_run E len T X W (t_at S) S k = S' at *
    have t01 := (hok.1 k hk).1
    have t0 : J 103 k = S.1 k 0 := by rw [m_rd p2 hk (f := 0) (by decide) (by omega), rk]
    have cd1 : ∀ j, j < k → t_dn len S (t_one E len T X W (t_at S) k S') j = t_dn len S S' j := fun j hj => by unfold t_dn; rw [o2 j (by omega)]
    have cv1 : ∀ j, j < k → t_vn len S (t_one E len T X W (t_at S) k S') j = t_vn len S S' j := fun j hj => by unfold t_vn; rw [o2 j (by omega)]
    have hd1 : t_hiD (t_dn len S (t_one E len T X W (t_at S) k S')) (k + 1) = if t_dn len S (t_one E len T X W (t_at S) k S') k = true then some k else t_hiD (t_dn len S S') k := by
      rw [← t_hiD_congr cd1]; rfl
    have hl1 : t_loD (t_vn len S (t_one E len T X W (t_at S) k S')) (k + 1) = match t_loD (t_vn len S S') k with
        | some q => some q
        | none => if t_vn len S (t_one E len T X W (t_at S) k S') k = true then some k else none := by
      rw [← t_loD_congr cv1]; rfl
    rw [hd1, hl1]
    have hb : fX13_tickGoes_b41 102 (z_Rm mu) (nI k, J) = _ := rfl
    conv at hb =>
      rhs
      unfold fX13_tickGoes_b41
    dsimp only at hb
    rw [if_neg (n_8 hk), m_told hk, z_b_s, m_done hB hR p2 hk, z_b_s, t0, rk] at hb
    simp only [z_l_s, n_s1] at hb
    by_cases on : t_on len S k = true
    · have c0 : ¬ S.1 k 0 = 0 := by unfold t_on at on; simp at on; exact on.1
      have c5 : S.1 k 5 < nI (len k) := by unfold t_on at on; simp at on; exact on.2
      have c5' : t_at S k < len k := by
        have l6 := h60 k hk
        have := (hat0 k hk).2
        rw [(hat0 k hk).1, n_lt (by omega) (by omega)] at c5
        exact c5
      rw [if_pos (t01.resolve_left c0), if_neg (by decide), if_pos c5, if_pos rfl] at hb
      obtain ⟨K, f1, f2, f3, f4⟩ := m_turn hB hR hL hT hT1 hT2 p2 r1 (fun j hj => ⟨p3 j hj, (hat0 j hj).2⟩) hk (by rw [rk]; exact c0) ha c5'
      rw [f1, z_b_s] at hb
      have e1 : t_one E len T X W (t_at S) k S' = t_turn E len T X W (t_at S) k S' := by
        unfold t_one
        rw [rk, if_neg c0, if_pos c5]
      rw [e1]
      refine ⟨_, hb, rfl, f2, fun j hj => by dsimp only; rw [f3]; exact p3 j hj, ?_⟩
      dsimp only
      generalize t_turn E len T X W (t_at S) k S' = S'' at f4
      obtain ⟨h1, h2, h3, h4, h5, h6⟩ := f4
      obtain ⟨q1, q2, q3, q4, q5, q6⟩ := p4
      have ed : (t_dn len S S'' k = true) ↔ ¬ S''.1 k 5 < nI (len k) := by
        unfold t_dn
        rw [on]
        simp
      have ev : (t_vn len S S'' k = true) ↔ (S'.1 k 9 = 0 ∧ S''.1 k 9 = 1) := by
        unfold t_vn
        rw [on, rk]
        simp
      refine ⟨by rw [h1, q1], by rw [h2, q2], ?_, ?_, ?_, ?_⟩
      · by_cases c : S''.1 k 5 < nI (len k)
        · rw [if_neg (fun q => ed.mp q c), (h4 (fun q => q c)).1, q3]
        · rw [if_pos (ed.mpr c), (h3 c).1]; rfl
      · by_cases c : S''.1 k 5 < nI (len k)
        · rw [if_neg (fun q => ed.mp q c), (h4 (fun q => q c)).2, q4]
        · rw [if_pos (ed.mpr c), (h3 c).2, q1]; rfl
      · unfold t_fw at q5 ⊢
        by_cases cf : fw = -1
        · rw [if_pos cf] at q5 ⊢
          cases e : t_loD (t_vn len S S') k with
          | some q =>
            rw [e] at q5
            have hq := t_loD_lt e
            have : ¬ J 102 50 = -1 := by rw [q5]; exact n_m1 (by omega)
            dsimp only
            rw [(h6 (fun z => this z.2)).1, q5]
          | none =>
            rw [e] at q5
            have q5' : J 102 50 = -1 := by rw [q5]; exact cf
            dsimp only
            by_cases c : S'.1 k 9 = 0 ∧ S''.1 k 9 = 1
            · rw [if_pos (ev.mpr c), (h5 ⟨c, q5'⟩).1]; rfl
            · rw [if_neg (fun z => c (ev.mp z)), (h6 (fun z => c z.1)).1, q5]
        · rw [if_neg cf] at q5 ⊢
          rw [(h6 (fun z => cf (by rw [← q5]; exact z.2))).1, q5]
      · unfold t_fw at q5
        unfold t_ww at q6 ⊢
        by_cases cf : fw = -1
        · rw [if_pos cf] at q5 q6 ⊢
          cases e : t_loD (t_vn len S S') k with
          | some q =>
            rw [e] at q5 q6
            have hq := t_loD_lt e
            have : ¬ J 102 50 = -1 := by rw [q5]; exact n_m1 (by omega)
            dsimp only
            rw [(h6 (fun z => this z.2)).2, q6]
          | none =>
            rw [e] at q5 q6
            have q5' : J 102 50 = -1 := by rw [q5]; exact cf
            dsimp only
            by_cases c : S'.1 k 9 = 0 ∧ S''.1 k 9 = 1
            · rw [if_pos (ev.mpr c), (h5 ⟨c, q5'⟩).2, q1]; rfl
            · rw [if_neg (fun z => c (ev.mp z)), (h6 (fun z => c z.1)).2, q6]
        · rw [if_neg cf] at q5 q6 ⊢
          rw [(h6 (fun z => cf (by rw [← q5]; exact z.2))).2, q6]
    · have on' : t_on len S k = false := by simpa using on
      have e1 : t_one E len T X W (t_at S) k S' = S' := by
        unfold t_one
        rw [rk]
        by_cases c0 : S.1 k 0 = 0
        · rw [if_pos c0]
        · rw [if_neg c0]
          by_cases c5 : S.1 k 5 < nI (len k)
          · exact absurd (show t_on len S k = true by unfold t_on; simp [c0, c5]) on
          · rw [if_neg c5]
      rw [e1]
      have ed : t_dn len S S' k = false := by unfold t_dn; rw [on']; rfl
      have ev : t_vn len S S' k = false := by unfold t_vn; rw [on']; rfl
      rw [ed, ev, if_neg (by decide), if_neg (by decide)]
      have em : (match t_loD (t_vn len S S') k with
        | some q => some q
        | none => none) = t_loD (t_vn len S S') k := by
        cases t_loD (t_vn len S S') k <;> rfl
      rw [em]
      have hb2 : fX13_tickGoes_b41 102 (z_Rm mu) (nI k, J) = some (.inl (nI (k + 1), J)) := by
        rw [hb]
        by_cases c0 : S.1 k 0 = 0
        · rw [if_neg (show ¬ S.1 k 0 = 1 by rw [c0]; decide), if_pos rfl]
        · rw [if_pos (t01.resolve_left c0), if_neg (by decide)]
          by_cases c5 : S.1 k 5 < nI (len k)
          · exact absurd (show t_on len S k = true by unfold t_on; simp [c0, c5]) on
          · rw [if_neg c5, if_neg (by decide)]
      exact ⟨_, hb2, rfl, p2, p3, p4⟩
  · obtain ⟨p, J⟩ := s
    obtain ⟨p1, p2, p3, p4⟩ := hp
    dsimp only at p1 p2 p3 p4
    subst p1
    refine ⟨J, ?_, p2, p4⟩
    unfold fX13_tickGoes_b41
    dsimp only
    rw [if_pos n_88]
  · show m_G I tg sp ld dw (t_fw none fw) (t_ww none fw ww tg)
    have e1 : t_fw none fw = fw := by unfold t_fw t_nm; split <;> rfl
    have e2 : t_ww none fw ww tg = ww := by unfold t_ww t_tm; split <;> rfl
    rw [e1, e2]
    exact hG
/-- the model's TICK -/
theorem m_tick (hB : m_B (mu 9) E B) (hR : RelL E mu len) (hL : t_Law E (mu 9) X W) (hT : E 102 4 = nI T) (hT1 : 60 ≤ T) (hT2 : T ≤ 600) (hok : t_ok E len S) (hn : S.2 0 = nI n) (hn2 : n < 99999) (h : m_In B I S) (hG : m_G I tg sp ld dw fw ww) : ∃ I', fX13_tickGoes 102 I (z_Rm mu) = some I' ∧ m_In B I' (t_tick E len T X W S) ∧ m_G I' (tg + 1) (z_max sp (t_ap len (t_tick E len T X W S))) (t_nm (t_hiD (t_dn len S (t_tick E len T X W S)) 8) ld) (t_tm (t_hiD (t_dn len S (t_tick E len T X W S)) 8) dw (tg + 1)) (t_fw (t_loD (t_vn len S (t_tick E len T X W S)) 8) fw) (t_ww (t_loD (t_vn len S (t_tick E len T X W S)) 8) fw ww (tg + 1)) := by
  have h60 : ∀ j, j < 8 → len j ≤ 60 := fun j hj => (hR.2.2.2.2.2.2.1 j hj).1
  have hat := fun j (hj : j < 8) => t_at_ok hok h60 hj
  have g1 : m_In B (z_u I 102 46 (tg + 1)) S := m_In_g h (by decide) (by decide)
  obtain ⟨I1, e1, e2, e3, e4⟩ := lp_inv (body := fX13_tickGoes_b12 102 (z_Rm mu)) (fun k s => s.1 = nI k ∧ m_In B s.2 S ∧ (∀ j, j < k → s.2 131 j = nI (t_at S j)) ∧ s.2 102 = z_u I 102 46 (tg + 1) 102) (fun x => m_In B x S ∧ (∀ j, j < 8 → x 131 j = nI (t_at S j)) ∧ x 102 = z_u I 102 46 (tg + 1) 102) (n := 8) (fun k s hk hp => by
    obtain ⟨p, J⟩ := s
    obtain ⟨p1, p2, p3, p4⟩ := hp
    dsimp only at p1 p2 p3 p4
    subst p1
    refine ⟨(nI (k + 1), z_u J 131 k (nI (t_at S k))), ?_, rfl, m_In_d p2 (Or.inr (Or.inr rfl)), fun j hj => ?_, ?_⟩
    · unfold fX13_tickGoes_b12
      dsimp only
      rw [if_neg (n_8 hk), show z_Rm mu 102 0 = 103 from rfl, show z_Rm mu 102 42 = 131 from rfl, n_l40, z_g_t (k_103 (show 40 + k < 82 by omega)), z_g_t (n_ok (n := 8) (show z_len 1 131 = 8 from rfl) hk (by decide)), nI_clamp (show k < 2 ^ 31 by omega), nI_clamp (show 40 + k < 2 ^ 31 by omega), z_l_s, z_l_s, n_s1, m_rd p2 hk (f := 5) (by decide) (show 40 + k = 8 * 5 + k by omega), (hat k hk).1]
    · dsimp only
      by_cases c : j = k
      · subst c; rw [z_u_at]
      · rw [z_u_k c]; exact p3 j (by omega)
    · dsimp only
      rw [u_o (by decide), p4]) (fun s hp => by
    obtain ⟨p, J⟩ := s
    obtain ⟨p1, p2, p3, p4⟩ := hp
    dsimp only at p1 p2 p3 p4
    subst p1
    refine ⟨J, ?_, p2, p3, p4⟩
    unfold fX13_tickGoes_b12
    dsimp only
    rw [if_pos n_88]) 300 ((0 : Int32), z_u I 102 46 (tg + 1)) (by decide) ⟨rfl, g1, fun j hj => absurd hj (Nat.not_lt_zero j), rfl⟩
  have hG1 : m_G I1 (tg + 1) sp ld dw fw ww := by
    obtain ⟨q1, q2, q3, q4, q5, q6⟩ := hG
    unfold m_G
    rw [e4, z_u_at, z_u_k (by decide), z_u_k (by decide), z_u_k (by decide), z_u_k (by decide), z_u_k (by decide)]
    exact ⟨rfl, q2, q3, q4, q5, q6⟩
  obtain ⟨I2, f1, f2, f3⟩ := m_run hB hR hL hT hT1 hT2 hok e2 e3 hG1
  obtain ⟨r1, r2, r3⟩ := t_run_ok (X := X) hL.2.1 h60 hT1 hT2 hok 8 (Nat.le_refl 8)
  have ap := m_ap hB hR f2 r1
  unfold t_tick
  generalize t_run E len T X W (t_at S) S 8 = S8 at *
  obtain ⟨q1, q2, q3, q4, q5, q6⟩ := f3
  have g2 : m_In B (z_u I2 102 47 (z_max sp (t_ap len S8))) S8 := m_In_g f2 (by decide) (by decide)
  refine ⟨z_u (z_u I2 102 47 (z_max sp (t_ap len S8))) 103 80 (S.2 0 + 1), ?_, m_In_x (k := 0) g2 (Or.inl rfl), ?_⟩
  · unfold fX13_tickGoes
    rw [z_g_t m_ob, hG.1, z_l_s, e1, z_b_s, f1, z_b_s, ap, z_b_s, q2, fX13_max_eq, z_b_s, z_l_s, show z_Rm mu 102 0 = 103 from rfl, z_g_t (show z_ok 1 103 80 from k_103 (k := 80) (by decide)), z_l_s, show (80 : Int32).toNatClampNeg = 80 from rfl, g2.2.2.1, r3]
  · unfold m_G
    rw [u_o (by decide), z_u_k (by decide), z_u_at, z_u_k (by decide), z_u_k (by decide), z_u_k (by decide), z_u_k (by decide)]
    exact ⟨q1, rfl, q3, q4, q5, q6⟩
end MK
