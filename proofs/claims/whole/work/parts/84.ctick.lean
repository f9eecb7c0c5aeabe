/-! the class's TICK -/
theorem lp_inv {S X : Type} {body : S → Option (S ⊕ X)} (P : Nat → S → Prop) (Q : X → Prop) {n : Nat} (h1 : ∀ k s, k < n → P k s → ∃ s', body s = some (.inl s') ∧ P (k + 1) s') (h2 : ∀ s, P n s → ∃ x, body s = some (.inr x) ∧ Q x) : ∀ (N : Nat) (s : S), n < N → P 0 s → ∃ x, z_lp body N s = some x ∧ Q x := by
  have key : ∀ (d k N : Nat) (s : S), k + d = n → d < N → P k s → ∃ x, z_lp body N s = some x ∧ Q x := by
    intro d
    induction d with
    | zero =>
      intro k N s e hN hP
      obtain ⟨M, rfl⟩ : ∃ M, N = M + 1 := ⟨N - 1, by omega⟩
      have : k = n := by omega
      subst this
      obtain ⟨x, e1, e2⟩ := h2 s hP
      refine ⟨x, ?_, e2⟩
      unfold z_lp
      rw [e1]
    | succ d ih =>
      intro k N s e hN hP
      obtain ⟨M, rfl⟩ : ∃ M, N = M + 1 := ⟨N - 1, by omega⟩
      obtain ⟨s', e1, e2⟩ := h1 k s (by omega) hP
      obtain ⟨x, f1, f2⟩ := ih (k + 1) M s' (by omega) (by omega) e2
      refine ⟨x, ?_, f2⟩
      unfold z_lp
      rw [e1]
      exact f1
  intro N s hN h0
  exact key n 0 N s (by omega) hN h0
def t_run (E : z_He) (len : Nat → Nat) (T : Nat) (X : (Nat → Int32) → Int32) (W : Nat → (Nat → Int32) → Int32) (at0 : Nat → Nat) (S : t_S) : Nat → t_S
  | 0 => S
  | k + 1 => t_one E len T X W at0 k (t_run E len T X W at0 S k)
def t_at (S : t_S) (j : Nat) : Nat := (S.1 j 5).toNatClampNeg
def t_tick (E : z_He) (len : Nat → Nat) (T : Nat) (X : (Nat → Int32) → Int32) (W : Nat → (Nat → Int32) → Int32) (S : t_S) : t_S := t_s (t_run E len T X W (t_at S) S 8) 0 (S.2 0 + 1)
section TO
variable {E : z_He} {len at0 : Nat → Nat} {T i : Nat} {S : t_S} {X : (Nat → Int32) → Int32} {W : Nat → (Nat → Int32) → Int32}
theorem t_draw_x : ∀ n, n < 65536 → ∃ m, m < 65536 ∧ z_rem (25173 * nI n + 13849) 65536 = nI m := by
  intro n hn
  refine ⟨(25173 * n + 13849) % 65536, by omega, ?_⟩
  have := n_rem (a := 25173 * n + 13849) (d := 65536) (by omega) (by decide) (by decide)
  rw [← this]
  rw [show (25173 : Int32) = nI 25173 from rfl, show (13849 : Int32) = nI 13849 from rfl, n_mul, n_add]
  rfl
theorem t_turn_ok (hW : ∀ kd fa, ∃ w, w ≤ 60 ∧ W kd fa = nI w) (h60 : len i ≤ 60) (hT1 : 60 ≤ T) (hT2 : T ≤ 600) (hi : i < 8) (hok : t_ok E len S) (ht : ¬ S.1 i 0 = 0) (ha : S.1 i 5 = nI (at0 i)) (hal : at0 i < len i) : t_ok E len (t_turn E len T X W at0 i S) ∧ (∀ j, j ≠ i → (t_turn E len T X W at0 i S).1 j = S.1 j) ∧ (t_turn E len T X W at0 i S).2 0 = S.2 0 := by
  obtain ⟨o1, o2, o3, n, hn, o4⟩ := hok
  have hok : t_ok E len S := ⟨o1, o2, o3, n, hn, o4⟩
  obtain ⟨v1, v2, v3, v4, v5, v6, ⟨ph, hph, v7⟩, v8, v9, v10⟩ := o1 i hi
  have told : S.1 i 0 = 1 := v1.resolve_left ht
  have hdr : t_ok E len (t_draw S) := by
    obtain ⟨m, hm, em⟩ := t_draw_x n hn
    refine ⟨o1, o2, ?_, m, hm, ?_⟩
    · unfold t_draw; rw [t_s_eq, if_neg (by decide)]; exact o3
    · unfold t_draw; rw [t_s_eq, if_pos rfl, o4, em]
  unfold t_turn
  generalize t_let E at0 i (S.1 i 7) (S.2 0) = fa
  by_cases c9 : S.1 i 9 = 0
  · rw [if_pos c9]
    by_cases cX : X fa = 0
    · rw [if_pos cX]
      by_cases cW : W 3 fa ≤ z_rem ((t_draw S).2 1) 10
      · rw [if_pos cW]
        obtain ⟨w0, b0, q0⟩ := hW 0 fa
        obtain ⟨w1, b1, q1⟩ := hW 1 fa
        obtain ⟨inc, hinc, einc⟩ := n_inc (d := S.1 i 1) (w0 := w0) (w1 := w1) v2.1 v2.2 b0 b1
        rw [← q0, ← q1] at einc
        have act : t_act len i (t_go (t_draw S) i (60 + S.1 i 1 + W 0 fa - W 1 fa)) (at0 i) (ph + inc) := by
          unfold t_go
          refine ⟨?_, by omega, ?_, ?_, ?_, Or.inl ⟨hal, ?_⟩⟩
          · rw [t_w_f (by decide)]; exact ha
          · rw [t_w_at, einc]
            show S.1 i 6 + nI inc = _
            rw [v7, n_add]
          · rw [t_w_f (by decide)]; exact v5
          · rw [t_w_f (by decide)]; exact v8
          · rw [t_w_f (by decide)]; exact c9
        obtain ⟨g1, a', p', g2, g3, g4⟩ := t_sing_ok (E := E) (fa := fa) hW h60 hT1 hT2 13 _ _ _ act (by omega) (by omega)
        have fr : q_fr i (t_draw S) (t_sing E len T W fa i 13 (t_go (t_draw S) i (60 + S.1 i 1 + W 0 fa - W 1 fa))) := q_fr_t (q_fr_w (by decide)) g1
        generalize t_sing E len T W fa i 13 (t_go (t_draw S) i (60 + S.1 i 1 + W 0 fa - W 1 fa)) = S' at g4 fr ⊢
        obtain ⟨k5, k6, k7, k8, k9, k10⟩ := g4
        refine ⟨⟨fun j hj => ?_, fun j f hj hf => ?_, ?_, ?_⟩, fr.2.1, ?_⟩
        · by_cases c : j = i
          · subst c
            unfold v_ok
            rw [fr.1 0 (by decide), fr.1 1 (by decide), fr.1 2 (by decide), fr.1 3 (by decide), fr.1 4 (by decide)]
            refine ⟨v1, v2, v3, v4, v5, ⟨a', k6, k5⟩, ⟨p', by omega, k7⟩, k9, ?_, fun h0 => absurd h0 ht⟩
            rcases k10 with q | ⟨-, q | q⟩
            · exact Or.inl q.2
            · exact Or.inl q
            · exact Or.inr q.1
          · rw [fr.2.1 j c]
            exact o1 j hj
        · by_cases c : j = i
          · subst c
            rw [fr.1 f hf]
            exact o2 j f hj hf
          · rw [fr.2.1 j c]
            exact o2 j f hj hf
        · rw [fr.2.2.1]; exact hdr.2.2.1
        · rw [fr.2.2.2.1]; exact hdr.2.2.2
        · rw [fr.2.2.1]
          unfold t_draw
          rw [t_s_eq, if_neg (by decide)]
      · rw [if_neg cW]
        refine ⟨⟨o1, o2, ?_, ?_⟩, fun _ _ => rfl, ?_⟩
        · rw [t_s_eq, if_neg (by decide)]; exact hdr.2.2.1
        · rw [t_s_eq, if_neg (by decide)]; exact hdr.2.2.2
        · rw [t_s_eq, if_neg (by decide)]
          unfold t_draw
          rw [t_s_eq, if_neg (by decide)]
    · rw [if_neg cX]
      exact ⟨hok, fun _ _ => rfl, rfl⟩
  · rw [if_neg c9]
    refine ⟨⟨fun j hj => ?_, fun j f hj hf => ?_, o3, ⟨n, hn, o4⟩⟩, fun j hj => t_w_j hj, rfl⟩
    · by_cases c : j = i
      · subst c
        unfold v_ok
        rw [t_w_f (by decide), t_w_f (by decide), t_w_f (by decide), t_w_f (by decide), t_w_f (by decide), t_w_f (by decide), t_w_f (by decide), t_w_f (by decide), t_w_at]
        refine ⟨v1, v2, v3, v4, v5, v6, ⟨ph, hph, v7⟩, v8, ?_, fun h0 => absurd h0 ht⟩
        split
        · exact Or.inl rfl
        · exact Or.inr rfl
      · rw [t_w_j c]
        exact o1 j hj
    · by_cases c : j = i
      · subst c
        rw [t_w_f (by omega)]
        exact o2 j f hj hf
      · rw [t_w_j c]
        exact o2 j f hj hf
theorem t_one_ok (hW : ∀ kd fa, ∃ w, w ≤ 60 ∧ W kd fa = nI w) (h60 : len i ≤ 60) (hT1 : 60 ≤ T) (hT2 : T ≤ 600) (hi : i < 8) (hok : t_ok E len S) (ha : S.1 i 5 = nI (at0 i)) (ha60 : at0 i ≤ len i) : t_ok E len (t_one E len T X W at0 i S) ∧ (∀ j, j ≠ i → (t_one E len T X W at0 i S).1 j = S.1 j) ∧ (t_one E len T X W at0 i S).2 0 = S.2 0 := by
  unfold t_one
  by_cases c0 : S.1 i 0 = 0
  · rw [if_pos c0]; exact ⟨hok, fun _ _ => rfl, rfl⟩
  · rw [if_neg c0]
    by_cases c5 : S.1 i 5 < nI (len i)
    · rw [if_pos c5]
      rw [ha, n_lt (by omega) (by omega)] at c5
      exact t_turn_ok hW h60 hT1 hT2 hi hok c0 ha c5
    · rw [if_neg c5]; exact ⟨hok, fun _ _ => rfl, rfl⟩
theorem t_at_ok (hok : t_ok E len S) (h60 : ∀ j, j < 8 → len j ≤ 60) {j : Nat} (hj : j < 8) : S.1 j 5 = nI (t_at S j) ∧ t_at S j ≤ len j := by
  obtain ⟨-, -, -, -, -, ⟨k, hk, e⟩, -⟩ := hok.1 j hj
  have := h60 j hj
  unfold t_at
  rw [e, nI_clamp (by omega)]
  exact ⟨rfl, hk⟩
theorem t_run_ok (hW : ∀ kd fa, ∃ w, w ≤ 60 ∧ W kd fa = nI w) (h60 : ∀ j, j < 8 → len j ≤ 60) (hT1 : 60 ≤ T) (hT2 : T ≤ 600) (hok : t_ok E len S) : ∀ k, k ≤ 8 → t_ok E len (t_run E len T X W (t_at S) S k) ∧ (∀ j, k ≤ j → (t_run E len T X W (t_at S) S k).1 j = S.1 j) ∧ (t_run E len T X W (t_at S) S k).2 0 = S.2 0
  | 0, _ => ⟨hok, fun _ _ => rfl, rfl⟩
  | k + 1, hk => by
    obtain ⟨h1, h2, h3⟩ := t_run_ok hW h60 hT1 hT2 hok k (by omega)
    obtain ⟨a1, a2⟩ := t_at_ok hok h60 (j := k) (by omega)
    have hb : k < 8 := by omega
    obtain ⟨g1, g2, g3⟩ := t_one_ok (X := X) (i := k) (at0 := t_at S) hW (h60 k hb) hT1 hT2 hb h1 (by rw [h2 k (Nat.le_refl k)]; exact a1) a2
    exact ⟨g1, fun j hj => by
      show (t_one E len T X W (t_at S) k (t_run E len T X W (t_at S) S k)).1 j = S.1 j
      rw [g2 j (by omega), h2 j (by omega)], g3.trans h3⟩
end TO
theorem t_ok_0 {E : z_He} {len : Nat → Nat} {S : t_S} {n : Nat} (h : t_ok E len S) (hn : n ≤ 99999) : t_ok E len (t_s S 0 (nI n)) := by
  obtain ⟨h1, h2, h3, h4⟩ := h
  refine ⟨h1, h2, ⟨n, hn, by rw [t_s_eq, if_pos rfl]⟩, ?_⟩
  rw [t_s_eq, if_neg (by decide)]
  exact h4
theorem t_tick_ok {E : z_He} {len : Nat → Nat} {T : Nat} {S : t_S} {X : (Nat → Int32) → Int32} {W : Nat → (Nat → Int32) → Int32} (hW : ∀ kd fa, ∃ w, w ≤ 60 ∧ W kd fa = nI w) (h60 : ∀ j, j < 8 → len j ≤ 60) (hT1 : 60 ≤ T) (hT2 : T ≤ 600) (hok : t_ok E len S) {n : Nat} (hn : n < 99999) (hS : S.2 0 = nI n) : t_ok E len (t_tick E len T X W S) ∧ (t_tick E len T X W S).2 0 = nI (n + 1) := by
  obtain ⟨h1, h2, h3⟩ := t_run_ok (X := X) hW h60 hT1 hT2 hok 8 (Nat.le_refl 8)
  unfold t_tick
  rw [hS, n_s1]
  generalize t_run E len T X W (t_at S) S 8 = S8 at h1
  exact ⟨t_ok_0 h1 (by omega), by rw [t_s_eq, if_pos rfl]⟩
/-- the class's TICK -/
theorem c_tick {E I : z_He} {mu len : Nat → Nat} {st T n : Nat} {S : t_S} {X : (Nat → Int32) → Int32} {W : Nat → (Nat → Int32) → Int32} (hs : c_St st) (hR : RelL E mu len) (hL : t_Law E (mu 9) X W) (hT : E 3 5 = nI T) (hT1 : 60 ≤ T) (hT2 : T ≤ 600) (h : c_In (mu 9) st E I S) (hok : t_ok E len S) (hn : S.2 0 = nI n) (hn2 : n < 99999) : ∃ I', fX2_step 59 st I (z_Rm mu) = some (1, I') ∧ c_In (mu 9) st E I' (t_tick E len T X W S) := by
  have hst : st = 62 ∨ st = 72 ∨ st = 82 := hs
  have hP := hR.2.2.2.2.2.1
  have hA := (p_law hP).1
  have h60 : ∀ j, j < 8 → len j ≤ 60 := fun j hj => (hR.2.2.2.2.2.2.1 j hj).1
  obtain ⟨h1, h2, h3, h4⟩ := c_st hs mu
  have hat := fun j (hj : j < 8) => t_at_ok hok h60 hj
  obtain ⟨I1, e1, e2, e3⟩ := lp_inv (body := fX2_step_b13 59 st (z_Rm mu)) (fun k s => s.1 = nI k ∧ c_In (mu 9) st E s.2 S ∧ ∀ j, j < k → s.2 60 j = nI (t_at S j)) (fun x => c_In (mu 9) st E x S ∧ ∀ j, j < 8 → x 60 j = nI (t_at S j)) (n := 8) (fun k s hk hp => by
    obtain ⟨p, J⟩ := s
    obtain ⟨p1, p2, p3⟩ := hp
    dsimp only at p1 p2 p3
    subst p1
    refine ⟨(nI (k + 1), z_u J 60 k (nI (t_at S k))), ?_, rfl, c_In_d hs hA p2 (Or.inl rfl), fun j hj => ?_⟩
    · unfold fX2_step_b13
      dsimp only
      rw [if_neg (n_8 hk), h2, show z_Rm mu 59 1 = 60 from rfl, z_g_t (n_ok h3 hk (by decide))]
      simp only [nI_clamp (show k < 2 ^ 31 by omega), (h4 k hk).1, z_g_t (h4 k hk).2, z_g_t (n_ok (n := 8) (show z_len 1 60 = 8 from rfl) hk (by decide)), z_l_s, n_s1]
      rw [p2.2.1 k 5 hk (by decide), (hat k hk).1]
    · dsimp only
      by_cases c : j = k
      · subst c; rw [z_u_at]
      · rw [z_u_k c]; exact p3 j (by omega)) (fun s hp => by
    obtain ⟨p, J⟩ := s
    obtain ⟨p1, p2, p3⟩ := hp
    dsimp only at p1 p2 p3
    subst p1
    refine ⟨J, ?_, p2, p3⟩
    unfold fX2_step_b13
    dsimp only
    rw [if_pos n_88]) 300 ((0 : Int32), I) (by decide) ⟨rfl, h, fun j hj => absurd hj (Nat.not_lt_zero j)⟩
  obtain ⟨I2, f1, f2⟩ := lp_inv (body := fX2_step_b42 59 st (z_Rm mu)) (fun k s => s.1 = nI k ∧ c_In (mu 9) st E s.2 (t_run E len T X W (t_at S) S k) ∧ ∀ j, j < 8 → s.2 60 j = nI (t_at S j)) (fun x => c_In (mu 9) st E x (t_run E len T X W (t_at S) S 8)) (n := 8) (fun k s hk hp => by
    obtain ⟨p, J⟩ := s
    obtain ⟨p1, p2, p3⟩ := hp
    dsimp only at p1 p2 p3
    subst p1
    obtain ⟨r1, r2, r3⟩ := t_run_ok (X := X) hL.2.1 h60 hT1 hT2 hok k (by omega)
    have hr := o_roll hP (show k < 9 by omega)
    have hl : J (mu k) 3 = nI (len k) := (c_roll hs hR hk p2).2.1
    have ha : (t_run E len T X W (t_at S) S k).1 k 5 = nI (t_at S k) := by rw [r2 k (Nat.le_refl k)]; exact (hat k hk).1
    have hsk : t_run E len T X W (t_at S) S (k + 1) = t_one E len T X W (t_at S) k (t_run E len T X W (t_at S) S k) := rfl
    rw [hsk]
    unfold t_one
    generalize hS' : t_run E len T X W (t_at S) S k = S' at *
    have lk := h60 k hk
    have hb : fX2_step_b42 59 st (z_Rm mu) (nI k, J) = _ := rfl
    conv at hb =>
      rhs
      unfold fX2_step_b42
    dsimp only at hb
    rw [if_neg (n_8 hk), h2, show z_Rm mu 59 0 = 3 from rfl, show z_Rm mu 3 0 = 4 from rfl, z_g_t (n_ok h3 hk (by decide)), c_isDone hs hP hk, z_b_s] at hb
    simp only [nI_clamp (show k < 2 ^ 31 by omega), (h4 k hk).1, r_4 hk, z_g_t (h4 k hk).2, z_g_t o_3, z_g_t (k_4 hk), z_l_s, n_s1] at hb
    rw [p2.2.1 k 0 hk (by decide), p2.2.1 k 5 hk (by decide), hl] at hb
    by_cases c0 : S'.1 k 0 = 0
    · rw [if_pos c0] at hb
      rw [if_pos c0]
      exact ⟨_, hb, rfl, p2, p3⟩
    · rw [if_neg c0] at hb
      rw [if_neg c0]
      by_cases c5 : S'.1 k 5 < nI (len k)
      · rw [if_pos c5, if_pos rfl] at hb
        rw [if_pos c5]
        have c5' : t_at S k < len k := by
          rw [ha, n_lt (by have := (hat k hk).2; omega) (by omega)] at c5
          exact c5
        obtain ⟨q, K, g1, g2, g3⟩ := c_turn hs hR hL hT hT1 hT2 p2 r1 (fun j hj => ⟨p3 j hj, (hat j hj).2⟩) hk ha c5'
        rw [g1, z_b_s] at hb
        dsimp only at hb
        rcases g3 with ⟨rfl, g4⟩ | ⟨rfl, K2, g4, g5, g6⟩
        · rw [if_pos rfl] at hb
          exact ⟨_, hb, rfl, g4, fun j hj => by dsimp only; rw [g2]; exact p3 j hj⟩
        · rw [if_neg (by decide), g4, z_b_s] at hb
          exact ⟨_, hb, rfl, g6, fun j hj => by dsimp only; rw [g5]; exact p3 j hj⟩
      · rw [if_neg c5, if_neg (by decide)] at hb
        rw [if_neg c5]
        exact ⟨_, hb, rfl, p2, p3⟩) (fun s hp => by
    obtain ⟨p, J⟩ := s
    obtain ⟨p1, p2, p3⟩ := hp
    dsimp only at p1 p2 p3
    subst p1
    refine ⟨J, ?_, p2⟩
    unfold fX2_step_b42
    dsimp only
    rw [if_pos n_88]) 300 ((0 : Int32), I1) (by decide) ⟨rfl, e2, e3⟩
  have r8 := (t_run_ok (X := X) hL.2.1 h60 hT1 hT2 hok 8 (Nat.le_refl 8)).2.2
  refine ⟨z_u I2 st 1 (S.2 0 + 1), ?_, c_In_x hs hA (k := 0) f2 (Or.inl rfl)⟩
  unfold fX2_step
  rw [z_g_t (show z_ob 59 2 from rfl), z_g_t h1, h.2.2.1, hn, if_pos (show nI n < (99999 : Int32) from nI_lt (b := 99999) hn2 (by decide)), e1, z_b_s, f1, z_b_s, z_l_s, f2.2.2.1, r8, hn]
theorem c_tick_no {E I : z_He} {mu : Nat → Nat} {A st n : Nat} {S : t_S} (hs : c_St st) (h : c_In A st E I S) (hn : S.2 0 = nI n) (hn2 : 99999 ≤ n) (hn3 : n < 2 ^ 31) : fX2_step 59 st I (z_Rm mu) = some (0, I) := by
  obtain ⟨h1, h2, h3, h4⟩ := c_st hs mu
  unfold fX2_step
  rw [z_g_t (show z_ob 59 2 from rfl), z_g_t h1, h.2.2.1, hn, if_neg (show ¬ nI n < (99999 : Int32) from nI_nlt (b := 99999) hn2 hn3)]
