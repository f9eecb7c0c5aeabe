/-! breaths: the places, the call -/
section XE
variable {I H : z_He} {mu : Nat → Nat} {i r n K : Nat} {s : x_T}
theorem x_least (inv : x_inv I i n s) (n60 : n ≤ 60) (h0 : x_A I i K s 0 < 1000) (hS : 0 < s.1) {q : Nat} (hq : q ≤ x_A I i K s 0) : ∃ t, t < s.1 ∧ x_A I i K s t = x_A I i K s 0 - q ∧ (∀ j, j < t → x_A I i K s 0 - q < x_A I i K s j) ∧ (0 < q → 0 < t ∧ x_A I i K s (t - 1) = x_A I i K s t + 1) := by
  have st := x_step inv n60 h0
  have al : x_A I i K s (s.1 - 1) = 0 := by
    have m := (x_A_min (I := I) (i := i) (K := K) (show s.1 - 1 < s.1 by omega))
    have b1 := (st (s.1 - 1) (by omega)).1
    rcases m.2.2 with z | ⟨c, c1, c2, c3, c4⟩
    · omega
    · rw [if_pos (by omega)] at c4
      exact c4
  obtain ⟨t, t1, t2⟩ := pk_least (fun t => x_A I i K s t ≤ x_A I i K s 0 - q) ⟨s.1 - 1, by rw [al]; exact Nat.zero_le _⟩
  have ts : t ≤ s.1 - 1 := by
    apply Nat.le_of_not_lt
    intro l
    exact t2 (s.1 - 1) l (by rw [al]; exact Nat.zero_le _)
  have lo : ∀ j, j < t → x_A I i K s 0 - q < x_A I i K s j := fun j hj => Nat.lt_of_not_le (t2 j hj)
  by_cases tz : t = 0
  · subst tz
    refine ⟨0, hS, by omega, lo, fun q0 => ?_⟩
    exfalso
    omega
  · have d := (st t (by omega)).2 (by omega)
    have l1 := lo (t - 1) (by omega)
    exact ⟨t, by omega, by omega, lo, fun _ => ⟨by omega, by omega⟩⟩
theorem m_find (h : r_Roll I i r n) (hi : i < 8) (hK : K ≤ 20) (hH : x_H I H) (inv : x_inv I i n s) (h0 : x_A I i K s 0 < 1000) (hS : 0 < s.1) (hf : ∀ q, q ≤ n → H 134 q = nI (x_f I i n K q)) {q t u : Nat} {z3 z5 : Int32} (hq : q < x_A I i K s 0) (ht : t < s.1) (et : x_A I i K s t = x_A I i K s 0 - q) (hu : u < s.1) (eu : x_A I i K s u = x_A I i K s 0 - (q + 1)) (lu : ∀ j, j < u → x_A I i K s 0 - (q + 1) < x_A I i K s j) : z_lp (fX13_breaths_b103 102 (nI i) (nI K) z3 (nI (x_P s.2.2 t)) z5 H (z_Rm mu)) 300 (nI (x_P s.2.2 t + 1)) = some (nI (x_P s.2.2 u)) := by
  have n60 := h.1
  have st := x_step inv n60 h0
  have sn := inv.1
  have fA : ∀ a, a ≤ s.1 → x_f I i n K (x_P s.2.2 a) = x_A I i K s a := fun a ha => by
    have b := (st a ha).1
    rcases x_same (K := K) inv n60 (s.1 - a) a (by omega) with ⟨e, -⟩ | ⟨e, -⟩
    · exact e.symm
    · omega
  have tu : t < u := by
    apply Nat.lt_of_not_le
    intro l
    have mono : ∀ d a, a + d ≤ s.1 → x_A I i K s (a + d) ≤ x_A I i K s a := by
      intro d
      induction d with
      | zero => intro a _; exact Nat.le_refl _
      | succ d ih =>
        intro a h1
        have i1 := ih a (by omega)
        have i2 := ((st (a + d + 1) (by omega)).2 (by omega)).1
        rw [show a + d + 1 - 1 = a + d by omega] at i2
        rw [show a + (d + 1) = a + d + 1 by omega]
        omega
    have := mono (t - u) u (by omega)
    rw [show u + (t - u) = t by omega] at this
    omega
  have ptu := x_P_lt inv tu (show u ≤ s.1 by omega)
  have pun := x_P_n inv (show u ≤ s.1 by omega)
  have sung : x_c I i (x_P s.2.2 u) - x_c I i (x_P s.2.2 t) ≤ K := by
    rcases (x_A_min (I := I) (i := i) (K := K) ht).2.2 with z | ⟨b, b1, b2, b3, b4⟩
    · have := (st t (by omega)).1
      omega
    · by_cases bS : b = s.1
      · rw [if_pos bS] at b4
        omega
      · rw [if_neg bS] at b4
        have ub : u ≤ b := by
          apply Nat.le_of_not_lt
          intro l
          have := lu b l
          omega
        have cm := x_c_mono (I := I) (i := i) (x_P_le inv ub b2)
        unfold x_okc at b3
        simp at b3
        omega
  have body : ∀ to, x_P s.2.2 t < to → to ≤ n → fX13_breaths_b103 102 (nI i) (nI K) z3 (nI (x_P s.2.2 t)) z5 H (z_Rm mu) (nI to) = if x_okm I i n K (x_P s.2.2 t) to = true ∧ x_f I i n K to + 1 = x_f I i n K (x_P s.2.2 t) then some (.inr (nI to)) else some (.inl (nI (to + 1))) := by
    intro to h1 h2
    have s1 : nI to - (1 : Int32) = nI (to - 1) := n_sub (b := 1) (by omega)
    have en := m_ends (mu := mu) h hi hH (show to - 1 < n by omega)
    have su := m_sung (mu := mu) h hi hH (show x_P s.2.2 t ≤ to by omega) h2
    have cc := x_c_le (I := I) (i := i) to
    have eo : x_okm I i n K (x_P s.2.2 t) to = (((b_v I i (to - 1) != 0) && (decide (to - 1 + 1 = n) || (b_g I i (to - 1 + 1) == 1))) && decide (x_c I i to - x_c I i (x_P s.2.2 t) ≤ K)) := by
      unfold x_okm
      rw [show to - 1 + 1 = to by omega]
    have f1 := (x_f_min (I := I) (i := i) (K := K) h2).1
    have f2 : x_im I i n K to ≤ 1000000 := by
      unfold x_im
      split
      · exact Nat.le_refl _
      · exact Nat.zero_le _
    have f3 := fA t (by omega)
    unfold fX13_breaths_b103 fX13_breaths_j147_103
    dsimp only
    rw [s1, en, z_b_s, su, z_b_s, show z_Rm mu 102 56 = 134 from rfl, z_g_t (n_ok (n := 61) (show z_len 1 134 = 61 from rfl) (show to < 61 by omega) (by decide)), z_g_t (n_ok (n := 61) (show z_len 1 134 = 61 from rfl) (show x_P s.2.2 t < 61 by omega) (by decide)), nI_clamp (show to < 2 ^ 31 by omega), nI_clamp (show x_P s.2.2 t < 2 ^ 31 by omega), hf to h2, hf _ (show x_P s.2.2 t ≤ n by omega), z_l_s, n_s1, n_s1, eo]
    by_cases ce : ((b_v I i (to - 1) != 0) && (decide (to - 1 + 1 = n) || (b_g I i (to - 1 + 1) == 1))) = true
    · rw [if_pos ce, if_neg (by decide), ce, Bool.true_and]
      by_cases cs : x_c I i to - x_c I i (x_P s.2.2 t) ≤ K
      · rw [if_neg (nI_nlt cs (by omega))]
        by_cases cf : x_f I i n K to + 1 = x_f I i n K (x_P s.2.2 t)
        · rw [if_pos (by rw [cf]), if_pos ⟨by simpa using cs, cf⟩]
        · rw [if_neg (n_ne (by omega) (by rw [f3]; have := (st t (by omega)).1; omega) cf), if_neg (fun z => cf z.2)]
      · rw [if_pos (nI_lt (by omega) (by omega)), if_neg (fun z => cs (by simpa using z.1))]
    · have ce' : ((b_v I i (to - 1) != 0) && (decide (to - 1 + 1 = n) || (b_g I i (to - 1 + 1) == 1))) = false := by simpa using ce
      rw [if_neg ce, if_pos rfl, ce', if_neg (fun z => by simp at z)]
  have lp := z_lp_tr (body := fX13_breaths_b103 102 (nI i) (nI K) z3 (nI (x_P s.2.2 t)) z5 H (z_Rm mu)) (fun j => nI (x_P s.2.2 t + 1 + j)) (n := x_P s.2.2 u - x_P s.2.2 t - 1) (x := nI (x_P s.2.2 u)) (fun j hj => ?_) ?_ 300 (by omega)
  · exact lp
  · rw [body _ (by omega) (by omega), if_neg]
    · rfl
    · rintro ⟨z1, z2⟩
      obtain ⟨v, hv, ev⟩ := x_okm_E inv (show x_P s.2.2 t + 1 + j ≤ n by omega) (by omega) z1
      have vu : v + 1 < u := by
        apply Nat.lt_of_not_le
        intro l
        have := x_P_le inv l (show v + 1 ≤ s.1 by omega)
        omega
      have := lu (v + 1) vu
      rw [← ev, fA (v + 1) (by omega), fA t (by omega)] at z2
      omega
  · rw [show x_P s.2.2 t + 1 + (x_P s.2.2 u - x_P s.2.2 t - 1) = x_P s.2.2 u by omega, body _ ptu pun, if_pos]
    refine ⟨?_, ?_⟩
    · rw [x_okm_P inv tu (by omega)]
      unfold x_okc
      simpa using sung
    · rw [fA u (by omega), fA t (by omega)]
      omega
end XE
theorem call_breaths : Call_breaths := by
  intro x y w I mu h
  have hR := h
  obtain ⟨len, h⟩ := h
  by_cases c1 : n_in x 0 7 = 0
  · exact ⟨-1, I, I, by simp (disch := omega) only [z_ob, z_ok, z_ar, z_b_s, z_l_s, z_g_tr, z_x_il, z_x_ir, z_lay, z_shs, z_lens, nI_clamp, n_lt0, n_l0, n_l8, n_l16, n_l24, n_l32, n_l40, n_l48, n_l56, n_l64, n_l72, n_s1, fX12_within_eq, fX13_in_eq, fX12_isSinger_eq, fX12_areTicks_eq, ite_true, ite_false, if_true, if_false, not_false_eq_true, not_true_eq_false, or_self, false_or, or_false, true_or, or_true, and_true, true_and, and_false, false_and, eq_self, fX12_breaths, c1], by simp (disch := omega) only [z_ob, z_ok, z_ar, z_b_s, z_l_s, z_g_tr, z_x_il, z_x_ir, z_lay, z_shs, z_lens, nI_clamp, n_lt0, n_l0, n_l8, n_l16, n_l24, n_l32, n_l40, n_l48, n_l56, n_l64, n_l72, n_s1, fX12_within_eq, fX13_in_eq, fX12_isSinger_eq, fX12_areTicks_eq, ite_true, ite_false, if_true, if_false, not_false_eq_true, not_true_eq_false, or_self, false_or, or_false, true_or, or_true, and_true, true_and, and_false, false_and, eq_self, fX13_breaths, c1], hR⟩
  by_cases c2 : n_in y 1 20 = 0
  · exact ⟨-1, I, I, by simp (disch := omega) only [z_ob, z_ok, z_ar, z_b_s, z_l_s, z_g_tr, z_x_il, z_x_ir, z_lay, z_shs, z_lens, nI_clamp, n_lt0, n_l0, n_l8, n_l16, n_l24, n_l32, n_l40, n_l48, n_l56, n_l64, n_l72, n_s1, fX12_within_eq, fX13_in_eq, fX12_isSinger_eq, fX12_areTicks_eq, ite_true, ite_false, if_true, if_false, not_false_eq_true, not_true_eq_false, or_self, false_or, or_false, true_or, or_true, and_true, true_and, and_false, false_and, eq_self, fX12_breaths, c1, c2], by simp (disch := omega) only [z_ob, z_ok, z_ar, z_b_s, z_l_s, z_g_tr, z_x_il, z_x_ir, z_lay, z_shs, z_lens, nI_clamp, n_lt0, n_l0, n_l8, n_l16, n_l24, n_l32, n_l40, n_l48, n_l56, n_l64, n_l72, n_s1, fX12_within_eq, fX13_in_eq, fX12_isSinger_eq, fX12_areTicks_eq, ite_true, ite_false, if_true, if_false, not_false_eq_true, not_true_eq_false, or_self, false_or, or_false, true_or, or_true, and_true, true_and, and_false, false_and, eq_self, fX13_breaths, c1, c2], hR⟩
  by_cases c3 : w ≠ 100 ∧ n_in w 0 59 = 0
  · obtain ⟨c3, c4⟩ := c3
    refine ⟨-1, I, I, ?_, ?_, hR⟩
    · unfold fX12_breaths
      rw [z_g_t o_0, fX12_isSinger_eq, z_b_s, if_neg c1, fX12_within_eq, z_b_s, if_neg c2, fX12_within_eq, z_b_s, if_pos c4, if_neg c3]
    · unfold fX13_breaths
      rw [z_g_t m_ob, fX13_in_eq, z_b_s, if_neg c1, fX13_in_eq, z_b_s, if_neg c2, if_neg c3, fX13_in_eq, z_b_s, if_pos c4]
  obtain ⟨i, hi, rfl⟩ := n_in7 c1
  obtain ⟨K, hK1, hK2, rfl⟩ := n_in_range (a := 1) (b := 20) (by decide) c2 (by decide)
  have hP := h.2.2.2.2.2.1
  have h8 := h.2.2.2.2.2.2.1 i hi
  have n60 := h8.1
  have r1 := o_roll hP (show i < 9 by omega)
  obtain ⟨J1, a1, a2⟩ := c_list hP hi h8
  have inv := x_l_inv h8 (len i) (Nat.le_refl _)
  generalize x_l I i (len i) = s at a2 inv
  have sn := inv.1
  obtain ⟨J2, b1, b2, b3⟩ := c_plan (mu := mu) (K := K) a2 inv n60 hK2
  have sm := x_same (K := K) inv n60 s.1 0 (by omega)
  have f0e : x_P s.2.2 0 = 0 := rfl
  rw [f0e] at sm
  -- the class's cells
  obtain ⟨J3, hJ3⟩ : ∃ J3, J3 = z_u J2 97 5 0 := ⟨_, rfl⟩
  have j3o : ∀ b, b < 97 ∨ 102 ≤ b → J3 b = I b := fun b hb => by rw [hJ3, u_o (by omega), b2 b (by omega), a2.1 b (by omega) (by omega) (by omega)]
  have j33 : J3 97 3 = nI s.1 := by rw [hJ3, z_u_k (by decide), b2 97 (by decide)]; exact a2.2.1
  -- the class's plan
  have plan : ∃ J4, (∀ b, b < 97 ∨ 102 ≤ b → J4 b = I b) ∧ ((x_A I i K s 0 = 1000 ∧ fX0_plan 97 (mu i) (nI K) I (z_Rm mu) = some (0, J4)) ∨ (x_A I i K s 0 < 1000 ∧ fX0_plan 97 (mu i) (nI K) I (z_Rm mu) = some (1, J4) ∧ J4 97 5 = nI (x_A I i K s 0) ∧ ∀ m, 1 ≤ m → m < s.1 → x_A I i K s m < x_A I i K s (m - 1) → J4 101 (x_A I i K s 0 - x_A I i K s (m - 1)) = nI (s.2.2 (m - 1)))) := by
    have pl : fX0_plan 97 (mu i) (nI K) I (z_Rm mu) = if nI s.1 ≤ 0 then fX0_plan_j60 97 (mu i) J3 (z_Rm mu) else z_g (z_ok 1 100 0) (if J3 100 0 < 1000 then fX0_plan_j60 97 (mu i) J3 (z_Rm mu) else some (0, J3)) := by
      unfold fX0_plan
      rw [z_g_t (show z_ob 97 0 from rfl), z_g_t r1.1, a1, z_b_s, a2.2.1, z_l_s, b1, z_b_s, z_l_s, ← hJ3, j33]
      rfl
    have good : x_A I i K s 0 < 1000 → ∃ J4, (∀ b, b < 97 ∨ 102 ≤ b → J4 b = I b) ∧ fX0_plan_j60 97 (mu i) J3 (z_Rm mu) = some (1, J4) ∧ J4 97 5 = nI (x_A I i K s 0) ∧ ∀ m, 1 ≤ m → m < s.1 → x_A I i K s m < x_A I i K s (m - 1) → J4 101 (x_A I i K s 0 - x_A I i K s (m - 1)) = nI (s.2.2 (m - 1)) := by
      intro h0
      obtain ⟨J4, e1, e2, e3, e4⟩ := c_choose (mu := mu) inv n60 h0 j33 (by rw [hJ3, z_u_at]) (fun t ht => by rw [hJ3, u_o (by decide), b2 99 (by decide)]; exact (a2.2.2 t ht).2) (fun t ht => by rw [hJ3, u_o (by decide)]; exact b3 t ht)
      refine ⟨J4, fun b hb => by rw [e2 b (by omega) (by omega)]; exact j3o b hb, ?_, e3, e4⟩
      unfold fX0_plan_j60
      rw [e1, z_b_s]
    by_cases s0 : s.1 = 0
    · have h0 : x_A I i K s 0 < 1000 := by
        unfold x_A
        rw [if_neg (by omega)]
        decide
      obtain ⟨J4, g1, g2, g3, g4⟩ := good h0
      exact ⟨J4, g1, Or.inr ⟨h0, by rw [pl, if_pos (by rw [s0]; decide)]; exact g2, g3, g4⟩⟩
    · have n0 : J3 100 0 = nI (x_A I i K s 0) := by
        rw [hJ3, u_o (by decide)]
        exact b3 0 (by omega)
      have le := (x_A_min (I := I) (i := i) (K := K) (show 0 < s.1 by omega)).1
      by_cases h0 : x_A I i K s 0 < 1000
      · obtain ⟨J4, g1, g2, g3, g4⟩ := good h0
        refine ⟨J4, g1, Or.inr ⟨h0, ?_, g3, g4⟩⟩
        rw [pl, if_neg (nI_nle (by omega) (by omega)), z_g_t (show z_ok 1 100 0 from n_ok (k := 0) (n := 60) rfl (by decide) (by decide)), n0, if_pos (show nI (x_A I i K s 0) < (1000 : Int32) from nI_lt (b := 1000) h0 (by decide))]
        exact g2
      · refine ⟨J3, j3o, Or.inl ⟨by omega, ?_⟩⟩
        rw [pl, if_neg (nI_nle (by omega) (by omega)), z_g_t (show z_ok 1 100 0 from n_ok (k := 0) (n := 60) rfl (by decide) (by decide)), n0, if_neg (show ¬ nI (x_A I i K s 0) < (1000 : Int32) from nI_nlt (b := 1000) (by omega) (by omega))]
  obtain ⟨J4, p1, p2⟩ := plan
  have hH : x_H I J4 := ⟨p1 106 (by omega), p1 109 (by omega), p1 110 (by omega)⟩
  obtain ⟨M, m1, m2, m3⟩ := m_laysB (mu := mu) h8 hi hK2 hH
  have hM : x_H I M := ⟨by rw [m2 106 (by decide)]; exact hH.1, by rw [m2 109 (by decide)]; exact hH.2.1, by rw [m2 110 (by decide)]; exact hH.2.2⟩
  have fin : Rel M mu := by
    refine rel_frame hR (fun b k hk => ?_)
    have nb : ∀ c, ((57 ≤ c ∧ c ≤ 61) ∨ (72 ≤ c ∧ c ≤ 81) ∨ (92 ≤ c ∧ c ≤ 101) ∨ c = 104 ∨ (112 ≤ c ∧ c ≤ 117) ∨ 123 ≤ c) → b ≠ c := fun c hc e => by
      subst e
      exact k_no hP hc hk
    have b1 := nb 134 (by omega)
    have b2 := nb 97 (by omega)
    have b3 := nb 98 (by omega)
    have b4 := nb 99 (by omega)
    have b5 := nb 100 (by omega)
    have b6 := nb 101 (by omega)
    rw [m2 b b1, p1 b (by omega)]
  have cj : ∀ v, fX12_breaths_j35 0 (nI i) (nI K) w I (z_Rm mu) = some (v, J4) → fX12_breaths 0 (nI i) (nI K) w I (z_Rm mu) = some (v, J4) := by
    intro v hv
    unfold fX12_breaths
    rw [z_g_t o_0, fX12_isSinger_eq, z_b_s, if_neg c1, fX12_within_eq, z_b_s, if_neg c2, fX12_within_eq, z_b_s, hv]
    by_cases q : n_in w 0 59 = 0
    · rw [if_pos q]
      by_cases q2 : w = 100
      · rw [if_pos q2]
      · exact absurd ⟨q2, q⟩ c3
    · rw [if_neg q]
  have mj : ∀ v, fX13_breaths_j38 102 (nI i) (nI K) w J4 (z_Rm mu) = some (v, M) → fX13_breaths 102 (nI i) (nI K) w J4 (z_Rm mu) = some (v, M) := by
    intro v hv
    unfold fX13_breaths
    rw [z_g_t m_ob, fX13_in_eq, z_b_s, if_neg c1, fX13_in_eq, z_b_s, if_neg c2, fX13_in_eq, z_b_s, hv]
    by_cases q2 : w = 100
    · rw [if_pos q2]
    · rw [if_neg q2]
      by_cases q : n_in w 0 59 = 0
      · exact absurd ⟨q2, q⟩ c3
      · rw [if_neg q]
  have c35 : fX12_breaths_j35 0 (nI i) (nI K) w I (z_Rm mu) = z_b (fX0_plan 97 (mu i) (nI K) I (z_Rm mu)) (fun q9 => if q9.1 = 0 then (some ((-2 : Int32), q9.2)) else (if w = (100 : Int32) then (z_b (fX0_fewest 97 q9.2) (fun q16 => some (q16, q9.2))) else (z_b (fX0_fewest 97 q9.2) (fun q13 => if q13 ≤ w then (some ((-4 : Int32), q9.2)) else (z_b (fX0_placeOf 97 w q9.2 (z_Rm mu)) (fun q15 => some (q15, q9.2))))))) := by
    unfold fX12_breaths_j35
    rw [r_01, z_g_t o_3, r_30, z_g_t (k_4 hi), show z_Rm mu 0 11 = 97 from rfl, z_g_t (show z_ob 97 0 from rfl), nI_clamp (show i < 2 ^ 31 by omega), r_4 hi]
  have ok0 : z_ok 1 134 0 := n_ok (k := 0) (n := 61) rfl (by decide) (by decide)
  have m38 : fX13_breaths_j38 102 (nI i) (nI K) w J4 (z_Rm mu) = if nI (x_f I i (len i) K 0) < (1000000 : Int32) then (if w = (100 : Int32) then some (nI (x_f I i (len i) K 0), M) else (if w < nI (x_f I i (len i) K 0) then (z_b (z_lp (fX13_breaths_b91 102 (nI i) (nI K) w M (z_Rm mu)) 300 ((0 : Int32), (0 : Int32))) (fun q23 => some (q23, M))) else some ((-4 : Int32), M))) else some ((-2 : Int32), M) := by
    unfold fX13_breaths_j38
    rw [m1, z_b_s, show z_Rm mu 102 56 = 134 from rfl, z_g_t ok0, show (0 : Int32).toNatClampNeg = 0 from rfl, m3 0 (Nat.zero_le _)]
  rcases p2 with ⟨q1, q2⟩ | ⟨q1, q2, q3, q4⟩
  · have f0 : x_f I i (len i) K 0 = 1000000 := by
      rcases sm with ⟨-, e⟩ | ⟨-, e⟩
      · omega
      · exact e
    refine ⟨-2, J4, M, cj _ ?_, mj _ ?_, fin⟩
    · rw [c35, q2, z_b_s]
      dsimp only
      rw [if_pos rfl]
    · rw [m38, f0, if_neg (show ¬ nI 1000000 < (1000000 : Int32) by decide)]
  · have f0 : x_f I i (len i) K 0 = x_A I i K s 0 := by
      rcases sm with ⟨e, -⟩ | ⟨e, -⟩
      · exact e.symm
      · omega
    have few : fX0_fewest 97 J4 = some (nI (x_A I i K s 0)) := by
      unfold fX0_fewest
      rw [z_g_t (show z_ob 97 0 from rfl), q3]
    have lt6 : nI (x_f I i (len i) K 0) < (1000000 : Int32) := by
      rw [f0]
      exact nI_lt (b := 1000000) (by omega) (by decide)
    by_cases w1 : w = 100
    · refine ⟨nI (x_A I i K s 0), J4, M, cj _ ?_, mj _ ?_, fin⟩
      · rw [c35, q2, z_b_s]
        dsimp only
        rw [if_neg n_10.mp, if_pos w1, few, z_b_s]
      · rw [m38, if_pos lt6, if_pos w1, f0]
    · have w2 : ¬ n_in w 0 59 = 0 := fun q => c3 ⟨w1, q⟩
      obtain ⟨m, hm, rfl⟩ := n_in_nI (b := 59) (by decide) w2
      by_cases wm : m < x_A I i K s 0
      · have hS : 0 < s.1 := by
          apply Nat.lt_of_not_le
          intro l
          unfold x_A at wm
          rw [if_neg (by omega)] at wm
          omega
        obtain ⟨t, t1, t2, t3, t4⟩ := x_least inv n60 q1 hS (q := m + 1) (by omega)
        obtain ⟨t5, t6⟩ := t4 (by omega)
        have pl := q4 t (by omega) t1 (by omega)
        rw [show x_A I i K s 0 - x_A I i K s (t - 1) = m by omega] at pl
        have pt : x_P s.2.2 t = s.2.2 (t - 1) := by
          unfold x_P
          rw [if_neg (by omega)]
        refine ⟨nI (x_P s.2.2 t), J4, M, cj _ ?_, mj _ ?_, fin⟩
        · rw [c35, q2, z_b_s]
          dsimp only
          rw [if_neg n_10.mp, if_neg w1, few, z_b_s, if_neg (nI_ge wm (by omega))]
          unfold fX0_placeOf
          rw [z_g_t (show z_ob 97 0 from rfl), if_neg (nI_pos (by omega)), q3, if_neg (nI_ge wm (by omega)), show z_Rm mu 97 4 = 101 from rfl, z_g_t (n_ok (n := 60) (show z_len 1 101 = 60 from rfl) (show m < 60 by omega) (by decide)), nI_clamp (show m < 2 ^ 31 by omega), pl, z_b_s, pt]
        · rw [m38, if_pos lt6, if_neg w1, f0, if_pos (nI_lt wm (by omega))]
          obtain ⟨v, e1, e2⟩ := lp_inv (body := fX13_breaths_b91 102 (nI i) (nI K) (nI m) M (z_Rm mu)) (fun q z => ∃ t, t < s.1 ∧ x_A I i K s t = x_A I i K s 0 - q ∧ (∀ j, j < t → x_A I i K s 0 - q < x_A I i K s j) ∧ z = (nI (x_P s.2.2 t), nI q)) (fun v => v = nI (x_P s.2.2 t)) (n := m + 1) (fun q z hq hz => by
            obtain ⟨a, b1, b2, b3, rfl⟩ := hz
            obtain ⟨u, u1, u2, u3, -⟩ := x_least inv n60 q1 hS (q := q + 1) (by omega)
            have fi := m_find (mu := mu) (z3 := nI m) (z5 := nI q) h8 hi hK2 hM inv q1 hS m3 (show q < x_A I i K s 0 by omega) b1 b2 u1 u2 u3
            refine ⟨(nI (x_P s.2.2 u), nI (q + 1)), ?_, u, u1, u2, u3, rfl⟩
            unfold fX13_breaths_b91
            dsimp only
            rw [if_neg (nI_nlt (show q ≤ m by omega) (by omega)), z_l_s, n_s1, fi, z_b_s, z_l_s, n_s1]) (fun z hz => by
            obtain ⟨a, b1, b2, b3, rfl⟩ := hz
            have at1 : a = t := by
              apply Classical.byContradiction
              intro ne
              rcases Nat.lt_or_gt_of_ne ne with l | l
              · have := t3 a l
                omega
              · have := b3 t l
                omega
            subst at1
            refine ⟨nI (x_P s.2.2 a), ?_, rfl⟩
            unfold fX13_breaths_b91
            dsimp only
            rw [if_pos (nI_lt (show m < m + 1 by omega) (by omega))]) 300 ((0 : Int32), (0 : Int32)) (by omega) ⟨0, hS, by omega, fun j hj => absurd hj (Nat.not_lt_zero j), rfl⟩
          rw [e1, z_b_s, e2]
      · refine ⟨-4, J4, M, cj _ ?_, mj _ ?_, fin⟩
        · rw [c35, q2, z_b_s]
          dsimp only
          rw [if_neg n_10.mp, if_neg w1, few, z_b_s, if_pos (nI_le (by omega) (by omega))]
        · rw [m38, if_pos lt6, if_neg w1, f0, if_neg (nI_nlt (by omega) (by omega))]
