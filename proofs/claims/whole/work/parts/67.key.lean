/-! key -/
theorem c_beatsOf {I : Nat → Nat → Int32} {mu : Nat → Nat} {i n : Nat} {z : Int32} (hP : r_P mu) (hi : i < 8) (h : r_Roll I i (mu i) n) : fX5_beatsOf (mu i) z I (z_Rm mu) = some (nI (n_cnt (fun k => I 106 (60 * i + k) == z) n)) := by
  have hr := o_roll hP (show i < 9 by omega)
  obtain ⟨h1, h2, h3, h4, h5⟩ := h
  unfold fX5_beatsOf
  rw [z_g_t hr.1]
  refine (z_lp_b n (nI (n_cnt (fun k => I 106 (60 * i + k) == z) n)) (fun k => (nI (n_cnt (fun k => I 106 (60 * i + k) == z) k), nI k)) rfl ?_ ?_ (by omega)).trans rfl
  · intro k hk
    obtain ⟨⟨v, hv, v1, v2⟩, -⟩ := h5 k hk
    unfold fX5_beatsOf_b4
    dsimp only
    rw [h2, if_neg (nI_ge hk (by omega)), hr.2.1, z_g_t (n_ok hr.2.2.2.2.1 (by omega) (by decide)), nI_clamp (by omega), v1]
    simp only [z_l_s, n_s1]
    show _ = some (Sum.inl (nI (if (I 106 (60 * i + k) == z) = true then _ else _), _))
    rw [v2]
    by_cases c : nI v = z
    · simp [c]
    · simp [c]
  · unfold fX5_beatsOf_b4
    dsimp only
    rw [h2, if_pos (nI_le (Nat.le_refl n) (by omega))]
theorem m_beatsOf {I : Nat → Nat → Int32} {mu : Nat → Nat} {i n : Nat} {a b c z : Int32} (hi : i < 8) (hn : n ≤ 60) (h : I 110 i = nI n) {β : Type} {f : Int32 → Option β} : z_b (z_lp (fX13_key_b43 102 (nI i) a b c z I (z_Rm mu)) 300 ((0 : Int32), (0 : Int32))) f = f (nI (n_cnt (fun k => I 106 (60 * i + k) == z) n)) := by
  refine z_lp_b n (nI (n_cnt (fun k => I 106 (60 * i + k) == z) n)) (fun k => (nI (n_cnt (fun k => I 106 (60 * i + k) == z) k), nI k)) rfl ?_ ?_ (by omega)
  · intro k hk
    unfold fX13_key_b43 fX13_key_j78_43
    dsimp only
    rw [r_m9, z_g_t (k_110 hi), nI_clamp (by omega), h, if_neg (nI_ge hk (by omega)), show z_Rm mu 102 5 = 106 from rfl, n_l60, z_g_t (k_480 rfl hi (by omega)), nI_clamp (by omega)]
    simp only [z_l_s, n_s1]
    show _ = some (Sum.inl (nI (if (I 106 (60 * i + k) == z) = true then _ else _), _))
    by_cases c : I 106 (60 * i + k) = z
    · simp [c]
    · rw [show (0 : Int32) = nI 0 from rfl, n_add]
      simp [c]
  · unfold fX13_key_b43
    dsimp only
    rw [r_m9, z_g_t (k_110 hi), nI_clamp (by omega), h, if_pos (nI_le (Nat.le_refl n) (by omega))]
def k_best (c : Nat → Int32) : Nat → Int32 × Int32
  | 0 => (-2, 0)
  | t + 1 => if c (t + 1) ≤ (k_best c t).2 then k_best c t else (nI (t + 1), c (t + 1))
theorem call_key : Call_key := by
  intro x w I mu h
  obtain ⟨len, h⟩ := h
  have hR : Rel I mu := ⟨len, h⟩
  by_cases c1 : n_in x 0 7 = 0
  · exact ⟨-1, by simp (disch := omega) only [z_ob, z_ok, z_ar, z_b_s, z_l_s, z_g_tr, z_x_il, z_x_ir, z_lay, z_shs, z_lens, nI_clamp, n_lt0, n_l0, n_l8, n_l16, n_l24, n_l32, n_l40, n_l48, n_l56, n_l64, n_l72, n_s1, fX12_within_eq, fX13_in_eq, fX12_isSinger_eq, fX12_areTicks_eq, ite_true, ite_false, if_true, if_false, not_false_eq_true, not_true_eq_false, or_self, false_or, or_false, true_or, or_true, and_true, true_and, and_false, false_and, eq_self, fX12_key, c1], by simp (disch := omega) only [z_ob, z_ok, z_ar, z_b_s, z_l_s, z_g_tr, z_x_il, z_x_ir, z_lay, z_shs, z_lens, nI_clamp, n_lt0, n_l0, n_l8, n_l16, n_l24, n_l32, n_l40, n_l48, n_l56, n_l64, n_l72, n_s1, fX12_within_eq, fX13_in_eq, fX12_isSinger_eq, fX12_areTicks_eq, ite_true, ite_false, if_true, if_false, not_false_eq_true, not_true_eq_false, or_self, false_or, or_false, true_or, or_true, and_true, true_and, and_false, false_and, eq_self, fX13_key, c1], hR⟩
  by_cases c2 : n_in w 0 1 = 0
  · exact ⟨-1, by simp (disch := omega) only [z_ob, z_ok, z_ar, z_b_s, z_l_s, z_g_tr, z_x_il, z_x_ir, z_lay, z_shs, z_lens, nI_clamp, n_lt0, n_l0, n_l8, n_l16, n_l24, n_l32, n_l40, n_l48, n_l56, n_l64, n_l72, n_s1, fX12_within_eq, fX13_in_eq, fX12_isSinger_eq, fX12_areTicks_eq, ite_true, ite_false, if_true, if_false, not_false_eq_true, not_true_eq_false, or_self, false_or, or_false, true_or, or_true, and_true, true_and, and_false, false_and, eq_self, fX12_key, c1, c2], by simp (disch := omega) only [z_ob, z_ok, z_ar, z_b_s, z_l_s, z_g_tr, z_x_il, z_x_ir, z_lay, z_shs, z_lens, nI_clamp, n_lt0, n_l0, n_l8, n_l16, n_l24, n_l32, n_l40, n_l48, n_l56, n_l64, n_l72, n_s1, fX12_within_eq, fX13_in_eq, fX12_isSinger_eq, fX12_areTicks_eq, ite_true, ite_false, if_true, if_false, not_false_eq_true, not_true_eq_false, or_self, false_or, or_false, true_or, or_true, and_true, true_and, and_false, false_and, eq_self, fX13_key, c1, c2], hR⟩
  obtain ⟨i, hi, rfl⟩ := n_in7 c1
  have hP := h.2.2.2.2.2.1
  have h8 := h.2.2.2.2.2.2.1 i hi
  have hr := o_roll hP (show i < 9 by omega)
  let c : Nat → Int32 := fun t => nI (n_cnt (fun k => I 106 (60 * i + k) == nI t) (len i))
  have n7 : ∀ t, t < 7 → ¬ (7 : Int32) < nI (t + 1) := fun t ht => nI_nlt (a := 7) (b := t + 1) (by omega) (by decide)
  have n78 : (7 : Int32) < nI 8 := nI_lt (a := 7) (b := 8) (by decide) (by decide)
  refine ⟨if w = 0 then (k_best c 7).1 else (k_best c 7).2, ?_, ?_, hR⟩
  · unfold fX12_key
    rw [z_g_t o_0, fX12_isSinger_eq, z_b_s, if_neg c1, fX12_within_eq, z_b_s, if_neg c2]
    refine (z_lp_b 7 (k_best c 7) (fun t => ((k_best c t).1, (k_best c t).2, nI (t + 1))) rfl ?_ ?_ (by decide)).trans ?_
    · intro t ht
      unfold fX12_key_b27
      dsimp only
      rw [if_neg (n7 t ht), r_01, z_g_t o_3, r_30, z_g_t (k_4 hi), nI_clamp (by omega), r_4 hi, z_g_t hr.1, c_beatsOf hP hi h8, z_b_s]
      simp only [z_l_s, n_s1]
      show (if c (t + 1) ≤ (k_best c t).2 then _ else _) = some (Sum.inl ((if _ then _ else _ : Int32 × Int32).1, (if c (t + 1) ≤ (k_best c t).2 then k_best c t else (nI (t + 1), c (t + 1))).2, _))
      by_cases q : c (t + 1) ≤ (k_best c t).2
      · rw [if_pos q, if_pos q]
      · rw [if_neg q, if_neg q]
    · unfold fX12_key_b27
      dsimp only
      rw [if_pos n78]
    · split <;> rfl
  · unfold fX13_key
    rw [z_g_t m_ob, fX13_in_eq, z_b_s, if_neg c1, fX13_in_eq, z_b_s, if_neg c2]
    refine (z_lp_b 7 (k_best c 7) (fun t => ((k_best c t).1, (k_best c t).2, nI (t + 1))) rfl ?_ ?_ (by decide)).trans ?_
    · intro t ht
      unfold fX13_key_b30
      dsimp only
      rw [if_neg (n7 t ht), m_beatsOf hi h8.1 h8.2.2.1]
      simp only [z_l_s, n_s1]
      show (if (k_best c t).2 < c (t + 1) then _ else _) = some (Sum.inl ((if _ then _ else _ : Int32 × Int32).1, (if c (t + 1) ≤ (k_best c t).2 then k_best c t else (nI (t + 1), c (t + 1))).2, _))
      by_cases q : c (t + 1) ≤ (k_best c t).2
      · rw [if_neg (Int32.not_lt.mpr q), if_pos q]
      · rw [if_pos (Int32.not_le.mp q), if_neg q]
    · unfold fX13_key_b30
      dsimp only
      rw [if_pos n78]
    · split <;> rfl
