/-! count -/
theorem d_both {I : Nat → Nat → Int32} {mu len : Nat → Nat} (h : RelL I mu len) : fX2_doneBits 59 62 I (z_Rm mu) = fX13_doneSet 102 I (z_Rm mu) := by
  rw [c_doneBits c62 h.2.2.2.2.2.1, m_doneSet]
  congr 2
  apply n_set_congr
  intro j hj
  have e := h.1.1 0 j (by decide) hj
  have e5 := h.1.1 5 j (by decide) hj
  have hr := h.2.2.2.2.2.2.1 j hj
  rw [e, show 8 * 0 + j = j by omega, e5, show 8 * 5 + j = 40 + j by omega, hr.2.1, hr.2.2.1]
  rcases (h.2.1.1 j hj).1 with h0 | h0 <;> rw [h0] <;> rfl
theorem w_both {I : Nat → Nat → Int32} {mu len : Nat → Nat} (h : RelL I mu len) : fX9_waitingBits 62 I (z_Rm mu) = fX13_waitingSet 102 I (z_Rm mu) := by
  rw [c_waitBits c62, m_waitSet]
  congr 2
  apply n_set_congr
  intro j hj
  have e := h.1.1 0 j (by decide) hj
  have e9 := h.1.1 9 j (by decide) hj
  rw [e, show 8 * 0 + j = j by omega, e9, show 8 * 9 + j = 72 + j by omega]
  rcases (h.2.1.1 j hj).1 with h0 | h0 <;> rcases (h.2.1.1 j hj).2.2.2.2.2.2.2.2.1 with h9 | h9 <;> rw [h0, h9] <;> rfl
theorem o_law {mu : Nat → Nat} (h : r_P mu) : z_ob (mu 9) 3 := by
  rcases (p_law h).1 with e | e <;> rw [e] <;> rfl
theorem n_ne {a b : Nat} (ha : a < 2 ^ 31) (hb : b < 2 ^ 31) (h : a ≠ b) : ¬ nI a = nI b := fun e => h ((n_eq ha hb).mp e)
theorem call_count : Call_count := by
  intro x I mu h
  obtain ⟨len, h⟩ := h
  have hR : Rel I mu := ⟨len, h⟩
  have hP := h.2.2.2.2.2.1
  have h8 := h.2.2.2.2.2.2.1
  have k80 : z_ok 1 103 80 := n_ok (k := 80) (n := 82) rfl (by decide) (by decide)
  have k81 : z_ok 1 103 81 := n_ok (k := 81) (n := 82) rfl (by decide) (by decide)
  have i0 : ∀ y : Int32, n_in y 10 17 = 0 → n_in y 20 27 = 0 → ∀ v, (if y = 0 then some (I 62 1) else if y = 1 then fX9_toldBits 62 I (z_Rm mu) else if y = 2 then fX2_doneBits 59 62 I (z_Rm mu) else if y = 3 then fX9_waitingBits 62 I (z_Rm mu) else if y = 4 then some (I 3 4) else if y = 5 then some (I 3 5) else if y = 6 then some (I (mu 9) 7) else if y = 7 then some (I 1 1) else if y = 8 then some (I 62 2) else some (-1)) = some v → fX12_count 0 y I (z_Rm mu) = some v := by
    intro y c1 c2 v hv
    unfold fX12_count
    rw [z_g_t o_0, fX12_within_eq, z_b_s, if_pos c1, fX12_within_eq, z_b_s, if_pos c2, r_05, z_g_t o_62, r_01, z_g_t o_3, r_40, z_g_t (show z_ob 59 2 from rfl), show z_Rm mu 0 0 = 1 from rfl, z_g_t (show z_ob 1 10 from rfl), show z_Rm mu 3 2 = mu 9 from rfl, z_g_t (o_law hP)]
    unfold fX3_ruleCount fX10_length
    rw [z_g_t (o_law hP), z_g_t (show z_ob 1 10 from rfl), z_b_s, z_b_s, c_toldBits c62, z_b_s, c_doneBits c62 hP, z_b_s, c_waitBits c62, z_b_s]
    rw [c_toldBits c62, c_doneBits c62 hP, c_waitBits c62] at hv
    exact hv
  have j0 : ∀ y : Int32, n_in y 10 17 = 0 → n_in y 20 27 = 0 → ∀ v, (if y = 0 then some (I 103 80) else if y = 1 then fX13_toldSet 102 I (z_Rm mu) else if y = 2 then fX13_doneSet 102 I (z_Rm mu) else if y = 3 then fX13_waitingSet 102 I (z_Rm mu) else if y = 4 then some (I 102 3) else if y = 5 then some (I 102 4) else if y = 6 then some (I 102 20) else if y = 7 then some (I 102 11) else if y = 8 then some (I 103 81) else some (-1)) = some v → fX13_count 102 y I (z_Rm mu) = some v := by
    intro y c1 c2 v hv
    unfold fX13_count
    rw [z_g_t m_ob, r_m0, z_g_t k80, z_g_t k81, m_toldSet, z_b_s, m_doneSet, z_b_s, m_waitSet, z_b_s, fX13_in_eq, z_b_s, if_pos c1, fX13_in_eq, z_b_s, if_pos c2]
    rw [m_toldSet, m_doneSet, m_waitSet] at hv
    exact hv
  by_cases c1 : n_in x 10 17 = 0
  · by_cases c2 : n_in x 20 27 = 0
    · obtain ⟨n, s, cd, -, -, -, l1, l2, -⟩ := h.2.2.2.2.2.2.2.1
      obtain ⟨⟨p1, -, p2, p3⟩, ⟨p4, -, -, p5, p6⟩, -⟩ := h.2.2.2.1
      obtain ⟨t, -, t1, t2, -⟩ := h.2.2.2.2.1
      have key : ∃ v, (if x = 0 then some (I 62 1) else if x = 1 then fX9_toldBits 62 I (z_Rm mu) else if x = 2 then fX2_doneBits 59 62 I (z_Rm mu) else if x = 3 then fX9_waitingBits 62 I (z_Rm mu) else if x = 4 then some (I 3 4) else if x = 5 then some (I 3 5) else if x = 6 then some (I (mu 9) 7) else if x = 7 then some (I 1 1) else if x = 8 then some (I 62 2) else some (-1)) = some v ∧ (if x = 0 then some (I 103 80) else if x = 1 then fX13_toldSet 102 I (z_Rm mu) else if x = 2 then fX13_doneSet 102 I (z_Rm mu) else if x = 3 then fX13_waitingSet 102 I (z_Rm mu) else if x = 4 then some (I 102 3) else if x = 5 then some (I 102 4) else if x = 6 then some (I 102 20) else if x = 7 then some (I 102 11) else if x = 8 then some (I 103 81) else some (-1)) = some v := by
        rw [t_bits h, d_both h, w_both h, h.1.2.1, h.1.2.2, l1, l2, p2, p3, p5, p6, t1, t2, m_toldSet, m_doneSet, m_waitSet]
        by_cases x0 : x = 0
        · exact ⟨_, by rw [if_pos x0], by rw [if_pos x0]⟩
        by_cases x1 : x = 1
        · exact ⟨_, by rw [if_neg x0, if_pos x1], by rw [if_neg x0, if_pos x1]⟩
        by_cases x2 : x = 2
        · exact ⟨_, by rw [if_neg x0, if_neg x1, if_pos x2], by rw [if_neg x0, if_neg x1, if_pos x2]⟩
        by_cases x3 : x = 3
        · exact ⟨_, by rw [if_neg x0, if_neg x1, if_neg x2, if_pos x3], by rw [if_neg x0, if_neg x1, if_neg x2, if_pos x3]⟩
        by_cases x4 : x = 4
        · exact ⟨_, by rw [if_neg x0, if_neg x1, if_neg x2, if_neg x3, if_pos x4], by rw [if_neg x0, if_neg x1, if_neg x2, if_neg x3, if_pos x4]⟩
        by_cases x5 : x = 5
        · exact ⟨_, by rw [if_neg x0, if_neg x1, if_neg x2, if_neg x3, if_neg x4, if_pos x5], by rw [if_neg x0, if_neg x1, if_neg x2, if_neg x3, if_neg x4, if_pos x5]⟩
        by_cases x6 : x = 6
        · exact ⟨_, by rw [if_neg x0, if_neg x1, if_neg x2, if_neg x3, if_neg x4, if_neg x5, if_pos x6], by rw [if_neg x0, if_neg x1, if_neg x2, if_neg x3, if_neg x4, if_neg x5, if_pos x6]⟩
        by_cases x7 : x = 7
        · exact ⟨_, by rw [if_neg x0, if_neg x1, if_neg x2, if_neg x3, if_neg x4, if_neg x5, if_neg x6, if_pos x7], by rw [if_neg x0, if_neg x1, if_neg x2, if_neg x3, if_neg x4, if_neg x5, if_neg x6, if_pos x7]⟩
        by_cases x8 : x = 8
        · exact ⟨_, by rw [if_neg x0, if_neg x1, if_neg x2, if_neg x3, if_neg x4, if_neg x5, if_neg x6, if_neg x7, if_pos x8], by rw [if_neg x0, if_neg x1, if_neg x2, if_neg x3, if_neg x4, if_neg x5, if_neg x6, if_neg x7, if_pos x8]⟩
        exact ⟨-1, by rw [if_neg x0, if_neg x1, if_neg x2, if_neg x3, if_neg x4, if_neg x5, if_neg x6, if_neg x7, if_neg x8], by rw [if_neg x0, if_neg x1, if_neg x2, if_neg x3, if_neg x4, if_neg x5, if_neg x6, if_neg x7, if_neg x8]⟩
      obtain ⟨v, v1, v2⟩ := key
      exact ⟨v, i0 x c1 c2 v v1, j0 x c1 c2 v v2, hR⟩
    · obtain ⟨m, hm1, hm2, rfl⟩ := n_in_range (a := 20) (b := 27) (by decide) c2 (by decide)
      have es : nI m - 20 = nI (m - 20) := n_sub (b := 20) hm1
      have hi : m - 20 < 8 := by omega
      have hi8 : ¬ 8 ≤ m - 20 := by omega
      have hr := o_roll hP (show m - 20 < 9 by omega)
      have r8 := h8 _ hi
      have f1 := c_ferm hP hi r8
      have f2 := m_holdsTo (mu := mu) (I := I) r8.1 hi (fun k hk => by
        obtain ⟨-, ⟨a, b, g, ha, -, -, q, -⟩, -⟩ := r8.2.2.2.2 k hk
        exact ⟨a, ha, q⟩)
      have ne : ∀ j, j < 20 → ¬ nI m = nI j := fun j hj => n_ne (by omega) (by omega) (by omega)
      refine ⟨nI (r_sum (I 107) (60 * (m - 20)) (len (m - 20))), ?_, ?_, hR⟩
      · unfold fX12_count
        rw [z_g_t o_0, fX12_within_eq, z_b_s, if_pos c1, fX12_within_eq, z_b_s, if_neg c2, es]
        simp (disch := omega) only [z_ob, z_ok, z_ar, z_b_s, z_l_s, z_g_tr, z_x_il, z_x_ir, z_lay, z_shs, z_lens, nI_clamp, n_lt0, n_l0, n_l8, n_l16, n_l24, n_l32, n_l40, n_l48, n_l56, n_l64, n_l72, n_s1, fX12_within_eq, fX13_in_eq, fX12_isSinger_eq, fX12_areTicks_eq, ite_true, ite_false, if_true, if_false, not_false_eq_true, not_true_eq_false, or_self, false_or, or_false, true_or, or_true, and_true, true_and, and_false, false_and, eq_self, hi8, r_4 hi, hr.1, f1]
      · unfold fX13_count
        rw [z_g_t m_ob, if_neg (show ¬ nI m = 0 from ne 0 (by decide)), if_neg (show ¬ nI m = 1 from ne 1 (by decide)), if_neg (show ¬ nI m = 2 from ne 2 (by decide)), if_neg (show ¬ nI m = 3 from ne 3 (by decide)), if_neg (show ¬ nI m = 4 from ne 4 (by decide)), if_neg (show ¬ nI m = 5 from ne 5 (by decide)), if_neg (show ¬ nI m = 6 from ne 6 (by decide)), if_neg (show ¬ nI m = 7 from ne 7 (by decide)), if_neg (show ¬ nI m = 8 from ne 8 (by decide))]
        simp (disch := omega) only [z_ob, z_ok, z_ar, z_b_s, z_l_s, z_g_tr, z_x_il, z_x_ir, z_lay, z_shs, z_lens, nI_clamp, n_lt0, n_l0, n_l8, n_l16, n_l24, n_l32, n_l40, n_l48, n_l56, n_l64, n_l72, n_s1, fX12_within_eq, fX13_in_eq, fX12_isSinger_eq, fX12_areTicks_eq, ite_true, ite_false, if_true, if_false, not_false_eq_true, not_true_eq_false, or_self, false_or, or_false, true_or, or_true, and_true, true_and, and_false, false_and, eq_self, c1, c2, es, hi8, r8.2.2.1, f2]
  · obtain ⟨m, hm1, hm2, rfl⟩ := n_in_range (a := 10) (b := 17) (by decide) c1 (by decide)
    have es : nI m - 10 = nI (m - 10) := n_sub (b := 10) hm1
    have hi : m - 10 < 8 := by omega
    have hi8 : ¬ 8 ≤ m - 10 := by omega
    have hr := o_roll hP (show m - 10 < 9 by omega)
    have r8 := h8 _ hi
    have ne : ∀ j, j < 10 → ¬ nI m = nI j := fun j hj => n_ne (by omega) (by omega) (by omega)
    refine ⟨nI (len (m - 10)), ?_, ?_, hR⟩
    · unfold fX12_count
      rw [z_g_t o_0, fX12_within_eq, z_b_s, if_neg c1, es]
      simp (disch := omega) only [z_ob, z_ok, z_ar, z_b_s, z_l_s, z_g_tr, z_x_il, z_x_ir, z_lay, z_shs, z_lens, nI_clamp, n_lt0, n_l0, n_l8, n_l16, n_l24, n_l32, n_l40, n_l48, n_l56, n_l64, n_l72, n_s1, fX12_within_eq, fX13_in_eq, fX12_isSinger_eq, fX12_areTicks_eq, ite_true, ite_false, if_true, if_false, not_false_eq_true, not_true_eq_false, or_self, false_or, or_false, true_or, or_true, and_true, true_and, and_false, false_and, eq_self, hi8, r_4 hi, hr.1, fX5_length, r8.2.1]
    · unfold fX13_count
      rw [z_g_t m_ob, if_neg (show ¬ nI m = 0 from ne 0 (by decide)), if_neg (show ¬ nI m = 1 from ne 1 (by decide)), if_neg (show ¬ nI m = 2 from ne 2 (by decide)), if_neg (show ¬ nI m = 3 from ne 3 (by decide)), if_neg (show ¬ nI m = 4 from ne 4 (by decide)), if_neg (show ¬ nI m = 5 from ne 5 (by decide)), if_neg (show ¬ nI m = 6 from ne 6 (by decide)), if_neg (show ¬ nI m = 7 from ne 7 (by decide)), if_neg (show ¬ nI m = 8 from ne 8 (by decide))]
      simp (disch := omega) only [z_ob, z_ok, z_ar, z_b_s, z_l_s, z_g_tr, z_x_il, z_x_ir, z_lay, z_shs, z_lens, nI_clamp, n_lt0, n_l0, n_l8, n_l16, n_l24, n_l32, n_l40, n_l48, n_l56, n_l64, n_l72, n_s1, fX12_within_eq, fX13_in_eq, fX12_isSinger_eq, fX12_areTicks_eq, ite_true, ite_false, if_true, if_false, not_false_eq_true, not_true_eq_false, or_self, false_or, or_false, true_or, or_true, and_true, true_and, and_false, false_and, eq_self, c1, es, hi8, r8.2.2.1]
