/-! check, the call; the tape emptied -/
theorem rel_clear {I : Nat → Nat → Int32} {mu len : Nat → Nat} (h : RelL I mu len) : RelL (z_u (z_u I 1 1 0) 102 11 0) mu len := by
  obtain ⟨w1, w2, w3, w5, w6, w7, w8, w9⟩ := h
  have hl := p_law w7
  refine ⟨f_W w1 (fun i hi => ?_) ?_ ?_ ?_, f_V w2 ?_, f_K w3 ?_ (fun i hi => ?_) ?_ ?_ ?_, f_C w5 ?_ ?_ ?_ ?_ ?_ ?_, ⟨0, by decide, ?_, ?_, fun k hk => absurd hk (Nat.not_lt_zero k)⟩, w7, fun i hi => f_R (w8 i hi) (fun b h1 h2 => ?_) (fun b h1 h2 => ?_), f_L w9 (fun b h1 h2 => ?_) ?_ ?_ ?_ (fun b h1 h2 => ?_) (fun q hq => ?_)⟩
  all_goals first | (rw [u_o (by omega), u_o (by omega)]; done) | (have := p_le w7 (j := i) (by omega); rw [u_o (by omega), u_o (by omega)]; done) | (rw [u_o (by decide), z_u_at]; rfl) | (rw [z_u_at]; rfl) | (simp only [z_u_eq]; simp; done)
theorem call_check : Call_check := by
  intro x I mu h
  obtain ⟨len, h⟩ := h
  by_cases c1 : n_in x 0 8 = 0
  · exact ⟨-2, I, I, by simp (disch := omega) only [z_ob, z_ok, z_ar, z_b_s, z_l_s, z_g_tr, z_x_il, z_x_ir, z_lay, z_shs, z_lens, nI_clamp, n_lt0, n_l0, n_l8, n_l16, n_l24, n_l32, n_l40, n_l48, n_l56, n_l64, n_l72, n_s1, fX12_within_eq, fX13_in_eq, fX12_isSinger_eq, fX12_areTicks_eq, ite_true, ite_false, if_true, if_false, not_false_eq_true, not_true_eq_false, or_self, false_or, or_false, true_or, or_true, and_true, true_and, and_false, false_and, eq_self, fX12_check, c1], by simp (disch := omega) only [z_ob, z_ok, z_ar, z_b_s, z_l_s, z_g_tr, z_x_il, z_x_ir, z_lay, z_shs, z_lens, nI_clamp, n_lt0, n_l0, n_l8, n_l16, n_l24, n_l32, n_l40, n_l48, n_l56, n_l64, n_l72, n_s1, fX12_within_eq, fX13_in_eq, fX12_isSinger_eq, fX12_areTicks_eq, ite_true, ite_false, if_true, if_false, not_false_eq_true, not_true_eq_false, or_self, false_or, or_false, true_or, or_true, and_true, true_and, and_false, false_and, eq_self, fX13_check, c1], len, h⟩
  obtain ⟨n, hn, rfl⟩ := n_in_nI (b := 8) (by decide) c1
  obtain ⟨t, ht, t1, t2, t3⟩ := h.2.2.2.2.1
  by_cases c2 : nI n ≤ nI t
  · have hnt : n ≤ t := (n_le (by omega) (by omega)).mp c2
    have hb : ∀ j, j < n → fX10_byteAt 1 (nI j) I (z_Rm mu) = some (I 111 j &&& 255) := by
      intro j hj
      obtain ⟨v, hv, v1, v2⟩ := t3 j (by omega)
      unfold fX10_byteAt
      rw [z_g_t (show z_ob 1 10 from rfl), if_neg (nI_pos (by omega)), t1, if_neg (nI_ge (by omega) (by omega)), show z_Rm mu 1 0 = 2 from rfl, z_g_t (n_ok (n := 260) rfl (by omega) (by decide)), nI_clamp (by omega), v1, v2]
    have e1 := c_check h hn hb
    have e2 := m_check (I := z_u (z_u I 1 1 0) 102 11 0) (mu := mu) hn n 0 300 (by omega) (by omega)
    have ef : (fun j => (z_u (z_u I 1 1 0) 102 11 0 111 j &&& 255) != k_due (z_u (z_u I 1 1 0) 102 11 0) j) = (fun j => (I 111 j &&& 255) != k_due I j) := by
      funext j
      unfold k_due
      rw [u_o (by decide), u_o (by decide), u_o (by decide), u_o (by decide)]
    rw [ef] at e2
    refine ⟨k_first (fun j => (I 111 j &&& 255) != k_due I j) 0 n, z_u I 1 1 0, z_u (z_u I 1 1 0) 102 11 0, ?_, ?_, len, rel_clear h⟩
    · unfold fX12_check fX10_length fX10_clear
      rw [z_g_t o_0, fX12_within_eq, z_b_s, if_neg c1, show z_Rm mu 0 0 = 1 from rfl, z_g_t (show z_ob 1 10 from rfl), z_g_t (show z_ob 1 10 from rfl), t1, z_b_s, if_pos c2, z_l_s, e1, z_b_s, z_g_t (show z_ob 1 10 from rfl), z_l_s, z_b_s]
    · unfold fX13_check
      rw [z_g_t m_ob, fX13_in_eq, z_b_s, if_neg c1, u_o (by decide), t2, if_pos c2, z_l_s]
      exact e2
  · refine ⟨-2, I, I, ?_, ?_, len, h⟩
    · unfold fX12_check fX10_length
      rw [z_g_t o_0, fX12_within_eq, z_b_s, if_neg c1, show z_Rm mu 0 0 = 1 from rfl, z_g_t (show z_ob 1 10 from rfl), z_g_t (show z_ob 1 10 from rfl), t1, z_b_s, if_neg c2]
    · unfold fX13_check
      rw [z_g_t m_ob, fX13_in_eq, z_b_s, if_neg c1, t2, if_neg c2]
