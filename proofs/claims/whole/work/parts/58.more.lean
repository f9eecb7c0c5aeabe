/-! tempo, seed, meet, beat -/
theorem n_10 : ((1 : Int32) = 0) = False := eq_false (by decide)
theorem call_tempo : Call_tempo := by
  intro x I mu h
  by_cases hc : n_in x 60 600 = 0
  · exact ⟨0, I, I, by simp (disch := omega) only [z_ob, z_ok, z_ar, z_b_s, z_l_s, z_g_tr, z_x_il, z_x_ir, z_lay, z_shs, z_lens, nI_clamp, n_lt0, n_l0, n_l8, n_l16, n_l24, n_l32, n_l40, n_l48, n_l56, n_l64, n_l72, n_s1, fX12_within_eq, fX13_in_eq, fX12_isSinger_eq, fX12_areTicks_eq, ite_true, ite_false, if_true, if_false, not_false_eq_true, not_true_eq_false, or_self, false_or, or_false, true_or, or_true, and_true, true_and, and_false, false_and, eq_self, fX12_tempo, hc], by simp (disch := omega) only [z_ob, z_ok, z_ar, z_b_s, z_l_s, z_g_tr, z_x_il, z_x_ir, z_lay, z_shs, z_lens, nI_clamp, n_lt0, n_l0, n_l8, n_l16, n_l24, n_l32, n_l40, n_l48, n_l56, n_l64, n_l72, n_s1, fX12_within_eq, fX13_in_eq, fX12_isSinger_eq, fX12_areTicks_eq, ite_true, ite_false, if_true, if_false, not_false_eq_true, not_true_eq_false, or_self, false_or, or_false, true_or, or_true, and_true, true_and, and_false, false_and, eq_self, fX13_tempo, hc], h⟩
  · refine ⟨1, z_u I 3 5 x, z_u (z_u I 3 5 x) 102 4 x, by simp (disch := omega) only [z_ob, z_ok, z_ar, z_b_s, z_l_s, z_g_tr, z_x_il, z_x_ir, z_lay, z_shs, z_lens, nI_clamp, n_lt0, n_l0, n_l8, n_l16, n_l24, n_l32, n_l40, n_l48, n_l56, n_l64, n_l72, n_s1, fX12_within_eq, fX13_in_eq, fX12_isSinger_eq, fX12_areTicks_eq, ite_true, ite_false, if_true, if_false, not_false_eq_true, not_true_eq_false, or_self, false_or, or_false, true_or, or_true, and_true, true_and, and_false, false_and, eq_self, fX12_tempo, hc], by simp (disch := omega) only [z_ob, z_ok, z_ar, z_b_s, z_l_s, z_g_tr, z_x_il, z_x_ir, z_lay, z_shs, z_lens, nI_clamp, n_lt0, n_l0, n_l8, n_l16, n_l24, n_l32, n_l40, n_l48, n_l56, n_l64, n_l72, n_s1, fX12_within_eq, fX13_in_eq, fX12_isSinger_eq, fX12_areTicks_eq, ite_true, ite_false, if_true, if_false, not_false_eq_true, not_true_eq_false, or_self, false_or, or_false, true_or, or_true, and_true, true_and, and_false, false_and, eq_self, fX13_tempo, hc], ?_⟩
    obtain ⟨n, hn1, hn2, rfl⟩ := n_in_range (a := 60) (b := 600) (by decide) hc (by decide)
    obtain ⟨len, h1, h2, h3, h5, h6, h7, h8, h9⟩ := h
    have hl := p_law h7
    refine ⟨len, f_W h1 (fun i hi => ?_) ?_ ?_ ?_, f_V h2 ?_, f_K h3 ?_ (fun i hi => ?_) ?_ ?_ ?_, ?_, f_T h6 ?_ ?_ ?_ ?_, h7, fun i hi => f_R (h8 i hi) (fun b h1 h2 => ?_) (fun b h1 h2 => ?_), f_L h9 (fun b h1 h2 => ?_) ?_ ?_ ?_ (fun b h1 h2 => ?_) (fun q hq => ?_)⟩
    all_goals first | (rw [u_o (by omega), u_o (by omega)]; done) | (have := p_le h7 (j := i) (by omega); rw [u_o (by omega), u_o (by omega)]; done) | (simp only [z_u_eq]; simp; done) | skip
    unfold r_C at h5 ⊢
    refine ⟨?_, ⟨n, hn1, hn2, by simp [z_u_eq], by simp [z_u_eq]⟩, ?_, ?_⟩
    · simpa [z_u_eq] using h5.1
    · simpa [z_u_eq] using h5.2.2.1
    · simpa [z_u_eq] using h5.2.2.2
theorem call_seed : Call_seed := by
  intro x I mu h
  by_cases hc : n_in x 0 65535 = 0
  · exact ⟨0, I, I, by simp (disch := omega) only [z_ob, z_ok, z_ar, z_b_s, z_l_s, z_g_tr, z_x_il, z_x_ir, z_lay, z_shs, z_lens, nI_clamp, n_lt0, n_l0, n_l8, n_l16, n_l24, n_l32, n_l40, n_l48, n_l56, n_l64, n_l72, n_s1, fX12_within_eq, fX13_in_eq, fX12_isSinger_eq, fX12_areTicks_eq, ite_true, ite_false, if_true, if_false, not_false_eq_true, not_true_eq_false, or_self, false_or, or_false, true_or, or_true, and_true, true_and, and_false, false_and, eq_self, fX12_seed, hc], by simp (disch := omega) only [z_ob, z_ok, z_ar, z_b_s, z_l_s, z_g_tr, z_x_il, z_x_ir, z_lay, z_shs, z_lens, nI_clamp, n_lt0, n_l0, n_l8, n_l16, n_l24, n_l32, n_l40, n_l48, n_l56, n_l64, n_l72, n_s1, fX12_within_eq, fX13_in_eq, fX12_isSinger_eq, fX12_areTicks_eq, ite_true, ite_false, if_true, if_false, not_false_eq_true, not_true_eq_false, or_self, false_or, or_false, true_or, or_true, and_true, true_and, and_false, false_and, eq_self, fX13_seed, hc], h⟩
  · refine ⟨1, z_u I 62 2 x, z_u (z_u I 62 2 x) 103 81 x, by simp (disch := omega) only [z_ob, z_ok, z_ar, z_b_s, z_l_s, z_g_tr, z_x_il, z_x_ir, z_lay, z_shs, z_lens, nI_clamp, n_lt0, n_l0, n_l8, n_l16, n_l24, n_l32, n_l40, n_l48, n_l56, n_l64, n_l72, n_s1, fX12_within_eq, fX13_in_eq, fX12_isSinger_eq, fX12_areTicks_eq, ite_true, ite_false, if_true, if_false, not_false_eq_true, not_true_eq_false, or_self, false_or, or_false, true_or, or_true, and_true, true_and, and_false, false_and, eq_self, fX12_seed, hc], ?_, ?_⟩
    · have k : z_ok 1 103 81 := n_ok (k := 81) (n := 82) rfl (by decide) (by decide)
      unfold fX13_seed
      rw [z_g_t m_ob, fX13_in_eq, z_b_s, if_neg hc, r_m0, z_g_t k, z_l_s]
      rfl
    obtain ⟨n, hn, rfl⟩ := n_in_nI (b := 65535) (by decide) hc
    obtain ⟨len, h1, h2, h3, h5, h6, h7, h8, h9⟩ := h
    have hl := p_law h7
    refine ⟨len, ?_, ?_, f_K h3 ?_ (fun i hi => ?_) ?_ ?_ ?_, f_C h5 ?_ ?_ ?_ ?_ ?_ ?_, f_T h6 ?_ ?_ ?_ ?_, h7, fun i hi => f_R (h8 i hi) (fun b h1 h2 => ?_) (fun b h1 h2 => ?_), f_L h9 (fun b h1 h2 => ?_) ?_ ?_ ?_ (fun b h1 h2 => ?_) (fun q hq => ?_)⟩
    all_goals first | (rw [u_o (by omega), u_o (by omega)]; done) | (have := p_le h7 (j := i) (by omega); rw [u_o (by omega), u_o (by omega)]; done) | (simp only [z_u_eq]; simp; done) | skip
    · refine ⟨fun f i hf hi => ?_, ?_, ?_⟩
      · rw [u_o (by omega), u_o (by omega), z_u_k (by omega), u_o (by decide)]
        exact h1.1 f i hf hi
      · rw [u_o (by decide), z_u_k (by decide), z_u_k (by decide), u_o (by decide)]
        exact h1.2.1
      · rw [u_o (by decide), z_u_at, z_u_at]
    · have e : ∀ k, k < 81 → z_u (z_u I 62 2 (nI n)) 103 81 (nI n) 103 k = I 103 k := fun k hk => by rw [z_u_k (by omega), u_o (by decide)]
      refine ⟨fun i hi => ?_, ?_, ⟨n, by omega, z_u_at _ _ _ _⟩⟩
      · rw [e i (by omega), e (8 + i) (by omega), e (16 + i) (by omega), e (24 + i) (by omega), e (32 + i) (by omega), e (40 + i) (by omega), e (48 + i) (by omega), e (56 + i) (by omega), e (72 + i) (by omega)]
        obtain ⟨g1, g2, g3, g4, g5, g6, g7, g8, g9, g10⟩ := h2.1 i hi
        exact ⟨g1, g2, g3, g4, g5, g6, g7, g8, g9, fun h0 f hf => by rw [e (8 * f + i) (by omega)]; exact g10 h0 f hf⟩
      · rw [e 80 (by decide)]
        exact h2.2.1
theorem n_abs {d : Int32} {b : Nat} (hb : b < 2 ^ 31) (h1 : -(b : Int) ≤ d.toInt) (h2 : d.toInt ≤ b) : ∃ n, n ≤ b ∧ z_abs d = nI n ∧ fX13_size d = some (nI n) := by
  unfold z_abs fX13_size
  by_cases h : (0 : Int32) ≤ d
  · have h0 : 0 ≤ d.toInt := by rw [Int32.le_iff_toInt_le] at h; exact h
    refine ⟨d.toInt.toNat, by omega, ?_, ?_⟩
    · rw [if_pos h, ← Int32.toInt_inj, nI_toInt (by omega)]; omega
    · rw [if_pos h]; congr 1; rw [← Int32.toInt_inj, nI_toInt (by omega)]; omega
  · have h0 : d.toInt < 0 := by
      rw [Int32.le_iff_toInt_le] at h
      have : ¬ (0 : Int) ≤ d.toInt := h
      omega
    refine ⟨(-d.toInt).toNat, by omega, ?_, ?_⟩
    · rw [if_neg h, ← Int32.toInt_inj, nI_toInt (by omega), Int32.toInt_sub, show (0 : Int32).toInt = 0 from rfl, Int.bmod_eq_of_le (by omega) (by omega)]; omega
    · rw [if_neg h]; congr 1; rw [← Int32.toInt_inj, nI_toInt (by omega), Int32.toInt_neg, Int.bmod_eq_of_le (by omega) (by omega)]; omega
theorem g_gcd : ∀ b, b < 41 → fX12_commonDivisor 2592000 (nI b) = some (nI (Nat.gcd 2592000 b)) ∧ fX13_gcd 2592000 (nI b) = some (nI (Nat.gcd 2592000 b)) ∧ (1 : Int32) ≤ nI (Nat.gcd 2592000 b) ∧ ¬ nI (Nat.gcd 2592000 b) = 0 := by decide +kernel
theorem n_diff {a b : Int32} {m : Int} (ha : -m ≤ a.toInt ∧ a.toInt ≤ m) (hb : -m ≤ b.toInt ∧ b.toInt ≤ m) (hm : m < 2 ^ 29) : (a - b).toInt = a.toInt - b.toInt := by
  rw [Int32.toInt_sub, Int.bmod_eq_of_le (by omega) (by omega)]
theorem call_meet : Call_meet := by
  intro x y I mu h
  rcases t_both h x with ⟨e1, e2⟩ | ⟨i, hi, rfl, -, e1, e2⟩
  · exact ⟨-1, by simp (disch := omega) only [z_ob, z_ok, z_ar, z_b_s, z_l_s, z_g_tr, z_x_il, z_x_ir, z_lay, z_shs, z_lens, nI_clamp, n_lt0, n_l0, n_l8, n_l16, n_l24, n_l32, n_l40, n_l48, n_l56, n_l64, n_l72, n_s1, fX12_within_eq, fX13_in_eq, fX12_isSinger_eq, fX12_areTicks_eq, ite_true, ite_false, if_true, if_false, not_false_eq_true, not_true_eq_false, or_self, false_or, or_false, true_or, or_true, and_true, true_and, and_false, false_and, eq_self, fX12_meet, e1], by simp (disch := omega) only [z_ob, z_ok, z_ar, z_b_s, z_l_s, z_g_tr, z_x_il, z_x_ir, z_lay, z_shs, z_lens, nI_clamp, n_lt0, n_l0, n_l8, n_l16, n_l24, n_l32, n_l40, n_l48, n_l56, n_l64, n_l72, n_s1, fX12_within_eq, fX13_in_eq, fX12_isSinger_eq, fX12_areTicks_eq, ite_true, ite_false, if_true, if_false, not_false_eq_true, not_true_eq_false, or_self, false_or, or_false, true_or, or_true, and_true, true_and, and_false, false_and, eq_self, fX13_meet, e2], h⟩
  rcases t_both h y with ⟨e3, e4⟩ | ⟨j, hj, rfl, -, e3, e4⟩
  · exact ⟨-1, by simp (disch := omega) only [z_ob, z_ok, z_ar, z_b_s, z_l_s, z_g_tr, z_x_il, z_x_ir, z_lay, z_shs, z_lens, nI_clamp, n_lt0, n_l0, n_l8, n_l16, n_l24, n_l32, n_l40, n_l48, n_l56, n_l64, n_l72, n_s1, fX12_within_eq, fX13_in_eq, fX12_isSinger_eq, fX12_areTicks_eq, ite_true, ite_false, if_true, if_false, not_false_eq_true, not_true_eq_false, or_self, false_or, or_false, true_or, or_true, and_true, true_and, and_false, false_and, eq_self, fX12_meet, e1, e3, n_10], by simp (disch := omega) only [z_ob, z_ok, z_ar, z_b_s, z_l_s, z_g_tr, z_x_il, z_x_ir, z_lay, z_shs, z_lens, nI_clamp, n_lt0, n_l0, n_l8, n_l16, n_l24, n_l32, n_l40, n_l48, n_l56, n_l64, n_l72, n_s1, fX12_within_eq, fX13_in_eq, fX12_isSinger_eq, fX12_areTicks_eq, ite_true, ite_false, if_true, if_false, not_false_eq_true, not_true_eq_false, or_self, false_or, or_false, true_or, or_true, and_true, true_and, and_false, false_and, eq_self, fX13_meet, e2, e4, n_10], h⟩
  by_cases hij : nI i = nI j
  · exact ⟨-1, by simp (disch := omega) only [z_ob, z_ok, z_ar, z_b_s, z_l_s, z_g_tr, z_x_il, z_x_ir, z_lay, z_shs, z_lens, nI_clamp, n_lt0, n_l0, n_l8, n_l16, n_l24, n_l32, n_l40, n_l48, n_l56, n_l64, n_l72, n_s1, fX12_within_eq, fX13_in_eq, fX12_isSinger_eq, fX12_areTicks_eq, ite_true, ite_false, if_true, if_false, not_false_eq_true, not_true_eq_false, or_self, false_or, or_false, true_or, or_true, and_true, true_and, and_false, false_and, eq_self, fX12_meet, e1, e3, n_10, hij], by simp (disch := omega) only [z_ob, z_ok, z_ar, z_b_s, z_l_s, z_g_tr, z_x_il, z_x_ir, z_lay, z_shs, z_lens, nI_clamp, n_lt0, n_l0, n_l8, n_l16, n_l24, n_l32, n_l40, n_l48, n_l56, n_l64, n_l72, n_s1, fX12_within_eq, fX13_in_eq, fX12_isSinger_eq, fX12_areTicks_eq, ite_true, ite_false, if_true, if_false, not_false_eq_true, not_true_eq_false, or_self, false_or, or_false, true_or, or_true, and_true, true_and, and_false, false_and, eq_self, fX13_meet, e2, e4, n_10, hij], h⟩
  · have h0 := h
    obtain ⟨len, h1, h2, -⟩ := h0
    have d1 := (h2.1 i hi).2.1
    have d2 := (h2.1 j hj).2.1
    have hd := n_diff (m := 20) d1 d2 (by decide)
    obtain ⟨n, hn, a1, a2⟩ := n_abs (d := I 103 (8 + i) - I 103 (8 + j)) (b := 40) (by decide) (by omega) (by omega)
    obtain ⟨g1, g2, g3, g4⟩ := g_gcd n (by omega)
    have hi8 : ¬ 8 ≤ i := by omega
    have hj8 : ¬ 8 ≤ j := by omega
    have hi82 : ¬ 82 ≤ 8 + i := by omega
    have hj82 : ¬ 82 ≤ 8 + j := by omega
    refine ⟨2592000 / nI (Nat.gcd 2592000 n), ?_, ?_, h⟩
    · simp (disch := omega) only [z_ob, z_ok, z_ar, z_b_s, z_l_s, z_g_tr, z_x_il, z_x_ir, z_lay, z_shs, z_lens, nI_clamp, n_lt0, n_l0, n_l8, n_l16, n_l24, n_l32, n_l40, n_l48, n_l56, n_l64, n_l72, n_s1, fX12_within_eq, fX13_in_eq, fX12_isSinger_eq, fX12_areTicks_eq, ite_true, ite_false, if_true, if_false, not_false_eq_true, not_true_eq_false, or_self, false_or, or_false, true_or, or_true, and_true, true_and, and_false, false_and, eq_self, fX12_meet, e1, e3, n_10, hij, hi8, hj8, (z_ls62 mu hi).1, (z_ls62 mu hi).2, (z_ls62 mu hj).1, (z_ls62 mu hj).2, h1.1 1 i (by decide) hi, h1.1 1 j (by decide) hj, show 8 * 1 + i = 8 + i by omega, show 8 * 1 + j = 8 + j by omega, a1, g1, g3, g4]
    · simp (disch := omega) only [z_ob, z_ok, z_ar, z_b_s, z_l_s, z_g_tr, z_x_il, z_x_ir, z_lay, z_shs, z_lens, nI_clamp, n_lt0, n_l0, n_l8, n_l16, n_l24, n_l32, n_l40, n_l48, n_l56, n_l64, n_l72, n_s1, fX12_within_eq, fX13_in_eq, fX12_isSinger_eq, fX12_areTicks_eq, ite_true, ite_false, if_true, if_false, not_false_eq_true, not_true_eq_false, or_self, false_or, or_false, true_or, or_true, and_true, true_and, and_false, false_and, eq_self, fX13_meet, e2, e4, n_10, hij, hi82, hj82, a2, g2, g4]
