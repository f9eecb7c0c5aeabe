/-! singer, anew, keep -/
/-- the ranges of one singer's ten numbers -/
def v_ok (g : Nat → Int32) (n : Nat) : Prop := (g 0 = 0 ∨ g 0 = 1) ∧ (-20 ≤ (g 1).toInt ∧ (g 1).toInt ≤ 20) ∧ (∃ k, k ≤ 15 ∧ g 2 = nI k) ∧ (∃ k, k ≤ 3 ∧ g 3 = nI k) ∧ (∃ k, k ≤ 20 ∧ g 4 = nI k) ∧ (∃ k, k ≤ n ∧ g 5 = nI k) ∧ (∃ k, k ≤ 599 ∧ g 6 = nI k) ∧ (∃ k, k ≤ 20 ∧ g 7 = nI k) ∧ (g 9 = 0 ∨ g 9 = 1) ∧ (g 0 = 0 → ∀ f, f < 10 → g f = 0)
theorem v_at {I : Nat → Nat → Int32} {a i : Nat} {len : Nat → Nat} (h : r_V I a len) (hi : i < 8) : v_ok (fun f => I a (8 * f + i)) (len i) := by
  obtain ⟨g1, g2, g3, g4, g5, g6, g7, g8, g9, g10⟩ := h.1 i hi
  unfold v_ok
  dsimp only
  rw [show 8 * 0 + i = i by omega, show 8 * 1 + i = 8 + i by omega, show 8 * 2 + i = 16 + i by omega, show 8 * 3 + i = 24 + i by omega, show 8 * 4 + i = 32 + i by omega, show 8 * 5 + i = 40 + i by omega, show 8 * 6 + i = 48 + i by omega, show 8 * 7 + i = 56 + i by omega, show 8 * 9 + i = 72 + i by omega]
  exact ⟨g1, g2, g3, g4, g5, g6, g7, g8, g9, g10⟩
theorem v_of {I : Nat → Nat → Int32} {a : Nat} {len : Nat → Nat} (h : ∀ i, i < 8 → v_ok (fun f => I a (8 * f + i)) (len i)) (h1 : ∃ n, n ≤ 99999 ∧ I a 80 = nI n) (h2 : ∃ n, n < 65536 ∧ I a 81 = nI n) : r_V I a len := by
  refine ⟨fun i hi => ?_, h1, h2⟩
  have := h i hi
  unfold v_ok at this
  dsimp only at this
  rw [show 8 * 0 + i = i by omega, show 8 * 1 + i = 8 + i by omega, show 8 * 2 + i = 16 + i by omega, show 8 * 3 + i = 24 + i by omega, show 8 * 4 + i = 32 + i by omega, show 8 * 5 + i = 40 + i by omega, show 8 * 6 + i = 48 + i by omega, show 8 * 7 + i = 56 + i by omega, show 8 * 9 + i = 72 + i by omega] at this
  exact this
/-- the stage's numbers are new, all else that counts is as it was -/
theorem rel_stage {I I2 : Nat → Nat → Int32} {mu len : Nat → Nat} (g : Nat → Nat → Int32) (h : RelL I mu len) (hb : ∀ b, ¬ (64 ≤ b ∧ b < 72) → b ≠ 62 → b ≠ 103 → I2 b = I b) (hc : ∀ i f, i < 8 → f < 10 → I2 (64 + i) f = g i f ∧ I2 103 (8 * f + i) = g i f) (ht : I2 62 1 = I2 103 80 ∧ I2 62 2 = I2 103 81) (hv : ∀ i, i < 8 → v_ok (g i) (len i)) (h1 : ∃ n, n ≤ 99999 ∧ I2 103 80 = nI n) (h2 : ∃ n, n < 65536 ∧ I2 103 81 = nI n) : RelL I2 mu len := by
  obtain ⟨w1, w2, w3, w5, w6, w7, w8, w9⟩ := h
  have hl := p_law w7
  refine ⟨⟨fun f i hf hi => ?_, ht⟩, v_of (fun i hi => ?_) h1 h2, f_K w3 ?_ (fun i hi => ?_) ?_ ?_ ?_, f_C w5 ?_ ?_ ?_ ?_ ?_ ?_, f_T w6 ?_ ?_ ?_ ?_, w7, fun i hi => f_R (w8 i hi) (fun b h1 h2 => ?_) (fun b h1 h2 => ?_), f_L w9 (fun b h1 h2 => ?_) ?_ ?_ ?_ (fun b h1 h2 => ?_) (fun q hq => ?_)⟩
  · rw [show 62 + 2 + i = 64 + i by omega, (hc i f hi hf).1, (hc i f hi hf).2]
  · have e : ∀ f, f < 10 → (fun f => I2 103 (8 * f + i)) f = g i f := fun f hf => (hc i f hi hf).2
    have := hv i hi
    unfold v_ok at this ⊢
    rw [e 0 (by decide), e 1 (by decide), e 2 (by decide), e 3 (by decide), e 4 (by decide), e 5 (by decide), e 6 (by decide), e 7 (by decide), e 9 (by decide)]
    obtain ⟨g1, g2, g3, g4, g5, g6, g7, g8, g9, g10⟩ := this
    exact ⟨g1, g2, g3, g4, g5, g6, g7, g8, g9, fun h0 f hf => by rw [e f hf]; exact g10 h0 f hf⟩
  all_goals first | (rw [hb _ (by omega) (by omega) (by omega)]; done) | (have := p_le w7 (j := i) (by omega); rw [hb _ (by omega) (by omega) (by omega)]; done)
theorem v_beg {g : Nat → Int32} {n : Nat} (h : v_ok g n) : v_ok (w_beg g) n := by
  obtain ⟨g1, g2, g3, g4, g5, g6, g7, g8, g9, g10⟩ := h
  exact ⟨g1, g2, g3, g4, g5, ⟨0, Nat.zero_le _, rfl⟩, ⟨0, by decide, rfl⟩, g5, Or.inl rfl, fun h0 f hf => by
    have := g10 h0
    unfold w_beg
    split
    · rfl
    · split
      · exact this 4 (by decide)
      · exact this f hf⟩
/-- g with one singer's numbers told anew -/
theorem call_singer : Call_singer := by
  intro x d s e l I mu h
  by_cases c1 : n_in x 0 7 = 0
  · exact ⟨0, I, I, by simp (disch := omega) only [z_ob, z_ok, z_ar, z_b_s, z_l_s, z_g_tr, z_x_il, z_x_ir, z_lay, z_shs, z_lens, nI_clamp, n_lt0, n_l0, n_l8, n_l16, n_l24, n_l32, n_l40, n_l48, n_l56, n_l64, n_l72, n_s1, fX12_within_eq, fX13_in_eq, fX12_isSinger_eq, fX12_areTicks_eq, ite_true, ite_false, if_true, if_false, not_false_eq_true, not_true_eq_false, or_self, false_or, or_false, true_or, or_true, and_true, true_and, and_false, false_and, eq_self, fX12_singer, c1], by simp (disch := omega) only [z_ob, z_ok, z_ar, z_b_s, z_l_s, z_g_tr, z_x_il, z_x_ir, z_lay, z_shs, z_lens, nI_clamp, n_lt0, n_l0, n_l8, n_l16, n_l24, n_l32, n_l40, n_l48, n_l56, n_l64, n_l72, n_s1, fX12_within_eq, fX13_in_eq, fX12_isSinger_eq, fX12_areTicks_eq, ite_true, ite_false, if_true, if_false, not_false_eq_true, not_true_eq_false, or_self, false_or, or_false, true_or, or_true, and_true, true_and, and_false, false_and, eq_self, fX13_singer, c1], h⟩
  by_cases c2 : n_in d (-20) 20 = 0
  · exact ⟨0, I, I, by simp (disch := omega) only [z_ob, z_ok, z_ar, z_b_s, z_l_s, z_g_tr, z_x_il, z_x_ir, z_lay, z_shs, z_lens, nI_clamp, n_lt0, n_l0, n_l8, n_l16, n_l24, n_l32, n_l40, n_l48, n_l56, n_l64, n_l72, n_s1, fX12_within_eq, fX13_in_eq, fX12_isSinger_eq, fX12_areTicks_eq, ite_true, ite_false, if_true, if_false, not_false_eq_true, not_true_eq_false, or_self, false_or, or_false, true_or, or_true, and_true, true_and, and_false, false_and, eq_self, fX12_singer, c1, c2], by simp (disch := omega) only [z_ob, z_ok, z_ar, z_b_s, z_l_s, z_g_tr, z_x_il, z_x_ir, z_lay, z_shs, z_lens, nI_clamp, n_lt0, n_l0, n_l8, n_l16, n_l24, n_l32, n_l40, n_l48, n_l56, n_l64, n_l72, n_s1, fX12_within_eq, fX13_in_eq, fX12_isSinger_eq, fX12_areTicks_eq, ite_true, ite_false, if_true, if_false, not_false_eq_true, not_true_eq_false, or_self, false_or, or_false, true_or, or_true, and_true, true_and, and_false, false_and, eq_self, fX13_singer, c1, c2], h⟩
  by_cases c3 : n_in s 0 15 = 0
  · exact ⟨0, I, I, by simp (disch := omega) only [z_ob, z_ok, z_ar, z_b_s, z_l_s, z_g_tr, z_x_il, z_x_ir, z_lay, z_shs, z_lens, nI_clamp, n_lt0, n_l0, n_l8, n_l16, n_l24, n_l32, n_l40, n_l48, n_l56, n_l64, n_l72, n_s1, fX12_within_eq, fX13_in_eq, fX12_isSinger_eq, fX12_areTicks_eq, ite_true, ite_false, if_true, if_false, not_false_eq_true, not_true_eq_false, or_self, false_or, or_false, true_or, or_true, and_true, true_and, and_false, false_and, eq_self, fX12_singer, c1, c2, c3], by simp (disch := omega) only [z_ob, z_ok, z_ar, z_b_s, z_l_s, z_g_tr, z_x_il, z_x_ir, z_lay, z_shs, z_lens, nI_clamp, n_lt0, n_l0, n_l8, n_l16, n_l24, n_l32, n_l40, n_l48, n_l56, n_l64, n_l72, n_s1, fX12_within_eq, fX13_in_eq, fX12_isSinger_eq, fX12_areTicks_eq, ite_true, ite_false, if_true, if_false, not_false_eq_true, not_true_eq_false, or_self, false_or, or_false, true_or, or_true, and_true, true_and, and_false, false_and, eq_self, fX13_singer, c1, c2, c3], h⟩
  by_cases c4 : n_in e 0 3 = 0
  · exact ⟨0, I, I, by simp (disch := omega) only [z_ob, z_ok, z_ar, z_b_s, z_l_s, z_g_tr, z_x_il, z_x_ir, z_lay, z_shs, z_lens, nI_clamp, n_lt0, n_l0, n_l8, n_l16, n_l24, n_l32, n_l40, n_l48, n_l56, n_l64, n_l72, n_s1, fX12_within_eq, fX13_in_eq, fX12_isSinger_eq, fX12_areTicks_eq, ite_true, ite_false, if_true, if_false, not_false_eq_true, not_true_eq_false, or_self, false_or, or_false, true_or, or_true, and_true, true_and, and_false, false_and, eq_self, fX12_singer, c1, c2, c3, c4], by simp (disch := omega) only [z_ob, z_ok, z_ar, z_b_s, z_l_s, z_g_tr, z_x_il, z_x_ir, z_lay, z_shs, z_lens, nI_clamp, n_lt0, n_l0, n_l8, n_l16, n_l24, n_l32, n_l40, n_l48, n_l56, n_l64, n_l72, n_s1, fX12_within_eq, fX13_in_eq, fX12_isSinger_eq, fX12_areTicks_eq, ite_true, ite_false, if_true, if_false, not_false_eq_true, not_true_eq_false, or_self, false_or, or_false, true_or, or_true, and_true, true_and, and_false, false_and, eq_self, fX13_singer, c1, c2, c3, c4], h⟩
  by_cases c5 : n_in l 1 20 = 0
  · exact ⟨0, I, I, by simp (disch := omega) only [z_ob, z_ok, z_ar, z_b_s, z_l_s, z_g_tr, z_x_il, z_x_ir, z_lay, z_shs, z_lens, nI_clamp, n_lt0, n_l0, n_l8, n_l16, n_l24, n_l32, n_l40, n_l48, n_l56, n_l64, n_l72, n_s1, fX12_within_eq, fX13_in_eq, fX12_isSinger_eq, fX12_areTicks_eq, ite_true, ite_false, if_true, if_false, not_false_eq_true, not_true_eq_false, or_self, false_or, or_false, true_or, or_true, and_true, true_and, and_false, false_and, eq_self, fX12_singer, c1, c2, c3, c4, c5], by simp (disch := omega) only [z_ob, z_ok, z_ar, z_b_s, z_l_s, z_g_tr, z_x_il, z_x_ir, z_lay, z_shs, z_lens, nI_clamp, n_lt0, n_l0, n_l8, n_l16, n_l24, n_l32, n_l40, n_l48, n_l56, n_l64, n_l72, n_s1, fX12_within_eq, fX13_in_eq, fX12_isSinger_eq, fX12_areTicks_eq, ite_true, ite_false, if_true, if_false, not_false_eq_true, not_true_eq_false, or_self, false_or, or_false, true_or, or_true, and_true, true_and, and_false, false_and, eq_self, fX13_singer, c1, c2, c3, c4, c5], h⟩
  obtain ⟨i, hi, rfl⟩ := n_in7 c1
  obtain ⟨sn, hs, rfl⟩ := n_in_nI (b := 15) (by decide) c3
  obtain ⟨en, he, rfl⟩ := n_in_nI (b := 3) (by decide) c4
  obtain ⟨ln, hln1, hln2, rfl⟩ := n_in_range (a := 1) (b := 20) (by decide) c5 (by decide)
  have hd : -20 ≤ d.toInt ∧ d.toInt ≤ 20 := by
    have := n_in_no c2
    rw [Int32.lt_iff_toInt_lt, Int32.lt_iff_toInt_lt, show (-20 : Int32).toInt = -20 from rfl, show (20 : Int32).toInt = 20 from rfl] at this
    omega
  have hi8 : ¬ 8 ≤ i := by omega
  have a0 : ¬ 82 ≤ i := by omega
  have a1 : ¬ 82 ≤ 8 + i := by omega
  have a2 : ¬ 82 ≤ 16 + i := by omega
  have a3 : ¬ 82 ≤ 24 + i := by omega
  have a4 : ¬ 82 ≤ 32 + i := by omega
  refine ⟨1, _, _, by simp (disch := omega) only [z_ob, z_ok, z_ar, z_b_s, z_l_s, z_g_tr, z_x_il, z_x_ir, z_lay, z_shs, z_lens, nI_clamp, n_lt0, n_l0, n_l8, n_l16, n_l24, n_l32, n_l40, n_l48, n_l56, n_l64, n_l72, n_s1, fX12_within_eq, fX13_in_eq, fX12_isSinger_eq, fX12_areTicks_eq, ite_true, ite_false, if_true, if_false, not_false_eq_true, not_true_eq_false, or_self, false_or, or_false, true_or, or_true, and_true, true_and, and_false, false_and, eq_self, fX12_singer, c1, c2, c3, c4, c5, hi8, (z_ls62 mu hi).1, (z_ls62 mu hi).2, c_beg (z_ls62 mu hi).2]; rfl, by simp (disch := omega) only [z_ob, z_ok, z_ar, z_b_s, z_l_s, z_g_tr, z_x_il, z_x_ir, z_lay, z_shs, z_lens, nI_clamp, n_lt0, n_l0, n_l8, n_l16, n_l24, n_l32, n_l40, n_l48, n_l56, n_l64, n_l72, n_s1, fX12_within_eq, fX13_in_eq, fX12_isSinger_eq, fX12_areTicks_eq, ite_true, ite_false, if_true, if_false, not_false_eq_true, not_true_eq_false, or_self, false_or, or_false, true_or, or_true, and_true, true_and, and_false, false_and, eq_self, fX13_singer, c1, c2, c3, c4, c5, a0, a1, a2, a3, a4, m_beg hi]; rfl, ?_⟩
  obtain ⟨len, h⟩ := h
  refine ⟨len, rel_stage (fun j f => if j = i then w_beg (fun f => if f = 0 then 1 else if f = 1 then d else if f = 2 then nI sn else if f = 3 then nI en else if f = 4 then nI ln else I 103 (8 * f + i)) f else I 103 (8 * f + j)) h (fun b h1 h2 h3 => ?_) (fun j f hj hf => ?_) ?_ (fun j hj => ?_) ?_ ?_⟩
  · funext k
    simp only [z_u_eq]
    grind
  · have e := h.1.1 f j hf hj
    rw [show 62 + 2 + j = 64 + j by omega] at e
    constructor
    · simp only [z_u_eq, w_beg]
      grind
    · simp only [z_u_eq, w_beg]
      grind
  · have := h.1.2
    constructor
    · simp only [z_u_eq]
      grind (splits := 40)
    · simp only [z_u_eq]
      grind (splits := 40)
  · by_cases hj2 : j = i
    · subst hj2
      simp only [if_true, ite_true]
      exact v_beg ⟨Or.inr rfl, hd, ⟨sn, hs, rfl⟩, ⟨en, he, rfl⟩, ⟨ln, hln2, rfl⟩, (v_at h.2.1 hj).2.2.2.2.2.1, (v_at h.2.1 hj).2.2.2.2.2.2.1, (v_at h.2.1 hj).2.2.2.2.2.2.2.1, (v_at h.2.1 hj).2.2.2.2.2.2.2.2.1, fun h0 => absurd h0 (show ¬ (1 : Int32) = 0 by decide)⟩
    · simp only [hj2, if_false, ite_false]
      exact v_at h.2.1 hj
  · obtain ⟨n, hn1, hn2⟩ := h.2.1.2.1
    exact ⟨n, hn1, by rw [← hn2]; simp only [z_u_eq]; grind⟩
  · obtain ⟨n, hn1, hn2⟩ := h.2.1.2.2
    exact ⟨n, hn1, by rw [← hn2]; simp only [z_u_eq]; grind⟩
