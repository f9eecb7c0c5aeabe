/-! keep; done, waiting, fermatas -/
theorem c82 : c_St 82 := Or.inr (Or.inr rfl)
theorem rel_keep {I I2 : Nat → Nat → Int32} {mu len : Nat → Nat} (h : RelL I mu len) (hb : ∀ b, b ≠ 105 → b ≠ 102 → b ≠ 0 → ¬ (82 ≤ b ∧ b < 92) → I2 b = I b) (hm : ∀ k, k ≠ 57 → I2 102 k = I 102 k) (hk : I2 102 57 = 1) (h8 : I2 0 8 = 1) (h105 : ∀ k, k < 82 → I2 105 k = I 103 k) (h84 : ∀ i f, i < 8 → f < 10 → I2 (82 + 2 + i) f = I (62 + 2 + i) f) (h82 : I2 82 1 = I 62 1 ∧ I2 82 2 = I 62 2) : RelL I2 mu len := by
  obtain ⟨w1, w2, w3, w5, w6, w7, w8, w9⟩ := h
  have hl := p_law w7
  have hK : r_W I2 82 105 ∧ r_V I2 105 (fun _ => 60) := by
    refine ⟨⟨fun f i hf hi => ?_, ?_, ?_⟩, v_of (fun i hi => ?_) ?_ ?_⟩
    · rw [h84 i f hi hf, h105 _ (by omega)]
      exact w1.1 f i hf hi
    · rw [h82.1, h105 _ (by omega)]
      exact w1.2.1
    · rw [h82.2, h105 _ (by omega)]
      exact w1.2.2
    · have e := v_at w2 hi
      have ln : len i ≤ 60 := (w8 i hi).1
      unfold v_ok at e ⊢
      dsimp only at e ⊢
      have g : ∀ f, f < 10 → 8 * f + i < 82 := fun f hf => by omega
      obtain ⟨g1, g2, g3, g4, g5, ⟨n, gn, g6⟩, g7, g8, g9, g10⟩ := e
      rw [h105 _ (g 0 (by decide)), h105 _ (g 1 (by decide)), h105 _ (g 2 (by decide)), h105 _ (g 3 (by decide)), h105 _ (g 4 (by decide)), h105 _ (g 5 (by decide)), h105 _ (g 6 (by decide)), h105 _ (g 7 (by decide)), h105 _ (g 9 (by decide))]
      exact ⟨g1, g2, g3, g4, g5, ⟨n, by omega, g6⟩, g7, g8, g9, fun h0 f hf => by rw [h105 _ (g f hf)]; exact g10 h0 f hf⟩
    · rw [h105 80 (by decide)]; exact w2.2.1
    · rw [h105 81 (by decide)]; exact w2.2.2
  have hC : r_C I2 := by
    unfold r_C at w5 ⊢
    rw [hm 3 (by decide), hm 4 (by decide), hb 3 (by decide) (by decide) (by decide) (by decide), hk, h8]
    exact ⟨w5.1, w5.2.1, rfl, Or.inr rfl⟩
  refine ⟨f_W w1 (fun i hi => ?_) ?_ ?_ ?_, f_V w2 ?_, Or.inr hK, hC, f_T w6 ?_ ?_ ?_ ?_, w7, fun i hi => f_R (w8 i hi) (fun b h1 h2 => ?_) (fun b h1 h2 => ?_), f_L w9 (fun b h1 h2 => ?_) ?_ ?_ ?_ (fun b h1 h2 => ?_) (fun q hq => ?_)⟩
  all_goals first | (exact hb _ (by omega) (by omega) (by omega) (by omega)) | (have := p_le w7 (j := i) (by omega); exact hb _ (by omega) (by omega) (by omega) (by omega)) | (exact hm _ (by decide)) | (rw [hb _ (by omega) (by omega) (by omega) (by omega)]; done)
theorem call_keep : Call_keep := by
  intro I mu h
  obtain ⟨len, h⟩ := h
  have hw := h.1
  have hv := h.2.1
  have h0 : ∀ i, i < 8 → (I (62 + 2 + i) 0 = 0 ∨ I (62 + 2 + i) 0 = 1) ∧ (I (62 + 2 + i) 9 = 0 ∨ I (62 + 2 + i) 9 = 1) := by
    intro i hi
    rw [hw.1 0 i (by decide) hi, hw.1 9 i (by decide) hi]
    exact ⟨(v_at hv hi).1, (v_at hv hi).2.2.2.2.2.2.2.2.1⟩
  have e1 := c_cps (mu := mu) c82 c62 (by decide) h0
  obtain ⟨J, hJ⟩ : ∃ J : Nat → Nat → Int32, J = fun c f => if c = 82 ∧ (f = 1 ∨ f = 2) then I 62 f else if 82 + 2 ≤ c ∧ c < 82 + 10 ∧ f < 10 then I (62 + (c - 82)) f else I c f := ⟨_, rfl⟩
  rw [← hJ] at e1
  have jb : ∀ b, ¬ (82 ≤ b ∧ b < 92) → J b = I b := by
    intro b hb
    funext f
    rw [hJ]
    dsimp only
    rw [if_neg (by omega), if_neg (by omega)]
  have e2 : ∀ J, fX13_copies 103 105 J = some (fun c k => if c = 105 ∧ k < 82 then J 103 k else J c k) := fun J => m_cp ⟨rfl, rfl⟩ ⟨rfl, rfl⟩ (by decide)
  refine ⟨I 103 80, z_u J 0 8 1, fun c k => if c = 105 ∧ k < 82 then z_u (z_u J 0 8 1) 102 57 1 103 k else z_u (z_u J 0 8 1) 102 57 1 c k, ?_, ?_, len, rel_keep h (fun b h1 h2 h3 h4 => ?_) (fun k hk => ?_) ?_ ?_ (fun k hk => ?_) (fun i f hi hf => ?_) ⟨?_, ?_⟩⟩
  · unfold fX12_keep
    rw [z_g_t o_0, show z_Rm mu 0 7 = 82 from rfl, z_g_t (show z_ob 82 9 from rfl), r_05, e1, z_b_s, z_l_s, z_g_t o_62, u_o (by decide), jb 62 (by omega), hw.2.1]
  · unfold fX13_keep
    rw [z_g_t m_ob, z_l_s, r_m0, show z_Rm mu 102 2 = 105 from rfl, e2, z_b_s, z_g_t (show z_ok 1 103 80 from n_ok (k := 80) (n := 82) rfl (by decide) (by decide))]
    have c80 : (80 : Int32).toNatClampNeg = 80 := rfl
    rw [c80]
    congr 2
    dsimp only
    rw [if_neg (by decide), u_o (by decide), u_o (by decide), jb 103 (by omega)]
  · funext k
    rw [if_neg (by omega), u_o h2, u_o h3, jb b h4]
  · rw [if_neg (by omega), z_u_k hk, u_o (by decide), jb 102 (by omega)]
  · rw [if_neg (by omega), z_u_at]
  · rw [if_neg (by omega), u_o (by decide), z_u_at]
  · rw [if_pos ⟨rfl, hk⟩, u_o (by decide), u_o (by decide), jb 103 (by omega)]
  · rw [if_neg (by omega), u_o (by omega), u_o (by omega), hJ]
    dsimp only
    rw [if_neg (by omega), if_pos (by omega), show 62 + (82 + 2 + i - 82) = 62 + 2 + i by omega]
  · rw [if_neg (by omega), u_o (by omega), u_o (by omega), hJ]
    dsimp only
    rw [if_pos (by omega)]
  · rw [if_neg (by omega), u_o (by omega), u_o (by omega), hJ]
    dsimp only
    rw [if_pos (by omega)]
theorem r_40 (mu : Nat → Nat) : z_Rm mu 0 4 = 59 := rfl
theorem c_isDone {st : Nat} (hs : c_St st) {mu : Nat → Nat} (hP : r_P mu) {I : Nat → Nat → Int32} {i : Nat} (hi : i < 8) : fX2_isDone 59 st (nI i) I (z_Rm mu) = some (if I (st + 2 + i) 5 < I (mu i) 3 then 0 else 1) := by
  obtain ⟨h1, h2, h3, h4⟩ := c_st hs mu
  have hr := o_roll hP (show i < 9 by omega)
  have hi8 : ¬ 8 ≤ i := by omega
  simp (disch := omega) only [z_ob, z_ok, z_ar, z_b_s, z_l_s, z_g_tr, z_x_il, z_x_ir, z_lay, z_shs, z_lens, nI_clamp, n_lt0, n_l0, n_l8, n_l16, n_l24, n_l32, n_l40, n_l48, n_l56, n_l64, n_l72, n_s1, fX12_within_eq, fX13_in_eq, fX12_isSinger_eq, fX12_areTicks_eq, ite_true, ite_false, if_true, if_false, not_false_eq_true, not_true_eq_false, or_self, false_or, or_false, true_or, or_true, and_true, true_and, and_false, false_and, eq_self, fX2_isDone, h1, h2, h3, (h4 i hi).1, (h4 i hi).2, n_in7' hi, n_10, hi8, r_4 hi, fX5_length, hr.1]
  split <;> rfl
theorem m_isDone {mu : Nat → Nat} {I : Nat → Nat → Int32} {i : Nat} (hi : i < 8) : fX13_isDone 102 (nI i) I (z_Rm mu) = some (if I 103 (40 + i) < I 110 i then 0 else 1) := by
  have hi8 : ¬ 8 ≤ i := by omega
  have hi82 : ¬ 82 ≤ 40 + i := by omega
  simp (disch := omega) only [z_ob, z_ok, z_ar, z_b_s, z_l_s, z_g_tr, z_x_il, z_x_ir, z_lay, z_shs, z_lens, nI_clamp, n_lt0, n_l0, n_l8, n_l16, n_l24, n_l32, n_l40, n_l48, n_l56, n_l64, n_l72, n_s1, fX12_within_eq, fX13_in_eq, fX12_isSinger_eq, fX12_areTicks_eq, ite_true, ite_false, if_true, if_false, not_false_eq_true, not_true_eq_false, or_self, false_or, or_false, true_or, or_true, and_true, true_and, and_false, false_and, eq_self, fX13_isDone, hi8, hi82]
  split <;> rfl
theorem c_waitBits {st : Nat} (h : c_St st) {mu : Nat → Nat} {I : Nat → Nat → Int32} : fX9_waitingBits st I (z_Rm mu) = some (nI (n_set (fun i => I (st + 2 + i) 0 != 0 && I (st + 2 + i) 9 != 0) 8)) := by
  obtain ⟨h1, h2, h3, h4⟩ := c_st h mu
  unfold fX9_waitingBits
  rw [z_g_t h1]
  refine (z_lp_b 8 (nI (n_set (fun i => I (st + 2 + i) 0 != 0 && I (st + 2 + i) 9 != 0) 8)) (fun k => (nI (n_set (fun i => I (st + 2 + i) 0 != 0 && I (st + 2 + i) 9 != 0) k), nI k)) rfl ?_ ?_ (by decide)).trans rfl
  · intro k hk
    have hc : (nI k).toNatClampNeg = k := nI_clamp (by omega)
    unfold fX9_waitingBits_b4
    dsimp only
    rw [if_neg (n_8 hk), h2, z_g_t (n_ok h3 hk (by decide)), hc, (h4 k hk).1, z_g_t (h4 k hk).2]
    simp only [z_l_s, n_s1, n_shl (show k < 31 by omega), n_or]
    show _ = some (Sum.inl (nI (if (I (st + 2 + k) 0 != 0 && I (st + 2 + k) 9 != 0) = true then _ else _), _))
    by_cases hz : I (st + 2 + k) 0 = 0
    · simp [hz]
    · by_cases hz2 : I (st + 2 + k) 9 = 0
      · simp [hz, hz2]
      · simp [hz, hz2]
  · unfold fX9_waitingBits_b4
    dsimp only
    rw [if_pos n_88]
theorem m_waitSet {mu : Nat → Nat} {I : Nat → Nat → Int32} : fX13_waitingSet 102 I (z_Rm mu) = some (nI (n_set (fun i => I 103 i == 1 && I 103 (72 + i) == 1) 8)) := by
  unfold fX13_waitingSet
  rw [z_g_t m_ob]
  refine (z_lp_b 8 (nI (n_set (fun i => I 103 i == 1 && I 103 (72 + i) == 1) 8)) (fun k => (nI (n_set (fun i => I 103 i == 1 && I 103 (72 + i) == 1) k), nI k)) rfl ?_ ?_ (by decide)).trans rfl
  · intro k hk
    unfold fX13_waitingSet_b4
    dsimp only
    rw [if_neg (n_8 hk), m_told hk, z_b_s, r_m0, n_l72, z_g_t (k_103 (by omega)), nI_clamp (by omega)]
    simp only [z_l_s, n_s1, n_shl (show k < 31 by omega), n_or]
    show _ = some (Sum.inl (nI (if (I 103 k == 1 && I 103 (72 + k) == 1) = true then _ else _), _))
    by_cases hz : I 103 k = 1
    · by_cases hz2 : I 103 (72 + k) = 1
      · simp [hz, hz2]
      · simp [hz, hz2]
    · simp [hz]
  · unfold fX13_waitingSet_b4
    dsimp only
    rw [if_pos n_88]
theorem c_doneBits {st : Nat} (h : c_St st) {mu : Nat → Nat} (hP : r_P mu) {I : Nat → Nat → Int32} : fX2_doneBits 59 st I (z_Rm mu) = some (nI (n_set (fun i => I (st + 2 + i) 0 != 0 && !decide (I (st + 2 + i) 5 < I (mu i) 3)) 8)) := by
  obtain ⟨h1, h2, h3, h4⟩ := c_st h mu
  unfold fX2_doneBits
  rw [z_g_t (show z_ob 59 2 from rfl), z_g_t h1]
  refine (z_lp_b 8 (nI (n_set (fun i => I (st + 2 + i) 0 != 0 && !decide (I (st + 2 + i) 5 < I (mu i) 3)) 8)) (fun k => (nI (n_set (fun i => I (st + 2 + i) 0 != 0 && !decide (I (st + 2 + i) 5 < I (mu i) 3)) k), nI k)) rfl ?_ ?_ (by decide)).trans rfl
  · intro k hk
    have hc : (nI k).toNatClampNeg = k := nI_clamp (by omega)
    unfold fX2_doneBits_b4
    dsimp only
    rw [if_neg (n_8 hk), h2, z_g_t (n_ok h3 hk (by decide)), hc, (h4 k hk).1, z_g_t (h4 k hk).2, c_isDone h hP hk, z_b_s]
    simp only [z_l_s, n_s1, n_shl (show k < 31 by omega), n_or]
    show _ = some (Sum.inl (nI (if (I (st + 2 + k) 0 != 0 && !decide (I (st + 2 + k) 5 < I (mu k) 3)) = true then _ else _), _))
    by_cases hz : I (st + 2 + k) 0 = 0
    · simp [hz]
    · by_cases hz2 : I (st + 2 + k) 5 < I (mu k) 3
      · simp [hz, hz2]
      · simp [hz, hz2]
  · unfold fX2_doneBits_b4
    dsimp only
    rw [if_pos n_88]
theorem m_doneSet {mu : Nat → Nat} {I : Nat → Nat → Int32} : fX13_doneSet 102 I (z_Rm mu) = some (nI (n_set (fun i => I 103 i == 1 && !decide (I 103 (40 + i) < I 110 i)) 8)) := by
  unfold fX13_doneSet
  rw [z_g_t m_ob]
  refine (z_lp_b 8 (nI (n_set (fun i => I 103 i == 1 && !decide (I 103 (40 + i) < I 110 i)) 8)) (fun k => (nI (n_set (fun i => I 103 i == 1 && !decide (I 103 (40 + i) < I 110 i)) k), nI k)) rfl ?_ ?_ (by decide)).trans rfl
  · intro k hk
    unfold fX13_doneSet_b4
    dsimp only
    rw [if_neg (n_8 hk), m_told hk, z_b_s, m_isDone hk, z_b_s]
    simp only [z_l_s, n_s1, n_shl (show k < 31 by omega), n_or]
    show _ = some (Sum.inl (nI (if (I 103 k == 1 && !decide (I 103 (40 + k) < I 110 k)) = true then _ else _), _))
    by_cases hz : I 103 k = 1
    · by_cases hz2 : I 103 (40 + k) < I 110 k
      · simp [hz, hz2]
      · simp [hz, hz2]
    · simp [hz]
  · unfold fX13_doneSet_b4
    dsimp only
    rw [if_pos n_88]
