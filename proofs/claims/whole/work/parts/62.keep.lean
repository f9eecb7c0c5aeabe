/-! keep; done, waiting, fermatas -/
theorem c82 : c_St 82 := Or.inr (Or.inr rfl)
theorem call_keep : Call_keep := by
  intro I mu h
  obtain ⟨len, h⟩ := h
  have hw := h.1
  have hv := h.2.1
  have h0 : ∀ i, i < 8 → (I (62 + 2 + i) 0 = 0 ∨ I (62 + 2 + i) 0 = 1) ∧ (I (62 + 2 + i) 9 = 0 ∨ I (62 + 2 + i) 9 = 1) := by
    intro i hi
    rw [hw.1 0 i (by decide) hi, hw.1 9 i (by decide) hi]
    exact ⟨(v_at hv hi).1, (v_at hv hi).2.2.2.2.2.2.2.2.1⟩
  have e1 := c_cps (mu := mu) c82 c62 (by decide) h0
  have e2 : ∀ J, fX13_copies 103 105 J = some (fun c k => if c = 105 ∧ k < 82 then J 103 k else J c k) := fun J => m_cp ⟨rfl, rfl⟩ ⟨rfl, rfl⟩ (by decide)
  refine ⟨I 103 80, _, _, by
    unfold fX12_keep
    rw [z_g_t o_0, show z_Rm mu 0 7 = 82 from rfl, z_g_t (show z_ob 82 9 from rfl), r_05, e1, z_b_s, z_l_s, z_g_t o_62]
    congr 2
    rw [u_o (by decide)]
    exact hw.2.1, by
    unfold fX13_keep
    rw [z_g_t m_ob, z_l_s, r_m0, show z_Rm mu 102 2 = 105 from rfl, e2, z_b_s, z_g_t (n_ok (k := 80) (n := 82) rfl (by decide) (by decide))]
    congr 2
    show (if _ then _ else _) = _
    rw [if_neg (by decide), u_o (by decide), u_o (by decide)]
    rfl, ?_⟩
  obtain ⟨w1, w2, w3, w5, w6, w7, w8, w9⟩ := h
  have hl := p_law w7
  have hb : ∀ b, b ≠ 105 → b ≠ 102 → b ≠ 0 → ¬ (82 ≤ b ∧ b < 92) → (fun c k => if c = 105 ∧ k < 82 then z_u (z_u (fun c f => if c = 82 ∧ (f = 1 ∨ f = 2) then I 62 f else if 82 + 2 ≤ c ∧ c < 82 + 10 ∧ f < 10 then I (62 + (c - 82)) f else I c f) 0 8 1) 102 57 1 103 k else z_u (z_u (fun c f => if c = 82 ∧ (f = 1 ∨ f = 2) then I 62 f else if 82 + 2 ≤ c ∧ c < 82 + 10 ∧ f < 10 then I (62 + (c - 82)) f else I c f) 0 8 1) 102 57 1 c k) b = I b := by
    intro b p1 p2 p3 p4
    funext k
    simp only [z_u_eq]
    have q1 : ¬ (b = 82 ∧ (k = 1 ∨ k = 2)) := by omega
    have q2 : ¬ (82 + 2 ≤ b ∧ b < 82 + 10 ∧ k < 10) := by omega
    simp only [p1, p2, p3, q1, q2, false_and, if_false, ite_false]
  have hr : ∀ k, k ≠ 57 → (fun c k => if c = 105 ∧ k < 82 then z_u (z_u (fun c f => if c = 82 ∧ (f = 1 ∨ f = 2) then I 62 f else if 82 + 2 ≤ c ∧ c < 82 + 10 ∧ f < 10 then I (62 + (c - 82)) f else I c f) 0 8 1) 102 57 1 103 k else z_u (z_u (fun c f => if c = 82 ∧ (f = 1 ∨ f = 2) then I 62 f else if 82 + 2 ≤ c ∧ c < 82 + 10 ∧ f < 10 then I (62 + (c - 82)) f else I c f) 0 8 1) 102 57 1 c k) 102 k = I 102 k := by
    intro k hk
    simp only [z_u_eq]
    grind
  refine ⟨len, f_W w1 (fun i hi => ?_) ?_ ?_ ?_, f_V w2 ?_, Or.inr ⟨⟨fun f i hf hi => ?_, ?_, ?_⟩, ?_⟩, ?_, f_T w6 ?_ ?_ ?_ ?_, w7, fun i hi => f_R (w8 i hi) (fun b h1 h2 => ?_) (fun b h1 h2 => ?_), f_L w9 (fun b h1 h2 => ?_) ?_ ?_ ?_ (fun b h1 h2 => ?_)⟩
  all_goals first | (exact hb _ (by omega) (by omega) (by omega) (by omega)) | (have := p_le w7 (j := i) (by omega); exact hb _ (by omega) (by omega) (by omega) (by omega)) | (exact hr _ (by decide)) | (rw [hb _ (by omega) (by omega) (by omega) (by omega)]; done) | skip
  · have e := w1.1 f i hf hi
    simp only [z_u_eq]
    have p1 : ¬ (82 + 2 + i = 105 ∧ f < 82) := by omega
    have p2 : ¬ (82 + 2 + i = 102 ∧ f = 57) := by omega
    have p3 : ¬ (82 + 2 + i = 0 ∧ f = 8) := by omega
    have p4 : ¬ (82 + 2 + i = 82 ∧ (f = 1 ∨ f = 2)) := by omega
    have p5 : 82 + 2 ≤ 82 + 2 + i ∧ 82 + 2 + i < 82 + 10 ∧ f < 10 := by omega
    have p6 : 8 * f + i < 82 := by omega
    rw [if_neg p1, if_neg p2, if_neg p3, if_neg p4, if_pos p5, if_pos ⟨rfl, p6⟩, show 62 + (82 + 2 + i - 82) = 62 + 2 + i by omega, e]
    simp
  · have := w1.2.1
    simp [z_u_eq, this]
  · have := w1.2.2
    simp [z_u_eq, this]
  · have hx : ∀ k, k < 82 → (fun c k => if c = 105 ∧ k < 82 then z_u (z_u (fun c f => if c = 82 ∧ (f = 1 ∨ f = 2) then I 62 f else if 82 + 2 ≤ c ∧ c < 82 + 10 ∧ f < 10 then I (62 + (c - 82)) f else I c f) 0 8 1) 102 57 1 103 k else z_u (z_u (fun c f => if c = 82 ∧ (f = 1 ∨ f = 2) then I 62 f else if 82 + 2 ≤ c ∧ c < 82 + 10 ∧ f < 10 then I (62 + (c - 82)) f else I c f) 0 8 1) 102 57 1 c k) 105 k = I 103 k := by
      intro k hk
      simp [z_u_eq, hk]
    refine v_of (fun i hi => ?_) ?_ ?_
    · have e := v_at w2 hi
      have ln : len i ≤ 60 := (w8 i hi).1
      unfold v_ok at e ⊢
      dsimp only at e ⊢
      have g : ∀ f, f < 10 → 8 * f + i < 82 := fun f hf => by omega
      obtain ⟨g1, g2, g3, g4, g5, ⟨n, gn, g6⟩, g7, g8, g9, g10⟩ := e
      rw [hx _ (g 0 (by decide)), hx _ (g 1 (by decide)), hx _ (g 2 (by decide)), hx _ (g 3 (by decide)), hx _ (g 4 (by decide)), hx _ (g 5 (by decide)), hx _ (g 6 (by decide)), hx _ (g 7 (by decide)), hx _ (g 9 (by decide))]
      exact ⟨g1, g2, g3, g4, g5, ⟨n, by omega, g6⟩, g7, g8, g9, fun h0 f hf => by rw [hx _ (g f hf)]; exact g10 h0 f hf⟩
    · rw [hx 80 (by decide)]; exact w2.2.1
    · rw [hx 81 (by decide)]; exact w2.2.2
  · unfold r_C at w5 ⊢
    rw [hr 3 (by decide), hr 4 (by decide), hb 3 (by decide) (by decide) (by decide) (by decide)]
    refine ⟨w5.1, w5.2.1, ?_, ?_⟩
    · simp [z_u_eq]
    · right
      simp [z_u_eq]
theorem r_40 (mu : Nat → Nat) : z_Rm mu 0 4 = 59 := rfl
theorem c_isDone {st : Nat} (hs : c_St st) {mu : Nat → Nat} (hP : r_P mu) {I : Nat → Nat → Int32} {i : Nat} (hi : i < 8) : fX2_isDone 59 st (nI i) I (z_Rm mu) = some (if I (st + 2 + i) 5 < I (mu i) 3 then 0 else 1) := by
  obtain ⟨h1, h2, h3, h4⟩ := c_st hs mu
  have hr := o_roll hP (show i < 9 by omega)
  have hi8 : ¬ 8 ≤ i := by omega
  simp (disch := omega) only [z_ob, z_ok, z_ar, z_b_s, z_l_s, z_g_tr, z_x_il, z_x_ir, z_lay, z_shs, z_lens, nI_clamp, n_lt0, n_l0, n_l8, n_l16, n_l24, n_l32, n_l40, n_l48, n_l56, n_l64, n_l72, n_s1, fX12_within_eq, fX13_in_eq, fX12_isSinger_eq, fX12_areTicks_eq, ite_true, ite_false, if_true, if_false, not_false_eq_true, not_true_eq_false, or_self, false_or, or_false, true_or, or_true, and_true, true_and, and_false, false_and, eq_self, fX2_isDone, h1, h2, h3, (h4 i hi).1, (h4 i hi).2, n_in7' hi, n_10, hi8, r_4 hi, fX5_length, hr.1]
  split <;> rfl
theorem m_isDone {mu : Nat → Nat} {I : Nat → Nat → Int32} {i : Nat} (hi : i < 8) : fX13_isDone 102 (nI i) I (z_Rm mu) = some (if I 103 (40 + i) < I 110 i then 0 else 1) := by
  have hi8 : ¬ 8 ≤ i := by omega
  have hi82 : ¬ 82 ≤ 40 + i := by omega
  simp (disch := omega) only [z_ob, z_ok, z_ar, z_b_s, z_l_s, z_g_tr, z_x_il, z_x_ir, z_lay, z_shs, z_lens, nI_clamp, n_lt0, n_l0, n_l8, n_l16, n_l24, n_l32, n_l40, n_l48, n_l56, n_l64, n_l72, n_s1, fX12_within_eq, fX13_in_eq, fX12_isSinger_eq, fX12_areTicks_eq, ite_true, ite_false, if_true, if_false, not_false_eq_true, not_true_eq_false, or_self, false_or, or_false, true_or, or_true, and_true, true_and, and_false, false_and, eq_self, fX13_isDone, hi8, hi82]
  split <;> rfl
