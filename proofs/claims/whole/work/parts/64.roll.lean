/-! asking a roll: both sides -/
section RQ
variable {I : Nat → Nat → Int32} {mu len : Nat → Nat} {i k n : Nat}
theorem c_has {r : Nat} (ho : z_ob r 5) (hn : I r 3 = nI n) (hn2 : n ≤ 60) (hk : k < 2 ^ 31) : fX5_has r (nI k) I = some (if k < n then 1 else 0) := by
  simp (disch := omega) only [z_ob, z_ok, z_ar, z_b_s, z_l_s, z_g_tr, z_x_il, z_x_ir, z_lay, z_shs, z_lens, nI_clamp, n_lt0, n_l0, n_l8, n_l16, n_l24, n_l32, n_l40, n_l48, n_l56, n_l64, n_l72, n_s1, fX12_within_eq, fX13_in_eq, fX12_isSinger_eq, fX12_areTicks_eq, ite_true, ite_false, if_true, if_false, not_false_eq_true, not_true_eq_false, or_self, false_or, or_false, true_or, or_true, and_true, true_and, and_false, false_and, eq_self, fX5_has, ho, hn]
  by_cases h : k < n
  · rw [if_pos h, if_neg (nI_ge h (by omega))]
  · rw [if_neg h, if_pos (nI_le (by omega) hk)]
theorem c_noteAt (hP : r_P mu) (hi : i < 9) (hn : I (mu i) 3 = nI n) (hn2 : n ≤ 60) (hk : k < 2 ^ 31) : fX5_noteAt (mu i) (nI k) I (z_Rm mu) = some (if k < n then I (mu i + 1) k else 0) := by
  have hr := o_roll hP hi
  unfold fX5_noteAt
  rw [z_g_t hr.1, c_has hr.1 hn hn2 hk, z_b_s]
  by_cases h : k < n
  · rw [if_pos h, if_neg (by decide), hr.2.1, z_g_t (n_ok hr.2.2.2.2.1 (by omega) (by decide)), nI_clamp hk, if_pos h]
  · rw [if_neg h, if_pos rfl, if_neg h]
theorem n_marks : ∀ h, h < 2 → ∀ b, b < 2 → ∀ g, g < 2 → ((nI (h + 2 * b + 4 * g) &&& 1 = 0) ↔ h = 0) ∧ ((nI (h + 2 * b + 4 * g) &&& 2 = 0) ↔ b = 0) ∧ ((nI (h + 2 * b + 4 * g) &&& 4 = 0) ↔ g = 0) := by decide +kernel
theorem c_marks (hP : r_P mu) (hi : i < 9) {h b g : Nat} (hn : I (mu i) 3 = nI n) (hn2 : n ≤ 60) (hk : k < n) (hh : h ≤ 1) (hb : b ≤ 1) (hg : g ≤ 1) (hm : I (mu i + 2) k = nI (h + 2 * b + 4 * g)) : fX5_hasFermata (mu i) (nI k) I (z_Rm mu) = some (nI h) ∧ fX5_hasBreath (mu i) (nI k) I (z_Rm mu) = some (nI b) ∧ fX5_begins (mu i) (nI k) I (z_Rm mu) = some (nI g) := by
  have hr := o_roll hP hi
  obtain ⟨m1, m2, m3⟩ := n_marks h (by omega) b (by omega) g (by omega)
  have one : ∀ x, x ≤ 1 → ¬ x = 0 → nI x = 1 := fun x h1 h2 => by
    have : x = 1 := by omega
    rw [this]; rfl
  refine ⟨?_, ?_, ?_⟩
  · unfold fX5_hasFermata
    rw [z_g_t hr.1, c_has hr.1 hn hn2 (by omega), z_b_s, if_pos hk, if_neg (by decide), hr.2.2.1, z_g_t (n_ok hr.2.2.2.2.2.1 (by omega) (by decide)), nI_clamp (by omega), hm]
    by_cases c : h = 0
    · rw [if_pos (m1.mpr c), c]; rfl
    · rw [if_neg (fun q => c (m1.mp q)), one h hh c]
  · unfold fX5_hasBreath
    rw [z_g_t hr.1, c_has hr.1 hn hn2 (by omega), z_b_s, if_pos hk, if_neg (by decide), hr.2.2.1, z_g_t (n_ok hr.2.2.2.2.2.1 (by omega) (by decide)), nI_clamp (by omega), hm]
    by_cases c : b = 0
    · rw [if_pos (m2.mpr c), c]; rfl
    · rw [if_neg (fun q => c (m2.mp q)), one b hb c]
  · unfold fX5_begins
    rw [z_g_t hr.1, c_has hr.1 hn hn2 (by omega), z_b_s, if_pos hk, if_neg (by decide), hr.2.2.1, z_g_t (n_ok hr.2.2.2.2.2.1 (by omega) (by decide)), nI_clamp (by omega), hm]
    by_cases c : g = 0
    · rw [if_pos (m3.mpr c), c]; rfl
    · rw [if_neg (fun q => c (m3.mp q)), one g hg c]
theorem n_l60 (a b : Nat) : (60 : Int32) * nI a + nI b = nI (60 * a + b) := by
  rw [show (60 : Int32) = nI 60 from rfl, n_mul, n_add]
theorem k_480 {c : Nat} (hc : z_len 1 c = 480) (hi : i < 8) (hk : k < 60) : z_ok 1 c (nI (60 * i + k)) := n_ok hc (by omega) (by decide)
/-- the model's count of holds -/
theorem m_holdsTo {m : Nat} (hm : m ≤ 60) (hi : i < 8) (hh : ∀ k, k < m → ∃ h, h ≤ 1 ∧ I 107 (60 * i + k) = nI h) : fX13_holdsTo 102 (nI i) (nI m) I (z_Rm mu) = some (nI (r_sum (I 107) (60 * i) m)) := by
  unfold fX13_holdsTo
  rw [z_g_t m_ob]
  refine (z_lp_b m (nI (r_sum (I 107) (60 * i) m)) (fun k => (nI (r_sum (I 107) (60 * i) k), nI k)) rfl ?_ ?_ (by omega)).trans rfl
  · intro k hk
    unfold fX13_holdsTo_b5
    dsimp only
    rw [if_neg (nI_ge hk (by omega)), show z_Rm mu 102 6 = 107 from rfl, n_l60, z_g_t (k_480 rfl hi (by omega)), nI_clamp (by omega), z_l_s, z_l_s, n_s1]
    obtain ⟨h, h1, h2⟩ := hh k hk
    rw [h2, n_add]
    congr 4
    show _ = if I 107 (60 * i + k) = 1 then _ else _
    rw [h2]
    have : h = 0 ∨ h = 1 := by omega
    rcases this with rfl | rfl
    · rw [if_neg (by decide)]; rfl
    · rw [if_pos (show nI 1 = 1 from rfl)]
  · unfold fX13_holdsTo_b5
    dsimp only
    rw [if_pos (nI_le (Nat.le_refl m) (by omega))]
/-- the class's count of fermatas -/
theorem c_fermW {m : Nat} (hP : r_P mu) (hi : i < 8) (h : r_Roll I i (mu i) n) (hm : m ≤ n) : fX5_fermatasWithin (mu i) (nI m) I (z_Rm mu) = some (nI (r_sum (I 107) (60 * i) m)) := by
  have hr := o_roll hP (show i < 9 by omega)
  obtain ⟨h1, h2, h3, h4, h5⟩ := h
  unfold fX5_fermatasWithin
  rw [z_g_t hr.1, if_neg (nI_pos (by omega)), h2, if_neg (nI_nlt hm (by omega)), hr.2.2.2.1, z_g_t (n_ok hr.2.2.2.2.2.2 (by omega) (by decide)), nI_clamp (by omega)]
  congr 1
  match m, hm with
  | 0, _ => exact h4
  | m + 1, hm => exact (h5 m (by omega)).2.2
theorem c_ferm (hP : r_P mu) (hi : i < 8) (h : r_Roll I i (mu i) n) : fX5_fermatas (mu i) I (z_Rm mu) = some (nI (r_sum (I 107) (60 * i) n)) := by
  have hr := o_roll hP (show i < 9 by omega)
  unfold fX5_fermatas
  rw [z_g_t hr.1, h.2.1, c_fermW hP hi h (Nat.le_refl n), z_b_s]
end RQ
theorem call_beat : Call_beat := by
  intro x k w I mu h
  obtain ⟨len, h⟩ := h
  have hR : Rel I mu := ⟨len, h⟩
  by_cases c1 : n_in x 0 7 = 0
  · exact ⟨-1, by simp (disch := omega) only [z_ob, z_ok, z_ar, z_b_s, z_l_s, z_g_tr, z_x_il, z_x_ir, z_lay, z_shs, z_lens, nI_clamp, n_lt0, n_l0, n_l8, n_l16, n_l24, n_l32, n_l40, n_l48, n_l56, n_l64, n_l72, n_s1, fX12_within_eq, fX13_in_eq, fX12_isSinger_eq, fX12_areTicks_eq, ite_true, ite_false, if_true, if_false, not_false_eq_true, not_true_eq_false, or_self, false_or, or_false, true_or, or_true, and_true, true_and, and_false, false_and, eq_self, fX12_beat, c1], by simp (disch := omega) only [z_ob, z_ok, z_ar, z_b_s, z_l_s, z_g_tr, z_x_il, z_x_ir, z_lay, z_shs, z_lens, nI_clamp, n_lt0, n_l0, n_l8, n_l16, n_l24, n_l32, n_l40, n_l48, n_l56, n_l64, n_l72, n_s1, fX12_within_eq, fX13_in_eq, fX12_isSinger_eq, fX12_areTicks_eq, ite_true, ite_false, if_true, if_false, not_false_eq_true, not_true_eq_false, or_self, false_or, or_false, true_or, or_true, and_true, true_and, and_false, false_and, eq_self, fX13_beat, c1], hR⟩
  obtain ⟨i, hi, rfl⟩ := n_in7 c1
  have hi8 : ¬ 8 ≤ i := by omega
  have hP := h.2.2.2.2.2.1
  have h8 := h.2.2.2.2.2.2.1 i hi
  have hr := o_roll hP (show i < 9 by omega)
  by_cases c2 : n_in k 0 (nI (len i) - 1) = 0
  · exact ⟨-1, by simp (disch := omega) only [z_ob, z_ok, z_ar, z_b_s, z_l_s, z_g_tr, z_x_il, z_x_ir, z_lay, z_shs, z_lens, nI_clamp, n_lt0, n_l0, n_l8, n_l16, n_l24, n_l32, n_l40, n_l48, n_l56, n_l64, n_l72, n_s1, fX12_within_eq, fX13_in_eq, fX12_isSinger_eq, fX12_areTicks_eq, ite_true, ite_false, if_true, if_false, not_false_eq_true, not_true_eq_false, or_self, false_or, or_false, true_or, or_true, and_true, true_and, and_false, false_and, eq_self, fX12_beat, c1, hi8, r_4 hi, hr.1, fX5_length, h8.2.1, c2], by simp (disch := omega) only [z_ob, z_ok, z_ar, z_b_s, z_l_s, z_g_tr, z_x_il, z_x_ir, z_lay, z_shs, z_lens, nI_clamp, n_lt0, n_l0, n_l8, n_l16, n_l24, n_l32, n_l40, n_l48, n_l56, n_l64, n_l72, n_s1, fX12_within_eq, fX13_in_eq, fX12_isSinger_eq, fX12_areTicks_eq, ite_true, ite_false, if_true, if_false, not_false_eq_true, not_true_eq_false, or_self, false_or, or_false, true_or, or_true, and_true, true_and, and_false, false_and, eq_self, fX13_beat, c1, hi8, h8.2.2.1, c2], hR⟩
  have hl : len i ≠ 0 := by
    intro e
    rw [e] at c2
    have := n_in_no c2
    rw [Int32.lt_iff_toInt_lt, Int32.lt_iff_toInt_lt] at this
    have q : (nI 0 - 1).toInt = -1 := by decide
    rw [q, show (0 : Int32).toInt = 0 from rfl] at this
    omega
  have hl60 := h8.1
  rw [show (1 : Int32) = nI 1 from rfl, n_sub (by omega)] at c2
  obtain ⟨j, hj, rfl⟩ := n_in_nI (b := len i - 1) (by omega) c2
  have e1 : nI (len i) - 1 = nI (len i - 1) := n_sub (b := 1) (by omega)
  obtain ⟨⟨v, hv, v1, v2⟩, ⟨a, b, g, ha, hb, hg, q1, q2, q3, q4, -⟩, -⟩ := h8.2.2.2.2 j (by omega)
  obtain ⟨m1, m2, m3⟩ := c_marks hP (show i < 9 by omega) h8.2.1 hl60 (show j < len i by omega) ha hb hg q4
  have hc := c_noteAt hP (show i < 9 by omega) h8.2.1 hl60 (show j < 2 ^ 31 by omega)
  rw [if_pos (show j < len i by omega), v1] at hc
  have hj480 : ¬ 480 ≤ 60 * i + j := by omega
  have bo : ∀ x, x ≤ 1 → (if nI x = 0 then some (0 : Int32) else some 1) = some (nI x) := fun x hx => by
    have : x = 0 ∨ x = 1 := by omega
    rcases this with rfl | rfl <;> rfl
  by_cases w0 : w = 0
  · subst w0
    exact ⟨nI v, by simp (disch := omega) only [z_ob, z_ok, z_ar, z_b_s, z_l_s, z_g_tr, z_x_il, z_x_ir, z_lay, z_shs, z_lens, nI_clamp, n_lt0, n_l0, n_l8, n_l16, n_l24, n_l32, n_l40, n_l48, n_l56, n_l64, n_l72, n_s1, fX12_within_eq, fX13_in_eq, fX12_isSinger_eq, fX12_areTicks_eq, ite_true, ite_false, if_true, if_false, not_false_eq_true, not_true_eq_false, or_self, false_or, or_false, true_or, or_true, and_true, true_and, and_false, false_and, eq_self, fX12_beat, c1, hi8, r_4 hi, hr.1, fX5_length, h8.2.1, e1, c2, hc], by simp (disch := omega) only [z_ob, z_ok, z_ar, z_b_s, z_l_s, z_g_tr, z_x_il, z_x_ir, z_lay, z_shs, z_lens, nI_clamp, n_lt0, n_l0, n_l8, n_l16, n_l24, n_l32, n_l40, n_l48, n_l56, n_l64, n_l72, n_s1, fX12_within_eq, fX13_in_eq, fX12_isSinger_eq, fX12_areTicks_eq, ite_true, ite_false, if_true, if_false, not_false_eq_true, not_true_eq_false, or_self, false_or, or_false, true_or, or_true, and_true, true_and, and_false, false_and, eq_self, fX13_beat, c1, hi8, h8.2.2.1, e1, c2, show n_in 0 0 3 = 1 from rfl, n_10, n_l60, hj480, v2], hR⟩
  by_cases w1 : w = 1
  · subst w1
    exact ⟨nI a, by simp (disch := omega) only [z_ob, z_ok, z_ar, z_b_s, z_l_s, z_g_tr, z_x_il, z_x_ir, z_lay, z_shs, z_lens, nI_clamp, n_lt0, n_l0, n_l8, n_l16, n_l24, n_l32, n_l40, n_l48, n_l56, n_l64, n_l72, n_s1, fX12_within_eq, fX13_in_eq, fX12_isSinger_eq, fX12_areTicks_eq, ite_true, ite_false, if_true, if_false, not_false_eq_true, not_true_eq_false, or_self, false_or, or_false, true_or, or_true, and_true, true_and, and_false, false_and, eq_self, fX12_beat, c1, hi8, r_4 hi, hr.1, fX5_length, h8.2.1, e1, c2, n_10, m1, bo a ha], by simp (disch := omega) only [z_ob, z_ok, z_ar, z_b_s, z_l_s, z_g_tr, z_x_il, z_x_ir, z_lay, z_shs, z_lens, nI_clamp, n_lt0, n_l0, n_l8, n_l16, n_l24, n_l32, n_l40, n_l48, n_l56, n_l64, n_l72, n_s1, fX12_within_eq, fX13_in_eq, fX12_isSinger_eq, fX12_areTicks_eq, ite_true, ite_false, if_true, if_false, not_false_eq_true, not_true_eq_false, or_self, false_or, or_false, true_or, or_true, and_true, true_and, and_false, false_and, eq_self, fX13_beat, c1, hi8, h8.2.2.1, e1, c2, show n_in 1 0 3 = 1 from rfl, n_10, n_l60, hj480, q1], hR⟩
  by_cases w2 : w = 2
  · subst w2
    exact ⟨nI b, by simp (disch := omega) only [z_ob, z_ok, z_ar, z_b_s, z_l_s, z_g_tr, z_x_il, z_x_ir, z_lay, z_shs, z_lens, nI_clamp, n_lt0, n_l0, n_l8, n_l16, n_l24, n_l32, n_l40, n_l48, n_l56, n_l64, n_l72, n_s1, fX12_within_eq, fX13_in_eq, fX12_isSinger_eq, fX12_areTicks_eq, ite_true, ite_false, if_true, if_false, not_false_eq_true, not_true_eq_false, or_self, false_or, or_false, true_or, or_true, and_true, true_and, and_false, false_and, eq_self, fX12_beat, c1, hi8, r_4 hi, hr.1, fX5_length, h8.2.1, e1, c2, m2, bo b hb, show ((2 : Int32) = 0) = False from eq_false (by decide), show ((2 : Int32) = 1) = False from eq_false (by decide)], by simp (disch := omega) only [z_ob, z_ok, z_ar, z_b_s, z_l_s, z_g_tr, z_x_il, z_x_ir, z_lay, z_shs, z_lens, nI_clamp, n_lt0, n_l0, n_l8, n_l16, n_l24, n_l32, n_l40, n_l48, n_l56, n_l64, n_l72, n_s1, fX12_within_eq, fX13_in_eq, fX12_isSinger_eq, fX12_areTicks_eq, ite_true, ite_false, if_true, if_false, not_false_eq_true, not_true_eq_false, or_self, false_or, or_false, true_or, or_true, and_true, true_and, and_false, false_and, eq_self, fX13_beat, c1, hi8, h8.2.2.1, e1, c2, show n_in 2 0 3 = 1 from rfl, n_10, n_l60, hj480, q2, show ((2 : Int32) = 0) = False from eq_false (by decide), show ((2 : Int32) = 1) = False from eq_false (by decide)], hR⟩
  by_cases w3 : w = 3
  · subst w3
    exact ⟨nI g, by simp (disch := omega) only [z_ob, z_ok, z_ar, z_b_s, z_l_s, z_g_tr, z_x_il, z_x_ir, z_lay, z_shs, z_lens, nI_clamp, n_lt0, n_l0, n_l8, n_l16, n_l24, n_l32, n_l40, n_l48, n_l56, n_l64, n_l72, n_s1, fX12_within_eq, fX13_in_eq, fX12_isSinger_eq, fX12_areTicks_eq, ite_true, ite_false, if_true, if_false, not_false_eq_true, not_true_eq_false, or_self, false_or, or_false, true_or, or_true, and_true, true_and, and_false, false_and, eq_self, fX12_beat, c1, hi8, r_4 hi, hr.1, fX5_length, h8.2.1, e1, c2, m3, bo g hg, show ((3 : Int32) = 0) = False from eq_false (by decide), show ((3 : Int32) = 1) = False from eq_false (by decide), show ((3 : Int32) = 2) = False from eq_false (by decide)], by simp (disch := omega) only [z_ob, z_ok, z_ar, z_b_s, z_l_s, z_g_tr, z_x_il, z_x_ir, z_lay, z_shs, z_lens, nI_clamp, n_lt0, n_l0, n_l8, n_l16, n_l24, n_l32, n_l40, n_l48, n_l56, n_l64, n_l72, n_s1, fX12_within_eq, fX13_in_eq, fX12_isSinger_eq, fX12_areTicks_eq, ite_true, ite_false, if_true, if_false, not_false_eq_true, not_true_eq_false, or_self, false_or, or_false, true_or, or_true, and_true, true_and, and_false, false_and, eq_self, fX13_beat, c1, hi8, h8.2.2.1, e1, c2, show n_in 3 0 3 = 1 from rfl, n_10, n_l60, hj480, q3, show ((3 : Int32) = 0) = False from eq_false (by decide), show ((3 : Int32) = 1) = False from eq_false (by decide), show ((3 : Int32) = 2) = False from eq_false (by decide)], hR⟩
  have hw : n_in w 0 3 = 0 := by
    by_cases q : n_in w 0 3 = 0
    · exact q
    · obtain ⟨z, hz, rfl⟩ := n_in_nI (b := 3) (by decide) q
      have : z = 0 ∨ z = 1 ∨ z = 2 ∨ z = 3 := by omega
      rcases this with rfl | rfl | rfl | rfl
      · exact absurd rfl w0
      · exact absurd rfl w1
      · exact absurd rfl w2
      · exact absurd rfl w3
  exact ⟨-1, by simp (disch := omega) only [z_ob, z_ok, z_ar, z_b_s, z_l_s, z_g_tr, z_x_il, z_x_ir, z_lay, z_shs, z_lens, nI_clamp, n_lt0, n_l0, n_l8, n_l16, n_l24, n_l32, n_l40, n_l48, n_l56, n_l64, n_l72, n_s1, fX12_within_eq, fX13_in_eq, fX12_isSinger_eq, fX12_areTicks_eq, ite_true, ite_false, if_true, if_false, not_false_eq_true, not_true_eq_false, or_self, false_or, or_false, true_or, or_true, and_true, true_and, and_false, false_and, eq_self, fX12_beat, c1, hi8, r_4 hi, hr.1, fX5_length, h8.2.1, e1, c2, w0, w1, w2, w3], by simp (disch := omega) only [z_ob, z_ok, z_ar, z_b_s, z_l_s, z_g_tr, z_x_il, z_x_ir, z_lay, z_shs, z_lens, nI_clamp, n_lt0, n_l0, n_l8, n_l16, n_l24, n_l32, n_l40, n_l48, n_l56, n_l64, n_l72, n_s1, fX12_within_eq, fX13_in_eq, fX12_isSinger_eq, fX12_areTicks_eq, ite_true, ite_false, if_true, if_false, not_false_eq_true, not_true_eq_false, or_self, false_or, or_false, true_or, or_true, and_true, true_and, and_false, false_and, eq_self, fX13_beat, c1, hi8, h8.2.2.1, e1, c2, hw], hR⟩
