/-! calls that only ask: of one singer -/
theorem c62 : c_St 62 := Or.inl rfl
theorem t_both {I : Nat → Nat → Int32} {mu : Nat → Nat} (h : Rel I mu) (x : Int32) : (fX9_isTold 62 x I (z_Rm mu) = some 0 ∧ fX13_isTold 102 x I (z_Rm mu) = some 0) ∨ ∃ i, i < 8 ∧ x = nI i ∧ I 103 i = 1 ∧ fX9_isTold 62 (nI i) I (z_Rm mu) = some 1 ∧ fX13_isTold 102 (nI i) I (z_Rm mu) = some 1 := by
  obtain ⟨len, h1, h2, -⟩ := h
  by_cases hc : n_in x 0 7 = 0
  · exact Or.inl ⟨c_told_no c62 hc, m_told_no hc⟩
  · obtain ⟨i, hi, rfl⟩ := n_in7 hc
    have e : I (62 + 2 + i) 0 = I 103 i := by
      have := h1.1 0 i (by decide) hi
      rw [this]; congr 1; omega
    rcases (h2.1 i hi).1 with h0 | h0
    · refine Or.inl ⟨?_, ?_⟩
      · rw [c_told c62 hi, e, h0]; rfl
      · rw [m_told hi, h0, if_neg (by decide)]
    · refine Or.inr ⟨i, hi, rfl, h0, ?_, ?_⟩
      · rw [c_told c62 hi, e, h0]; rfl
      · rw [m_told hi, h0, if_pos rfl]
theorem r_05 (mu : Nat → Nat) : z_Rm mu 0 5 = 62 := rfl
theorem r_01 (mu : Nat → Nat) : z_Rm mu 0 1 = 3 := rfl
theorem r_30 (mu : Nat → Nat) : z_Rm mu 3 0 = 4 := rfl
theorem r_620 (mu : Nat → Nat) : z_Rm mu 62 0 = 63 := rfl
theorem r_m0 (mu : Nat → Nat) : z_Rm mu 102 0 = 103 := rfl
theorem r_m9 (mu : Nat → Nat) : z_Rm mu 102 9 = 110 := rfl
theorem o_62 : z_ob 62 9 := rfl
theorem o_3 : z_ob 3 7 := rfl
theorem k_63 {i : Nat} (hi : i < 8) : z_ok 4 63 (nI i) := n_ok (n := 8) rfl hi (by decide)
theorem k_4 {i : Nat} (hi : i < 8) : z_ok 3 4 (nI i) := n_ok (n := 8) rfl hi (by decide)
theorem k_103 {k : Nat} (hk : k < 82) : z_ok 1 103 (nI k) := n_ok (n := 82) rfl hk (by decide)
theorem k_110 {i : Nat} (hi : i < 8) : z_ok 1 110 (nI i) := n_ok (n := 8) rfl hi (by decide)
theorem r_4 {mu : Nat → Nat} {i : Nat} (hi : i < 8) : z_Rm mu 4 i = mu i := by
  unfold z_Rm
  rw [if_pos ⟨rfl, hi⟩]
theorem o_roll {mu : Nat → Nat} (h : r_P mu) {j : Nat} (hj : j < 9) : z_ob (mu j) 5 ∧ z_Rm mu (mu j) 0 = mu j + 1 ∧ z_Rm mu (mu j) 1 = mu j + 2 ∧ z_Rm mu (mu j) 2 = mu j + 3 ∧ z_len 1 (mu j + 1) = 60 ∧ z_len 1 (mu j + 2) = 60 ∧ z_len 1 (mu j + 3) = 61 := by
  obtain ⟨q, h1, h2⟩ := h.1 j hj
  rw [h2]
  match q, h1 with
  | 0, _ => exact ⟨rfl, rfl, rfl, rfl, rfl, rfl, rfl⟩
  | 1, _ => exact ⟨rfl, rfl, rfl, rfl, rfl, rfl, rfl⟩
  | 2, _ => exact ⟨rfl, rfl, rfl, rfl, rfl, rfl, rfl⟩
  | 3, _ => exact ⟨rfl, rfl, rfl, rfl, rfl, rfl, rfl⟩
  | 4, _ => exact ⟨rfl, rfl, rfl, rfl, rfl, rfl, rfl⟩
  | 5, _ => exact ⟨rfl, rfl, rfl, rfl, rfl, rfl, rfl⟩
  | 6, _ => exact ⟨rfl, rfl, rfl, rfl, rfl, rfl, rfl⟩
  | 7, _ => exact ⟨rfl, rfl, rfl, rfl, rfl, rfl, rfl⟩
  | 8, _ => exact ⟨rfl, rfl, rfl, rfl, rfl, rfl, rfl⟩
theorem call_drift : Call_drift := by
  intro x I mu h
  rcases t_both h x with ⟨e1, e2⟩ | ⟨i, hi, rfl, -, e1, e2⟩
  · refine ⟨-100, ?_, ?_, h⟩
    · unfold fX12_drift
      rw [z_g_t o_0, r_05, z_g_t o_62, e1, z_b_s, if_pos rfl]
    · unfold fX13_drift
      rw [z_g_t m_ob, e2, z_b_s, if_pos rfl]
  · refine ⟨I 103 (8 + i), ?_, ?_, h⟩
    · unfold fX12_drift
      rw [z_g_t o_0, r_05, z_g_t o_62, e1, z_b_s, if_neg (by decide), r_620, z_g_t (k_63 hi), nI_clamp (by omega), (z_ls62 mu hi).1, z_g_t (z_ls62 mu hi).2]
      obtain ⟨len, h1, -⟩ := h
      rw [h1.1 1 i (by decide) hi]
    · unfold fX13_drift
      rw [z_g_t m_ob, e2, z_b_s, if_neg (by decide), r_m0, n_l8, z_g_t (k_103 (by omega)), nI_clamp (by omega)]
theorem n_rw {a b c : Int32} (h : a = b) : z_rem a c = z_rem b c := by rw [h]
theorem call_clock : Call_clock := by
  intro x t I mu h
  rcases t_both h x with ⟨e1, e2⟩ | ⟨i, hi, rfl, -, e1, e2⟩
  · refine ⟨-1, ?_, ?_, h⟩
    · unfold fX12_clock
      rw [z_g_t o_0, r_05, z_g_t o_62, e1, z_b_s, if_pos rfl]
    · unfold fX13_clock
      rw [z_g_t m_ob, e2, z_b_s, if_pos rfl]
  · by_cases hc : n_in t 0 100000 = 0
    · refine ⟨-1, ?_, ?_, h⟩
      · unfold fX12_clock
        rw [z_g_t o_0, r_05, z_g_t o_62, e1, z_b_s, if_neg (by decide), fX12_within_eq, z_b_s, if_pos hc]
      · unfold fX13_clock
        rw [z_g_t m_ob, e2, z_b_s, if_neg (by decide), fX13_in_eq, z_b_s, if_pos hc]
    · refine ⟨z_rem (((60 + I 103 (8 + i)) * t) / 60) 43200, ?_, ?_, h⟩
      · unfold fX12_clock fX8_secondsShown fX8_speed
        rw [z_g_t o_0, r_05, z_g_t o_62, e1, z_b_s, if_neg (by decide), fX12_within_eq, z_b_s, if_neg hc, r_620, z_g_t (k_63 hi), nI_clamp (by omega), (z_ls62 mu hi).1, z_g_t (z_ls62 mu hi).2, z_g_t (z_ls62 mu hi).2, z_g_t (z_ls62 mu hi).2, z_b_s, z_b_s]
        obtain ⟨len, h1, -⟩ := h
        rw [h1.1 1 i (by decide) hi, Int32.mul_comm t]
      · unfold fX13_clock fX13_showsAt
        rw [z_g_t m_ob, e2, z_b_s, if_neg (by decide), fX13_in_eq, z_b_s, if_neg hc, z_g_t m_ob, r_m0, n_l8, z_g_t (k_103 (by omega)), nI_clamp (by omega), z_b_s]
/-- the speed of a told singer -/
theorem n_speed {d : Int32} (h1 : -20 ≤ d.toInt) (h2 : d.toInt ≤ 20) : ((60 : Int32) + d).toInt = 60 + d.toInt := by
  rw [Int32.toInt_add, show (60 : Int32).toInt = 60 from rfl, Int.bmod_eq_of_le (by omega) (by omega)]
theorem n_speed0 {d : Int32} (h1 : -20 ≤ d.toInt) (h2 : d.toInt ≤ 20) : z_max 1 (60 + d) = 60 + d ∧ ¬ (60 : Int32) + d = 0 := by
  have h := n_speed h1 h2
  constructor
  · unfold z_max
    rw [if_pos]
    rw [Int32.lt_iff_toInt_lt, h, show (1 : Int32).toInt = 1 from rfl]
    omega
  · rw [← Int32.toInt_inj, h, show (0 : Int32).toInt = 0 from rfl]
    omega
theorem call_alone : Call_alone := by
  intro x I mu h
  rcases t_both h x with ⟨e1, e2⟩ | ⟨i, hi, rfl, -, e1, e2⟩
  · refine ⟨-1, ?_, ?_, h⟩
    · unfold fX12_alone
      rw [z_g_t o_0, r_05, z_g_t o_62, e1, z_b_s, if_pos rfl]
    · unfold fX13_alone
      rw [z_g_t m_ob, e2, z_b_s, if_pos rfl]
  · have h0 := h
    obtain ⟨len, h1, h2, h3, h5, h6, h7, h8, h9⟩ := h0
    have hd := (h2.1 i hi).2.1
    obtain ⟨s1, s2⟩ := n_speed0 hd.1 hd.2
    have hr := o_roll h7 (show i < 9 by omega)
    refine ⟨(I 110 i * I 102 4 + (60 + I 103 (8 + i)) - 1) / (60 + I 103 (8 + i)), ?_, ?_, h⟩
    · have hi8 : ¬ 8 ≤ i := by omega
      obtain ⟨-, ⟨n, -, -, q1, q2⟩, -⟩ := h5
      simp (disch := omega) only [z_ob, z_ok, z_ar, z_b_s, z_l_s, z_g_tr, z_x_il, z_x_ir, z_lay, z_shs, z_lens, nI_clamp, n_lt0, n_l0, n_l8, n_l16, n_l24, n_l32, n_l40, n_l48, n_l56, n_l64, n_l72, n_s1, fX12_within_eq, fX13_in_eq, fX12_isSinger_eq, fX12_areTicks_eq, ite_true, ite_false, if_true, if_false, not_false_eq_true, not_true_eq_false, or_self, false_or, or_false, true_or, or_true, and_true, true_and, and_false, false_and, eq_self, fX12_alone, fX8_speed, fX5_length, e1, show ((1 : Int32) = 0) = False from eq_false (by decide), hi8, (z_ls62 mu hi).1, (z_ls62 mu hi).2, r_4 hi, hr.1, h1.1 1 i (by decide) hi, show 8 * 1 + i = 8 + i by omega, s1, s2, (h8 i hi).2.1, (h8 i hi).2.2.1, q1, q2]
    · unfold fX13_alone
      rw [z_g_t m_ob, e2, z_b_s, if_neg (by decide), r_m0, n_l8, z_g_t (k_103 (by omega)), nI_clamp (by omega), z_l_s, r_m9, z_g_t (k_110 hi), nI_clamp (by omega), z_g_t s2]
