/-! parts of the relation over unchanged cells; simple cases -/
theorem f_W {I I' : Nat → Nat → Int32} {st a : Nat} (h : r_W I st a) (h1 : ∀ i, i < 8 → I' (st + 2 + i) = I (st + 2 + i)) (h2 : I' a = I a) (h3 : I' st 1 = I st 1) (h4 : I' st 2 = I st 2) : r_W I' st a := by
  unfold r_W at h ⊢
  rw [h2, h3, h4]
  exact ⟨fun f i hf hi => by rw [h1 i hi]; exact h.1 f i hf hi, h.2⟩
theorem f_V {I I' : Nat → Nat → Int32} {a : Nat} {len : Nat → Nat} (h : r_V I a len) (h2 : I' a = I a) : r_V I' a len := by
  unfold r_V at h ⊢
  rw [h2]
  exact h
theorem f_K {I I' : Nat → Nat → Int32} (h : I 102 57 = 0 ∨ (r_W I 82 105 ∧ r_V I 105 (fun _ => 60))) (h0 : I' 102 57 = I 102 57) (h1 : ∀ i, i < 8 → I' (82 + 2 + i) = I (82 + 2 + i)) (h2 : I' 105 = I 105) (h3 : I' 82 1 = I 82 1) (h4 : I' 82 2 = I 82 2) : I' 102 57 = 0 ∨ (r_W I' 82 105 ∧ r_V I' 105 (fun _ => 60)) := by
  rw [h0]
  exact h.imp id (fun h => ⟨f_W h.1 h1 h2 h3 h4, f_V h.2 h2⟩)
theorem f_C {I I' : Nat → Nat → Int32} (h : r_C I) (h1 : I' 3 4 = I 3 4) (h2 : I' 3 5 = I 3 5) (h3 : I' 102 3 = I 102 3) (h4 : I' 102 4 = I 102 4) (h5 : I' 0 8 = I 0 8) (h6 : I' 102 57 = I 102 57) : r_C I' := by
  unfold r_C at h ⊢
  rw [h1, h2, h3, h4, h5, h6]
  exact h
theorem f_T {I I' : Nat → Nat → Int32} (h : r_T I) (h1 : I' 1 1 = I 1 1) (h2 : I' 2 = I 2) (h3 : I' 102 11 = I 102 11) (h4 : I' 111 = I 111) : r_T I' := by
  unfold r_T at h ⊢
  rw [h1, h2, h3, h4]
  exact h
theorem f_R {I I' : Nat → Nat → Int32} {i r n : Nat} (h : r_Roll I i r n) (h1 : ∀ b, r ≤ b → b ≤ r + 3 → I' b = I b) (h2 : ∀ b, 106 ≤ b → b ≤ 110 → I' b = I b) : r_Roll I' i r n := by
  unfold r_Roll at h ⊢
  rw [h1 r (by omega) (by omega), h1 (r + 1) (by omega) (by omega), h1 (r + 2) (by omega) (by omega), h1 (r + 3) (by omega) (by omega), h2 106 (by omega) (by omega), h2 107 (by omega) (by omega), h2 108 (by omega) (by omega), h2 109 (by omega) (by omega), h2 110 (by omega) (by omega)]
  exact h
theorem f_L0 {I I' : Nat → Nat → Int32} {A : Nat} (h : r_L I A) (h1 : ∀ b, A < b → b ≤ A + 6 → I' b = I b) (h2 : I' A 2 = I A 2) (h3 : I' A 7 = I A 7) (h4 : I' 102 20 = I 102 20) (h5 : ∀ b, 118 ≤ b → b ≤ 122 → I' b = I b) : r_L I' A := by
  unfold r_L l_code l_rule at h ⊢
  rw [h2, h3, h4, h1 (A + 1) (by omega) (by omega), h1 (A + 2) (by omega) (by omega), h1 (A + 3) (by omega) (by omega), h1 (A + 4) (by omega) (by omega), h1 (A + 5) (by omega) (by omega), h1 (A + 6) (by omega) (by omega), h5 118 (by omega) (by omega), h5 119 (by omega) (by omega), h5 120 (by omega) (by omega), h5 121 (by omega) (by omega), h5 122 (by omega) (by omega)]
  exact h
theorem f_L {I I' : Nat → Nat → Int32} {A : Nat} (h : r_L I A ∧ r_0 I) (h1 : ∀ b, A < b → b ≤ A + 6 → I' b = I b) (h2 : I' A 2 = I A 2) (h3 : I' A 7 = I A 7) (h4 : I' 102 20 = I 102 20) (h5 : ∀ b, 118 ≤ b → b ≤ 122 → I' b = I b) (h6 : ∀ q, q < 9 → I' (8 + 4 * q) 0 = I (8 + 4 * q) 0) : r_L I' A ∧ r_0 I' := ⟨f_L0 h.1 h1 h2 h3 h4 h5, fun q hq => (h6 q hq).trans (h.2 q hq)⟩
theorem p_le {mu : Nat → Nat} (h : r_P mu) {j : Nat} (hj : j < 9) : 5 ≤ mu j ∧ mu j ≤ 37 := by
  obtain ⟨q, h1, h2⟩ := h.1 j hj
  omega
theorem p_law {mu : Nat → Nat} (h : r_P mu) : (mu 9 = 41 ∨ mu 9 = 49) ∧ (mu 10 = 41 ∨ mu 10 = 49) := by
  rcases h.2.2 with ⟨h1, h2⟩ | ⟨h1, h2⟩ <;> omega
/-- two whole numbers of I' against I at cells that z_u left alone -/
theorem u_o {I : Nat → Nat → Int32} {a b k : Nat} {v : Int32} (h : b ≠ a) : z_u I a k v b = I b := z_u_a h
theorem n_in_range {x : Int32} {a b : Nat} (hb : b < 2 ^ 31) (h : ¬ n_in x (nI a) (nI b) = 0) (ha : a < 2 ^ 31) : ∃ n, a ≤ n ∧ n ≤ b ∧ x = nI n := by
  obtain ⟨h1, h2⟩ := n_in_no h
  have h0 : ¬ x < 0 := by
    rw [Int32.lt_iff_toInt_lt, nI_toInt ha] at h1
    rw [Int32.lt_iff_toInt_lt]
    show ¬ x.toInt < 0
    omega
  obtain ⟨i, h3, h4⟩ := n_of hb h0 h2
  subst h4
  rw [n_lt (by omega) ha] at h1
  exact ⟨i, by omega, h3, rfl⟩
theorem o_0 : z_ob 0 12 := rfl
theorem call_ears : Call_ears := by
  intro x I mu h
  by_cases hc : n_in x 0 15 = 0
  · refine ⟨0, I, I, ?_, ?_, h⟩
    · unfold fX12_ears
      rw [z_g_t o_0, fX12_within_eq, z_b_s, if_pos hc]
    · unfold fX13_ears
      rw [z_g_t m_ob, fX13_in_eq, z_b_s, if_pos hc]
  · refine ⟨1, z_u I 3 4 x, z_u (z_u I 3 4 x) 102 3 x, ?_, ?_, ?_⟩
    · unfold fX12_ears
      rw [z_g_t o_0, fX12_within_eq, z_b_s, if_neg hc, show z_Rm mu 0 1 = 3 from rfl, z_g_t (show z_ob 3 7 from rfl), z_l_s]
    · unfold fX13_ears
      rw [z_g_t m_ob, fX13_in_eq, z_b_s, if_neg hc, z_l_s]
    obtain ⟨n, hn, rfl⟩ := n_in_nI (b := 15) (by decide) hc
    obtain ⟨len, h1, h2, h3, h5, h6, h7, h8, h9⟩ := h
    have hl := p_law h7
    refine ⟨len, f_W h1 (fun i hi => ?_) ?_ ?_ ?_, f_V h2 ?_, f_K h3 ?_ (fun i hi => ?_) ?_ ?_ ?_, ?_, f_T h6 ?_ ?_ ?_ ?_, h7, fun i hi => f_R (h8 i hi) (fun b h1 h2 => ?_) (fun b h1 h2 => ?_), f_L h9 (fun b h1 h2 => ?_) ?_ ?_ ?_ (fun b h1 h2 => ?_) (fun q hq => ?_)⟩
    all_goals first | (rw [u_o (by omega), u_o (by omega)]; done) | (have := p_le h7 (j := i) (by omega); rw [u_o (by omega), u_o (by omega)]; done) | (simp only [z_u_eq]; simp; done) | skip
    unfold r_C at h5 ⊢
    refine ⟨⟨n, hn, by simp [z_u_eq], by simp [z_u_eq]⟩, ?_, ?_, ?_⟩
    · simpa [z_u_eq] using h5.2.1
    · simpa [z_u_eq] using h5.2.2.1
    · simpa [z_u_eq] using h5.2.2.2
