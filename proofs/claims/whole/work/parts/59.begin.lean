/-! beginning anew, keeping, undoing: what the writes come to -/
/-- a singer that begins -/
def w_beg (g : Nat → Int32) (f : Nat) : Int32 := if f = 5 ∨ f = 6 ∨ f = 8 ∨ f = 9 then 0 else if f = 7 then g 4 else g f
theorem c_beg {I : Nat → Nat → Int32} {a : Nat} (ha : z_ob a 8) : fX8_begin a I = some (fun b f => if b = a then w_beg (I a) f else I b f) := by
  simp (disch := omega) only [z_ob, z_ok, z_ar, z_b_s, z_l_s, z_g_tr, z_x_il, z_x_ir, z_lay, z_shs, z_lens, nI_clamp, n_lt0, n_l0, n_l8, n_l16, n_l24, n_l32, n_l40, n_l48, n_l56, n_l64, n_l72, n_s1, fX12_within_eq, fX13_in_eq, fX12_isSinger_eq, fX12_areTicks_eq, ite_true, ite_false, if_true, if_false, not_false_eq_true, not_true_eq_false, or_self, false_or, or_false, true_or, or_true, and_true, true_and, and_false, false_and, eq_self, fX8_begin, ha]
  congr 1
  funext b f
  simp only [z_u_eq, w_beg]
  grind
theorem m_beg {I : Nat → Nat → Int32} {mu : Nat → Nat} {i : Nat} (hi : i < 8) : fX13_begins 102 (nI i) I (z_Rm mu) = some (fun b k => if b = 103 then (if k = 40 + i ∨ k = 48 + i ∨ k = 64 + i ∨ k = 72 + i then 0 else if k = 56 + i then I 103 (32 + i) else I 103 k) else I b k) := by
  have h1 : ¬ 82 ≤ 40 + i := by omega
  have h2 : ¬ 82 ≤ 48 + i := by omega
  have h3 : ¬ 82 ≤ 32 + i := by omega
  have h4 : ¬ 82 ≤ 56 + i := by omega
  have h5 : ¬ 82 ≤ 64 + i := by omega
  have h6 : ¬ 82 ≤ 72 + i := by omega
  simp (disch := omega) only [z_ob, z_ok, z_ar, z_b_s, z_l_s, z_g_tr, z_x_il, z_x_ir, z_lay, z_shs, z_lens, nI_clamp, n_lt0, n_l0, n_l8, n_l16, n_l24, n_l32, n_l40, n_l48, n_l56, n_l64, n_l72, n_s1, fX12_within_eq, fX13_in_eq, fX12_isSinger_eq, fX12_areTicks_eq, ite_true, ite_false, if_true, if_false, not_false_eq_true, not_true_eq_false, or_self, false_or, or_false, true_or, or_true, and_true, true_and, and_false, false_and, eq_self, fX13_begins, h1, h2, h3, h4, h5, h6]
  congr 1
  funext b k
  simp only [z_u_eq]
  grind
theorem c_cp {I : Nat → Nat → Int32} {a b : Nat} (ha : z_ob a 8) (hb : z_ob b 8) (hab : a ≠ b) (h0 : I b 0 = 0 ∨ I b 0 = 1) (h9 : I b 9 = 0 ∨ I b 9 = 1) : fX8_copyFrom a b I = some (fun c f => if c = a ∧ f < 10 then I b f else I c f) := by
  have e : ∀ (J : Nat → Nat → Int32) (k : Nat) (v : Int32) (j : Nat), z_u J a k v b j = J b j := fun J k v j => by rw [z_u_a (Ne.symm hab)]
  simp (disch := omega) only [z_ob, z_ok, z_ar, z_b_s, z_l_s, z_g_tr, z_x_il, z_x_ir, z_lay, z_shs, z_lens, nI_clamp, n_lt0, n_l0, n_l8, n_l16, n_l24, n_l32, n_l40, n_l48, n_l56, n_l64, n_l72, n_s1, fX12_within_eq, fX13_in_eq, fX12_isSinger_eq, fX12_areTicks_eq, ite_true, ite_false, if_true, if_false, not_false_eq_true, not_true_eq_false, or_self, false_or, or_false, true_or, or_true, and_true, true_and, and_false, false_and, eq_self, fX8_copyFrom, ha, hb, h0, e, h9]
  congr 1
  funext c f
  simp only [z_u_eq]
  clear ha hb h0 h9 e
  grind (splits := 40)
theorem m_cp {I : Nat → Nat → Int32} {a b : Nat} (ha : z_len 1 a = 82 ∧ z_ar a) (hb : z_len 1 b = 82 ∧ z_ar b) (hab : a ≠ b) : fX13_copies a b I = some (fun c k => if c = b ∧ k < 82 then I a k else I c k) := by
  unfold fX13_copies
  rw [z_g_t ha.2, z_g_t hb.2]
  refine (z_lp_b 82 (fun c k => if c = b ∧ k < 82 then I a k else I c k) (fun n => (nI n, fun c k => if c = b ∧ k < n then I a k else I c k)) ?_ ?_ ?_ (by decide)).trans rfl
  · congr 1
    funext c k
    rw [if_neg (by omega)]
  · intro n hn
    unfold fX13_copies_b2
    dsimp only
    have c1 : ¬ (82 : Int32) ≤ nI n := nI_ge hn (by decide)
    rw [if_neg c1, z_g_t (n_ok ha.1 hn (by decide)), z_g_t (n_ok hb.1 hn (by decide)), z_l_s, z_l_s, n_s1, nI_clamp (by omega)]
    congr 3
    funext c k
    simp only [z_u_eq]
    grind
  · unfold fX13_copies_b2
    dsimp only
    rw [if_pos (show (82 : Int32) ≤ nI 82 from nI_le (Nat.le_refl 82) (by decide))]
theorem c_cps {I : Nat → Nat → Int32} {mu : Nat → Nat} {a b : Nat} (ha : c_St a) (hb : c_St b) (hab : a ≠ b) (h0 : ∀ i, i < 8 → (I (b + 2 + i) 0 = 0 ∨ I (b + 2 + i) 0 = 1) ∧ (I (b + 2 + i) 9 = 0 ∨ I (b + 2 + i) 9 = 1)) : fX9_copyFrom a b I (z_Rm mu) = some (fun c f => if c = a ∧ (f = 1 ∨ f = 2) then I b f else if a + 2 ≤ c ∧ c < a + 10 ∧ f < 10 then I (b + (c - a)) f else I c f) := by
  obtain ⟨h1, h2, h3, h4⟩ := c_st ha mu
  obtain ⟨g1, g2, g3, g4⟩ := c_st hb mu
  have far : ∀ i j, i < 8 → j < 8 → a + 2 + i ≠ b + 2 + j ∧ a + 2 + i ≠ b := by
    intro i j hi hj
    rcases ha with rfl | rfl | rfl <;> rcases hb with rfl | rfl | rfl <;> omega
  unfold fX9_copyFrom
  rw [z_g_t h1, z_g_t g1]
  refine (z_lp_b 8 (fun c f => if a + 2 ≤ c ∧ c < a + 10 ∧ f < 10 then I (b + (c - a)) f else I c f) (fun n => (nI n, fun c f => if a + 2 ≤ c ∧ c < a + 2 + n ∧ f < 10 then I (b + (c - a)) f else I c f)) ?_ ?_ ?_ (by decide)).trans ?_
  · congr 1
    funext c f
    rw [if_neg (by omega)]
  · intro n hn
    unfold fX9_copyFrom_b2
    dsimp only
    rw [if_neg (n_8 hn), h2, g2, z_g_t (n_ok h3 hn (by decide)), z_g_t (n_ok g3 hn (by decide)), nI_clamp (by omega), (h4 n hn).1, (g4 n hn).1, z_g_t (h4 n hn).2]
    have hn1 : ¬ (a + 2 ≤ b + 2 + n ∧ b + 2 + n < a + 2 + n ∧ 0 < 10) := by
      rcases ha with rfl | rfl | rfl <;> rcases hb with rfl | rfl | rfl <;> omega
    rw [c_cp (h4 n hn).2 (g4 n hn).2 (far n n hn hn).1 ?_ ?_, z_b_s, z_l_s, n_s1]
    · congr 3
      funext c f
      by_cases hc : c = a + 2 + n
      · subst hc
        by_cases hf : f < 10
        · have e1 : a + 2 ≤ a + 2 + n := by omega
          have e2 : a + 2 + n < a + 2 + (n + 1) := by omega
          have e3 : b + (a + 2 + n - a) = b + 2 + n := by omega
          have e4 : ¬ (a + 2 ≤ b + 2 + n ∧ b + 2 + n < a + 2 + n) := by
            rintro ⟨p1, p2⟩
            exact hn1 ⟨p1, p2, by decide⟩
          simp only [e1, e2, e3, hf, e4, and_self, if_true, if_false, ite_true, ite_false, true_and, and_true]
        · simp only [hf, and_false, if_false, ite_false]
      · rw [if_neg (by omega)]
        by_cases hc2 : a + 2 ≤ c ∧ c < a + 2 + n ∧ f < 10
        · rw [if_pos hc2, if_pos ⟨hc2.1, by omega, hc2.2.2⟩]
        · rw [if_neg hc2, if_neg (by omega)]
    · rw [if_neg (by omega)]
      exact (h0 n hn).1
    · rw [if_neg (by omega)]
      exact (h0 n hn).2
  · unfold fX9_copyFrom_b2
    dsimp only
    rw [if_pos n_88]
  · rw [z_l_s, z_l_s]
    congr 1
    funext c f
    simp only [z_u_eq]
    have hb1 : ¬ (a + 2 ≤ b ∧ b < a + 10) := by rcases ha with rfl | rfl | rfl <;> rcases hb with rfl | rfl | rfl <;> omega
    have hba : b ≠ a := Ne.symm hab
    grind
