/-! who is told: both sides -/
def c_St (st : Nat) : Prop := st = 62 ∨ st = 72 ∨ st = 82
theorem c_st {st : Nat} (h : c_St st) (mu : Nat → Nat) : z_ob st 9 ∧ z_Rm mu st 0 = st + 1 ∧ z_len 4 (st + 1) = 8 ∧ ∀ j, j < 8 → z_Rm mu (st + 1) j = st + 2 + j ∧ z_ob (st + 2 + j) 8 := by
  rcases h with rfl | rfl | rfl
  · exact ⟨rfl, rfl, rfl, fun j hj => z_ls62 mu hj⟩
  · exact ⟨rfl, rfl, rfl, fun j hj => z_ls72 mu hj⟩
  · exact ⟨rfl, rfl, rfl, fun j hj => z_ls82 mu hj⟩
/-- 0 is 0, all else 1 -/
def n_b (x : Int32) : Int32 := if x = 0 then 0 else 1
theorem n_in7 {x : Int32} (h : ¬ n_in x 0 7 = 0) : ∃ i, i < 8 ∧ x = nI i := by
  obtain ⟨i, h1, h2⟩ := n_in_nI (b := 7) (by decide) h
  exact ⟨i, by omega, h2⟩
theorem n_in7' {i : Nat} (h : i < 8) : n_in (nI i) 0 7 = 1 := n_in_1 (nI_pos (by omega)) (nI_nlt (a := 7) (b := i) (by omega) (by decide))
theorem c_told {st : Nat} (h : c_St st) {mu : Nat → Nat} {I : Nat → Nat → Int32} {i : Nat} (hi : i < 8) : fX9_isTold st (nI i) I (z_Rm mu) = some (n_b (I (st + 2 + i) 0)) := by
  obtain ⟨h1, h2, h3, h4⟩ := c_st h mu
  have hc : (nI i).toNatClampNeg = i := nI_clamp (by omega)
  unfold fX9_isTold
  rw [z_g_t h1, fX12_isSinger_eq, z_b_s, n_in7' hi, if_neg (by decide), h2, z_g_t (n_ok h3 hi (by decide)), hc, (h4 i hi).1, z_g_t (h4 i hi).2]
  unfold n_b
  split <;> rfl
theorem c_told_no {st : Nat} (h : c_St st) {mu : Nat → Nat} {I : Nat → Nat → Int32} {x : Int32} (hx : n_in x 0 7 = 0) : fX9_isTold st x I (z_Rm mu) = some 0 := by
  obtain ⟨h1, h2, h3, h4⟩ := c_st h mu
  unfold fX9_isTold
  rw [z_g_t h1, fX12_isSinger_eq, z_b_s, if_pos hx]
theorem m_ob : z_ob 102 13 := rfl
theorem m_told {mu : Nat → Nat} {I : Nat → Nat → Int32} {i : Nat} (hi : i < 8) : fX13_isTold 102 (nI i) I (z_Rm mu) = some (if I 103 i = 1 then 1 else 0) := by
  have hc : (nI i).toNatClampNeg = i := nI_clamp (by omega)
  unfold fX13_isTold
  rw [z_g_t m_ob, fX13_in_eq, z_b_s, n_in7' hi, if_neg (by decide), show z_Rm mu 102 0 = 103 from rfl, show (0 : Int32) + nI i = nI i by rw [show (0 : Int32) = nI 0 from rfl, n_add, Nat.zero_add], z_g_t (n_ok (n := 82) rfl (by omega) (by decide)), hc]
  split <;> rfl
theorem m_told_no {mu : Nat → Nat} {I : Nat → Nat → Int32} {x : Int32} (hx : n_in x 0 7 = 0) : fX13_isTold 102 x I (z_Rm mu) = some 0 := by
  unfold fX13_isTold
  rw [z_g_t m_ob, fX13_in_eq, z_b_s, if_pos hx]
/-- a set of numbers below 8, as bits -/
def n_set (p : Nat → Bool) : Nat → Nat
  | 0 => 0
  | k + 1 => if p k then n_set p k ||| 2 ^ k else n_set p k
theorem n_set_lt (p : Nat → Bool) : ∀ k, n_set p k < 2 ^ k
  | 0 => Nat.zero_lt_one
  | k + 1 => by
    have h := n_set_lt p k
    unfold n_set
    split
    · exact Nat.or_lt_two_pow (Nat.lt_of_lt_of_le h (Nat.pow_le_pow_right (by decide) (by omega))) (Nat.pow_lt_pow_right (by decide) (by omega))
    · exact Nat.lt_of_lt_of_le h (Nat.pow_le_pow_right (by decide) (by omega))
theorem n_or (a b : Nat) : nI a ||| nI b = nI (a ||| b) := by
  rw [← Int32.toBitVec_inj, Int32.toBitVec_or]
  show BitVec.ofNat 32 a ||| BitVec.ofNat 32 b = BitVec.ofNat 32 (a ||| b)
  exact BitVec.ofNat_or.symm
theorem c_toldBits {st : Nat} (h : c_St st) {mu : Nat → Nat} {I : Nat → Nat → Int32} : fX9_toldBits st I (z_Rm mu) = some (nI (n_set (fun i => I (st + 2 + i) 0 != 0) 8)) := by
  obtain ⟨h1, h2, h3, h4⟩ := c_st h mu
  unfold fX9_toldBits
  rw [z_g_t h1]
  refine (z_lp_b 8 (nI (n_set (fun i => I (st + 2 + i) 0 != 0) 8)) (fun k => (nI (n_set (fun i => I (st + 2 + i) 0 != 0) k), nI k)) rfl ?_ ?_ (by decide)).trans rfl
  · intro k hk
    have hc : (nI k).toNatClampNeg = k := nI_clamp (by omega)
    unfold fX9_toldBits_b4
    dsimp only
    rw [if_neg (n_8 hk), h2, z_g_t (n_ok h3 hk (by decide)), hc, (h4 k hk).1, z_g_t (h4 k hk).2, z_l_s, z_l_s, z_l_s, n_s1, n_shl (by omega), n_or]
    show _ = some (Sum.inl (nI (if (I (st + 2 + k) 0 != 0) = true then _ else _), _))
    by_cases hz : I (st + 2 + k) 0 = 0
    · simp [hz]
    · simp [hz]
  · unfold fX9_toldBits_b4
    dsimp only
    rw [if_pos n_88]
theorem m_toldSet {mu : Nat → Nat} {I : Nat → Nat → Int32} : fX13_toldSet 102 I (z_Rm mu) = some (nI (n_set (fun i => I 103 i == 1) 8)) := by
  unfold fX13_toldSet
  rw [z_g_t m_ob]
  refine (z_lp_b 8 (nI (n_set (fun i => I 103 i == 1) 8)) (fun k => (nI (n_set (fun i => I 103 i == 1) k), nI k)) rfl ?_ ?_ (by decide)).trans rfl
  · intro k hk
    unfold fX13_toldSet_b4
    dsimp only
    rw [if_neg (n_8 hk), m_told hk, z_b_s, z_l_s, z_l_s, z_l_s, n_s1, n_shl (by omega), n_or]
    show _ = some (Sum.inl (nI (if (I 103 k == 1) = true then _ else _), _))
    by_cases hz : I 103 k = 1
    · simp [hz]
    · simp [hz]
  · unfold fX13_toldSet_b4
    dsimp only
    rw [if_pos n_88]
