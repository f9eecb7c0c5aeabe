/-! bits; agree -/
theorem n_bit : ∀ s, s < 256 → ∀ k, k < 8 → z_shr (nI s) (nI k) &&& 1 = (if s.testBit k = true then 1 else 0) := by decide +kernel
theorem n_set_bit (p : Nat → Bool) : ∀ n k, (n_set p n).testBit k = (decide (k < n) && p k)
  | 0, k => by simp [n_set]
  | n + 1, k => by
    have ih := n_set_bit p n k
    have e : n_set p (n + 1) = if p n = true then n_set p n ||| 2 ^ n else n_set p n := rfl
    rw [e]
    by_cases c : p n = true
    · rw [if_pos c, Nat.testBit_or, ih, Nat.testBit_two_pow]
      by_cases q : k = n
      · subst q; simp [c]
      · have : (k < n + 1) ↔ k < n := by omega
        have q2 : ¬ n = k := fun z => q z.symm
        simp [this, q2]
    · rw [if_neg c, ih]
      by_cases q : k = n
      · subst q; simp [c]
      · have : (k < n + 1) ↔ k < n := by omega
        simp [this]
theorem n_set8 (p : Nat → Bool) : n_set p 8 < 256 := n_set_lt p 8
theorem n_setk {p : Nat → Bool} {k : Nat} (hk : k < 8) : z_shr (nI (n_set p 8)) (nI k) &&& 1 = (if p k = true then 1 else 0) := by
  rw [n_bit _ (n_set8 p) k hk, n_set_bit]
  simp [hk]
theorem n_sethas {p : Nat → Bool} {k : Nat} (hk : k < 8) : fX13_has (nI (n_set p 8)) (nI k) = some (if p k = true then 1 else 0) := by
  unfold fX13_has
  rw [n_setk hk]
  by_cases c : p k = true
  · rw [if_pos c, if_pos rfl]
  · rw [if_neg c, if_neg (by decide)]
theorem n_set_inj {p q : Nat → Bool} : nI (n_set p 8) = nI (n_set q 8) ↔ ∀ k, k < 8 → p k = q k := by
  constructor
  · intro h k hk
    have h1 := (n_eq (by have := n_set8 p; omega) (by have := n_set8 q; omega)).mp h
    have h2 := n_set_bit p 8 k
    rw [h1, n_set_bit] at h2
    simp [hk] at h2
    exact h2.symm
  · intro h
    rw [n_set_congr h]
theorem n_set_0 {p : Nat → Bool} : nI (n_set p 8) = 0 ↔ ∀ k, k < 8 → p k = false := by
  have := n_set_inj (p := p) (q := fun _ => false)
  rw [show n_set (fun _ => false) 8 = 0 from by decide] at this
  exact this
theorem n_of_bits {s : Nat} (hs : s < 256) : s = n_set (fun k => s.testBit k) 8 := by
  apply Nat.eq_of_testBit_eq
  intro k
  rw [n_set_bit]
  by_cases c : k < 8
  · simp [c]
  · have : s.testBit k = false := Nat.testBit_lt_two_pow (Nat.lt_of_lt_of_le hs (Nat.pow_le_pow_right (show 0 < 2 by decide) (show 8 ≤ k by omega)))
    simp [this]
theorem n_set_and {p q : Nat → Bool} : nI (n_set p 8) &&& nI (n_set q 8) = nI (n_set (fun k => p k && q k) 8) := by
  rw [← Int32.toBitVec_inj, Int32.toBitVec_and]
  show BitVec.ofNat 32 _ &&& BitVec.ofNat 32 _ = BitVec.ofNat 32 _
  apply BitVec.eq_of_getLsbD_eq
  intro i hi
  rw [BitVec.getLsbD_and, BitVec.getLsbD_ofNat, BitVec.getLsbD_ofNat, BitVec.getLsbD_ofNat, n_set_bit, n_set_bit, n_set_bit]
  by_cases c : i < 8
  · simp [c, hi]
  · simp [c]
theorem n_set_or {p q : Nat → Bool} : nI (n_set p 8) ||| nI (n_set q 8) = nI (n_set (fun k => p k || q k) 8) := by
  rw [← Int32.toBitVec_inj, Int32.toBitVec_or]
  show BitVec.ofNat 32 _ ||| BitVec.ofNat 32 _ = BitVec.ofNat 32 _
  apply BitVec.eq_of_getLsbD_eq
  intro i hi
  rw [BitVec.getLsbD_or, BitVec.getLsbD_ofNat, BitVec.getLsbD_ofNat, BitVec.getLsbD_ofNat, n_set_bit, n_set_bit, n_set_bit]
  by_cases c : i < 8
  · simp [c, hi]
  · simp [c]
theorem n_set_andn {p q : Nat → Bool} : nI (n_set p 8) &&& (nI (n_set q 8) ^^^ (-1)) = nI (n_set (fun k => p k && !q k) 8) := by
  rw [← Int32.toBitVec_inj, Int32.toBitVec_and, Int32.toBitVec_xor]
  show BitVec.ofNat 32 _ &&& (BitVec.ofNat 32 _ ^^^ BitVec.allOnes 32) = BitVec.ofNat 32 _
  apply BitVec.eq_of_getLsbD_eq
  intro i hi
  rw [BitVec.getLsbD_and, BitVec.getLsbD_xor, BitVec.getLsbD_ofNat, BitVec.getLsbD_ofNat, BitVec.getLsbD_ofNat, BitVec.getLsbD_allOnes, n_set_bit, n_set_bit, n_set_bit]
  by_cases c : i < 8
  · simp [c, hi]
  · simp [c]
theorem n_set_one {i : Nat} (hi : i < 8) : z_shl 1 (nI i) = nI (n_set (fun k => k == i) 8) := by
  have : ∀ i, i < 8 → z_shl 1 (nI i) = nI (n_set (fun k => k == i) 8) := by decide +kernel
  exact this i hi
def n_any (p : Nat → Bool) : Nat → Bool
  | 0 => false
  | k + 1 => n_any p k || p k
theorem n_any_iff {p : Nat → Bool} : ∀ {n : Nat}, n_any p n = true ↔ ∃ k, k < n ∧ p k = true
  | 0 => by simp [n_any]
  | n + 1 => by
    unfold n_any
    rw [Bool.or_eq_true, n_any_iff]
    constructor
    · rintro (⟨k, h1, h2⟩ | h)
      · exact ⟨k, by omega, h2⟩
      · exact ⟨n, by omega, h⟩
    · rintro ⟨k, h1, h2⟩
      by_cases c : k = n
      · subst c; exact Or.inr h2
      · exact Or.inl ⟨k, by omega, h2⟩
theorem n_any256 : ∀ s, s < 256 → 0 < s → n_any (fun k => s.testBit k) 8 = true := by decide +kernel
/-! agree -/
def g_lo (p : Nat → Bool) (S : Nat → Nat) : Nat → Nat
  | 0 => 200000
  | k + 1 => if p k = true then min (g_lo p S k) (S k) else g_lo p S k
def g_hi (p : Nat → Bool) (S : Nat → Nat) : Nat → Nat
  | 0 => 0
  | k + 1 => if p k = true then max (g_hi p S k) (S k) else g_hi p S k
theorem g_bd {p : Nat → Bool} {S : Nat → Nat} (hS : ∀ k, k < 8 → S k ≤ 200000) : ∀ k, k ≤ 8 → g_lo p S k ≤ 200000 ∧ g_hi p S k ≤ 200000
  | 0, _ => by simp [g_lo, g_hi]
  | k + 1, hk => by
    have h1 := g_bd (p := p) hS k (by omega)
    have h2 := hS k (by omega)
    unfold g_lo g_hi
    split <;> omega
def g_st (ap : Nat → Int32) (kb : Nat → Nat) (told : Nat) (lim : Int32) (b s : Nat) : Nat := if kb b < kb s ∧ nI s &&& (nI told ^^^ (-1)) = 0 ∧ ¬ lim < ap s then s else b
def g_tr (ap : Nat → Int32) (kb : Nat → Nat) (told : Nat) (lim : Int32) : Nat → Nat
  | 0 => 0
  | m + 1 => g_st ap kb told lim (g_tr ap kb told lim m) (m + 1)
theorem g_tr_le {ap : Nat → Int32} {kb : Nat → Nat} {told : Nat} {lim : Int32} : ∀ m, g_tr ap kb told lim m ≤ m
  | 0 => Nat.le_refl 0
  | m + 1 => by
    have := g_tr_le (ap := ap) (kb := kb) (told := told) (lim := lim) m
    unfold g_tr g_st
    split <;> omega
theorem call_agree : Call_agree := by
  intro x y w I mu h
  have hR := h
  obtain ⟨len, h⟩ := h
  by_cases c1 : n_in x 0 100000 = 0
  · exact ⟨-1, by simp (disch := omega) only [z_ob, z_ok, z_ar, z_b_s, z_l_s, z_g_tr, z_x_il, z_x_ir, z_lay, z_shs, z_lens, nI_clamp, n_lt0, n_l0, n_l8, n_l16, n_l24, n_l32, n_l40, n_l48, n_l56, n_l64, n_l72, n_s1, fX12_within_eq, fX13_in_eq, fX12_isSinger_eq, fX12_areTicks_eq, ite_true, ite_false, if_true, if_false, not_false_eq_true, not_true_eq_false, or_self, false_or, or_false, true_or, or_true, and_true, true_and, and_false, false_and, eq_self, fX12_agree, c1], by simp (disch := omega) only [z_ob, z_ok, z_ar, z_b_s, z_l_s, z_g_tr, z_x_il, z_x_ir, z_lay, z_shs, z_lens, nI_clamp, n_lt0, n_l0, n_l8, n_l16, n_l24, n_l32, n_l40, n_l48, n_l56, n_l64, n_l72, n_s1, fX12_within_eq, fX13_in_eq, fX12_isSinger_eq, fX12_areTicks_eq, ite_true, ite_false, if_true, if_false, not_false_eq_true, not_true_eq_false, or_self, false_or, or_false, true_or, or_true, and_true, true_and, and_false, false_and, eq_self, fX13_agree, c1], hR⟩
  by_cases c2 : n_in y 0 9999 = 0
  · exact ⟨-1, by simp (disch := omega) only [z_ob, z_ok, z_ar, z_b_s, z_l_s, z_g_tr, z_x_il, z_x_ir, z_lay, z_shs, z_lens, nI_clamp, n_lt0, n_l0, n_l8, n_l16, n_l24, n_l32, n_l40, n_l48, n_l56, n_l64, n_l72, n_s1, fX12_within_eq, fX13_in_eq, fX12_isSinger_eq, fX12_areTicks_eq, ite_true, ite_false, if_true, if_false, not_false_eq_true, not_true_eq_false, or_self, false_or, or_false, true_or, or_true, and_true, true_and, and_false, false_and, eq_self, fX12_agree, c1, c2], by simp (disch := omega) only [z_ob, z_ok, z_ar, z_b_s, z_l_s, z_g_tr, z_x_il, z_x_ir, z_lay, z_shs, z_lens, nI_clamp, n_lt0, n_l0, n_l8, n_l16, n_l24, n_l32, n_l40, n_l48, n_l56, n_l64, n_l72, n_s1, fX12_within_eq, fX13_in_eq, fX12_isSinger_eq, fX12_areTicks_eq, ite_true, ite_false, if_true, if_false, not_false_eq_true, not_true_eq_false, or_self, false_or, or_false, true_or, or_true, and_true, true_and, and_false, false_and, eq_self, fX13_agree, c1, c2], hR⟩
  by_cases c3 : n_in w 0 1 = 0
  · exact ⟨-1, by simp (disch := omega) only [z_ob, z_ok, z_ar, z_b_s, z_l_s, z_g_tr, z_x_il, z_x_ir, z_lay, z_shs, z_lens, nI_clamp, n_lt0, n_l0, n_l8, n_l16, n_l24, n_l32, n_l40, n_l48, n_l56, n_l64, n_l72, n_s1, fX12_within_eq, fX13_in_eq, fX12_isSinger_eq, fX12_areTicks_eq, ite_true, ite_false, if_true, if_false, not_false_eq_true, not_true_eq_false, or_self, false_or, or_false, true_or, or_true, and_true, true_and, and_false, false_and, eq_self, fX12_agree, c1, c2, c3], by simp (disch := omega) only [z_ob, z_ok, z_ar, z_b_s, z_l_s, z_g_tr, z_x_il, z_x_ir, z_lay, z_shs, z_lens, nI_clamp, n_lt0, n_l0, n_l8, n_l16, n_l24, n_l32, n_l40, n_l48, n_l56, n_l64, n_l72, n_s1, fX12_within_eq, fX13_in_eq, fX12_isSinger_eq, fX12_areTicks_eq, ite_true, ite_false, if_true, if_false, not_false_eq_true, not_true_eq_false, or_self, false_or, or_false, true_or, or_true, and_true, true_and, and_false, false_and, eq_self, fX13_agree, c1, c2, c3], hR⟩
  obtain ⟨m, hm, rfl⟩ := n_in_nI (b := 100000) (by decide) c1
  obtain ⟨S, hS⟩ : ∃ S : Nat → Nat, ∀ i, i < 8 → S i ≤ 200000 ∧ ((60 + I 103 (8 + i)) * nI m) / 60 = nI (S i) := by
    refine ⟨fun i => (((60 + I 103 (8 + i)) * nI m) / 60).toNatClampNeg, fun i hi => ?_⟩
    obtain ⟨d1, d2⟩ := (h.2.1.1 i hi).2.1
    have sp := n_speed d1 d2
    obtain ⟨k, hk⟩ : ∃ k : Nat, (60 + (I 103 (8 + i)).toInt) = (k : Int) := ⟨(60 + (I 103 (8 + i)).toInt).toNat, by omega⟩
    have hk2 : k ≤ 80 := by omega
    have e1 : (60 : Int32) + I 103 (8 + i) = nI k := by rw [← Int32.toInt_inj, sp, nI_toInt (by omega), hk]
    have hp : k * m ≤ 8000000 := Nat.le_trans (Nat.mul_le_mul hk2 hm) (by decide)
    have e2 : ((60 + I 103 (8 + i)) * nI m) / 60 = nI (k * m / 60) := by
      rw [e1, n_mul, show (60 : Int32) = nI 60 from rfl, pk_div (by omega) (by decide) (by decide)]
    dsimp only
    rw [e2, nI_clamp (by omega)]
    exact ⟨by omega, rfl⟩
  obtain ⟨kb, hkb⟩ : ∃ kb : Nat → Nat, ∀ n, n < 256 → kb n ≤ 8 ∧ fJ6_bitCount_0f7a4 (nI n) = some (nI (kb n)) ∧ fX13_bits (nI n) = some (nI (kb n)) := by
    refine ⟨fun n => ((fX13_bits (nI n)).getD 0).toNatClampNeg, fun n hn => ?_⟩
    obtain ⟨k, k1, k2, k3⟩ := n_bits n hn
    dsimp only
    rw [k3, Option.getD_some, nI_clamp (by omega)]
    exact ⟨k1, k2, rfl⟩
  have Sb : ∀ k, k < 8 → S k ≤ 200000 := fun k hk => (hS k hk).1
  have e64 : ∀ k, (64 : Nat) + k = 62 + 2 + k := fun k => by omega
  have A : ∀ s, s < 256 → fX12_clocksApart 0 (nI s) (nI m) I (z_Rm mu) = some (nI (g_hi (fun k => s.testBit k) S 8) - nI (g_lo (fun k => s.testBit k) S 8)) := by
    intro s hs
    unfold fX12_clocksApart
    rw [z_g_t o_0]
    refine (z_lp_b 8 (nI (g_lo (fun k => s.testBit k) S 8), nI (g_hi (fun k => s.testBit k) S 8)) (fun k => (nI (g_lo (fun k => s.testBit k) S k), nI (g_hi (fun k => s.testBit k) S k), nI k)) rfl ?_ ?_ (by decide)).trans rfl
    · intro k hk
      have b1 := g_bd (p := fun k => s.testBit k) Sb k (by omega)
      have b2 := Sb k hk
      unfold fX12_clocksApart_b10 fX8_secondsShown fX8_speed
      dsimp only
      rw [if_neg (n_8 hk), n_bit s hs k hk, r_05, z_g_t o_62, r_620, z_g_t (k_63 hk), nI_clamp (show k < 2 ^ 31 by omega), (z_ls62 mu hk).1, z_g_t (z_ls62 mu hk).2, z_g_t (z_ls62 mu hk).2, z_g_t (z_ls62 mu hk).2, z_b_s, z_b_s, e64, h.1.1 1 k (by decide) hk, show 8 * 1 + k = 8 + k by omega, Int32.mul_comm (nI m), (hS k hk).2, (n_mx (show g_hi (fun k => s.testBit k) S k < 2 ^ 31 by omega) (show S k < 2 ^ 31 by omega)).1, (n_mn (show g_lo (fun k => s.testBit k) S k < 2 ^ 31 by omega) (show S k < 2 ^ 31 by omega)).1]
      simp only [z_l_s, n_s1]
      show _ = some (Sum.inl (nI (if s.testBit k = true then _ else _), nI (if s.testBit k = true then _ else _), _))
      by_cases c : s.testBit k = true
      · rw [if_pos c, if_neg n_10.mp, if_pos c, if_pos c]
      · rw [if_neg c, if_pos rfl, if_neg c, if_neg c]
    · unfold fX12_clocksApart_b10
      dsimp only
      rw [if_pos n_88]
  have B : ∀ (s : Nat) (z4 : Int32) {β : Type} (f : Int32 × Int32 → Option β), s < 256 → 0 < s → z_b (z_lp (fX13_agree_b86 102 (nI m) y w z4 (nI s) I (z_Rm mu)) 300 ((1000000 : Int32), (-1 : Int32), (0 : Int32))) f = f (nI (g_lo (fun k => s.testBit k) S 8), nI (g_hi (fun k => s.testBit k) S 8)) := by
    intro s z4 β f hs h0
    have ha := n_any256 s hs h0
    refine z_lp_b 8 _ (fun k => (if n_any (fun k => s.testBit k) k = true then nI (g_lo (fun k => s.testBit k) S k) else 1000000, if n_any (fun k => s.testBit k) k = true then nI (g_hi (fun k => s.testBit k) S k) else -1, nI k)) rfl ?_ ?_ (by decide)
    · intro k hk
      have b1 := g_bd (p := fun k => s.testBit k) Sb k (by omega)
      have b2 := Sb k hk
      have hh : fX13_has (nI s) (nI k) = some (if s.testBit k = true then 1 else 0) := by
        unfold fX13_has
        rw [n_bit s hs k hk]
        by_cases c : s.testBit k = true
        · rw [if_pos c, if_pos rfl]
        · rw [if_neg c, if_neg (by decide)]
      unfold fX13_agree_b86 fX13_showsAt
      dsimp only
      rw [if_neg (n_8 hk), hh, z_b_s, z_g_t m_ob, r_m0, n_l8, z_g_t (k_103 (show 8 + k < 82 by omega)), nI_clamp (show 8 + k < 2 ^ 31 by omega), (hS k hk).2]
      simp only [z_b_s, z_l_s, n_s1]
      have ea : n_any (fun k => s.testBit k) (k + 1) = (n_any (fun k => s.testBit k) k || s.testBit k) := rfl
      have el : g_lo (fun k => s.testBit k) S (k + 1) = if s.testBit k = true then min (g_lo (fun k => s.testBit k) S k) (S k) else g_lo (fun k => s.testBit k) S k := rfl
      have eh : g_hi (fun k => s.testBit k) S (k + 1) = if s.testBit k = true then max (g_hi (fun k => s.testBit k) S k) (S k) else g_hi (fun k => s.testBit k) S k := rfl
      by_cases c : s.testBit k = true
      · rw [if_pos c] at el eh
        rw [c, Bool.or_true] at ea
        rw [if_pos c, if_neg n_10.mp, ea, if_pos rfl, if_pos rfl, el, eh]
        by_cases ca : n_any (fun k => s.testBit k) k = true
        · rw [if_pos ca, if_pos ca, (n_mn (show g_lo (fun k => s.testBit k) S k < 2 ^ 31 by omega) (show S k < 2 ^ 31 by omega)).2, z_b_s, (n_mx (show g_hi (fun k => s.testBit k) S k < 2 ^ 31 by omega) (show S k < 2 ^ 31 by omega)).2, z_b_s]
        · have em : fX13_max (-1) (nI (S k)) = some (nI (S k)) := by
            unfold fX13_max
            rw [if_pos (by rw [Int32.le_iff_toInt_le, nI_toInt (by omega), show (-1 : Int32).toInt = -1 from rfl]; omega)]
          have g0 : ∀ j, j ≤ k → g_lo (fun k => s.testBit k) S j = 200000 ∧ g_hi (fun k => s.testBit k) S j = 0 := by
            intro j
            induction j with
            | zero => intro _; exact ⟨rfl, rfl⟩
            | succ j ih =>
              intro hj
              have nb : ¬ s.testBit j = true := fun q => ca (n_any_iff.mpr ⟨j, by omega, q⟩)
              obtain ⟨i1, i2⟩ := ih (by omega)
              exact ⟨(if_neg nb).trans i1, (if_neg nb).trans i2⟩
          rw [if_neg ca, if_neg ca, show (1000000 : Int32) = nI 1000000 from rfl, (n_mn (show 1000000 < 2 ^ 31 by decide) (show S k < 2 ^ 31 by omega)).2, z_b_s, em, z_b_s, (g0 k (Nat.le_refl k)).1, (g0 k (Nat.le_refl k)).2, show min 1000000 (S k) = min 200000 (S k) by omega, show max 0 (S k) = S k by omega]
      · rw [if_neg c] at el eh
        have c' : s.testBit k = false := by simpa using c
        rw [c', Bool.or_false] at ea
        rw [if_neg c, if_pos rfl, ea, el, eh]
    · unfold fX13_agree_b86
      dsimp only
      rw [if_pos n_88, if_pos ha, if_pos ha]
  have hts := n_set8 (fun i => I 103 i == 1)
  have mT := m_toldSet (mu := mu) (I := I)
  have cT := (t_bits h).trans mT
  obtain ⟨T, hT⟩ : ∃ T, T = n_set (fun i => I 103 i == 1) 8 := ⟨_, rfl⟩
  rw [← hT] at mT cT hts
  obtain ⟨ap, hap⟩ : ∃ ap : Nat → Int32, ∀ s, ap s = nI (g_hi (fun k => s.testBit k) S 8) - nI (g_lo (fun k => s.testBit k) S 8) := ⟨_, fun _ => rfl⟩
  have l256 : ∀ t, t < 255 → ¬ (256 : Int32) ≤ nI (t + 1) := fun t ht => nI_ge (show t + 1 < 256 by omega) (by decide)
  have r256 : (256 : Int32) ≤ nI (255 + 1) := nI_le (Nat.le_refl 256) (by decide)
  have gl := g_tr_le (ap := ap) (kb := kb) (told := T) (lim := y) 255
  obtain ⟨k1, k2, k3⟩ := hkb (g_tr ap kb T y 255) (by omega)
  refine ⟨if w = 0 then nI (kb (g_tr ap kb T y 255)) else nI (g_tr ap kb T y 255), ?_, ?_, hR⟩
  · unfold fX12_agree
    rw [z_g_t o_0, fX12_within_eq, z_b_s, if_neg c1, fX12_within_eq, z_b_s, if_neg c2, fX12_within_eq, z_b_s, if_neg c3, r_05, z_g_t o_62, cT, z_b_s]
    refine (z_lp_b 255 (nI (g_tr ap kb T y 255)) (fun t => (nI (g_tr ap kb T y t), nI (t + 1))) rfl ?_ ?_ (by decide)).trans ?_
    · intro t ht
      have gl := g_tr_le (ap := ap) (kb := kb) (told := T) (lim := y) t
      have q1 := hkb (t + 1) (by omega)
      have q2 := hkb (g_tr ap kb T y t) (by omega)
      unfold fX12_agree_b48 fX12_agree_j74_48
      dsimp only
      rw [if_neg (l256 t ht), q1.2.1, z_b_s, q2.2.1, z_b_s, A (t + 1) (by omega), z_b_s, ← hap]
      simp only [z_l_s, n_s1]
      show _ = some (Sum.inl (nI (if _ then _ else _), _))
      by_cases d1 : kb (g_tr ap kb T y t) < kb (t + 1)
      · rw [if_neg (nI_ge d1 (by omega)), if_neg n_10.mp]
        by_cases d2 : nI (t + 1) &&& (nI T ^^^ (-1)) = 0
        · rw [if_pos d2]
          by_cases d3 : y < ap (t + 1)
          · rw [if_pos d3, if_neg (fun q => q.2.2 d3)]
          · rw [if_neg d3, if_pos ⟨d1, d2, d3⟩]
        · rw [if_neg d2, if_neg (fun q => d2 q.2.1)]
      · rw [if_pos (nI_le (by omega) (by omega)), if_pos trivial, if_neg (fun q => d1 q.1)]
    · unfold fX12_agree_b48
      dsimp only
      rw [if_pos r256]
    · rw [k2, z_b_s]
      split <;> rfl
  · unfold fX13_agree
    rw [z_g_t m_ob, fX13_in_eq, z_b_s, if_neg c1, fX13_in_eq, z_b_s, if_neg c2, fX13_in_eq, z_b_s, if_neg c3]
    refine (z_lp_b 255 (nI (g_tr ap kb T y 255)) (fun t => (nI (g_tr ap kb T y t), nI (t + 1))) rfl ?_ ?_ (by decide)).trans ?_
    · intro t ht
      have gl := g_tr_le (ap := ap) (kb := kb) (told := T) (lim := y) t
      have q1 := hkb (t + 1) (by omega)
      have q2 := hkb (g_tr ap kb T y t) (by omega)
      unfold fX13_agree_b39
      dsimp only
      rw [if_neg (l256 t ht), mT, z_b_s, q1.2.2, z_b_s, q2.2.2, z_b_s, B (t + 1) _ _ (by omega) (by omega), ← hap]
      simp only [z_l_s, n_s1]
      show _ = some (Sum.inl (nI (if _ then _ else _), _))
      by_cases d2 : nI (t + 1) &&& (nI T ^^^ (-1)) = 0
      · rw [if_pos d2]
        by_cases d1 : kb (g_tr ap kb T y t) < kb (t + 1)
        · rw [if_pos (nI_lt d1 (by omega))]
          by_cases d3 : y < ap (t + 1)
          · rw [if_pos d3, if_neg (fun q => q.2.2 d3)]
          · rw [if_neg d3, if_pos ⟨d1, d2, d3⟩]
        · rw [if_neg (nI_nlt (by omega) (by omega)), if_neg (fun q => d1 q.1)]
      · rw [if_neg d2, if_neg (fun q => d2 q.2.1)]
    · unfold fX13_agree_b39
      dsimp only
      rw [if_pos r256]
    · rw [k3, z_b_s]
      split <;> rfl
