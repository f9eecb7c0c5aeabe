/-! the law's loop out of its cases -/
abbrev c_F : Type := (Nat → Int32) → Nat → Int32 → (Nat → Nat → Int32) → (Nat → Nat → Nat) → Option ((Int32 × (Nat → Nat → Int32) × (Nat → Nat → Nat)) ⊕ Int32)
/-- a case of the law: the two sides answer alike, and the relation holds behind it -/
def CaseOk (f : c_F) : Prop := ∀ (xs : Nat → Int32) (L p : Nat) (I : Nat → Nat → Int32) (mu : Nat → Nat), L ≤ 384 → p + 6 ≤ L → Rel I mu → ∃ I' mu', f xs L (nI p) I (z_Rm mu) = some (.inl (nI (p + 6), I', z_Rm mu')) ∧ Rel I' mu'
theorem s_g {p L : Nat} {j : Int32} (k : Nat) (hj : j = nI k) (hL : L ≤ 384) (hp : p + 6 ≤ L) (hk : k < 6) : ¬ (nI p + j < 0 ∨ L ≤ (nI p + j).toNatClampNeg) := by
  subst hj
  rw [n_add, nI_clamp (by omega)]
  intro h
  rcases h with h | h
  · exact nI_pos (by omega) h
  · omega
theorem s_6 (p : Nat) : nI p + (6 : Int32) = nI (p + 6) := n_add p 6
theorem R0_eq : z_R0 = z_Rm z_mu0 := by
  funext a k
  unfold z_Rm
  by_cases h1 : a = 4 ∧ k < 8
  · rw [if_pos h1]
    obtain ⟨rfl, hk⟩ := h1
    have : ∀ k, k < 8 → z_R0 4 k = z_mu0 k := by decide +kernel
    exact this k hk
  rw [if_neg h1]
  by_cases h2 : a = 3 ∧ k = 1
  · rw [if_pos h2]; obtain ⟨rfl, rfl⟩ := h2; decide +kernel
  rw [if_neg h2]
  by_cases h3 : a = 3 ∧ k = 2
  · rw [if_pos h3]; obtain ⟨rfl, rfl⟩ := h3; decide +kernel
  rw [if_neg h3]
  by_cases h4 : a = 3 ∧ k = 3
  · rw [if_pos h4]; obtain ⟨rfl, rfl⟩ := h4; decide +kernel
  rw [if_neg h4]
  by_cases h5 : a = 57 ∧ k = 1
  · rw [if_pos h5]; obtain ⟨rfl, rfl⟩ := h5; decide +kernel
  rw [if_neg h5]
  by_cases h6 : a = 58 ∧ k = 1
  · rw [if_pos h6]; obtain ⟨rfl, rfl⟩ := h6; decide +kernel
  rw [if_neg h6]
theorem rel_0 : Rel z_I0 z_mu0 := by
  refine ⟨fun _ => 0, ?_, ?_, ?_, ?_, ?_, ?_, ?_, ?_, (by decide +kernel : ∀ q, q < 9 → z_I0 (8 + 4 * q) 0 = 0)⟩
  · refine ⟨fun f i hf hi => ?_, by decide +kernel, by decide +kernel⟩
    have : ∀ f, f < 10 → ∀ i, i < 8 → z_I0 (62 + 2 + i) f = z_I0 103 (8 * f + i) := by decide +kernel
    exact this f hf i hi
  · have k0 : ∀ f, f < 10 → ∀ i, i < 8 → z_I0 103 (8 * f + i) = 0 := by decide +kernel
    refine ⟨fun i hi => ?_, ⟨0, by decide, by decide +kernel⟩, ⟨1, by decide, by decide +kernel⟩⟩
    have j0 := k0 0 (by decide) i hi
    have j1 := k0 1 (by decide) i hi
    have j2 := k0 2 (by decide) i hi
    have j3 := k0 3 (by decide) i hi
    have j4 := k0 4 (by decide) i hi
    have j5 := k0 5 (by decide) i hi
    have j6 := k0 6 (by decide) i hi
    have j7 := k0 7 (by decide) i hi
    have j9 := k0 9 (by decide) i hi
    refine ⟨Or.inl (by rw [← j0]; congr 1; omega), ?_, ⟨0, by omega, j2⟩, ⟨0, by omega, j3⟩, ⟨0, by omega, j4⟩, ⟨0, by omega, j5⟩, ⟨0, by omega, j6⟩, ⟨0, by omega, j7⟩, Or.inl j9, fun _ f hf => k0 f hf i hi⟩
    rw [show z_I0 103 (8 + i) = 0 from j1]
    decide
  · exact Or.inl (by decide +kernel)
  · exact ⟨⟨15, by decide, by decide +kernel, by decide +kernel⟩, ⟨120, by decide, by decide, by decide +kernel, by decide +kernel⟩, by decide +kernel, Or.inl (by decide +kernel)⟩
  · exact ⟨0, by decide, by decide +kernel, by decide +kernel, fun k hk => absurd hk (Nat.not_lt_zero k)⟩
  · refine ⟨fun j hj => ⟨j, hj, by unfold z_mu0; rw [if_pos hj]⟩, fun i j hi hj h => ?_, Or.inl ⟨rfl, rfl⟩⟩
    unfold z_mu0 at h
    rw [if_pos hi, if_pos hj] at h
    omega
  · intro i hi
    have : ∀ i, i < 8 → z_I0 (z_mu0 i) 3 = nI 0 ∧ z_I0 110 i = nI 0 ∧ z_I0 (z_mu0 i + 3) 0 = 0 := by decide +kernel
    exact ⟨Nat.zero_le 60, (this i hi).1, (this i hi).2.1, (this i hi).2.2, fun k hk => absurd hk (Nat.not_lt_zero k)⟩
  · exact ⟨0, 0, fun _ => (0, 0, 0, 0), by decide, by decide, by decide +kernel, by decide +kernel, by decide +kernel, fun k hk => absurd hk (Nat.not_lt_zero k), fun r hr => absurd hr (Nat.not_lt_zero r)⟩
theorem main_of (h0 : CaseOk fL_c0) (h1 : CaseOk fL_c1) (h2 : CaseOk fL_c2) (h3 : CaseOk fL_c3) (h4 : CaseOk fL_c4) (h5 : CaseOk fL_c5) (h6 : CaseOk fL_c6) (h7 : CaseOk fL_c7) (h8 : CaseOk fL_c8) (h9 : CaseOk fL_c9) (h10 : CaseOk fL_c10) (h11 : CaseOk fL_c11) (h12 : CaseOk fL_c12) (h13 : CaseOk fL_c13) (h14 : CaseOk fL_c14) (h15 : CaseOk fL_c15) (h16 : CaseOk fL_c16) (h17 : CaseOk fL_c17) (h18 : CaseOk fL_c18) (h19 : CaseOk fL_c19) (h20 : CaseOk fL_c20) (h21 : CaseOk fL_c21) (h22 : CaseOk fL_c22) (h23 : CaseOk fL_c23) (h24 : CaseOk fL_c24) (h25 : CaseOk fL_c25) (h26 : CaseOk fL_c26) (h27 : CaseOk fL_c27) (h28 : CaseOk fL_c28) (h29 : CaseOk fL_c29) (h30 : CaseOk fL_c30) (h31 : CaseOk fL_c31) (h32 : CaseOk fL_c32) (h33 : CaseOk fL_c33) (h34 : CaseOk fL_c34) (h35 : CaseOk fL_c35) (h36 : CaseOk fL_c36) (h37 : CaseOk fL_c37) {xs : Nat → Int32} {L : Nat} (hL : L ≤ 384) : z_lp (fL_b xs L) 300 ((0 : Int32), z_I0, z_R0) = some 1 := by
  have step : ∀ (p : Nat) (I : Nat → Nat → Int32) (mu : Nat → Nat), p + 6 ≤ L → Rel I mu → ∃ I' mu', fL_b xs L (nI p, I, z_Rm mu) = some (.inl (nI (p + 6), I', z_Rm mu')) ∧ Rel I' mu' := by
    intro p I mu hp hR
    have hc : (nI p).toNatClampNeg = p := nI_clamp (by omega)
    unfold fL_b
    dsimp only
    have hlt : ¬ (Int32.ofNat L - 6 < nI p) := by
      have e : Int32.ofNat L - 6 = nI (L - 6) := n_sub (a := L) (b := 6) (by omega)
      rw [e, n_lt (by omega) (by omega)]
      omega
    rw [if_neg hlt, z_g_t (by rw [hc]; intro h; rcases h with h | h; exact nI_pos (by omega) h; omega), hc]
    · skip
      by_cases c0 : (xs p &&& 63) = 0
      · rw [if_pos c0]; exact h0 xs L p I mu hL hp hR
      rw [if_neg c0]
      by_cases c1 : (xs p &&& 63) = 1
      · rw [if_pos c1]; exact h1 xs L p I mu hL hp hR
      rw [if_neg c1]
      by_cases c2 : (xs p &&& 63) = 2
      · rw [if_pos c2]; exact h2 xs L p I mu hL hp hR
      rw [if_neg c2]
      by_cases c3 : (xs p &&& 63) = 3
      · rw [if_pos c3]; exact h3 xs L p I mu hL hp hR
      rw [if_neg c3]
      by_cases c4 : (xs p &&& 63) = 4
      · rw [if_pos c4]; exact h4 xs L p I mu hL hp hR
      rw [if_neg c4]
      by_cases c5 : (xs p &&& 63) = 5
      · rw [if_pos c5]; exact h5 xs L p I mu hL hp hR
      rw [if_neg c5]
      by_cases c6 : (xs p &&& 63) = 6
      · rw [if_pos c6]; exact h6 xs L p I mu hL hp hR
      rw [if_neg c6]
      by_cases c7 : (xs p &&& 63) = 7
      · rw [if_pos c7]; exact h7 xs L p I mu hL hp hR
      rw [if_neg c7]
      by_cases c8 : (xs p &&& 63) = 8
      · rw [if_pos c8]; exact h8 xs L p I mu hL hp hR
      rw [if_neg c8]
      by_cases c9 : (xs p &&& 63) = 9
      · rw [if_pos c9]; exact h9 xs L p I mu hL hp hR
      rw [if_neg c9]
      by_cases c10 : (xs p &&& 63) = 10
      · rw [if_pos c10]; exact h10 xs L p I mu hL hp hR
      rw [if_neg c10]
      by_cases c11 : (xs p &&& 63) = 11
      · rw [if_pos c11]; exact h11 xs L p I mu hL hp hR
      rw [if_neg c11]
      by_cases c12 : (xs p &&& 63) = 12
      · rw [if_pos c12]; exact h12 xs L p I mu hL hp hR
      rw [if_neg c12]
      by_cases c13 : (xs p &&& 63) = 13
      · rw [if_pos c13]; exact h13 xs L p I mu hL hp hR
      rw [if_neg c13]
      by_cases c14 : (xs p &&& 63) = 14
      · rw [if_pos c14]; exact h14 xs L p I mu hL hp hR
      rw [if_neg c14]
      by_cases c15 : (xs p &&& 63) = 15
      · rw [if_pos c15]; exact h15 xs L p I mu hL hp hR
      rw [if_neg c15]
      by_cases c16 : (xs p &&& 63) = 16
      · rw [if_pos c16]; exact h16 xs L p I mu hL hp hR
      rw [if_neg c16]
      by_cases c17 : (xs p &&& 63) = 17
      · rw [if_pos c17]; exact h17 xs L p I mu hL hp hR
      rw [if_neg c17]
      by_cases c18 : (xs p &&& 63) = 18
      · rw [if_pos c18]; exact h18 xs L p I mu hL hp hR
      rw [if_neg c18]
      by_cases c19 : (xs p &&& 63) = 19
      · rw [if_pos c19]; exact h19 xs L p I mu hL hp hR
      rw [if_neg c19]
      by_cases c20 : (xs p &&& 63) = 20
      · rw [if_pos c20]; exact h20 xs L p I mu hL hp hR
      rw [if_neg c20]
      by_cases c21 : (xs p &&& 63) = 21
      · rw [if_pos c21]; exact h21 xs L p I mu hL hp hR
      rw [if_neg c21]
      by_cases c22 : (xs p &&& 63) = 22
      · rw [if_pos c22]; exact h22 xs L p I mu hL hp hR
      rw [if_neg c22]
      by_cases c23 : (xs p &&& 63) = 23
      · rw [if_pos c23]; exact h23 xs L p I mu hL hp hR
      rw [if_neg c23]
      by_cases c24 : (xs p &&& 63) = 24
      · rw [if_pos c24]; exact h24 xs L p I mu hL hp hR
      rw [if_neg c24]
      by_cases c25 : (xs p &&& 63) = 25
      · rw [if_pos c25]; exact h25 xs L p I mu hL hp hR
      rw [if_neg c25]
      by_cases c26 : (xs p &&& 63) = 26
      · rw [if_pos c26]; exact h26 xs L p I mu hL hp hR
      rw [if_neg c26]
      by_cases c27 : (xs p &&& 63) = 27
      · rw [if_pos c27]; exact h27 xs L p I mu hL hp hR
      rw [if_neg c27]
      by_cases c28 : (xs p &&& 63) = 28
      · rw [if_pos c28]; exact h28 xs L p I mu hL hp hR
      rw [if_neg c28]
      by_cases c29 : (xs p &&& 63) = 29
      · rw [if_pos c29]; exact h29 xs L p I mu hL hp hR
      rw [if_neg c29]
      by_cases c30 : (xs p &&& 63) = 30
      · rw [if_pos c30]; exact h30 xs L p I mu hL hp hR
      rw [if_neg c30]
      by_cases c31 : (xs p &&& 63) = 31
      · rw [if_pos c31]; exact h31 xs L p I mu hL hp hR
      rw [if_neg c31]
      by_cases c32 : (xs p &&& 63) = 32
      · rw [if_pos c32]; exact h32 xs L p I mu hL hp hR
      rw [if_neg c32]
      by_cases c33 : (xs p &&& 63) = 33
      · rw [if_pos c33]; exact h33 xs L p I mu hL hp hR
      rw [if_neg c33]
      by_cases c34 : (xs p &&& 63) = 34
      · rw [if_pos c34]; exact h34 xs L p I mu hL hp hR
      rw [if_neg c34]
      by_cases c35 : (xs p &&& 63) = 35
      · rw [if_pos c35]; exact h35 xs L p I mu hL hp hR
      rw [if_neg c35]
      by_cases c36 : (xs p &&& 63) = 36
      · rw [if_pos c36]; exact h36 xs L p I mu hL hp hR
      rw [if_neg c36]
      exact h37 xs L p I mu hL hp hR
  have out : ∀ (p : Nat) (I : Nat → Nat → Int32) (mu : Nat → Nat), L < p + 6 → p ≤ 384 → fL_b xs L (nI p, I, z_Rm mu) = some (.inr 1) := by
    intro p I mu hp hp2
    unfold fL_b
    dsimp only
    rw [if_pos]
    rw [Int32.lt_iff_toInt_lt, nI_toInt (by omega), Int32.toInt_sub, show (Int32.ofNat L).toInt = (L : Int) from nI_toInt (by omega), show (6 : Int32).toInt = 6 from rfl]
    rw [Int.bmod_eq_of_le (by omega) (by omega)]
    omega
  have key : ∀ (n p : Nat) (I : Nat → Nat → Int32) (mu : Nat → Nat), Rel I mu → p ≤ 384 → 384 + 6 < p + 6 * n → z_lp (fL_b xs L) n (nI p, I, z_Rm mu) = some 1 := by
    intro n
    induction n with
    | zero => intro p I mu hR hp hn; omega
    | succ n ih =>
      intro p I mu hR hp hn
      unfold z_lp
      by_cases hl : p + 6 ≤ L
      · obtain ⟨I', mu', e, hR'⟩ := step p I mu hl hR
        rw [e]
        exact ih (p + 6) I' mu' hR' (by omega) (by omega)
      · rw [out p I mu (by omega) hp]
  rw [R0_eq]
  exact key 300 0 z_I0 z_mu0 rel_0 (by omega) (by omega)
