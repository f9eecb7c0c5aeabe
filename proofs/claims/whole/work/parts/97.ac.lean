/-! roll: the call -/
theorem p_far {mu : Nat → Nat} (h : r_P mu) {j : Nat} (hj : j < 8) : ∀ b, mu j ≤ b → b ≤ mu j + 3 → ¬ (mu 8 ≤ b ∧ b ≤ mu 8 + 3) := by
  intro b h1 h2 h3
  obtain ⟨q, -, e1⟩ := h.1 j (by omega)
  obtain ⟨q', -, e2⟩ := h.1 8 (by decide)
  have : mu j = mu 8 := by omega
  have := h.2.1 j 8 (by omega) (by decide) this
  omega
theorem p_far0 {mu : Nat → Nat} (h : r_P mu) {q : Nat} : 8 + 4 * q = mu 8 + 3 ∨ ¬ (mu 8 ≤ 8 + 4 * q ∧ 8 + 4 * q ≤ mu 8 + 3) := by
  obtain ⟨q', -, e2⟩ := h.1 8 (by decide)
  omega
section RR
variable {I I2 : z_He} {mu len : Nat → Nat}
theorem rel_ro1 {a : Nat} (h : RelL I mu len) (hf : ∀ b k, ¬ (b = 1 ∧ 1 ≤ k ∧ k ≤ 4) → ¬ (mu 8 ≤ b ∧ b ≤ mu 8 + 3) → ¬ (b = 102 ∧ (k = 11 ∨ k = 12 ∨ k = 13 ∨ k = 14 ∨ k = 17 ∨ k = 19 ∨ k = 40 ∨ k = 41)) → ¬ (125 ≤ b ∧ b ≤ 130) → I2 b k = I b k) (h1 : I2 1 1 = 0) (h2 : I2 102 11 = 0) (h3 : I2 (mu 8 + 3) 0 = 0) : RelL I2 (x_up mu 11 a) len := by
  obtain ⟨w1, w2, w3, w5, w6, w7, w8, w9, w0⟩ := h
  have hl := p_law w7
  have h8 := p_le w7 (show 8 < 9 by decide)
  have hb : ∀ b, b ≠ 1 → ¬ (mu 8 ≤ b ∧ b ≤ mu 8 + 3) → b ≠ 102 → ¬ (125 ≤ b ∧ b ≤ 130) → I2 b = I b := fun b q1 q2 q3 q4 => funext fun k => hf b k (by omega) q2 (by omega) q4
  have h102 : ∀ k, (k = 3 ∨ k = 4 ∨ k = 20 ∨ k = 57) → I2 102 k = I 102 k := fun k hk => hf 102 k (by omega) (by omega) (by omega) (by omega)
  refine ⟨f_W w1 (fun i hi => ?_) ?_ ?_ ?_, f_V w2 ?_, f_K w3 (h102 57 (by omega)) (fun i hi => ?_) ?_ ?_ ?_, f_C w5 ?_ ?_ (h102 3 (by omega)) (h102 4 (by omega)) ?_ (h102 57 (by omega)), ⟨0, by decide, h1, h2, fun k hk => absurd hk (Nat.not_lt_zero k)⟩, r_P11 w7 a, fun i hi => ?_, ?_, fun q hq => ?_⟩
  all_goals first | (rw [hb _ (by omega) (by omega) (by omega) (by omega)]; done) | skip
  · rw [x_up_o (by omega)]
    have li := p_le w7 (j := i) (by omega)
    exact f_R (w8 i hi) (fun b b1 b2 => hb b (by omega) (p_far w7 hi b b1 b2) (by omega) (by omega)) (fun b b1 b2 => hb b (by omega) (by omega) (by omega) (by omega))
  · rw [x_up_o (by omega)]
    exact f_L0 w9 (fun b b1 b2 => hb b (by omega) (by omega) (by omega) (by omega)) (by rw [hb _ (by omega) (by omega) (by omega) (by omega)]) (by rw [hb _ (by omega) (by omega) (by omega) (by omega)]) (h102 20 (by omega)) (fun b b1 b2 => hb b (by omega) (by omega) (by omega) (by omega))
  · rcases p_far0 w7 (q := q) with e | e
    · rw [e]; exact h3
    · rw [hb _ (by omega) e (by omega) (by omega)]; exact w0 q hq
def mu_sw (mu : Nat → Nat) (i : Nat) : Nat → Nat := x_up (x_up (x_up mu 11 (mu 8)) i (mu 8)) 8 (mu i)
theorem sw_8 {i : Nat} : mu_sw mu i 8 = mu i := x_up_at
theorem sw_i {i : Nat} (hi : i < 8) : mu_sw mu i i = mu 8 := by
  unfold mu_sw
  rw [x_up_o (by omega), x_up_at]
theorem sw_o {i j : Nat} (h1 : j ≠ 8) (h2 : j ≠ i) (h3 : j ≠ 11) : mu_sw mu i j = mu j := by
  unfold mu_sw
  rw [x_up_o h1, x_up_o h2, x_up_o h3]
theorem sw_P {i : Nat} (hi : i < 8) (h : r_P mu) : r_P (mu_sw mu i) := by
  obtain ⟨h1, h2, h3⟩ := h
  refine ⟨fun j hj => ?_, fun a c ha hc e => ?_, ?_⟩
  · by_cases c8 : j = 8
    · rw [c8, sw_8]; exact h1 i (by omega)
    · by_cases ci : j = i
      · rw [ci, sw_i hi]; exact h1 8 (by decide)
      · rw [sw_o c8 ci (by omega)]; exact h1 j hj
  · by_cases a8 : a = 8
    · by_cases c8 : c = 8
      · omega
      · rw [a8, sw_8] at e
        by_cases ci : c = i
        · rw [ci, sw_i hi] at e
          have := h2 i 8 (by omega) (by decide) e
          omega
        · rw [sw_o c8 ci (by omega)] at e
          have := h2 i c (by omega) hc e
          omega
    · by_cases ai : a = i
      · rw [ai, sw_i hi] at e
        by_cases c8 : c = 8
        · rw [c8, sw_8] at e
          have := h2 8 i (by decide) (by omega) e
          omega
        · by_cases ci : c = i
          · omega
          · rw [sw_o c8 ci (by omega)] at e
            have := h2 8 c (by decide) hc e
            omega
      · rw [sw_o a8 ai (by omega)] at e
        by_cases c8 : c = 8
        · rw [c8, sw_8] at e
          have := h2 a i ha (by omega) e
          omega
        · by_cases ci : c = i
          · rw [ci, sw_i hi] at e
            have := h2 a 8 ha (by decide) e
            omega
          · rw [sw_o c8 ci (by omega)] at e
            exact h2 a c ha hc e
  · rw [sw_o (by omega) (by omega) (by omega), sw_o (by omega) (by omega) (by omega)]
    exact h3
theorem R_sw {i : Nat} (hi : i < 8) : z_v (z_v (z_Rm (x_up mu 11 (mu 8))) 4 i (mu 8)) 3 1 (mu i) = z_Rm (mu_sw mu i) := by
  funext b j
  rw [z_v_eq, z_v_eq]
  by_cases c3 : b = 3 ∧ j = 1
  · rw [if_pos c3, c3.1, c3.2]
    exact sw_8.symm
  · rw [if_neg c3]
    by_cases c4 : b = 4 ∧ j = i
    · rw [if_pos c4, c4.1, c4.2]
      unfold z_Rm
      rw [if_pos ⟨rfl, hi⟩, sw_i hi]
    · rw [if_neg c4]
      unfold z_Rm
      by_cases d1 : b = 4 ∧ j < 8
      · rw [if_pos d1, if_pos d1, sw_o (by omega) (by omega) (by omega), x_up_o (by omega)]
      · rw [if_neg d1, if_neg d1, if_neg c3, if_neg c3, sw_o (by decide) (by omega) (by decide), sw_o (by decide) (by omega) (by decide), x_up_o (by decide), x_up_o (by decide), show mu_sw mu i 11 = x_up mu 11 (mu 8) 11 by unfold mu_sw; rw [x_up_o (by decide), x_up_o (by omega)], show mu_sw mu i 12 = x_up mu 11 (mu 8) 12 by unfold mu_sw; rw [x_up_o (by decide), x_up_o (by omega)]]
theorem u_hs_sum {f : Nat → Int32} {c : Nat} {F : u_F} : ∀ k, (∀ j, j < k → f (c + j) = nI (F j).2.1 ∧ (F j).2.1 ≤ 1) → u_hs F k = r_sum f c k
  | 0, _ => rfl
  | k + 1, h => by
    unfold u_hs r_sum
    obtain ⟨h1, h2⟩ := h k (by omega)
    rw [h1, u_hs_sum k (fun j hj => h j (by omega))]
    by_cases z : (F k).2.1 = 0
    · rw [z, if_neg (by decide)]
      rfl
    · rw [show (F k).2.1 = 1 by omega, if_pos (show nI 1 = (1 : Int32) from rfl)]
/-- singer i has a new roll -/
theorem rel_ro2 {i m : Nat} {F : u_F} (hi : i < 8) (h : RelL I mu len) (hok : u_ok m F) (hf : ∀ b k, ¬ (b = 1 ∧ 1 ≤ k ∧ k ≤ 4) → ¬ (mu 8 ≤ b ∧ b ≤ mu 8 + 3) → ¬ (b = 102 ∧ (k = 11 ∨ k = 12 ∨ k = 13 ∨ k = 14 ∨ k = 17 ∨ k = 19 ∨ k = 40 ∨ k = 41)) → ¬ (125 ≤ b ∧ b ≤ 130) → ¬ b = 103 → ¬ b = 64 + i → ¬ (b = 110 ∧ k = i) → ¬ (106 ≤ b ∧ b ≤ 109 ∧ 60 * i ≤ k ∧ k < 60 * i + m) → I2 b k = I b k) (h1 : I2 1 1 = 0) (h2 : I2 102 11 = 0) (hC : u_C (mu 8) I2 m F) (h110 : I2 110 i = nI m) (hcp : ∀ k, k < m → I2 106 (60 * i + k) = nI (F k).1 ∧ I2 107 (60 * i + k) = nI (F k).2.1 ∧ I2 108 (60 * i + k) = nI (F k).2.2.1 ∧ I2 109 (60 * i + k) = nI (F k).2.2.2) (h64 : ∀ f, I2 (64 + i) f = w_beg (I (64 + i)) f) (h103 : ∀ f j, f < 10 → j < 8 → I2 103 (8 * f + j) = if j = i then w_beg (fun f => I 103 (8 * f + i)) f else I 103 (8 * f + j)) (h80 : I2 103 80 = I 103 80) (h81 : I2 103 81 = I 103 81) : RelL I2 (mu_sw mu i) (x_up len i m) := by
  obtain ⟨w1, w2, w3, w5, w6, w7, w8, w9, w0⟩ := h
  have hl := p_law w7
  have h8 := p_le w7 (show 8 < 9 by decide)
  have m60 := hok.1
  have hb : ∀ b, b ≠ 1 → ¬ (mu 8 ≤ b ∧ b ≤ mu 8 + 3) → b ≠ 102 → ¬ (125 ≤ b ∧ b ≤ 130) → b ≠ 103 → b ≠ 64 + i → ¬ (106 ≤ b ∧ b ≤ 110) → I2 b = I b := fun b q1 q2 q3 q4 q5 q6 q7 => funext fun k => hf b k (by omega) q2 (by omega) q4 q5 q6 (by omega) (by omega)
  have h102 : ∀ k, (k = 3 ∨ k = 4 ∨ k = 20 ∨ k = 57) → I2 102 k = I 102 k := fun k hk => hf 102 k (by omega) (by omega) (by omega) (by omega) (by omega) (by omega) (by omega) (by omega)
  have e64 : ∀ j f, f < 10 → j < 8 → I (64 + j) f = I 103 (8 * f + j) := fun j f hf' hj => by rw [← w1.1 f j hf' hj]
  refine ⟨⟨fun f j hf' hj => ?_, ?_, ?_⟩, v_of (fun j hj => ?_) ?_ ?_, f_K w3 (h102 57 (by omega)) (fun j hj => ?_) ?_ ?_ ?_, f_C w5 ?_ ?_ (h102 3 (by omega)) (h102 4 (by omega)) ?_ (h102 57 (by omega)), ⟨0, by decide, h1, h2, fun k hk => absurd hk (Nat.not_lt_zero k)⟩, sw_P hi w7, fun j hj => ?_, ?_, fun q hq => ?_⟩
  · rw [show 62 + 2 + j = 64 + j by omega, h103 f j hf' hj]
    by_cases c : j = i
    · subst c
      rw [if_pos rfl, h64]
      unfold w_beg
      rw [e64 j 4 (by decide) hj, e64 j f hf' hj]
    · rw [if_neg c, hb (64 + j) (by omega) (by omega) (by omega) (by omega) (by omega) (by omega) (by omega)]
      exact e64 j f hf' hj
  · rw [h80, hb 62 (by omega) (by omega) (by omega) (by omega) (by omega) (by omega) (by omega)]; exact w1.2.1
  · rw [h81, hb 62 (by omega) (by omega) (by omega) (by omega) (by omega) (by omega) (by omega)]; exact w1.2.2
  · have ef : ∀ f, f < 10 → (fun f => I2 103 (8 * f + j)) f = if j = i then w_beg (fun f => I 103 (8 * f + i)) f else I 103 (8 * f + j) := fun f hf' => h103 f j hf' hj
    by_cases c : j = i
    · subst c
      rw [x_up_at]
      obtain ⟨g1, g2, g3, g4, g5, -, g7, g8, g9, g10⟩ := v_beg (v_at w2 hj)
      have ef' : ∀ f, f < 10 → (fun f => I2 103 (8 * f + j)) f = w_beg (fun f => I 103 (8 * f + j)) f := fun f hf' => by rw [ef f hf', if_pos rfl]
      unfold v_ok
      rw [ef' 0 (by decide), ef' 1 (by decide), ef' 2 (by decide), ef' 3 (by decide), ef' 4 (by decide), ef' 5 (by decide), ef' 6 (by decide), ef' 7 (by decide), ef' 9 (by decide)]
      exact ⟨g1, g2, g3, g4, g5, ⟨0, Nat.zero_le _, rfl⟩, g7, g8, g9, fun h0 f hf' => by rw [ef' f hf']; exact g10 h0 f hf'⟩
    · rw [x_up_o c]
      have ef' : ∀ f, f < 10 → (fun f => I2 103 (8 * f + j)) f = (fun f => I 103 (8 * f + j)) f := fun f hf' => by rw [ef f hf', if_neg c]
      have := v_at w2 hj
      unfold v_ok at this ⊢
      rw [ef' 0 (by decide), ef' 1 (by decide), ef' 2 (by decide), ef' 3 (by decide), ef' 4 (by decide), ef' 5 (by decide), ef' 6 (by decide), ef' 7 (by decide), ef' 9 (by decide)]
      obtain ⟨g1, g2, g3, g4, g5, g6, g7, g8, g9, g10⟩ := this
      exact ⟨g1, g2, g3, g4, g5, g6, g7, g8, g9, fun h0 f hf' => by rw [ef' f hf']; exact g10 h0 f hf'⟩
  · rw [h80]; exact w2.2.1
  · rw [h81]; exact w2.2.2
  · rw [hb _ (by omega) (by omega) (by omega) (by omega) (by omega) (by omega) (by omega)]
  · rw [hb _ (by omega) (by omega) (by omega) (by omega) (by omega) (by omega) (by omega)]
  · rw [hb _ (by omega) (by omega) (by omega) (by omega) (by omega) (by omega) (by omega)]
  · rw [hb _ (by omega) (by omega) (by omega) (by omega) (by omega) (by omega) (by omega)]
  · rw [hb _ (by omega) (by omega) (by omega) (by omega) (by omega) (by omega) (by omega)]
  · rw [hb _ (by omega) (by omega) (by omega) (by omega) (by omega) (by omega) (by omega)]
  · rw [hb _ (by omega) (by omega) (by omega) (by omega) (by omega) (by omega) (by omega)]
  · by_cases c : j = i
    · subst c
      rw [sw_i hj, x_up_at]
      obtain ⟨c1, c2, c3⟩ := hC
      refine ⟨m60, c1, h110, c3 0 (Nat.zero_le m), fun k hk => ?_⟩
      obtain ⟨a1, a2, a3, a4, a5⟩ := hok.2 k hk
      obtain ⟨d1, d2, d3, d4⟩ := hcp k hk
      refine ⟨⟨(F k).1, a1, (c2 k hk).1, d1⟩, ⟨(F k).2.1, (F k).2.2.1, (F k).2.2.2, a2, a3, a4, d2, d3, d4, (c2 k hk).2, fun z => ?_⟩, ?_⟩
      · obtain ⟨z1, z2⟩ := a5 z
        refine ⟨z1, ?_⟩
        rw [d1, show 60 * j + k - 1 = 60 * j + (k - 1) by omega, (hcp (k - 1) (by omega)).1, z2]
      · rw [c3 (k + 1) (by omega), u_hs_sum (f := I2 107) (c := 60 * j) (k + 1) (fun q hq => ⟨(hcp q (by omega)).2.1, (hok.2 q (by omega)).2.1⟩)]
    · have lj := p_le w7 (j := j) (by omega)
      rw [sw_o (by omega) c (by omega), x_up_o c]
      obtain ⟨r1, r2, r3, r4, r5⟩ := w8 j hj
      have eb : ∀ b, mu j ≤ b → b ≤ mu j + 3 → I2 b = I b := fun b b1 b2 => hb b (by omega) (p_far w7 hj b b1 b2) (by omega) (by omega) (by omega) (by omega) (by omega)
      have ec : ∀ b k, 106 ≤ b → b ≤ 109 → k < 60 → I2 b (60 * j + k) = I b (60 * j + k) := fun b k b1 b2 hk => hf b _ (by omega) (by omega) (by omega) (by omega) (by omega) (by omega) (by omega) (by omega)
      refine ⟨r1, by rw [eb _ (by omega) (by omega)]; exact r2, by rw [hf 110 j (by omega) (by omega) (by omega) (by omega) (by omega) (by omega) (by omega) (by omega)]; exact r3, by rw [eb _ (by omega) (by omega)]; exact r4, fun k hk => ?_⟩
      obtain ⟨s1, ⟨x, y, z, s2, s3, s4, s5, s6, s7, s8, s9⟩, s10⟩ := r5 k hk
      rw [eb (mu j + 1) (by omega) (by omega), eb (mu j + 2) (by omega) (by omega), eb (mu j + 3) (by omega) (by omega), ec 106 k (by decide) (by decide) (by omega), ec 107 k (by decide) (by decide) (by omega), ec 108 k (by decide) (by decide) (by omega), ec 109 k (by decide) (by decide) (by omega)]
      refine ⟨s1, ⟨x, y, z, s2, s3, s4, s5, s6, s7, s8, fun q => ⟨(s9 q).1, ?_⟩⟩, ?_⟩
      · have := (s9 q).1
        rw [show 60 * j + k - 1 = 60 * j + (k - 1) by omega, ec 106 (k - 1) (by decide) (by decide) (by omega), (s9 q).2, show 60 * j + k - 1 = 60 * j + (k - 1) by omega]
      · rw [s10, r_sum_eq (f := I2 107) (g := I 107) (fun q hq => ec 107 q (by decide) (by decide) (by omega))]
  · rw [sw_o (by omega) (by omega) (by omega)]
    exact f_L0 w9 (fun b b1 b2 => hb b (by omega) (by omega) (by omega) (by omega) (by omega) (by omega) (by omega)) (by rw [hb _ (by omega) (by omega) (by omega) (by omega) (by omega) (by omega) (by omega)]) (by rw [hb _ (by omega) (by omega) (by omega) (by omega) (by omega) (by omega) (by omega)]) (h102 20 (by omega)) (fun b b1 b2 => hb b (by omega) (by omega) (by omega) (by omega) (by omega) (by omega) (by omega))
  · rcases p_far0 w7 (q := q) with e | e
    · rw [e]; exact hC.2.2 0 (Nat.zero_le m)
    · rw [hb _ (by omega) e (by omega) (by omega) (by omega) (by omega) (by omega)]; exact w0 q hq
end RR
