/-! bits; anew, keep, undo -/
/-- 0 .. 255: its bits counted, both ways -/
theorem n_bits : ∀ n, n < 256 → ∃ k, k ≤ 8 ∧ fJ6_bitCount_0f7a4 (nI n) = some (nI k) ∧ fX13_bits (nI n) = some (nI k) := by
  have : ∀ n, n < 256 → (match fX13_bits (nI n) with
    | some v => Nat.ble v.toNatClampNeg 8 && (v == nI v.toNatClampNeg) && (fJ6_bitCount_0f7a4 (nI n) == some v)
    | none => false) = true := by decide +kernel
  intro n hn
  have h := this n hn
  cases hb : fX13_bits (nI n) with
  | none => rw [hb] at h; cases h
  | some v =>
    rw [hb] at h
    simp only [Bool.and_eq_true, beq_iff_eq] at h
    exact ⟨v.toNatClampNeg, Nat.le_of_ble_eq_true h.1.1, by rw [h.2, ← h.1.2], by rw [← h.1.2]⟩
theorem n_set_congr {p q : Nat → Bool} : ∀ {k : Nat}, (∀ j, j < k → p j = q j) → n_set p k = n_set q k
  | 0, _ => rfl
  | k + 1, h => by
    unfold n_set
    rw [h k (by omega), n_set_congr (fun j hj => h j (by omega))]
/-- told bits: the class's and the model's -/
theorem t_bits {I : Nat → Nat → Int32} {mu len : Nat → Nat} (h : RelL I mu len) : fX9_toldBits 62 I (z_Rm mu) = fX13_toldSet 102 I (z_Rm mu) := by
  rw [c_toldBits c62, m_toldSet]
  congr 2
  apply n_set_congr
  intro j hj
  have e := h.1.1 0 j (by decide) hj
  rw [e, show 8 * 0 + j = j by omega]
  rcases (h.2.1.1 j hj).1 with h0 | h0 <;> rw [h0] <;> rfl
/-- all of the class's singers begin -/
theorem c_anew {I : Nat → Nat → Int32} {mu : Nat → Nat} : z_lp (fX12_anew_b2 0 (z_Rm mu)) 300 ((0 : Int32), I) = some (fun b f => if 64 ≤ b ∧ b < 72 then w_beg (I b) f else I b f) := by
  refine z_lp_tr (n := 8) (fun n => (nI n, fun b f => if 64 ≤ b ∧ b < 64 + n then w_beg (I b) f else I b f)) ?_ ?_ 300 (by decide) |> fun e => by
    rw [← e]
    congr 2
    funext b f
    rw [if_neg (by omega)]
  · intro n hn
    have hn8 : ¬ 8 ≤ n := by omega
    unfold fX12_anew_b2
    dsimp only
    rw [if_neg (n_8 hn)]
    simp (disch := omega) only [z_ob, z_ok, z_ar, z_b_s, z_l_s, z_g_tr, z_x_il, z_x_ir, z_lay, z_shs, z_lens, nI_clamp, n_lt0, n_l0, n_l8, n_l16, n_l24, n_l32, n_l40, n_l48, n_l56, n_l64, n_l72, n_s1, fX12_within_eq, fX13_in_eq, fX12_isSinger_eq, fX12_areTicks_eq, ite_true, ite_false, if_true, if_false, not_false_eq_true, not_true_eq_false, or_self, false_or, or_false, true_or, or_true, and_true, true_and, and_false, false_and, eq_self, hn8, (z_ls62 mu hn).1, (z_ls62 mu hn).2, c_beg (z_ls62 mu hn).2]
    congr 3
    funext b f
    by_cases hb : b = 64 + n
    · subst hb
      have e1 : 64 ≤ 64 + n ∧ 64 + n < 64 + (n + 1) := by omega
      have e2 : ¬ (64 ≤ 64 + n ∧ 64 + n < 64 + n) := by omega
      rw [if_pos rfl, if_pos e1]
      simp only [e2, if_false, ite_false]
    · rw [if_neg hb]
      grind
  · unfold fX12_anew_b2
    dsimp only
    rw [if_pos n_88]
theorem m_anew {I : Nat → Nat → Int32} {mu : Nat → Nat} {len : Nat → Nat} (hV : r_V I 103 len) : ∃ J, z_lp (fX13_anew_b2 102 (z_Rm mu)) 300 ((0 : Int32), I) = some J ∧ (∀ b, b ≠ 103 → J b = I b) ∧ (∀ i f, i < 8 → f < 10 → J 103 (8 * f + i) = w_beg (fun f => I 103 (8 * f + i)) f) ∧ J 103 80 = I 103 80 ∧ J 103 81 = I 103 81 := by
  let Jn : Nat → Nat → Nat → Int32 := fun n b k => if b = 103 ∧ k < 80 ∧ k % 8 < n then w_beg (fun f => I 103 (8 * f + k % 8)) (k / 8) else I b k
  refine ⟨Jn 8, ?_, ?_, ?_, ?_, ?_⟩
  · have e := z_lp_tr (body := fX13_anew_b2 102 (z_Rm mu)) (n := 8) (x := Jn 8) (fun n => (nI n, Jn n)) ?_ ?_ 300 (by decide)
    · rw [← e]
      congr 2
      funext b k
      show I b k = if _ then _ else _
      rw [if_neg (by omega)]
    · intro n hn
      have hv := v_at hV hn
      have ht : Jn n 103 n = I 103 n := by
        show (if _ then _ else _) = _
        rw [if_neg (by omega)]
      unfold fX13_anew_b2
      dsimp only
      rw [if_neg (n_8 hn), m_told hn, z_b_s, ht]
      have h0 : I 103 n = 0 ∨ I 103 n = 1 := (hV.1 n hn).1
      rcases h0 with h0 | h0
      · rw [h0, if_neg (show ¬ (0 : Int32) = 1 by decide), if_pos rfl, z_l_s, n_s1]
        congr 3
        funext b k
        show (if _ then _ else _) = (if _ then _ else _)
        by_cases hb : b = 103 ∧ k < 80 ∧ k % 8 = n
        · have e1 : ¬ (b = 103 ∧ k < 80 ∧ k % 8 < n) := by omega
          have e2 : b = 103 ∧ k < 80 ∧ k % 8 < n + 1 := by omega
          rw [if_neg e1, if_pos e2]
          have hz := (hV.1 n hn).2.2.2.2.2.2.2.2.2 h0
          obtain ⟨rfl, hk, hkn⟩ := hb
          have e3 : I 103 k = 0 := by
            have := hz (k / 8) (by omega)
            rw [show 8 * (k / 8) + n = k by omega] at this
            exact this
          rw [e3, hkn]
          unfold w_beg
          split
          · rfl
          · split
            · exact (hz 4 (by decide)).symm
            · exact (hz (k / 8) (by omega)).symm
        · by_cases h2 : b = 103 ∧ k < 80 ∧ k % 8 < n
          · rw [if_pos h2, if_pos (by omega)]
          · rw [if_neg h2, if_neg (by omega)]
      · rw [h0, if_pos rfl, if_neg (by decide), m_beg hn, z_b_s, z_l_s, n_s1]
        congr 3
        funext b k
        show _ = (if b = 103 ∧ k < 80 ∧ k % 8 < n + 1 then w_beg (fun f => I 103 (8 * f + k % 8)) (k / 8) else I b k)
        have hJ : ∀ c j, Jn n c j = if c = 103 ∧ j < 80 ∧ j % 8 < n then w_beg (fun f => I 103 (8 * f + j % 8)) (j / 8) else I c j := fun _ _ => rfl
        by_cases hb : b = 103
        · subst hb
          rw [if_pos rfl]
          by_cases hk : k < 80 ∧ k % 8 = n
          · obtain ⟨hk, hkn⟩ := hk
            have e2 : 103 = 103 ∧ k < 80 ∧ k % 8 < n + 1 := by omega
            rw [if_pos e2, hkn]
            have e5 : Jn n 103 (32 + n) = I 103 (32 + n) := by rw [hJ, if_neg (by omega)]
            have e6 : Jn n 103 k = I 103 k := by rw [hJ, if_neg (by omega)]
            rw [e5, e6]
            unfold w_beg
            obtain ⟨q, hq, rfl⟩ : ∃ q, q < 10 ∧ k = 8 * q + n := ⟨k / 8, by omega, by omega⟩
            rw [show (8 * q + n) / 8 = q by omega]
            by_cases c1 : q = 5 ∨ q = 6 ∨ q = 8 ∨ q = 9
            · rw [if_pos c1, if_pos (by omega)]
            · rw [if_neg c1, if_neg (by omega)]
              by_cases c2 : q = 7
              · subst c2
                rw [if_pos (by omega), if_pos rfl]
              · rw [if_neg (by omega), if_neg c2]
          · rw [if_neg (by omega), if_neg (by omega), hJ]
            by_cases h2 : k < 80 ∧ k % 8 < n
            · rw [if_pos ⟨rfl, h2⟩, if_pos (by omega)]
            · rw [if_neg (by omega), if_neg (by omega)]
        · rw [if_neg hb, hJ, if_neg (by omega), if_neg (by omega)]
    · unfold fX13_anew_b2
      dsimp only
      rw [if_pos n_88]
  · intro b hb
    funext k
    show (if _ then _ else _) = _
    rw [if_neg (by omega)]
  · intro i f hi hf
    show (if _ then _ else _) = _
    rw [if_pos (by omega), show (8 * f + i) % 8 = i by omega, show (8 * f + i) / 8 = f by omega]
  · show (if _ then _ else _) = _
    rw [if_neg (by omega)]
  · show (if _ then _ else _) = _
    rw [if_neg (by omega)]
theorem w_beg_congr {g k : Nat → Int32} (h : ∀ f, f < 10 → g f = k f) {f : Nat} (hf : f < 10) : w_beg g f = w_beg k f := by
  unfold w_beg
  rw [h 4 (by decide), h f hf]
theorem call_anew : Call_anew := by
  intro I mu h
  obtain ⟨len, h⟩ := h
  let I1 : Nat → Nat → Int32 := fun b f => if 64 ≤ b ∧ b < 72 then w_beg (I b) f else I b f
  have k1 : ∀ b, ¬ (64 ≤ b ∧ b < 72) → I1 b = I b := fun b hb => by
    funext f
    show (if _ then _ else _) = _
    rw [if_neg hb]
  have hV1 : r_V I1 103 len := f_V h.2.1 (k1 103 (by omega))
  obtain ⟨J, e1, e2, e3, e4, e5⟩ := m_anew (mu := mu) hV1
  have hR : RelL J mu len := by
    refine rel_stage (fun i f => w_beg (fun f => I 103 (8 * f + i)) f) h (fun b h1 h2 h3 => ?_) (fun i f hi hf => ?_) ?_ (fun i hi => v_beg (v_at h.2.1 hi)) ?_ ?_
    · rw [e2 b h3, k1 b h1]
    · constructor
      · rw [e2 _ (by omega)]
        show (if _ then _ else _) = _
        rw [if_pos (by omega)]
        exact w_beg_congr (fun f hf => by have := h.1.1 f i hf hi; rw [show 62 + 2 + i = 64 + i by omega] at this; exact this) hf
      · rw [e3 i f hi hf, k1 103 (by omega)]
    · rw [e2 62 (by decide), k1 62 (by omega), e4, e5, k1 103 (by omega)]
      exact h.1.2
    · rw [e4, k1 103 (by omega)]
      exact h.2.1.2.1
    · rw [e5, k1 103 (by omega)]
      exact h.2.1.2.2
  have hs : n_set (fun i => J 103 i == 1) 8 < 256 := n_set_lt _ 8
  obtain ⟨k, hk, b1, b2⟩ := n_bits _ hs
  have m1 := m_toldSet (mu := mu) (I := J)
  have t0 : fX9_toldBits 62 I1 (z_Rm mu) = some (nI (n_set (fun i => J 103 i == 1) 8)) := by
    rw [← m1, ← t_bits hR, c_toldBits c62, c_toldBits c62]
    congr 2
    apply n_set_congr
    intro j hj
    rw [e2 _ (by omega)]
  have c1 := c_anew (mu := mu) (I := I)
  refine ⟨nI k, I1, J, ?_, ?_, ⟨len, hR⟩⟩
  · unfold fX12_anew
    rw [z_g_t o_0, c1, z_b_s, r_05, z_g_t o_62]
    show z_b (fX9_toldBits 62 I1 (z_Rm mu)) _ = _
    rw [t0, z_b_s, b1, z_b_s]
  · unfold fX13_anew
    rw [z_g_t m_ob, e1, z_b_s, m1, z_b_s, b2, z_b_s]
