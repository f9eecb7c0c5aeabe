/-! undo -/
def w_un (g : Nat → Int32) (L : Int32) (f : Nat) : Int32 := if f = 5 then z_min (g 5) L else if f = 9 then (if z_min (g 5) L < L then g 9 else 0) else g f
theorem w_un_congr {g k : Nat → Int32} {L : Int32} (h : ∀ f, f < 10 → g f = k f) {f : Nat} (hf : f < 10) : w_un g L f = w_un k L f := by
  unfold w_un
  rw [h 5 (by decide), h 9 (by decide), h f hf]
theorem n_min {a b : Nat} (ha : a < 2 ^ 31) (hb : b < 2 ^ 31) : z_min (nI a) (nI b) = nI (min a b) := by
  unfold z_min
  by_cases h : b < a
  · rw [if_pos ((n_lt hb ha).mpr h), Nat.min_eq_right (by omega)]
  · rw [if_neg (fun c => h ((n_lt hb ha).mp c)), Nat.min_eq_left (by omega)]
theorem fX13_min_eq {x y : Int32} : fX13_min x y = some (z_min x y) := by
  unfold fX13_min z_min
  by_cases h1 : y < x
  · have h2 : y ≤ x := by rw [Int32.lt_iff_toInt_lt] at h1; rw [Int32.le_iff_toInt_le]; omega
    rw [if_pos h1, if_pos h2]
  · rw [if_neg h1]
    by_cases h2 : y ≤ x
    · have : x = y := by rw [Int32.lt_iff_toInt_lt] at h1; rw [Int32.le_iff_toInt_le] at h2; rw [← Int32.toInt_inj]; omega
      subst this
      rw [if_pos h2]
    · rw [if_neg h2]
theorem v_un {g : Nat → Int32} {l : Nat} (hl : l ≤ 60) (h : v_ok g 60) : v_ok (w_un g (nI l)) l := by
  obtain ⟨g1, g2, g3, g4, g5, ⟨n, gn, g6⟩, g7, g8, g9, g10⟩ := h
  refine ⟨g1, g2, g3, g4, g5, ⟨min n l, by omega, ?_⟩, g7, g8, ?_, fun h0 f hf => ?_⟩
  · show z_min (g 5) (nI l) = _
    rw [g6, n_min (by omega) (by omega)]
  · show (if z_min (g 5) (nI l) < nI l then g 9 else 0) = 0 ∨ (if z_min (g 5) (nI l) < nI l then g 9 else 0) = 1
    split
    · exact g9
    · exact Or.inl rfl
  · have hz := g10 h0
    have z5 : z_min (g 5) (nI l) = 0 := by
      rw [hz 5 (by decide), show (0 : Int32) = nI 0 from rfl, n_min (by omega) (by omega), Nat.zero_min]
    unfold w_un
    split
    · exact z5
    · split
      · split
        · exact hz 9 (by decide)
        · rfl
      · exact hz f hf
theorem c_undo {J : Nat → Nat → Int32} {mu : Nat → Nat} (hP : r_P mu) : z_lp (fX12_undo_b22 0 (z_Rm mu)) 300 ((0 : Int32), J) = some (fun b f => if 64 ≤ b ∧ b < 72 then w_un (J b) (J (mu (b - 64)) 3) f else J b f) := by
  refine z_lp_tr (n := 8) (fun n => (nI n, fun b f => if 64 ≤ b ∧ b < 64 + n then w_un (J b) (J (mu (b - 64)) 3) f else J b f)) ?_ ?_ 300 (by decide) |> fun e => by
    rw [← e]
    congr 2
    funext b f
    rw [if_neg (by omega)]
  · intro n hn
    have hn8 : ¬ 8 ≤ n := by omega
    have hr := o_roll hP (show n < 9 by omega)
    have hm := p_le hP (show n < 9 by omega)
    generalize hK : (fun b f => if 64 ≤ b ∧ b < 64 + n then w_un (J b) (J (mu (b - 64)) 3) f else J b f) = K
    unfold fX12_undo_b22
    dsimp only
    rw [if_neg (n_8 hn)]
    have k1 : K (64 + n) = J (64 + n) := by
      rw [← hK]; funext f; dsimp only; rw [if_neg (by omega)]
    have k2 : K (mu n) = J (mu n) := by
      rw [← hK]; funext f; dsimp only; rw [if_neg (by omega)]
    simp (disch := omega) only [z_ob, z_ok, z_ar, z_b_s, z_l_s, z_g_tr, z_x_il, z_x_ir, z_lay, z_shs, z_lens, nI_clamp, n_lt0, n_l0, n_l8, n_l16, n_l24, n_l32, n_l40, n_l48, n_l56, n_l64, n_l72, n_s1, fX12_within_eq, fX13_in_eq, fX12_isSinger_eq, fX12_areTicks_eq, ite_true, ite_false, if_true, if_false, not_false_eq_true, not_true_eq_false, or_self, false_or, or_false, true_or, or_true, and_true, true_and, and_false, false_and, eq_self, hn8, (z_ls62 mu hn).1, (z_ls62 mu hn).2, r_4 hn, hr.1, fX5_length, k1, k2]
    rw [c_isDone c62 hP hn, z_b_s]
    simp only [show 62 + 2 + n = 64 + n by omega, z_u_at]
    rw [u_o (show mu n ≠ 64 + n by omega), k2]
    have key : ∀ (w : Nat → Nat → Int32), w = z_u (z_u K (64 + n) 5 (z_min (J (64 + n) 5) (J (mu n) 3))) (64 + n) 9 (if z_min (J (64 + n) 5) (J (mu n) 3) < J (mu n) 3 then J (64 + n) 9 else 0) → w = fun b f => if 64 ≤ b ∧ b < 64 + (n + 1) then w_un (J b) (J (mu (b - 64)) 3) f else J b f := by
      intro w hw
      rw [hw]
      funext b f
      simp only [z_u_eq]
      by_cases hb : b = 64 + n
      · subst hb
        have e1 : 64 ≤ 64 + n ∧ 64 + n < 64 + (n + 1) := by omega
        rw [if_pos e1, show 64 + n - 64 = n by omega, k1]
        unfold w_un
        by_cases c9 : f = 9
        · have d : ¬ f = 5 := by omega
          simp only [c9, and_self, if_true, ite_true, show ¬ (9 = 5) by decide, if_false, ite_false]
        · by_cases c5 : f = 5
          · simp only [c5, and_self, if_true, ite_true, show ¬ (5 = 9) by decide, and_false, if_false, ite_false]
          · simp only [c9, c5, and_false, if_false, ite_false]
      · simp only [hb, false_and, if_false, ite_false]
        rw [← hK]
        dsimp only
        by_cases h2 : 64 ≤ b ∧ b < 64 + n
        · have h3 : 64 ≤ b ∧ b < 64 + (n + 1) := by omega
          rw [if_pos h2, if_pos h3]
        · have h3 : ¬ (64 ≤ b ∧ b < 64 + (n + 1)) := by omega
          rw [if_neg h2, if_neg h3]
    by_cases hd : z_min (J (64 + n) 5) (J (mu n) 3) < J (mu n) 3
    · rw [if_pos hd, if_pos rfl]
      congr 3
      refine key _ ?_
      rw [if_pos hd]
      funext b f
      simp only [z_u_eq]
      by_cases hb : b = 64 + n ∧ f = 9
      · obtain ⟨rfl, rfl⟩ := hb
        rw [k1]
        simp
      · rw [if_neg hb]
    · rw [if_neg hd, if_neg (by decide)]
      congr 3
      refine key _ ?_
      rw [if_neg hd]
  · unfold fX12_undo_b22
    dsimp only
    rw [if_pos n_88]
theorem m_undo {K : Nat → Nat → Int32} {mu : Nat → Nat} : z_lp (fX13_undo_b22 102 (z_Rm mu)) 300 ((0 : Int32), K) = some (fun b k => if b = 103 ∧ k < 80 then w_un (fun f => K 103 (8 * f + k % 8)) (K 110 (k % 8)) (k / 8) else K b k) := by
  refine z_lp_tr (n := 8) (fun n => (nI n, fun b k => if b = 103 ∧ k < 80 ∧ k % 8 < n then w_un (fun f => K 103 (8 * f + k % 8)) (K 110 (k % 8)) (k / 8) else K b k)) ?_ ?_ 300 (by decide) |> fun e => by
    rw [← e]
    congr 2
    funext b f
    rw [if_neg (by omega)]
  · intro n hn
    have hn8 : ¬ 8 ≤ n := by omega
    have a1 : ¬ 82 ≤ 40 + n := by omega
    have a2 : ¬ 82 ≤ 72 + n := by omega
    generalize hM : (fun b k => if b = 103 ∧ k < 80 ∧ k % 8 < n then w_un (fun f => K 103 (8 * f + k % 8)) (K 110 (k % 8)) (k / 8) else K b k) = M
    unfold fX13_undo_b22
    dsimp only
    rw [if_neg (n_8 hn)]
    have k1 : M 103 (40 + n) = K 103 (40 + n) := by
      rw [← hM]; dsimp only; rw [if_neg (by omega)]
    have k2 : M 110 = K 110 := by
      rw [← hM]; funext f; dsimp only; rw [if_neg (by omega)]
    simp (disch := omega) only [z_ob, z_ok, z_ar, z_b_s, z_l_s, z_g_tr, z_x_il, z_x_ir, z_lay, z_shs, z_lens, nI_clamp, n_lt0, n_l0, n_l8, n_l16, n_l24, n_l32, n_l40, n_l48, n_l56, n_l64, n_l72, n_s1, fX12_within_eq, fX13_in_eq, fX12_isSinger_eq, fX12_areTicks_eq, ite_true, ite_false, if_true, if_false, not_false_eq_true, not_true_eq_false, or_self, false_or, or_false, true_or, or_true, and_true, true_and, and_false, false_and, eq_self, hn8, a1, a2, fX13_min_eq, k1, k2, m_isDone hn]
    simp only [z_u_at]
    rw [u_o (show 110 ≠ 103 by decide), k2]
    have key : ∀ (w : Nat → Nat → Int32), w = z_u (z_u M 103 (40 + n) (z_min (K 103 (40 + n)) (K 110 n))) 103 (72 + n) (if z_min (K 103 (40 + n)) (K 110 n) < K 110 n then K 103 (72 + n) else 0) → w = fun b k => if b = 103 ∧ k < 80 ∧ k % 8 < n + 1 then w_un (fun f => K 103 (8 * f + k % 8)) (K 110 (k % 8)) (k / 8) else K b k := by
      intro w hw
      rw [hw]
      funext b k
      simp only [z_u_eq]
      by_cases hb : b = 103 ∧ k < 80 ∧ k % 8 = n
      · obtain ⟨rfl, hk, hkn⟩ := hb
        obtain ⟨q, hq, rfl⟩ : ∃ q, q < 10 ∧ k = 8 * q + n := ⟨k / 8, by omega, by omega⟩
        have e1 : 103 = 103 ∧ 8 * q + n < 80 ∧ (8 * q + n) % 8 < n + 1 := by omega
        rw [if_pos e1, hkn, show (8 * q + n) / 8 = q by omega]
        have e2 : M 103 (8 * q + n) = K 103 (8 * q + n) := by
          rw [← hM]; dsimp only; rw [if_neg (by omega)]
        rw [e2]
        unfold w_un
        dsimp only
        simp only [show 8 * 5 + n = 40 + n by omega, show 8 * 9 + n = 72 + n by omega, true_and]
        by_cases c5 : q = 5
        · have d1 : ¬ (8 * q + n = 72 + n) := by omega
          have d2 : 8 * q + n = 40 + n := by omega
          rw [if_neg d1, if_pos d2, if_pos c5]
        · by_cases c9 : q = 9
          · have d1 : 8 * q + n = 72 + n := by omega
            rw [if_pos d1, if_neg c5, if_pos c9]
          · have d1 : ¬ (8 * q + n = 72 + n) := by omega
            have d2 : ¬ (8 * q + n = 40 + n) := by omega
            rw [if_neg d1, if_neg d2, if_neg c5, if_neg c9]
      · rw [if_neg (by omega), if_neg (by omega), ← hM]
        dsimp only
        by_cases h2 : b = 103 ∧ k < 80 ∧ k % 8 < n
        · rw [if_pos h2, if_pos (by omega)]
        · rw [if_neg h2, if_neg (by omega)]
    by_cases hd : z_min (K 103 (40 + n)) (K 110 n) < K 110 n
    · rw [if_pos hd, if_pos rfl]
      congr 3
      refine key _ ?_
      rw [if_pos hd]
      funext b f
      simp only [z_u_eq]
      have e3 : M 103 (72 + n) = K 103 (72 + n) := by
        rw [← hM]; dsimp only; rw [if_neg (by omega)]
      by_cases hb : b = 103 ∧ f = 72 + n
      · obtain ⟨rfl, rfl⟩ := hb
        rw [if_neg (by omega), if_pos ⟨rfl, rfl⟩, e3]
      · rw [if_neg hb]
    · rw [if_neg hd, if_neg (by decide)]
      congr 3
      refine key _ ?_
      rw [if_neg hd]
  · unfold fX13_undo_b22
    dsimp only
    rw [if_pos n_88]
    congr 2
    funext b k
    by_cases h2 : b = 103 ∧ k < 80
    · rw [if_pos h2, if_pos (by omega)]
    · rw [if_neg h2, if_neg (by omega)]
theorem call_undo : Call_undo := by
  intro I mu h
  obtain ⟨len, h⟩ := h
  have h5 := h.2.2.2.1
  have hk : I 0 8 = I 102 57 := h5.2.2.1
  rcases h5.2.2.2 with h0 | h1
  · refine ⟨0, I, I, ?_, ?_, len, h⟩
    · unfold fX12_undo
      rw [z_g_t o_0, hk, h0, if_pos rfl]
    · unfold fX13_undo
      rw [z_g_t m_ob, h0, if_pos rfl]
  · obtain ⟨kw, kv⟩ : r_W I 82 105 ∧ r_V I 105 (fun _ => 60) := by
      rcases h.2.2.1 with q | q
      · rw [h1] at q; exact absurd q (by decide)
      · exact q
    have hP := h.2.2.2.2.2.1
    have h8 := h.2.2.2.2.2.2.1
    have g0 : ∀ i, i < 8 → (I (82 + 2 + i) 0 = 0 ∨ I (82 + 2 + i) 0 = 1) ∧ (I (82 + 2 + i) 9 = 0 ∨ I (82 + 2 + i) 9 = 1) := by
      intro i hi
      rw [kw.1 0 i (by decide) hi, kw.1 9 i (by decide) hi]
      exact ⟨(v_at kv hi).1, (v_at kv hi).2.2.2.2.2.2.2.2.1⟩
    have e1 := c_cps (mu := mu) c62 c82 (by decide) g0
    obtain ⟨J, hJ⟩ : ∃ J : Nat → Nat → Int32, J = fun c f => if c = 62 ∧ (f = 1 ∨ f = 2) then I 82 f else if 62 + 2 ≤ c ∧ c < 62 + 10 ∧ f < 10 then I (82 + (c - 62)) f else I c f := ⟨_, rfl⟩
    rw [← hJ] at e1
    have jb : ∀ b, ¬ (64 ≤ b ∧ b < 72) ∧ b ≠ 62 → J b = I b := by
      intro b hb
      funext f
      rw [hJ]
      dsimp only
      rw [if_neg (by omega), if_neg (by omega)]
    have js : ∀ i f, i < 8 → f < 10 → J (64 + i) f = I 105 (8 * f + i) := by
      intro i f hi hf
      rw [hJ]
      dsimp only
      rw [if_neg (by omega), if_pos (by omega), show 82 + (64 + i - 62) = 82 + 2 + i by omega]
      exact kw.1 f i hf hi
    have jt : J 62 1 = I 105 80 ∧ J 62 2 = I 105 81 := by
      rw [hJ]
      dsimp only
      rw [if_pos (by omega), if_pos (by omega)]
      exact kw.2
    have e2 := c_undo (J := J) hP
    obtain ⟨I1, hI1⟩ : ∃ I1 : Nat → Nat → Int32, I1 = fun b f => if 64 ≤ b ∧ b < 72 then w_un (J b) (J (mu (b - 64)) 3) f else J b f := ⟨_, rfl⟩
    rw [← hI1] at e2
    have ib : ∀ b, ¬ (64 ≤ b ∧ b < 72) → I1 b = J b := by
      intro b hb
      rw [hI1]
      funext f
      dsimp only
      rw [if_neg hb]
    have e3 : fX13_copies 105 103 I1 = some (fun c k => if c = 103 ∧ k < 82 then I1 105 k else I1 c k) := m_cp ⟨rfl, rfl⟩ ⟨rfl, rfl⟩ (by decide)
    obtain ⟨K, hK⟩ : ∃ K : Nat → Nat → Int32, K = fun c k => if c = 103 ∧ k < 82 then I1 105 k else I1 c k := ⟨_, rfl⟩
    rw [← hK] at e3
    have e4 := m_undo (K := K) (mu := mu)
    obtain ⟨I2, hI2⟩ : ∃ I2 : Nat → Nat → Int32, I2 = fun b k => if b = 103 ∧ k < 80 then w_un (fun f => K 103 (8 * f + k % 8)) (K 110 (k % 8)) (k / 8) else K b k := ⟨_, rfl⟩
    rw [← hI2] at e4
    have k103 : ∀ k, k < 82 → K 103 k = I 105 k := by
      intro k hk
      rw [hK]
      dsimp only
      rw [if_pos ⟨rfl, hk⟩, ib 105 (by omega), jb 105 (by omega)]
    have kb : ∀ b, b ≠ 103 → K b = I1 b := by
      intro b hb
      rw [hK]
      funext k
      dsimp only
      rw [if_neg (by omega)]
    have k110 : K 110 = I 110 := by rw [kb 110 (by decide), ib 110 (by omega), jb 110 (by omega)]
    have b2 : ∀ b, b ≠ 103 → I2 b = K b := by
      intro b hb
      rw [hI2]
      funext k
      dsimp only
      rw [if_neg (by omega)]
    refine ⟨1, I1, I2, ?_, ?_, len, ?_⟩
    · unfold fX12_undo
      rw [z_g_t o_0, hk, h1, if_neg (by decide), r_05, z_g_t o_62, show z_Rm mu 0 7 = 82 from rfl, e1, z_b_s, e2, z_b_s]
    · unfold fX13_undo
      have q : I1 102 57 = 1 := by rw [ib 102 (by omega), jb 102 (by omega), h1]
      rw [z_g_t m_ob, q, if_neg (by decide), r_m0, show z_Rm mu 102 2 = 105 from rfl, e3, z_b_s, e4, z_b_s]
    · refine rel_stage (fun i => w_un (fun f => I 105 (8 * f + i)) (nI (len i))) h (fun b h1 h2 h3 => ?_) (fun i f hi hf => ?_) ?_ (fun i hi => ?_) ?_ ?_
      · rw [b2 b h3, kb b h3, ib b h1, jb b ⟨h1, h2⟩]
      · have pm := p_le hP (show i < 9 by omega)
        constructor
        · rw [b2 _ (by omega), kb _ (by omega), hI1]
          dsimp only
          rw [if_pos (by omega), show 64 + i - 64 = i by omega, jb (mu i) (by omega), (h8 i hi).2.1]
          exact w_un_congr (fun f hf => js i f hi hf) hf
        · rw [hI2]
          dsimp only
          rw [if_pos (by omega), show (8 * f + i) % 8 = i by omega, show (8 * f + i) / 8 = f by omega, k110, (h8 i hi).2.2.1]
          exact w_un_congr (fun f hf => k103 _ (by omega)) hf
      · have r : I2 103 80 = I 105 80 ∧ I2 103 81 = I 105 81 := by
          rw [hI2]
          dsimp only
          rw [if_neg (by omega), if_neg (by omega)]
          exact ⟨k103 80 (by decide), k103 81 (by decide)⟩
        rw [b2 62 (by decide), kb 62 (by decide), ib 62 (by omega), r.1, r.2]
        exact jt
      · exact v_un (g := fun f => I 105 (8 * f + i)) (l := len i) (h8 i hi).1 (v_at kv hi)
      · rw [show I2 103 80 = I 105 80 by rw [hI2]; dsimp only; rw [if_neg (by omega)]; exact k103 80 (by decide)]
        exact kv.2.1
      · rw [show I2 103 81 = I 105 81 by rw [hI2]; dsimp only; rw [if_neg (by omega)]; exact k103 81 (by decide)]
        exact kv.2.2
