/-! who hears whom; singerIs -/
/-- does i hear j (j told; who i is isn't asked) -/
def h_r (I : Nat → Nat → Int32) (i j : Nat) : Bool := (I 103 j == 1) && decide (z_abs (I 103 (16 + j) - I 103 (16 + i)) ≤ I 102 3) && (if I 103 (16 + j) - I 103 (16 + i) = 0 then I 103 (24 + i) != 3 else if (0 : Int32) ≤ I 103 (16 + j) - I 103 (16 + i) then (I 103 (24 + i) &&& 2) == 0 else (I 103 (24 + i) &&& 1) == 0)
theorem c_hears {st : Nat} (hs : c_St st) {I : Nat → Nat → Int32} {len : Nat → Nat} (hW : r_W I st 103) (hV : r_V I 103 len) (hC : I 3 4 = I 102 3) {i j : Nat} (hi : i < 8) (hj : j < 8) : fX8_hears (st + 2 + i) (st + 2 + j) (I 3 4) I = some (if h_r I i j = true then 1 else 0) := by
  obtain ⟨h1, h2, h3, h4⟩ := c_st hs z_mu0
  have e0 := hW.1 0 j (by decide) hj
  have e2 := hW.1 2 j (by decide) hj
  have e3 := hW.1 2 i (by decide) hi
  have e4 := hW.1 3 i (by decide) hi
  unfold fX8_hears fX8_hears_j58
  rw [z_g_t (h4 i hi).2, z_g_t (h4 j hj).2, e0, e2, e3, e4, hC, show 8 * 0 + j = j by omega, show 8 * 2 + j = 16 + j by omega, show 8 * 2 + i = 16 + i by omega, show 8 * 3 + i = 24 + i by omega, z_l_s]
  unfold h_r
  generalize I 103 (16 + j) - I 103 (16 + i) = w
  rcases (hV.1 j hj).1 with t | t
  · rw [t]; rfl
  · rw [t, if_neg (show ¬ (1 : Int32) = 0 by decide)]
    by_cases c1 : z_abs w ≤ I 102 3
    · rw [if_pos c1]
      by_cases c2 : w = 0
      · rw [if_pos c2]
        by_cases c3 : I 103 (24 + i) = 3
        · simp [c1, c2, c3]
        · simp [c2, c3]
          rw [c2] at c1
          exact c1
      · rw [if_neg c2]
        by_cases c3 : (0 : Int32) ≤ w
        · rw [if_pos c3]
          simp [c1, c2, c3]
          split <;> rfl
        · rw [if_neg c3]
          simp [c1, c2, c3]
          split <;> rfl
    · rw [if_neg c1]
      simp [c1]
theorem n_has : ∀ d, d ≤ 3 → fX13_has (nI d) 1 = some (if nI d &&& 2 = 0 then 0 else 1) ∧ fX13_has (nI d) 0 = some (if nI d &&& 1 = 0 then 0 else 1) := by decide +kernel
theorem m_hears {I : Nat → Nat → Int32} {mu len : Nat → Nat} (hV : r_V I 103 len) {i j : Nat} (hi : i < 8) (hj : j < 8) : fX13_hears 102 (nI i) (nI j) I (z_Rm mu) = some (if ((j != i) && (I 103 i == 1) && h_r I i j) = true then 1 else 0) := by
  unfold fX13_hears fX13_hears_j94
  rw [z_g_t m_ob]
  by_cases cij : i = j
  · subst cij
    rw [if_pos rfl]
    simp
  have nij : ¬ nI i = nI j := fun q => cij ((n_eq (by omega) (by omega)).mp q)
  rw [if_neg nij, m_told hi, z_b_s, m_told hj, z_b_s, r_m0, n_l16, n_l16, n_l24, z_g_t (k_103 (show 16 + j < 82 by omega)), z_g_t (k_103 (show 16 + i < 82 by omega)), nI_clamp (show 16 + j < 2 ^ 31 by omega), nI_clamp (show 16 + i < 2 ^ 31 by omega)]
  obtain ⟨-, -, ⟨si, hsi, esi⟩, ⟨d, hd, ed⟩, -⟩ := hV.1 i hi
  obtain ⟨-, -, ⟨sj, hsj, esj⟩, -⟩ := hV.1 j hj
  have hw : (I 103 (16 + j) - I 103 (16 + i)).toInt = (sj : Int) - si := by rw [esi, esj]; exact pk_sub_toInt (by omega) (by omega)
  unfold h_r
  generalize I 103 (16 + j) - I 103 (16 + i) = w at hw
  obtain ⟨n, -, a1, a2⟩ := n_abs (d := w) (b := 15) (by decide) (by omega) (by omega)
  obtain ⟨q1, q2⟩ := n_has d hd
  simp only [z_l_s]
  rw [a2, z_b_s, z_g_t (k_103 (show 24 + i < 82 by omega)), nI_clamp (show 24 + i < 2 ^ 31 by omega), ed, q1, q2, z_b_s, z_b_s, a1]
  have cji : (j != i) = true := by simp; omega
  rw [cji]
  rcases (hV.1 i hi).1 with t | t
  · rw [t]; simp
  · rw [t, if_pos rfl, if_neg (show ¬ (1 : Int32) = 0 by decide)]
    rcases (hV.1 j hj).1 with t2 | t2
    · rw [t2]; simp
    · rw [t2, if_pos rfl, if_neg (show ¬ (1 : Int32) = 0 by decide)]
      by_cases c1 : nI n ≤ I 102 3
      · rw [if_pos c1]
        by_cases c2 : w = 0
        · rw [if_pos c2]
          by_cases c3 : nI d = 3
          · simp [c1, c2, c3]
          · simp [c1, c2, c3]
        · rw [if_neg c2]
          by_cases c3 : (0 : Int32) ≤ w
          · rw [if_pos c3]
            by_cases c4 : nI d &&& 2 = 0
            · simp [c1, c2, c3, c4]
            · simp [c1, c2, c3, c4]
          · rw [if_neg c3]
            by_cases c4 : nI d &&& 1 = 0
            · simp [c1, c2, c3, c4]
            · simp [c1, c2, c3, c4]
      · rw [if_neg c1]
        simp [c1]
theorem n_setb {a : Nat} {b : Bool} {k : Nat} (hk : k < 31) : (if b = true then nI a ||| z_shl 1 (nI k) else nI a) = nI (if b = true then a ||| 2 ^ k else a) := by
  rw [n_shl hk, n_or]
  cases b <;> rfl
theorem c_heard {st : Nat} (hs : c_St st) {I : Nat → Nat → Int32} {mu len : Nat → Nat} (hW : r_W I st 103) (hV : r_V I 103 len) (hC : I 3 4 = I 102 3) {i : Nat} (hi : i < 8) : fX9_heardBits st (nI i) (I 3 4) I (z_Rm mu) = some (nI (n_set (fun j => (j != i) && h_r I i j) 8)) := by
  obtain ⟨h1, h2, h3, h4⟩ := c_st hs mu
  unfold fX9_heardBits
  rw [z_g_t h1]
  refine (z_lp_b 8 (nI (n_set (fun j => (j != i) && h_r I i j) 8)) (fun k => (nI (n_set (fun j => (j != i) && h_r I i j) k), nI k)) rfl ?_ ?_ (by decide)).trans rfl
  · intro k hk
    unfold fX9_heardBits_b5
    dsimp only
    rw [if_neg (n_8 hk), fX12_isSinger_eq, z_b_s, n_in7' hi, if_neg (by decide), h2, z_g_t (n_ok h3 hi (by decide)), z_g_t (n_ok h3 hk (by decide)), nI_clamp (show i < 2 ^ 31 by omega), nI_clamp (show k < 2 ^ 31 by omega), (h4 i hi).1, (h4 k hk).1, z_g_t (h4 i hi).2, c_hears hs hW hV hC hi hk, z_b_s]
    simp only [z_l_s, n_s1, n_shl (show k < 31 by omega), n_or]
    show _ = some (Sum.inl (nI (if ((k != i) && h_r I i k) = true then _ else _), _))
    by_cases c : k = i
    · subst c
      rw [if_pos rfl]
      simp
    · rw [if_neg (fun q => c ((n_eq (by omega) (by omega)).mp q))]
      by_cases c2 : h_r I i k = true
      · rw [if_pos c2, if_neg (by decide)]
        simp [c, c2]
      · rw [if_neg c2, if_pos rfl]
        simp [c2]
  · unfold fX9_heardBits_b5
    dsimp only
    rw [if_pos n_88]
theorem m_heard {I : Nat → Nat → Int32} {mu len : Nat → Nat} (hV : r_V I 103 len) {i : Nat} (hi : i < 8) : fX13_heardBy 102 (nI i) I (z_Rm mu) = some (nI (n_set (fun j => (j != i) && (I 103 i == 1) && h_r I i j) 8)) := by
  unfold fX13_heardBy
  rw [z_g_t m_ob]
  refine (z_lp_b 8 (nI (n_set (fun j => (j != i) && (I 103 i == 1) && h_r I i j) 8)) (fun k => (nI (n_set (fun j => (j != i) && (I 103 i == 1) && h_r I i j) k), nI k)) rfl ?_ ?_ (by decide)).trans rfl
  · intro k hk
    unfold fX13_heardBy_b4
    dsimp only
    rw [if_neg (n_8 hk), m_hears hV hi hk, z_b_s]
    simp only [z_l_s, n_s1, n_shl (show k < 31 by omega), n_or]
    show _ = some (Sum.inl (nI (if ((k != i) && (I 103 i == 1) && h_r I i k) = true then _ else _), _))
    by_cases c : ((k != i) && (I 103 i == 1) && h_r I i k) = true
    · rw [if_pos c, if_neg (by decide), if_pos c]
    · rw [if_neg c, if_pos rfl, if_neg c]
  · unfold fX13_heardBy_b4
    dsimp only
    rw [if_pos n_88]
theorem heard_told {I : Nat → Nat → Int32} {i : Nat} (h : I 103 i = 1) : n_set (fun j => (j != i) && (I 103 i == 1) && h_r I i j) 8 = n_set (fun j => (j != i) && h_r I i j) 8 := by
  apply n_set_congr
  intro j hj
  rw [h]
  simp
theorem call_singerIs : Call_singerIs := by
  intro x w I mu h
  rcases t_both h x with ⟨e1, e2⟩ | ⟨i, hi, rfl, h0, e1, e2⟩
  · refine ⟨-1, ?_, ?_, h⟩
    · unfold fX12_singerIs
      rw [z_g_t o_0, r_05, z_g_t o_62, e1, z_b_s, if_pos rfl]
    · unfold fX13_singerIs
      rw [z_g_t m_ob, e2, z_b_s, if_pos rfl]
  have hR := h
  obtain ⟨len, h⟩ := h
  have hP := h.2.2.2.2.2.1
  have hi8 : ¬ 8 ≤ i := by omega
  have hC : I 3 4 = I 102 3 := by
    obtain ⟨⟨n, -, q1, q2⟩, -⟩ := h.2.2.2.1
    rw [q1, q2]
  have W : ∀ f, f < 10 → I (64 + i) f = I 103 (8 * f + i) := fun f hf => by
    have := h.1.1 f i hf hi
    rw [show 62 + 2 + i = 64 + i by omega] at this
    exact this
  have K : ∀ m, m < 82 → z_ok 1 103 (nI m) := fun m hm => k_103 hm
  have hd : fX2_isDone 59 62 (nI i) I (z_Rm mu) = fX13_isDone 102 (nI i) I (z_Rm mu) := by
    rw [c_isDone c62 hP hi, m_isDone hi]
    have h8 := h.2.2.2.2.2.2.1 i hi
    rw [show 62 + 2 + i = 64 + i by omega, W 5 (by decide), h8.2.1, h8.2.2.1, show 8 * 5 + i = 40 + i by omega]
  have hh : fX9_heardBits 62 (nI i) (I 3 4) I (z_Rm mu) = fX13_heardBy 102 (nI i) I (z_Rm mu) := by
    rw [c_heard c62 h.1 h.2.1 hC hi, m_heard h.2.1 hi, heard_told h0]
  have hw9 : (if I 103 (72 + i) = 0 then some (0 : Int32) else some 1) = some (I 103 (72 + i)) := by
    rcases (h.2.1.1 i hi).2.2.2.2.2.2.2.2.1 with q | q <;> rw [q] <;> rfl
  have A : fX12_singerIs 0 (nI i) w I (z_Rm mu) = fX13_singerIs 102 (nI i) w I (z_Rm mu) := by
    unfold fX12_singerIs fX13_singerIs
    rw [z_g_t o_0, r_05, z_g_t o_62, e1, z_b_s, if_neg n_10.mp, r_620, z_g_t (k_63 hi), nI_clamp (show i < 2 ^ 31 by omega), (z_ls62 mu hi).1, z_g_t (z_ls62 mu hi).2, W 2 (by decide), W 3 (by decide), W 4 (by decide), W 5 (by decide), W 6 (by decide), W 7 (by decide), W 8 (by decide), W 9 (by decide), r_40, z_g_t (show z_ob 59 2 from rfl), r_01, z_g_t o_3, hd, hh]
    rw [z_g_t m_ob, e2, z_b_s, if_neg n_10.mp, r_m0, n_l16, n_l24, n_l32, n_l40, n_l48, n_l56, n_l64, n_l72, z_g_t (K _ (show 16 + i < 82 by omega)), z_g_t (K _ (show 24 + i < 82 by omega)), z_g_t (K _ (show 32 + i < 82 by omega)), z_g_t (K _ (show 40 + i < 82 by omega)), z_g_t (K _ (show 48 + i < 82 by omega)), z_g_t (K _ (show 56 + i < 82 by omega)), z_g_t (K _ (show 64 + i < 82 by omega)), z_g_t (K _ (show 72 + i < 82 by omega)), nI_clamp (show 16 + i < 2 ^ 31 by omega), nI_clamp (show 24 + i < 2 ^ 31 by omega), nI_clamp (show 32 + i < 2 ^ 31 by omega), nI_clamp (show 40 + i < 2 ^ 31 by omega), nI_clamp (show 48 + i < 2 ^ 31 by omega), nI_clamp (show 56 + i < 2 ^ 31 by omega), nI_clamp (show 64 + i < 2 ^ 31 by omega), nI_clamp (show 72 + i < 2 ^ 31 by omega)]
    rw [show 8 * 2 + i = 16 + i by omega, show 8 * 3 + i = 24 + i by omega, show 8 * 4 + i = 32 + i by omega, show 8 * 5 + i = 40 + i by omega, show 8 * 6 + i = 48 + i by omega, show 8 * 7 + i = 56 + i by omega, show 8 * 8 + i = 64 + i by omega, show 8 * 9 + i = 72 + i by omega, hw9]
  rw [A]
  have T : ∃ v, fX13_singerIs 102 (nI i) w I (z_Rm mu) = some v := by
    unfold fX13_singerIs
    rw [z_g_t m_ob, e2, z_b_s, if_neg n_10.mp, r_m0, n_l16, n_l24, n_l32, n_l40, n_l48, n_l56, n_l64, n_l72, z_g_t (K _ (show 16 + i < 82 by omega)), z_g_t (K _ (show 24 + i < 82 by omega)), z_g_t (K _ (show 32 + i < 82 by omega)), z_g_t (K _ (show 40 + i < 82 by omega)), z_g_t (K _ (show 48 + i < 82 by omega)), z_g_t (K _ (show 56 + i < 82 by omega)), z_g_t (K _ (show 64 + i < 82 by omega)), z_g_t (K _ (show 72 + i < 82 by omega)), m_isDone hi, m_heard h.2.1 hi]
    by_cases q0 : w = 0
    · rw [if_pos q0]
      exact ⟨_, rfl⟩
    rw [if_neg q0]
    by_cases q1 : w = 1
    · rw [if_pos q1]
      exact ⟨_, rfl⟩
    rw [if_neg q1]
    by_cases q2 : w = 2
    · rw [if_pos q2]
      exact ⟨_, rfl⟩
    rw [if_neg q2]
    by_cases q3 : w = 3
    · rw [if_pos q3]
      exact ⟨_, rfl⟩
    rw [if_neg q3]
    by_cases q4 : w = 4
    · rw [if_pos q4]
      exact ⟨_, rfl⟩
    rw [if_neg q4]
    by_cases q5 : w = 5
    · rw [if_pos q5]
      exact ⟨_, rfl⟩
    rw [if_neg q5]
    by_cases q6 : w = 6
    · rw [if_pos q6]
      exact ⟨_, rfl⟩
    rw [if_neg q6]
    by_cases q7 : w = 7
    · rw [if_pos q7]
      exact ⟨_, rfl⟩
    rw [if_neg q7]
    by_cases q8 : w = 8
    · rw [if_pos q8]
      rw [z_b_s]
      by_cases q : I 103 (40 + i) < I 110 i
      · rw [if_pos q]; exact ⟨_, rfl⟩
      · rw [if_neg q]; exact ⟨_, rfl⟩
    rw [if_neg q8]
    by_cases q9 : w = 9
    · rw [if_pos q9]
      exact ⟨_, rfl⟩
    rw [if_neg q9]
    exact ⟨_, rfl⟩
  obtain ⟨v, hv⟩ := T
  exact ⟨v, hv, hv, hR⟩
