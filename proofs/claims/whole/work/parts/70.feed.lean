/-! feed -/
theorem n_byte (x : Int32) : vp_nar .byte x.toInt8.toInt32 &&& 255 = x &&& 255 := by
  show x.toInt8.toInt32.toInt8.toInt32 &&& 255 = x &&& 255
  have key : ∀ y : Int32, y.toInt8.toInt32 &&& 255 = y &&& 255 := by
    intro y
    rw [← Int32.toBitVec_inj, Int32.toBitVec_and, Int32.toBitVec_and, Int32.toBitVec_ofNat]
    rw [show (y.toInt8.toInt32).toBitVec = (y.toBitVec.signExtend 8).signExtend 32 from rfl]
    apply BitVec.eq_of_getLsbD_eq
    intro i hi
    rw [BitVec.getLsbD_and, BitVec.getLsbD_and, BitVec.getLsbD_signExtend]
    by_cases h8 : i < 8
    · rw [if_pos h8, BitVec.getLsbD_signExtend, if_pos (by omega)]
      simp [hi, h8]
    · have : (255 : BitVec 32).getLsbD i = false := by
        have : ∀ i, i < 32 → ¬ i < 8 → (255 : BitVec 32).getLsbD i = false := by decide +kernel
        exact this i hi h8
      rw [this]
      simp
  rw [key, key]
theorem n_255 (x : Int32) : ∃ v, v < 256 ∧ x &&& 255 = nI v := by
  refine ⟨(x.toBitVec &&& 255#32).toNat, ?_, ?_⟩
  · rw [BitVec.toNat_and]
    exact Nat.lt_of_le_of_lt Nat.and_le_right (by decide)
  · rw [← Int32.toBitVec_inj, Int32.toBitVec_and]
    show x.toBitVec &&& 255#32 = BitVec.ofNat 32 _
    rw [BitVec.ofNat_toNat, BitVec.setWidth_eq]
def t_cb (w : Int32) (j : Nat) : Int32 := z_shr w (24 + nI j * (-8)) &&& 255
def t_mb (w : Int32) (j : Nat) : Int32 := vp_nar .byte ((z_shr w (8 * (3 + nI j * (-1)))).toInt8.toInt32)
theorem t_b {w : Int32} {j : Nat} (hj : j < 4) : t_mb w j &&& 255 = t_cb w j ∧ ∃ v, v < 256 ∧ t_cb w j = nI v := by
  have e : (8 : Int32) * (3 + nI j * (-1)) = 24 + nI j * (-8) := by
    have : ∀ j, j < 4 → (8 : Int32) * (3 + nI j * (-1)) = 24 + nI j * (-8) := by decide +kernel
    exact this j hj
  unfold t_mb t_cb
  rw [e]
  exact ⟨n_byte _, n_255 _⟩
theorem c_put {I : Nat → Nat → Int32} {mu : Nat → Nat} {w : Int32} {n : Nat} (hn : n + 4 ≤ 260) (h : I 1 1 = nI n) : fX10_put 1 w I (z_Rm mu) = some (fun b k => if b = 2 ∧ n ≤ k ∧ k < n + 4 then t_cb w (k - n) else if b = 1 ∧ k = 1 then nI (n + 4) else I b k) := by
  have g1 : ¬ (260 : Int32) < nI (n + 4) := nI_nlt (by omega) (by decide)
  unfold fX10_put fX10_hasRoomFor
  rw [z_g_t (show z_ob 1 10 from rfl), z_g_t (show z_ob 1 10 from rfl), h, show (4 : Int32) = nI 4 from rfl, n_add, if_neg g1, z_b_s, if_neg (by decide)]
  refine (z_lp_b 4 (fun b k => if b = 2 ∧ n ≤ k ∧ k < n + 4 then t_cb w (k - n) else if b = 1 ∧ k = 1 then nI (n + 4) else I b k) (fun j => ((24 : Int32) + nI j * (-8), fun b k => if b = 2 ∧ n ≤ k ∧ k < n + j then t_cb w (k - n) else if b = 1 ∧ k = 1 then nI (n + j) else I b k)) ?_ ?_ ?_ (by decide)).trans rfl
  · congr 1
    funext b k
    rw [if_neg (by omega)]
    by_cases c : b = 1 ∧ k = 1
    · rw [if_pos c, c.1, c.2, h]; rfl
    · rw [if_neg c]
  · intro j hj
    have p : ¬ ((24 : Int32) + nI j * (-8) < 0) ∧ (24 : Int32) + nI j * (-8) + (-8) = 24 + nI (j + 1) * (-8) := by
      have : ∀ j, j < 4 → ¬ ((24 : Int32) + nI j * (-8) < 0) ∧ (24 : Int32) + nI j * (-8) + (-8) = 24 + nI (j + 1) * (-8) := by decide +kernel
      exact this j hj
    unfold fX10_put_b12
    dsimp only
    rw [if_neg p.1, show z_Rm mu 1 0 = 2 from rfl]
    have e1 : (if (1 : Nat) = 2 ∧ n ≤ 1 ∧ 1 < n + j then t_cb w (1 - n) else if (1 : Nat) = 1 ∧ 1 = 1 then nI (n + j) else I 1 1) = nI (n + j) := by
      rw [if_neg (by omega), if_pos ⟨rfl, rfl⟩]
    rw [z_g_t (by rw [e1]; exact n_ok (n := 260) rfl (by omega) (by decide)), e1, nI_clamp (by omega)]
    simp only [z_l_s]
    rw [u_o (by decide), e1, n_s1, p.2]
    congr 3
    funext b k
    simp only [z_u_eq]
    by_cases c1 : b = 1 ∧ k = 1
    · obtain ⟨rfl, rfl⟩ := c1
      rw [if_pos ⟨rfl, rfl⟩, if_neg (by omega), if_pos ⟨rfl, rfl⟩]
      rfl
    · rw [if_neg c1, if_neg c1, if_neg c1]
      by_cases c2 : b = 2 ∧ k = n + j
      · obtain ⟨rfl, rfl⟩ := c2
        rw [if_pos ⟨rfl, rfl⟩, if_pos (by omega), Nat.add_sub_cancel_left]
        rfl
      · rw [if_neg c2]
        by_cases c3 : b = 2 ∧ n ≤ k ∧ k < n + j
        · rw [if_pos c3, if_pos (by omega)]
        · rw [if_neg c3, if_neg (by omega)]
  · unfold fX10_put_b12
    dsimp only
    rw [if_pos (by decide)]
theorem m_types {I : Nat → Nat → Int32} {mu : Nat → Nat} {w : Int32} {n : Nat} (hn : n + 4 ≤ 260) (h : I 102 11 = nI n) : fX13_types 102 w I (z_Rm mu) = some (fun b k => if b = 111 ∧ n ≤ k ∧ k < n + 4 then t_mb w (k - n) else if b = 102 ∧ k = 11 then nI (n + 4) else I b k) := by
  unfold fX13_types
  rw [z_g_t m_ob]
  refine (z_lp_b 4 (fun b k => if b = 111 ∧ n ≤ k ∧ k < n + 4 then t_mb w (k - n) else if b = 102 ∧ k = 11 then nI (n + 4) else I b k) (fun j => ((3 : Int32) + nI j * (-1), fun b k => if b = 111 ∧ n ≤ k ∧ k < n + j then t_mb w (k - n) else if b = 102 ∧ k = 11 then nI (n + j) else I b k)) ?_ ?_ ?_ (by decide)).trans rfl
  · congr 1
    funext b k
    rw [if_neg (by omega)]
    by_cases c : b = 102 ∧ k = 11
    · rw [if_pos c, c.1, c.2, h]; rfl
    · rw [if_neg c]
  · intro j hj
    have p : ¬ ((3 : Int32) + nI j * (-1) < 0) ∧ (3 : Int32) + nI j * (-1) + (-1) = 3 + nI (j + 1) * (-1) := by
      have : ∀ j, j < 4 → ¬ ((3 : Int32) + nI j * (-1) < 0) ∧ (3 : Int32) + nI j * (-1) + (-1) = 3 + nI (j + 1) * (-1) := by decide +kernel
      exact this j hj
    unfold fX13_types_b2
    dsimp only
    rw [if_neg p.1, show z_Rm mu 102 10 = 111 from rfl]
    have e1 : (if (102 : Nat) = 111 ∧ n ≤ 11 ∧ 11 < n + j then t_mb w (11 - n) else if (102 : Nat) = 102 ∧ 11 = 11 then nI (n + j) else I 102 11) = nI (n + j) := by
      rw [if_neg (by omega), if_pos ⟨rfl, rfl⟩]
    rw [z_g_t (by rw [e1]; exact n_ok (n := 260) rfl (by omega) (by decide)), e1, nI_clamp (by omega)]
    simp only [z_l_s]
    rw [u_o (by decide), e1, n_s1, p.2]
    congr 3
    funext b k
    simp only [z_u_eq]
    by_cases c1 : b = 102 ∧ k = 11
    · obtain ⟨rfl, rfl⟩ := c1
      rw [if_pos ⟨rfl, rfl⟩, if_neg (by omega), if_pos ⟨rfl, rfl⟩]
      rfl
    · rw [if_neg c1, if_neg c1, if_neg c1]
      by_cases c2 : b = 111 ∧ k = n + j
      · obtain ⟨rfl, rfl⟩ := c2
        rw [if_pos ⟨rfl, rfl⟩, if_pos (by omega), Nat.add_sub_cancel_left]
        rfl
      · rw [if_neg c2]
        by_cases c3 : b = 111 ∧ n ≤ k ∧ k < n + j
        · rw [if_pos c3, if_pos (by omega)]
        · rw [if_neg c3, if_neg (by omega)]
  · unfold fX13_types_b2
    dsimp only
    rw [if_pos (by decide)]
def t_cp (I : Nat → Nat → Int32) (n : Nat) (w : Int32) : Nat → Nat → Int32 := fun b k => if b = 2 ∧ n ≤ k ∧ k < n + 4 then t_cb w (k - n) else if b = 1 ∧ k = 1 then nI (n + 4) else I b k
def t_mp (I : Nat → Nat → Int32) (n : Nat) (w : Int32) : Nat → Nat → Int32 := fun b k => if b = 111 ∧ n ≤ k ∧ k < n + 4 then t_mb w (k - n) else if b = 102 ∧ k = 11 then nI (n + 4) else I b k
theorem t_cp_o {I : Nat → Nat → Int32} {n b : Nat} {w : Int32} (h1 : b ≠ 2) (h2 : b ≠ 1) : t_cp I n w b = I b := by
  funext k
  unfold t_cp
  rw [if_neg (by omega), if_neg (by omega)]
theorem t_mp_o {I : Nat → Nat → Int32} {n b : Nat} {w : Int32} (h1 : b ≠ 111) (h2 : b ≠ 102) : t_mp I n w b = I b := by
  funext k
  unfold t_mp
  rw [if_neg (by omega), if_neg (by omega)]
theorem t_mp_102 {I : Nat → Nat → Int32} {n k : Nat} {w : Int32} (h : k ≠ 11) : t_mp I n w 102 k = I 102 k := by
  unfold t_mp
  rw [if_neg (by omega), if_neg (by omega)]
/-- one word on both tapes -/
theorem t_word {I : Nat → Nat → Int32} {mu len : Nat → Nat} {n : Nat} {w : Int32} (h : RelL I mu len) (hn : n + 4 ≤ 260) (h1 : I 1 1 = nI n) : RelL (t_mp (t_cp I n w) n w) mu len := by
  obtain ⟨w1, w2, w3, w5, w6, w7, w8, w9⟩ := h
  have hl := p_law w7
  refine ⟨f_W w1 (fun i hi => ?_) ?_ ?_ ?_, f_V w2 ?_, f_K w3 ?_ (fun i hi => ?_) ?_ ?_ ?_, f_C w5 ?_ ?_ ?_ ?_ ?_ ?_, ?_, w7, fun i hi => f_R (w8 i hi) (fun b h1 h2 => ?_) (fun b h1 h2 => ?_), f_L w9 (fun b h1 h2 => ?_) ?_ ?_ ?_ (fun b h1 h2 => ?_) (fun q hq => ?_)⟩
  all_goals first | (rw [t_mp_o (by omega) (by omega), t_cp_o (by omega) (by omega)]; done) | (have := p_le w7 (j := i) (by omega); rw [t_mp_o (by omega) (by omega), t_cp_o (by omega) (by omega)]; done) | (rw [t_mp_102 (by decide), t_cp_o (by decide) (by decide)]; done) | skip
  obtain ⟨m, hm, q1, q2, q3⟩ := w6
  have hmn : m = n := by
    rw [q1] at h1
    exact (n_eq (by omega) (by omega)).mp h1
  subst hmn
  refine ⟨m + 4, by omega, ?_, ?_, fun k hk => ?_⟩
  · rw [t_mp_o (by decide) (by decide)]
    unfold t_cp
    rw [if_neg (by omega), if_pos ⟨rfl, rfl⟩]
  · unfold t_mp
    rw [if_neg (by omega), if_pos ⟨rfl, rfl⟩]
  · have e2 : t_mp (t_cp I m w) m w 2 k = if m ≤ k then t_cb w (k - m) else I 2 k := by
      rw [t_mp_o (by decide) (by decide)]
      unfold t_cp
      by_cases c : m ≤ k
      · rw [if_pos c, if_pos ⟨rfl, c, hk⟩]
      · rw [if_neg c, if_neg (by omega), if_neg (by omega)]
    have e3 : t_mp (t_cp I m w) m w 111 k = if m ≤ k then t_mb w (k - m) else I 111 k := by
      unfold t_mp t_cp
      by_cases c : m ≤ k
      · rw [if_pos c, if_pos ⟨rfl, c, hk⟩]
      · rw [if_neg c, if_neg (by omega), if_neg (by omega), if_neg (by omega), if_neg (by omega)]
    rw [e2, e3]
    by_cases c : m ≤ k
    · rw [if_pos c, if_pos c]
      obtain ⟨b1, v, hv, b2⟩ := t_b (w := w) (j := k - m) (by omega)
      exact ⟨v, hv, b2, b1.trans b2⟩
    · rw [if_neg c, if_neg c]
      exact q3 k (by omega)
/-- the class's word and the model's word don't meet -/
theorem t_swap {I : Nat → Nat → Int32} {n m : Nat} {w v : Int32} : t_cp (t_mp I n w) m v = t_mp (t_cp I m v) n w := by
  funext b k
  unfold t_cp t_mp
  dsimp only
  by_cases c1 : b = 2
  · subst c1
    simp
  by_cases c2 : b = 1
  · subst c2
    simp
  rw [if_neg (by omega), if_neg (by omega)]
  rw [if_neg (show ¬ (b = 2 ∧ m ≤ k ∧ k < m + 4) by omega), if_neg (show ¬ (b = 1 ∧ k = 1) by omega)]
theorem t_cp1 {I : Nat → Nat → Int32} {n : Nat} {w : Int32} : t_cp I n w 1 1 = nI (n + 4) := by
  unfold t_cp
  rw [if_neg (by omega), if_pos ⟨rfl, rfl⟩]
theorem t_mp1 {I : Nat → Nat → Int32} {n : Nat} {w : Int32} : t_mp I n w 102 11 = nI (n + 4) := by
  unfold t_mp
  rw [if_neg (by omega), if_pos ⟨rfl, rfl⟩]
theorem call_feed : Call_feed := by
  intro a b c d e I mu h
  obtain ⟨len, h⟩ := h
  obtain ⟨n, hn, t1, t2, -⟩ := h.2.2.2.2.1
  by_cases hc : n + 20 ≤ 260
  · have g1 : ¬ (260 : Int32) < nI (n + 20) := nI_nlt (by omega) (by decide)
    have g2 : nI (n + 20) ≤ (260 : Int32) := nI_le (by omega) (by decide)
    let A1 := t_cp I n a
    let A2 := t_cp A1 (n + 4) b
    let A3 := t_cp A2 (n + 8) c
    let A4 := t_cp A3 (n + 12) d
    let A5 := t_cp A4 (n + 16) e
    let B1 := t_mp A5 n a
    let B2 := t_mp B1 (n + 4) b
    let B3 := t_mp B2 (n + 8) c
    let B4 := t_mp B3 (n + 12) d
    let B5 := t_mp B4 (n + 16) e
    have m0 : A5 102 11 = nI n := by
      show t_cp (t_cp (t_cp (t_cp (t_cp I n a) (n + 4) b) (n + 8) c) (n + 12) d) (n + 16) e 102 11 = nI n
      rw [t_cp_o (by decide) (by decide), t_cp_o (by decide) (by decide), t_cp_o (by decide) (by decide), t_cp_o (by decide) (by decide), t_cp_o (by decide) (by decide), t2]
    have k1 : fX10_put 1 a I (z_Rm mu) = some A1 := c_put (by omega) t1
    have k2 : fX10_put 1 b A1 (z_Rm mu) = some A2 := c_put (by omega) t_cp1
    have k3 : fX10_put 1 c A2 (z_Rm mu) = some A3 := c_put (by omega) t_cp1
    have k4 : fX10_put 1 d A3 (z_Rm mu) = some A4 := c_put (by omega) t_cp1
    have k5 : fX10_put 1 e A4 (z_Rm mu) = some A5 := c_put (by omega) t_cp1
    have l1 : fX13_types 102 a A5 (z_Rm mu) = some B1 := m_types (by omega) m0
    have l2 : fX13_types 102 b B1 (z_Rm mu) = some B2 := m_types (by omega) t_mp1
    have l3 : fX13_types 102 c B2 (z_Rm mu) = some B3 := m_types (by omega) t_mp1
    have l4 : fX13_types 102 d B3 (z_Rm mu) = some B4 := m_types (by omega) t_mp1
    have l5 : fX13_types 102 e B4 (z_Rm mu) = some B5 := m_types (by omega) t_mp1
    refine ⟨nI (n + 20), A5, B5, ?_, ?_, len, ?_⟩
    · unfold fX12_feed fX10_hasRoomFor fX10_length
      rw [z_g_t o_0, show z_Rm mu 0 0 = 1 from rfl, z_g_t (show z_ob 1 10 from rfl), z_g_t (show z_ob 1 10 from rfl), t1, show (20 : Int32) = nI 20 from rfl, n_add, if_neg g1, z_b_s, if_neg (by decide), k1, z_b_s, k2, z_b_s, k3, z_b_s, k4, z_b_s, k5, z_b_s, z_g_t (show z_ob 1 10 from rfl), z_b_s, show A5 1 1 = nI (n + 16 + 4) from t_cp1]
    · unfold fX13_feed
      rw [z_g_t m_ob, m0, show (20 : Int32) = nI 20 from rfl, n_add, if_pos g2, l1, z_b_s, l2, z_b_s, l3, z_b_s, l4, z_b_s, l5, z_b_s, show B5 102 11 = nI (n + 16 + 4) from t_mp1]
    · have r1 := t_word (w := a) h (by omega) t1
      have r2 := t_word (w := b) r1 (n := n + 4) (by omega) (by rw [t_mp_o (by decide) (by decide)]; exact t_cp1)
      have r3 := t_word (w := c) r2 (n := n + 8) (by omega) (by rw [t_mp_o (by decide) (by decide)]; exact t_cp1)
      have r4 := t_word (w := d) r3 (n := n + 12) (by omega) (by rw [t_mp_o (by decide) (by decide)]; exact t_cp1)
      have r5 := t_word (w := e) r4 (n := n + 16) (by omega) (by rw [t_mp_o (by decide) (by decide)]; exact t_cp1)
      have es : B5 = t_mp (t_cp (t_mp (t_cp (t_mp (t_cp (t_mp (t_cp (t_mp (t_cp I n a) n a) (n + 4) b) (n + 4) b) (n + 8) c) (n + 8) c) (n + 12) d) (n + 12) d) (n + 16) e) (n + 16) e := by
        simp only [t_swap]
        rfl
      rw [es]
      exact r5
  · have g1 : (260 : Int32) < nI (n + 20) := nI_lt (a := 260) (by omega) (by omega)
    have g2 : ¬ nI (n + 20) ≤ (260 : Int32) := nI_ge (a := 260) (by omega) (by omega)
    refine ⟨-1, I, I, ?_, ?_, len, h⟩
    · unfold fX12_feed fX10_hasRoomFor
      rw [z_g_t o_0, show z_Rm mu 0 0 = 1 from rfl, z_g_t (show z_ob 1 10 from rfl), z_g_t (show z_ob 1 10 from rfl), t1, show (20 : Int32) = nI 20 from rfl, n_add, if_pos g1, z_b_s, if_pos rfl]
    · unfold fX13_feed
      rw [z_g_t m_ob, t2, show (20 : Int32) = nI 20 from rfl, n_add, if_neg g2]
