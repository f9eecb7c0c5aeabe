/-! rolls by their beats; tunes -/
def b_v (I : Nat → Nat → Int32) (i k : Nat) : Nat := (I 106 (60 * i + k)).toNatClampNeg
def b_h (I : Nat → Nat → Int32) (i k : Nat) : Nat := (I 107 (60 * i + k)).toNatClampNeg
def b_b (I : Nat → Nat → Int32) (i k : Nat) : Nat := (I 108 (60 * i + k)).toNatClampNeg
def b_g (I : Nat → Nat → Int32) (i k : Nat) : Nat := (I 109 (60 * i + k)).toNatClampNeg
theorem b_at {I : Nat → Nat → Int32} {i r n k : Nat} (h : r_Roll I i r n) (hk : k < n) : b_v I i k ≤ 7 ∧ I (r + 1) k = nI (b_v I i k) ∧ I 106 (60 * i + k) = nI (b_v I i k) ∧ b_h I i k ≤ 1 ∧ b_b I i k ≤ 1 ∧ b_g I i k ≤ 1 ∧ I 107 (60 * i + k) = nI (b_h I i k) ∧ I 108 (60 * i + k) = nI (b_b I i k) ∧ I 109 (60 * i + k) = nI (b_g I i k) ∧ I (r + 2) k = nI (b_h I i k + 2 * b_b I i k + 4 * b_g I i k) ∧ (b_g I i k = 0 → k ≠ 0 ∧ b_v I i k = b_v I i (k - 1)) := by
  obtain ⟨⟨v, hv, v1, v2⟩, ⟨a, b, g, ha, hb, hg, q1, q2, q3, q4, q5⟩, -⟩ := h.2.2.2.2 k hk
  have e1 : b_v I i k = v := by unfold b_v; rw [v2, nI_clamp (by omega)]
  have e2 : b_h I i k = a := by unfold b_h; rw [q1, nI_clamp (by omega)]
  have e3 : b_b I i k = b := by unfold b_b; rw [q2, nI_clamp (by omega)]
  have e4 : b_g I i k = g := by unfold b_g; rw [q3, nI_clamp (by omega)]
  have e5 : g = 0 → k ≠ 0 ∧ b_v I i k = b_v I i (k - 1) := by
    intro h0
    obtain ⟨p1, p2⟩ := q5 h0
    refine ⟨p1, ?_⟩
    unfold b_v
    rw [p2, show 60 * i + k - 1 = 60 * i + (k - 1) by omega]
  rw [e1] at e5
  rw [e1, e2, e3, e4]
  exact ⟨hv, v1, v2, ha, hb, hg, q1, q2, q3, q4, e5⟩
/-- a sound begins -/
def b_s (I : Nat → Nat → Int32) (i k : Nat) : Bool := b_g I i k == 1 && b_v I i k != 0
theorem b_snd_s {I : Nat → Nat → Int32} {i r n k : Nat} (h : r_Roll I i r n) (hk : k < n) : b_snd I n i k = b_s I i k := by
  obtain ⟨h1, -, h3, -, -, h6, -, -, h9, -⟩ := b_at h hk
  unfold b_snd b_s
  rw [h3, h9]
  have e1 : (nI (b_g I i k) == 1) = (b_g I i k == 1) := by
    have : ∀ g, g ≤ 1 → (nI g == 1) = (g == 1) := by decide
    exact this _ h6
  have e2 : (nI (b_v I i k) != 0) = (b_v I i k != 0) := by
    have : ∀ g, g ≤ 7 → (nI g != 0) = (g != 0) := by decide
    exact this _ h1
  rw [e1, e2]
  simp [hk]
/-- the notes of the sounds that begin in the first k beats -/
def b_row (I : Nat → Nat → Int32) (i : Nat) : Nat → List Nat
  | 0 => []
  | k + 1 => if b_s I i k then b_row I i k ++ [b_v I i k] else b_row I i k
theorem b_row_len (I : Nat → Nat → Int32) (i : Nat) : ∀ k, (b_row I i k).length ≤ k
  | 0 => Nat.le_refl 0
  | k + 1 => by
    have := b_row_len I i k
    unfold b_row
    split
    · rw [List.length_append, List.length_singleton]; omega
    · omega
theorem b_row_pre {I : Nat → Nat → Int32} {i x : Nat} : ∀ (d k : Nat), x < (b_row I i k).length → (b_row I i (k + d))[x]? = (b_row I i k)[x]? ∧ (b_row I i k).length ≤ (b_row I i (k + d)).length
  | 0, _, _ => ⟨rfl, Nat.le_refl _⟩
  | d + 1, k, hx => by
    obtain ⟨h1, h2⟩ := b_row_pre d k hx
    rw [show k + (d + 1) = (k + d) + 1 by omega]
    have er : b_row I i (k + d + 1) = if b_s I i (k + d) = true then b_row I i (k + d) ++ [b_v I i (k + d)] else b_row I i (k + d) := rfl
    rw [er]
    split
    · refine ⟨?_, ?_⟩
      · rw [List.getElem?_append_left (by omega)]
        exact h1
      · rw [List.length_append]; exact Nat.le_trans h2 (Nat.le_add_right _ _)
    · exact ⟨h1, h2⟩
theorem b_row_ok {I : Nat → Nat → Int32} {i r n : Nat} (h : r_Roll I i r n) : ∀ k, k ≤ n → ∀ x : Nat, 1 ≤ (b_row I i k)[x]?.getD 1 ∧ (b_row I i k)[x]?.getD 0 ≤ 7
  | 0, _, x => by simp [b_row]
  | k + 1, hk, x => by
    have hb := b_at h (show k < n by omega)
    have ih := b_row_ok h k (by omega)
    unfold b_row
    split
    · rename_i hs
      have hv : b_v I i k ≠ 0 := by
        unfold b_s at hs
        simp at hs
        exact hs.2
      rw [List.getElem?_append]
      split
      · exact ih x
      · by_cases c : x - (b_row I i k).length = 0
        · rw [c]; simp; omega
        · rw [List.getElem?_eq_none (by simp; omega)]; simp
    · exact ih x
/-- the heap with a list laid into the array a -/
def b_put (I : Nat → Nat → Int32) (a : Nat) (l : List Nat) : Nat → Nat → Int32 := fun b k => if b = a ∧ k < l.length then nI (l[k]?.getD 0) else I b k
theorem b_put_o {I : Nat → Nat → Int32} {a b : Nat} {l : List Nat} (h : b ≠ a) : b_put I a l b = I b := by
  funext k
  unfold b_put
  rw [if_neg (by omega)]
theorem b_put_at {I : Nat → Nat → Int32} {a k : Nat} {l : List Nat} (h : k < l.length) : b_put I a l a k = nI (l[k]?.getD 0) := by
  unfold b_put
  rw [if_pos ⟨rfl, h⟩]
theorem b_put_nil {I : Nat → Nat → Int32} {a : Nat} : b_put I a [] = I := by
  funext b k
  unfold b_put
  rw [if_neg (by simp)]
theorem b_put_app {I : Nat → Nat → Int32} {a v : Nat} {l : List Nat} : z_u (b_put I a l) a l.length (nI v) = b_put I a (l ++ [v]) := by
  funext b k
  rw [z_u_eq]
  unfold b_put
  rw [List.length_append, List.length_singleton]
  by_cases c1 : b = a
  · by_cases c2 : k = l.length
    · rw [if_pos ⟨c1, c2⟩, if_pos ⟨c1, by omega⟩, c2, List.getElem?_append_right (Nat.le_refl _)]
      simp
    · rw [if_neg (by omega)]
      by_cases c3 : k < l.length
      · rw [if_pos ⟨c1, c3⟩, if_pos ⟨c1, by omega⟩, List.getElem?_append_left c3]
      · rw [if_neg (by omega), if_neg (by omega)]
  · rw [if_neg (by omega), if_neg (by omega), if_neg (by omega)]
theorem b_row_congr {I J : Nat → Nat → Int32} {i : Nat} (h1 : J 106 = I 106) (h2 : J 109 = I 109) : ∀ k, b_row J i k = b_row I i k
  | 0 => rfl
  | k + 1 => by
    unfold b_row b_s b_g b_v
    rw [b_row_congr h1 h2 k, h1, h2]
/-- cells that the relation doesn't read -/
theorem k_no {mu : Nat → Nat} (h : r_P mu) {b k : Nat} (hb : (57 ≤ b ∧ b ≤ 61) ∨ (72 ≤ b ∧ b ≤ 81) ∨ (92 ≤ b ∧ b ≤ 101) ∨ b = 104 ∨ (112 ≤ b ∧ b ≤ 117) ∨ 123 ≤ b) : ¬ k_loc mu b k := by
  have hl := p_law h
  unfold k_loc
  intro c
  have : ∀ j, j < 8 → mu j ≤ 37 := fun j hj => (p_le h (j := j) (by omega)).2
  rcases c with c | c | c | c | c | c | c | c | c | c | c | c | c | ⟨j, hj, c⟩ | c | c | ⟨q, hq, c, c'⟩
  all_goals first | omega | (have := this j hj; omega)
theorem rel_put {I : Nat → Nat → Int32} {mu : Nat → Nat} (h : Rel I mu) {a : Nat} {l : List Nat} (ha : (57 ≤ a ∧ a ≤ 61) ∨ (72 ≤ a ∧ a ≤ 81) ∨ (92 ≤ a ∧ a ≤ 101) ∨ a = 104 ∨ (112 ≤ a ∧ a ≤ 117) ∨ 123 ≤ a) : Rel (b_put I a l) mu := by
  have hP : r_P mu := by obtain ⟨len, h⟩ := h; exact h.2.2.2.2.2.1
  refine rel_frame h (fun b k hk => ?_)
  by_cases c : b = a
  · subst c; exact absurd hk (k_no hP ha)
  · rw [b_put_o c]
theorem rel_u {I : Nat → Nat → Int32} {mu : Nat → Nat} (h : Rel I mu) {a k : Nat} {v : Int32} (ha : (57 ≤ a ∧ a ≤ 61) ∨ (72 ≤ a ∧ a ≤ 81) ∨ (92 ≤ a ∧ a ≤ 101) ∨ a = 104 ∨ (112 ≤ a ∧ a ≤ 117) ∨ 123 ≤ a) : Rel (z_u I a k v) mu := by
  have hP : r_P mu := by obtain ⟨len, h⟩ := h; exact h.2.2.2.2.2.1
  refine rel_frame h (fun b k hk => ?_)
  by_cases c : b = a
  · subst c; exact absurd hk (k_no hP ha)
  · rw [u_o c]
/-- the model lays a tune -/
theorem m_lays {I : Nat → Nat → Int32} {mu : Nat → Nat} {i r n a : Nat} (hi : i < 8) (h : r_Roll I i r n) (ha1 : z_ar a) (ha2 : z_len 1 a = 60) (ha3 : a ≠ 106 ∧ a ≠ 109 ∧ a ≠ 110) : fX13_laysTune 102 (nI i) a I (z_Rm mu) = some (nI (b_row I i n).length, b_put I a (b_row I i n)) := by
  have hn : n ≤ 60 := h.1
  unfold fX13_laysTune
  rw [z_g_t m_ob, z_g_t ha1]
  refine (z_lp_b n (nI (b_row I i n).length, b_put I a (b_row I i n)) (fun k => (nI (b_row I i k).length, nI k, b_put I a (b_row I i k))) ?_ ?_ ?_ (by omega)).trans rfl
  · show (nI 0, nI 0, b_put I a []) = _
    rw [b_put_nil]
    rfl
  · intro k hk
    obtain ⟨h1, -, h3, -, -, h6, -, -, h9, -⟩ := b_at h hk
    have hl := b_row_len I i k
    unfold fX13_laysTune_b5
    dsimp only
    rw [r_m9, z_g_t (k_110 hi), nI_clamp (show i < 2 ^ 31 by omega), b_put_o ha3.2.2.symm, h.2.2.1, if_neg (nI_ge hk (by omega)), show z_Rm mu 102 8 = 109 from rfl, show z_Rm mu 102 5 = 106 from rfl, n_l60, z_g_t (k_480 rfl hi (by omega)), z_g_t (k_480 rfl hi (by omega)), nI_clamp (show 60 * i + k < 2 ^ 31 by omega), b_put_o ha3.2.1.symm, b_put_o ha3.1.symm, h3, h9, z_g_t (n_ok ha2 (show (b_row I i k).length < 60 by omega) (by decide)), nI_clamp (show (b_row I i k).length < 2 ^ 31 by omega), b_put_app]
    simp only [z_l_s, n_s1]
    show _ = some (Sum.inl (nI (if b_s I i k = true then _ else _ : List Nat).length, nI (k + 1), b_put I a (if b_s I i k = true then b_row I i k ++ [b_v I i k] else b_row I i k)))
    have g1 : nI (b_g I i k) = 0 ↔ b_g I i k = 0 := n_eq (b := 0) (by omega) (by decide)
    have g2 : nI (b_v I i k) = 0 ↔ b_v I i k = 0 := n_eq (b := 0) (by omega) (by decide)
    by_cases c1 : b_g I i k = 0
    · rw [if_pos (g1.mpr c1), if_neg (by unfold b_s; simp [c1])]
    · rw [if_neg (fun q => c1 (g1.mp q))]
      by_cases c2 : b_v I i k = 0
      · rw [if_pos (g2.mpr c2), if_neg (by unfold b_s; simp [c2])]
      · have c3 : b_g I i k = 1 := by omega
        have c4 : b_s I i k = true := by unfold b_s; simp [c2, c3]
        rw [if_neg (fun q => c2 (g2.mp q)), if_pos c4, List.length_append, List.length_singleton]
  · unfold fX13_laysTune_b5
    dsimp only
    rw [r_m9, z_g_t (k_110 hi), nI_clamp (show i < 2 ^ 31 by omega), b_put_o ha3.2.2.symm, h.2.2.1, if_pos (nI_le (Nat.le_refl n) (by omega))]
/-- the class writes a tune -/
theorem c_write {I : Nat → Nat → Int32} {mu : Nat → Nat} {i n a : Nat} (hP : r_P mu) (hi : i < 8) (h : r_Roll I i (mu i) n) (ha1 : z_ar a) (ha2 : z_len 1 a = 60) (ha3 : 41 ≤ a ∧ a ≤ 101) : fX11_write (mu i) a I (z_Rm mu) = some (nI (b_row I i n).length, b_put I a (b_row I i n)) := by
  have hn : n ≤ 60 := h.1
  have hr := o_roll hP (show i < 9 by omega)
  have hm := p_le hP (show i < 9 by omega)
  have hR : ∀ l, r_Roll (b_put I a l) i (mu i) n := fun l => f_R h (fun b h1 h2 => b_put_o (by omega)) (fun b h1 h2 => b_put_o (by omega))
  unfold fX11_write
  rw [z_g_t hr.1, z_g_t ha1]
  refine (z_lp_b n (nI (b_row I i n).length, b_put I a (b_row I i n)) (fun k => (nI (b_row I i k).length, nI k, b_put I a (b_row I i k))) ?_ ?_ ?_ (by omega)).trans rfl
  · show (nI 0, nI 0, b_put I a []) = _
    rw [b_put_nil]
    rfl
  · intro k hk
    obtain ⟨h1, h2, h3, -, -, h6, -, -, h9, -⟩ := b_at h hk
    have hl := b_row_len I i k
    have es : b_snd (b_put I a (b_row I i k)) n i k = b_s I i k := by
      rw [← b_snd_s h hk]
      unfold b_snd
      rw [b_put_o (by omega), b_put_o (by omega)]
    unfold fX11_write_b4 fX5_length
    dsimp only
    rw [z_g_t hr.1, b_put_o (by omega), h.2.1, z_b_s, if_neg (nI_ge hk (by omega)), c_bsound hP hi (hR _) (by omega), z_b_s, es, if_neg (show ¬ Int32.ofNat (z_len 1 a) ≤ nI (b_row I i k).length by rw [ha2]; exact nI_ge (by omega) (by decide)), c_noteAt hP (show i < 9 by omega) (hR _).2.1 hn (by omega), z_b_s, if_pos hk, b_put_o (by omega), h2, z_g_t (n_ok ha2 (show (b_row I i k).length < 60 by omega) (by decide)), nI_clamp (show (b_row I i k).length < 2 ^ 31 by omega), b_put_app]
    simp only [z_l_s, n_s1]
    show _ = some (Sum.inl (nI (if b_s I i k = true then _ else _ : List Nat).length, nI (k + 1), b_put I a (if b_s I i k = true then b_row I i k ++ [b_v I i k] else b_row I i k)))
    by_cases c : b_s I i k = true
    · rw [if_pos c, if_neg (by decide), if_pos c, List.length_append, List.length_singleton]
    · rw [if_neg c, if_pos rfl, if_neg c]
  · unfold fX11_write_b4 fX5_length
    dsimp only
    rw [z_g_t hr.1, b_put_o (by omega), h.2.1, z_b_s, if_pos (nI_le (Nat.le_refl n) (by omega))]
/-! tune -/
theorem c_tune {I : Nat → Nat → Int32} {mu : Nat → Nat} {i n x : Nat} (hP : r_P mu) (hi : i < 8) (h : r_Roll I i (mu i) n) (hx : x < 2 ^ 31) : ∀ (d m N : Nat), m + d = n → d < N → (b_row I i m).length ≤ x → (∃ p, p < n ∧ z_lp (fX12_tune_b29 0 (nI x) (mu i) I (z_Rm mu)) N (nI (b_row I i m).length, nI m) = some (.inr (nI p)) ∧ (b_row I i n)[x]? = some (b_v I i p) ∧ x < (b_row I i n).length) ∨ (z_lp (fX12_tune_b29 0 (nI x) (mu i) I (z_Rm mu)) N (nI (b_row I i m).length, nI m) = some (.inl (-2)) ∧ (b_row I i n).length ≤ x) := by
  have hn : n ≤ 60 := h.1
  have hr := o_roll hP (show i < 9 by omega)
  intro d
  induction d with
  | zero =>
    intro m N e hN hl
    obtain ⟨M, rfl⟩ : ∃ M, N = M + 1 := ⟨N - 1, by omega⟩
    refine Or.inr ⟨?_, ?_⟩
    · unfold z_lp fX12_tune_b29 fX5_length
      dsimp only
      rw [z_g_t hr.1, z_g_t hr.1, h.2.1, z_b_s, if_pos (nI_le (by omega) (by omega))]
    · rw [show n = m by omega]; exact hl
  | succ d ih =>
    intro m N e hN hl
    obtain ⟨M, rfl⟩ : ∃ M, N = M + 1 := ⟨N - 1, by omega⟩
    have hm := b_row_len I i m
    have hb : fX12_tune_b29 0 (nI x) (mu i) I (z_Rm mu) (nI (b_row I i m).length, nI m) = if b_s I i m = true then (if (b_row I i m).length = x then some (.inr (.inr (nI m))) else some (.inl (nI ((b_row I i m).length + 1), nI (m + 1)))) else some (.inl (nI (b_row I i m).length, nI (m + 1))) := by
      unfold fX12_tune_b29 fX5_length
      dsimp only
      rw [z_g_t hr.1, z_g_t hr.1, h.2.1, z_b_s, if_neg (nI_ge (by omega) (by omega)), c_bsound hP hi h (by omega), z_b_s, b_snd_s h (by omega)]
      simp only [z_l_s, n_s1, n_eq (show (b_row I i m).length < 2 ^ 31 by omega) hx]
      by_cases c : b_s I i m = true
      · rw [if_pos c, if_neg (by decide), if_pos c]
      · rw [if_neg c, if_pos rfl, if_neg c]
    have er : b_row I i (m + 1) = if b_s I i m = true then b_row I i m ++ [b_v I i m] else b_row I i m := rfl
    unfold z_lp
    rw [hb]
    by_cases c : b_s I i m = true
    · rw [if_pos c] at er
      have el : (b_row I i (m + 1)).length = (b_row I i m).length + 1 := by rw [er, List.length_append, List.length_singleton]
      rw [if_pos c]
      by_cases c2 : (b_row I i m).length = x
      · rw [if_pos c2]
        obtain ⟨p1, p2⟩ := b_row_pre (I := I) (i := i) (x := x) d (m + 1) (by omega)
        rw [show m + 1 + d = n by omega] at p1 p2
        refine Or.inl ⟨m, by omega, rfl, ?_, by omega⟩
        rw [p1, er, ← c2, List.getElem?_append_right (Nat.le_refl _)]
        simp
      · rw [if_neg c2, ← el]
        exact ih (m + 1) M (by omega) (by omega) (by omega)
    · rw [if_neg c] at er
      rw [if_neg c, ← er]
      exact ih (m + 1) M (by omega) (by omega) (by rw [er]; exact hl)
theorem ar_132 : z_ar 132 := rfl
theorem ar_133 : z_ar 133 := rfl
theorem call_tune : Call_tune := by
  intro x k I mu h
  have hR := h
  obtain ⟨len, h⟩ := h
  by_cases c1 : n_in x 0 7 = 0
  · exact ⟨-1, I, by simp (disch := omega) only [z_ob, z_ok, z_ar, z_b_s, z_l_s, z_g_tr, z_x_il, z_x_ir, z_lay, z_shs, z_lens, nI_clamp, n_lt0, n_l0, n_l8, n_l16, n_l24, n_l32, n_l40, n_l48, n_l56, n_l64, n_l72, n_s1, fX12_within_eq, fX13_in_eq, fX12_isSinger_eq, fX12_areTicks_eq, ite_true, ite_false, if_true, if_false, not_false_eq_true, not_true_eq_false, or_self, false_or, or_false, true_or, or_true, and_true, true_and, and_false, false_and, eq_self, fX12_tune, c1], by simp (disch := omega) only [z_ob, z_ok, z_ar, z_b_s, z_l_s, z_g_tr, z_x_il, z_x_ir, z_lay, z_shs, z_lens, nI_clamp, n_lt0, n_l0, n_l8, n_l16, n_l24, n_l32, n_l40, n_l48, n_l56, n_l64, n_l72, n_s1, fX12_within_eq, fX13_in_eq, fX12_isSinger_eq, fX12_areTicks_eq, ite_true, ite_false, if_true, if_false, not_false_eq_true, not_true_eq_false, or_self, false_or, or_false, true_or, or_true, and_true, true_and, and_false, false_and, eq_self, fX13_tune, c1], hR⟩
  obtain ⟨i, hi, rfl⟩ := n_in7 c1
  have hP := h.2.2.2.2.2.1
  have h8 := h.2.2.2.2.2.2.1 i hi
  have hn := h8.1
  have hr := o_roll hP (show i < 9 by omega)
  by_cases c2 : (0 : Int32) ≤ k
  · obtain ⟨x, hx, rfl⟩ : ∃ j : Nat, j < 2 ^ 31 ∧ k = nI j := nI_of (Int32.not_lt.mpr c2)
    have hl := b_row_len I i (len i)
    have m1 := m_lays (mu := mu) hi h8 ar_132 rfl (by decide)
    have c0 : fX12_tune 0 (nI i) (nI x) I (z_Rm mu) = z_b (z_lp (fX12_tune_b29 0 (nI x) (mu i) I (z_Rm mu)) 300 ((0 : Int32), (0 : Int32))) (fun q16 => z_x q16 (fun q18 => some q18) (fun q17 => z_b (fX5_noteAt (mu i) q17 I (z_Rm mu)) (fun q19 => some q19))) := by
      unfold fX12_tune
      rw [z_g_t o_0, fX12_isSinger_eq, z_b_s, if_neg c1, if_pos c2, r_01, z_g_t o_3, r_30, z_g_t (k_4 hi), nI_clamp (by omega), r_4 hi, z_g_t hr.1]
    have d0 : fX13_tune 102 (nI i) (nI x) I (z_Rm mu) = if nI (b_row I i (len i)).length ≤ nI x then some (-2, b_put I 132 (b_row I i (len i))) else z_g (z_ok 1 132 (nI x)) (some (b_put I 132 (b_row I i (len i)) 132 (nI x).toNatClampNeg, b_put I 132 (b_row I i (len i)))) := by
      unfold fX13_tune
      rw [z_g_t m_ob, fX13_in_eq, z_b_s, if_neg c1, if_pos c2, show z_Rm mu 102 52 = 132 from rfl, m1, z_b_s]
    rw [c0, d0]
    rcases c_tune hP hi h8 hx (len i) 0 300 (by omega) (by omega) (Nat.zero_le _) with ⟨p, hp, q1, q2, q3⟩ | ⟨q1, q2⟩
    · refine ⟨nI (b_v I i p), b_put I 132 (b_row I i (len i)), ?_, ?_, rel_put hR (by omega)⟩
      · rw [show ((0 : Int32), (0 : Int32)) = (nI (b_row I i 0).length, nI 0) from rfl, q1, z_b_s, z_x_ir, c_noteAt hP (show i < 9 by omega) h8.2.1 hn (by omega), z_b_s, if_pos hp, (b_at h8 hp).2.1]
      · rw [if_neg (nI_ge q3 (by omega)), z_g_t (n_ok (n := 60) rfl (by omega) (by decide)), nI_clamp hx, b_put_at q3, q2]
        rfl
    · refine ⟨-2, b_put I 132 (b_row I i (len i)), ?_, ?_, rel_put hR (by omega)⟩
      · rw [show ((0 : Int32), (0 : Int32)) = (nI (b_row I i 0).length, nI 0) from rfl, q1, z_b_s, z_x_il]
      · rw [if_pos (nI_le q2 hx)]
  · refine ⟨-1, I, ?_, ?_, hR⟩
    · unfold fX12_tune
      rw [z_g_t o_0, fX12_isSinger_eq, z_b_s, if_neg c1, if_neg c2]
    · unfold fX13_tune
      rw [z_g_t m_ob, fX13_in_eq, z_b_s, if_neg c1, if_neg c2]
