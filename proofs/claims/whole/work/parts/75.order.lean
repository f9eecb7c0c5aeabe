/-! order -/
theorem o_ahead {I : Nat → Nat → Int32} {mu len : Nat → Nat} (h : RelL I mu len) {i j : Nat} (hi : i < 8) (hj : j < 8) : ∃ b : Bool, fX9_sitsAhead 62 (nI i) (nI j) I (z_Rm mu) = some (if b = true then 1 else 0) ∧ fX13_sitsAhead 102 (nI i) (nI j) I (z_Rm mu) = some (if b = true then 1 else 0) := by
  obtain ⟨-, -, ⟨si, hsi, esi⟩, -⟩ := h.2.1.1 i hi
  obtain ⟨-, -, ⟨sj, hsj, esj⟩, -⟩ := h.2.1.1 j hj
  have e64 : ∀ k, (64 : Nat) + k = 62 + 2 + k := fun k => by omega
  have A : fX9_sitsAhead 62 (nI i) (nI j) I (z_Rm mu) = if (0 : Int32) < nI sj - nI si then some 1 else if nI sj - nI si = 0 then (if nI j ≤ nI i then some 0 else some 1) else some 0 := by
    unfold fX9_sitsAhead
    rw [z_g_t o_62, fX12_isSinger_eq, z_b_s, n_in7' hi, if_neg n_10.mp, fX12_isSinger_eq, z_b_s, n_in7' hj, if_neg n_10.mp, r_620, z_g_t (k_63 hj), z_g_t (k_63 hi), nI_clamp (show i < 2 ^ 31 by omega), nI_clamp (show j < 2 ^ 31 by omega), (z_ls62 mu hi).1, (z_ls62 mu hj).1, z_g_t (z_ls62 mu hi).2, z_g_t (z_ls62 mu hj).2, e64, e64, h.1.1 2 i (by decide) hi, h.1.1 2 j (by decide) hj, show 8 * 2 + i = 16 + i by omega, show 8 * 2 + j = 16 + j by omega, esi, esj, z_l_s]
  have B : fX13_sitsAhead 102 (nI i) (nI j) I (z_Rm mu) = if nI si < nI sj then some 1 else if nI si = nI sj then (if nI j ≤ nI i then some 0 else some 1) else some 0 := by
    unfold fX13_sitsAhead
    rw [z_g_t m_ob, r_m0, n_l16, n_l16, z_g_t (k_103 (show 16 + i < 82 by omega)), z_g_t (k_103 (show 16 + j < 82 by omega)), nI_clamp (show 16 + i < 2 ^ 31 by omega), nI_clamp (show 16 + j < 2 ^ 31 by omega), esi, esj]
  have hw : (nI sj - nI si).toInt = (sj : Int) - si := pk_sub_toInt (by omega) (by omega)
  have l1 : (0 : Int32) < nI sj - nI si ↔ si < sj := by
    rw [Int32.lt_iff_toInt_lt, hw, show (0 : Int32).toInt = 0 from rfl]
    omega
  have l2 : nI sj - nI si = 0 ↔ si = sj := by
    rw [← Int32.toInt_inj, hw, show (0 : Int32).toInt = 0 from rfl]
    omega
  refine ⟨decide (si < sj) || (decide (si = sj) && decide (i < j)), ?_, ?_⟩
  · rw [A]
    simp only [l1, l2, n_le (show j < 2 ^ 31 by omega) (show i < 2 ^ 31 by omega)]
    by_cases c1 : si < sj
    · simp [c1]
    · by_cases c2 : si = sj
      · by_cases c3 : j ≤ i
        · have : ¬ i < j := by omega
          simp [c2, c3, this]
        · have : i < j := by omega
          simp [c2, c3, this]
      · simp [c1, c2]
  · rw [B]
    simp only [n_lt (show si < 2 ^ 31 by omega) (show sj < 2 ^ 31 by omega), n_eq (show si < 2 ^ 31 by omega) (show sj < 2 ^ 31 by omega), n_le (show j < 2 ^ 31 by omega) (show i < 2 ^ 31 by omega)]
    by_cases c1 : si < sj
    · simp [c1]
    · by_cases c2 : si = sj
      · by_cases c3 : j ≤ i
        · have : ¬ i < j := by omega
          simp [c2, c3, this]
        · have : i < j := by omega
          simp [c2, c3, this]
      · simp [c1, c2]
def o_in (t : Nat → Bool) (d : Nat → Int32) (i : Nat) (m : Int32) : Nat → Int32
  | 0 => m
  | j + 1 => if (t i && t j) = true then z_max (o_in t d i m j) (d i - d j) else o_in t d i m j
def o_out (t : Nat → Bool) (d : Nat → Int32) : Nat → Int32
  | 0 => 0
  | i + 1 => o_in t d i (o_out t d i) 8
def o_lo (t : Nat → Bool) (d : Nat → Int32) : Nat → Int32
  | 0 => 20
  | i + 1 => if t i = true then (if d i ≤ o_lo t d i then d i else o_lo t d i) else o_lo t d i
def o_hi (t : Nat → Bool) (d : Nat → Int32) : Nat → Int32
  | 0 => -20
  | i + 1 => if t i = true then (if o_hi t d i ≤ d i then d i else o_hi t d i) else o_hi t d i
def o_w (t : Nat → Bool) (d : Nat → Int32) (a : Nat → Nat → Bool) : Nat → Int32
  | 0 => 0
  | i + 1 => o_w t d a i + nI (n_cnt (fun j => t i && t j && !decide (d i ≤ d j) && a i j) 8)
theorem z_max_int (a b : Int32) : (z_max a b).toInt = max a.toInt b.toInt := by
  unfold z_max
  by_cases h : a < b
  · rw [if_pos h]
    rw [Int32.lt_iff_toInt_lt] at h
    omega
  · rw [if_neg h]
    rw [Int32.lt_iff_toInt_lt] at h
    omega
/-- what the class's greatest fall is -/
theorem o_in_inv {t : Nat → Bool} {d : Nat → Int32} (hd : ∀ i, i < 8 → -20 ≤ (d i).toInt ∧ (d i).toInt ≤ 20) {i : Nat} (hi : i < 8) {m : Int32} (h0 : 0 ≤ m.toInt) : ∀ j, j ≤ 8 → m.toInt ≤ (o_in t d i m j).toInt ∧ (∀ k, k < j → t i = true → t k = true → (d i).toInt - (d k).toInt ≤ (o_in t d i m j).toInt) ∧ (o_in t d i m j = m ∨ ∃ k, k < j ∧ t i = true ∧ t k = true ∧ (o_in t d i m j).toInt = (d i).toInt - (d k).toInt)
  | 0, _ => ⟨Int.le_refl _, fun k hk => absurd hk (Nat.not_lt_zero k), Or.inl rfl⟩
  | j + 1, hj => by
    obtain ⟨a1, a2, a3⟩ := o_in_inv hd hi h0 (t := t) j (by omega)
    have e : o_in t d i m (j + 1) = if (t i && t j) = true then z_max (o_in t d i m j) (d i - d j) else o_in t d i m j := rfl
    by_cases c : (t i && t j) = true
    · rw [if_pos c] at e
      have hs : (d i - d j).toInt = (d i).toInt - (d j).toInt := n_diff (m := 20) (hd i hi) (hd j (by omega)) (by decide)
      have hx := z_max_int (o_in t d i m j) (d i - d j)
      rw [← e, hs] at hx
      simp at c
      refine ⟨by omega, fun k hk t1 t2 => ?_, ?_⟩
      · by_cases ck : k = j
        · subst ck; omega
        · have := a2 k (by omega) t1 t2
          omega
      · by_cases cm : (o_in t d i m j).toInt < (d i).toInt - (d j).toInt
        · exact Or.inr ⟨j, by omega, c.1, c.2, by omega⟩
        · have ee : o_in t d i m (j + 1) = o_in t d i m j := by
            rw [← Int32.toInt_inj]; omega
          rw [ee]
          rcases a3 with q | ⟨k, k1, k2, k3, k4⟩
          · exact Or.inl q
          · exact Or.inr ⟨k, by omega, k2, k3, k4⟩
    · rw [if_neg c] at e
      rw [e]
      refine ⟨a1, fun k hk t1 t2 => ?_, ?_⟩
      · by_cases ck : k = j
        · subst ck; exact absurd (by simp [t1, t2]) c
        · exact a2 k (by omega) t1 t2
      · rcases a3 with q | ⟨k, k1, k2, k3, k4⟩
        · exact Or.inl q
        · exact Or.inr ⟨k, by omega, k2, k3, k4⟩
theorem o_out_inv {t : Nat → Bool} {d : Nat → Int32} (hd : ∀ i, i < 8 → -20 ≤ (d i).toInt ∧ (d i).toInt ≤ 20) : ∀ i, i ≤ 8 → 0 ≤ (o_out t d i).toInt ∧ (∀ a b, a < i → b < 8 → t a = true → t b = true → (d a).toInt - (d b).toInt ≤ (o_out t d i).toInt) ∧ ((o_out t d i).toInt = 0 ∨ ∃ a b, a < 8 ∧ b < 8 ∧ t a = true ∧ t b = true ∧ (o_out t d i).toInt = (d a).toInt - (d b).toInt)
  | 0, _ => ⟨show (0 : Int) ≤ (0 : Int32).toInt by decide, fun a b ha => absurd ha (Nat.not_lt_zero a), Or.inl rfl⟩
  | i + 1, hi => by
    obtain ⟨a1, a2, a3⟩ := o_out_inv hd (t := t) i (by omega)
    obtain ⟨b1, b2, b3⟩ := o_in_inv hd (show i < 8 by omega) (t := t) a1 8 (Nat.le_refl 8)
    have e : o_out t d (i + 1) = o_in t d i (o_out t d i) 8 := rfl
    rw [e]
    refine ⟨by omega, fun a b ha hb t1 t2 => ?_, ?_⟩
    · by_cases c : a = i
      · subst c; exact b2 b hb t1 t2
      · have := a2 a b (by omega) hb t1 t2
        omega
    · rcases b3 with q | ⟨k, k1, k2, k3, k4⟩
      · rw [q]; exact a3
      · exact Or.inr ⟨i, k, by omega, k1, k2, k3, k4⟩
theorem o_lh_inv {t : Nat → Bool} {d : Nat → Int32} (hd : ∀ i, i < 8 → -20 ≤ (d i).toInt ∧ (d i).toInt ≤ 20) : ∀ i, i ≤ 8 → (∀ a, a < i → t a = true → (d a).toInt ≤ (o_hi t d i).toInt ∧ (o_lo t d i).toInt ≤ (d a).toInt) ∧ (((∀ a, a < i → ¬ t a = true) ∧ (o_hi t d i).toInt = -20 ∧ (o_lo t d i).toInt = 20) ∨ ((∃ a, a < 8 ∧ t a = true ∧ (o_hi t d i).toInt = (d a).toInt) ∧ ∃ b, b < 8 ∧ t b = true ∧ (o_lo t d i).toInt = (d b).toInt))
  | 0, _ => ⟨fun a ha => absurd ha (Nat.not_lt_zero a), Or.inl ⟨fun a ha => absurd ha (Nat.not_lt_zero a), rfl, rfl⟩⟩
  | i + 1, hi => by
    obtain ⟨a1, a2⟩ := o_lh_inv hd (t := t) i (by omega)
    have di := hd i (by omega)
    by_cases c : t i = true
    · have eh : (o_hi t d (i + 1)).toInt = max (o_hi t d i).toInt (d i).toInt := by
        show (if t i = true then (if o_hi t d i ≤ d i then d i else o_hi t d i) else o_hi t d i).toInt = _
        rw [if_pos c]
        by_cases q : o_hi t d i ≤ d i
        · rw [if_pos q]; rw [Int32.le_iff_toInt_le] at q; omega
        · rw [if_neg q]; rw [Int32.le_iff_toInt_le] at q; omega
      have el : (o_lo t d (i + 1)).toInt = min (o_lo t d i).toInt (d i).toInt := by
        show (if t i = true then (if d i ≤ o_lo t d i then d i else o_lo t d i) else o_lo t d i).toInt = _
        rw [if_pos c]
        by_cases q : d i ≤ o_lo t d i
        · rw [if_pos q]; rw [Int32.le_iff_toInt_le] at q; omega
        · rw [if_neg q]; rw [Int32.le_iff_toInt_le] at q; omega
      refine ⟨fun a ha t1 => ?_, Or.inr ⟨?_, ?_⟩⟩
      · by_cases q : a = i
        · subst q; omega
        · have := a1 a (by omega) t1
          omega
      · by_cases q : (o_hi t d i).toInt ≤ (d i).toInt
        · exact ⟨i, by omega, c, by omega⟩
        · rcases a2 with ⟨-, q1, -⟩ | ⟨⟨a, w1, w2, w3⟩, -⟩
          · omega
          · exact ⟨a, w1, w2, by omega⟩
      · by_cases q : (d i).toInt ≤ (o_lo t d i).toInt
        · exact ⟨i, by omega, c, by omega⟩
        · rcases a2 with ⟨-, -, q1⟩ | ⟨-, a, w1, w2, w3⟩
          · omega
          · exact ⟨a, w1, w2, by omega⟩
    · have eh : o_hi t d (i + 1) = o_hi t d i := if_neg c
      have el : o_lo t d (i + 1) = o_lo t d i := if_neg c
      rw [eh, el]
      refine ⟨fun a ha t1 => ?_, ?_⟩
      · by_cases q : a = i
        · subst q; exact absurd t1 c
        · exact a1 a (by omega) t1
      · rcases a2 with ⟨q0, q1, q2⟩ | q
        · refine Or.inl ⟨fun a ha t1 => ?_, q1, q2⟩
          by_cases q : a = i
          · subst q; exact c t1
          · exact q0 a (by omega) t1
        · exact Or.inr q
theorem o_same {t : Nat → Bool} {d : Nat → Int32} (hd : ∀ i, i < 8 → -20 ≤ (d i).toInt ∧ (d i).toInt ≤ 20) : fX13_max 0 (o_hi t d 8 - o_lo t d 8) = some (o_out t d 8) := by
  obtain ⟨x1, x2, x3⟩ := o_out_inv hd (t := t) 8 (Nat.le_refl 8)
  obtain ⟨y1, y2⟩ := o_lh_inv hd (t := t) 8 (Nat.le_refl 8)
  have b : -20 ≤ (o_hi t d 8).toInt ∧ (o_hi t d 8).toInt ≤ 20 ∧ -20 ≤ (o_lo t d 8).toInt ∧ (o_lo t d 8).toInt ≤ 20 := by
    rcases y2 with ⟨-, q1, q2⟩ | ⟨⟨a, w1, w2, w3⟩, c, v1, v2, v3⟩
    · omega
    · have := hd a w1
      have := hd c v1
      omega
  have hs : (o_hi t d 8 - o_lo t d 8).toInt = (o_hi t d 8).toInt - (o_lo t d 8).toInt := n_diff (m := 20) (by omega) (by omega) (by decide)
  have key : (o_out t d 8).toInt = max 0 ((o_hi t d 8).toInt - (o_lo t d 8).toInt) := by
    rcases y2 with ⟨q0, q1, q2⟩ | ⟨⟨a, w1, w2, w3⟩, c, v1, v2, v3⟩
    · rcases x3 with q | ⟨a, b, k1, k2, k3, -⟩
      · omega
      · exact absurd k3 (q0 a k1)
    · have z1 := x2 a c w1 v1 w2 v2
      have z2 := (y1 a w1 w2).2
      rcases x3 with q | ⟨a', b', k1, k2, k3, k4, k5⟩
      · omega
      · have := y1 a' k1 k3
        have := y1 b' k2 k4
        omega
  unfold fX13_max
  by_cases c : (0 : Int32) ≤ o_hi t d 8 - o_lo t d 8
  · rw [if_pos c]
    rw [Int32.le_iff_toInt_le, hs, show (0 : Int32).toInt = 0 from rfl] at c
    congr 1
    rw [← Int32.toInt_inj]
    omega
  · rw [if_neg c]
    rw [Int32.le_iff_toInt_le, hs, show (0 : Int32).toInt = 0 from rfl] at c
    congr 1
    rw [← Int32.toInt_inj, show (0 : Int32).toInt = 0 from rfl]
    omega
theorem call_order : Call_order := by
  intro x I mu h
  have hR := h
  obtain ⟨len, h⟩ := h
  by_cases c1 : n_in x 0 1 = 0
  · exact ⟨-1, by simp (disch := omega) only [z_ob, z_ok, z_ar, z_b_s, z_l_s, z_g_tr, z_x_il, z_x_ir, z_lay, z_shs, z_lens, nI_clamp, n_lt0, n_l0, n_l8, n_l16, n_l24, n_l32, n_l40, n_l48, n_l56, n_l64, n_l72, n_s1, fX12_within_eq, fX13_in_eq, fX12_isSinger_eq, fX12_areTicks_eq, ite_true, ite_false, if_true, if_false, not_false_eq_true, not_true_eq_false, or_self, false_or, or_false, true_or, or_true, and_true, true_and, and_false, false_and, eq_self, fX12_order, c1], by simp (disch := omega) only [z_ob, z_ok, z_ar, z_b_s, z_l_s, z_g_tr, z_x_il, z_x_ir, z_lay, z_shs, z_lens, nI_clamp, n_lt0, n_l0, n_l8, n_l16, n_l24, n_l32, n_l40, n_l48, n_l56, n_l64, n_l72, n_s1, fX12_within_eq, fX13_in_eq, fX12_isSinger_eq, fX12_areTicks_eq, ite_true, ite_false, if_true, if_false, not_false_eq_true, not_true_eq_false, or_self, false_or, or_false, true_or, or_true, and_true, true_and, and_false, false_and, eq_self, fX13_order, c1], hR⟩
  obtain ⟨t, ht⟩ : ∃ t : Nat → Bool, ∀ i, t i = (I 103 i == 1) := ⟨_, fun _ => rfl⟩
  obtain ⟨d, hdd⟩ : ∃ d : Nat → Int32, ∀ i, d i = I 103 (8 + i) := ⟨_, fun _ => rfl⟩
  have hd : ∀ i, i < 8 → -20 ≤ (d i).toInt ∧ (d i).toInt ≤ 20 := fun i hi => by rw [hdd]; exact (h.2.1.1 i hi).2.1
  obtain ⟨a, ha⟩ : ∃ a : Nat → Nat → Bool, ∀ i j, i < 8 → j < 8 → fX9_sitsAhead 62 (nI i) (nI j) I (z_Rm mu) = some (if a i j = true then 1 else 0) ∧ fX13_sitsAhead 102 (nI i) (nI j) I (z_Rm mu) = some (if a i j = true then 1 else 0) := by
    refine ⟨fun i j => fX13_sitsAhead 102 (nI i) (nI j) I (z_Rm mu) == some 1, fun i j hi hj => ?_⟩
    obtain ⟨b, b1, b2⟩ := o_ahead h hi hj
    have hb : (fX13_sitsAhead 102 (nI i) (nI j) I (z_Rm mu) == some 1) = b := by rw [b2]; cases b <;> rfl
    simp only [hb]
    exact ⟨b1, b2⟩
  have e64 : ∀ k, (64 : Nat) + k = 62 + 2 + k := fun k => by omega
  have ct : ∀ i, i < 8 → fX9_isTold 62 (nI i) I (z_Rm mu) = some (if t i = true then 1 else 0) := fun i hi => by
    rw [c_told c62 hi, h.1.1 0 i (by decide) hi, show 8 * 0 + i = i by omega, ht]
    rcases (h.2.1.1 i hi).1 with q | q <;> rw [q] <;> rfl
  have mt : ∀ i, i < 8 → fX13_isTold 102 (nI i) I (z_Rm mu) = some (if t i = true then 1 else 0) := fun i hi => by
    rw [m_told hi, ht]
    rcases (h.2.1.1 i hi).1 with q | q <;> rw [q] <;> rfl
  have fall : ∀ i j, i < 8 → j < 8 → (d i - d j ≤ 0 ↔ d i ≤ d j) := fun i j hi hj => by
    rw [Int32.le_iff_toInt_le, Int32.le_iff_toInt_le, n_diff (m := 20) (hd i hi) (hd j hj) (by decide), show (0 : Int32).toInt = 0 from rfl]
    omega
  have A : ∀ (i : Nat) (p2 p3 : Int32) {β : Type} (f : Int32 × Int32 → Option β), i < 8 → z_b (z_lp (fX12_order_b28 0 x (nI i) I (z_Rm mu)) 300 (p2, p3, (0 : Int32))) f = f (o_in t d i p2 8, p3 + nI (n_cnt (fun j => t i && t j && !decide (d i ≤ d j) && a i j) 8)) := by
    intro i p2 p3 β f hi
    refine z_lp_b 8 _ (fun k => (o_in t d i p2 k, p3 + nI (n_cnt (fun j => t i && t j && !decide (d i ≤ d j) && a i j) k), nI k)) ?_ ?_ ?_ (by omega)
    · show (p2, p3 + nI 0, nI 0) = _
      rw [n_nI0]; rfl
    · intro k hk
      unfold fX12_order_b28
      dsimp only
      rw [if_neg (n_8 hk), r_05, z_g_t o_62, ct i hi, z_b_s, ct k hk, z_b_s, r_620, z_g_t (k_63 hi), z_g_t (k_63 hk), nI_clamp (show i < 2 ^ 31 by omega), nI_clamp (show k < 2 ^ 31 by omega), (z_ls62 mu hi).1, (z_ls62 mu hk).1, z_g_t (z_ls62 mu hi).2, z_g_t (z_ls62 mu hk).2, e64, e64, h.1.1 1 i (by decide) hi, h.1.1 1 k (by decide) hk, show 8 * 1 + i = 8 + i by omega, show 8 * 1 + k = 8 + k by omega, ← hdd, ← hdd, (ha i k hi hk).1]
      simp only [z_l_s, z_b_s, n_s1, n_as1, fall i k hi hk]
      show _ = some (Sum.inl (if (t i && t k) = true then _ else _, p3 + nI (if (t i && t k && !decide (d i ≤ d k) && a i k) = true then _ else _), _))
      by_cases q1 : t i = true
      · rw [if_pos q1, if_neg n_10.mp]
        by_cases q2 : t k = true
        · rw [if_pos q2, if_neg n_10.mp, if_pos (show (t i && t k) = true by simp [q1, q2])]
          by_cases q3 : d i ≤ d k
          · rw [if_pos q3, if_neg (by simp [q3])]
          · rw [if_neg q3]
            by_cases q4 : a i k = true
            · rw [if_pos q4, if_neg n_10.mp, if_pos (by simp [q1, q2, q3, q4])]
            · rw [if_neg q4, if_pos rfl, if_neg (by simp [q4])]
        · rw [if_neg q2, if_pos rfl, if_neg (by simp [q2]), if_neg (by simp [q2])]
      · rw [if_neg q1, if_pos rfl, if_neg (by simp [q1]), if_neg (by simp [q1])]
    · unfold fX12_order_b28
      dsimp only
      rw [if_pos n_88]
  have B : ∀ (i : Nat) (z2 z3 p4 : Int32) {β : Type} (f : Int32 → Option β), i < 8 → t i = true → z_b (z_lp (fX13_order_b75 102 x z2 z3 (nI i) I (z_Rm mu)) 300 (p4, (0 : Int32))) f = f (p4 + nI (n_cnt (fun j => t i && t j && !decide (d i ≤ d j) && a i j) 8)) := by
    intro i z2 z3 p4 β f hi hti
    refine z_lp_b 8 _ (fun k => (p4 + nI (n_cnt (fun j => t i && t j && !decide (d i ≤ d j) && a i j) k), nI k)) ?_ ?_ ?_ (by omega)
    · show (p4 + nI 0, nI 0) = _
      rw [n_nI0]; rfl
    · intro k hk
      unfold fX13_order_b75
      dsimp only
      rw [if_neg (n_8 hk), mt k hk, z_b_s, (ha i k hi hk).2, z_b_s, r_m0, n_l8, n_l8, z_g_t (k_103 (show 8 + i < 82 by omega)), z_g_t (k_103 (show 8 + k < 82 by omega)), nI_clamp (show 8 + i < 2 ^ 31 by omega), nI_clamp (show 8 + k < 2 ^ 31 by omega), ← hdd, ← hdd]
      simp only [z_l_s, n_s1, n_as1]
      show _ = some (Sum.inl (p4 + nI (if (t i && t k && !decide (d i ≤ d k) && a i k) = true then _ else _), _))
      by_cases q2 : t k = true
      · rw [if_pos q2, if_neg n_10.mp]
        by_cases q4 : a i k = true
        · rw [if_pos q4, if_neg n_10.mp]
          by_cases q3 : d i ≤ d k
          · rw [if_pos q3, if_neg (by simp [q3])]
          · rw [if_neg q3, if_pos (by simp [hti, q2, q3, q4])]
        · rw [if_neg q4, if_pos rfl, if_neg (by simp [q4])]
      · rw [if_neg q2, if_pos rfl, if_neg (by simp [q2])]
    · unfold fX13_order_b75
      dsimp only
      rw [if_pos n_88]
  refine ⟨if x = 0 then o_out t d 8 else o_w t d a 8, ?_, ?_, hR⟩
  · unfold fX12_order
    rw [z_g_t o_0, fX12_within_eq, z_b_s, if_neg c1]
    refine (z_lp_b 8 (o_out t d 8, o_w t d a 8) (fun k => (o_out t d k, o_w t d a k, nI k)) rfl ?_ ?_ (by decide)).trans ?_
    · intro k hk
      unfold fX12_order_b18
      dsimp only
      rw [if_neg (n_8 hk), A k _ _ _ hk, z_l_s, n_s1]
      rfl
    · unfold fX12_order_b18
      dsimp only
      rw [if_pos n_88]
    · split <;> rfl
  · unfold fX13_order
    rw [z_g_t m_ob, fX13_in_eq, z_b_s, if_neg c1]
    refine (z_lp_b 8 (o_lo t d 8, o_hi t d 8, o_w t d a 8) (fun k => (o_lo t d k, o_hi t d k, o_w t d a k, nI k)) rfl ?_ ?_ (by decide)).trans ?_
    · intro k hk
      unfold fX13_order_b23
      dsimp only
      rw [if_neg (n_8 hk), mt k hk, z_b_s]
      by_cases q : t k = true
      · rw [if_pos q, if_neg n_10.mp, r_m0, n_l8, z_g_t (k_103 (show 8 + k < 82 by omega)), nI_clamp (show 8 + k < 2 ^ 31 by omega), ← hdd]
        have e1 : fX13_min (o_lo t d k) (d k) = some (o_lo t d (k + 1)) := by
          show (if _ then _ else _) = some (if t k = true then (if d k ≤ o_lo t d k then d k else o_lo t d k) else o_lo t d k)
          rw [if_pos q]
          split <;> rfl
        have e2 : fX13_max (o_hi t d k) (d k) = some (o_hi t d (k + 1)) := by
          show (if _ then _ else _) = some (if t k = true then (if o_hi t d k ≤ d k then d k else o_hi t d k) else o_hi t d k)
          rw [if_pos q]
          split <;> rfl
        rw [e1, z_b_s, e2, z_b_s, B k _ _ _ _ hk q, z_l_s, n_s1]
        rfl
      · rw [if_neg q, if_pos rfl, z_l_s, n_s1]
        have e1 : o_lo t d (k + 1) = o_lo t d k := if_neg q
        have e2 : o_hi t d (k + 1) = o_hi t d k := if_neg q
        have e3 : o_w t d a (k + 1) = o_w t d a k := by
          show o_w t d a k + nI _ = _
          rw [show n_cnt (fun j => t k && t j && !decide (d k ≤ d j) && a k j) 8 = 0 from ?_, n_nI0]
          have := n_cnt_stop (p := fun j => t k && t j && !decide (d k ≤ d j) && a k j) (t := 0) 8 (fun j _ _ => by simp [q])
          rw [Nat.zero_add] at this
          exact this
        rw [e1, e2, e3]
    · unfold fX13_order_b23
      dsimp only
      rw [if_pos n_88]
    · dsimp only
      rw [o_same hd, z_b_s]
      obtain ⟨m, hm, rfl⟩ := n_in_nI (b := 1) (by decide) c1
      have : m = 0 ∨ m = 1 := by omega
      rcases this with rfl | rfl
      · rw [if_neg (show ¬ nI 0 = 1 by decide), if_pos (show nI 0 = 0 from rfl)]
      · rw [if_pos (show nI 1 = 1 from rfl), if_neg (show ¬ nI 1 = 0 by decide)]
