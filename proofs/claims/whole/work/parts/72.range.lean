/-! range; backwards -/
theorem n_eq0 {a : Nat} (ha : a < 2 ^ 31) : nI a = (0 : Int32) ↔ a = 0 := n_eq (b := 0) ha (by decide)
theorem n_mx {a b : Nat} (ha : a < 2 ^ 31) (hb : b < 2 ^ 31) : z_max (nI a) (nI b) = nI (max a b) ∧ fX13_max (nI a) (nI b) = some (nI (max a b)) := by
  unfold z_max fX13_max
  constructor
  · by_cases h : a < b
    · rw [if_pos (nI_lt h hb), Nat.max_eq_right (by omega)]
    · rw [if_neg (nI_nlt (by omega) ha), Nat.max_eq_left (by omega)]
  · by_cases h : a ≤ b
    · rw [if_pos (nI_le h hb), Nat.max_eq_right h]
    · rw [if_neg (nI_ge (by omega) ha), Nat.max_eq_left (by omega)]
theorem n_mn {a b : Nat} (ha : a < 2 ^ 31) (hb : b < 2 ^ 31) : z_min (nI a) (nI b) = nI (min a b) ∧ fX13_min (nI a) (nI b) = some (nI (min a b)) := by
  unfold z_min fX13_min
  constructor
  · by_cases h : b < a
    · rw [if_pos (nI_lt h ha), Nat.min_eq_right (by omega)]
    · rw [if_neg (nI_nlt (by omega) hb), Nat.min_eq_left (by omega)]
  · by_cases h : b ≤ a
    · rw [if_pos (nI_le h ha), Nat.min_eq_right h]
    · rw [if_neg (nI_ge (by omega) hb), Nat.min_eq_left (by omega)]
def w_hi (w : Nat → Nat) : Nat → Nat
  | 0 => 0
  | k + 1 => max (w_hi w k) (w k)
def w_lo (w : Nat → Nat) : Nat → Nat
  | 0 => 1000000
  | k + 1 => min (w_lo w k) (w k)
def v_hi (v : Nat → Nat) : Nat → Nat
  | 0 => 0
  | k + 1 => if v k = 0 then v_hi v k else max (v_hi v k) (v k)
def v_lo (v : Nat → Nat) : Nat → Nat
  | 0 => 8
  | k + 1 => if v k = 0 then v_lo v k else min (v_lo v k) (v k)
theorem w_bd {w : Nat → Nat} (h : ∀ x, w x ≤ 7) : ∀ k, w_hi w k ≤ 7 ∧ w_lo w k ≤ 1000000
  | 0 => by simp [w_hi, w_lo]
  | k + 1 => by
    have := w_bd h k
    have := h k
    unfold w_hi w_lo
    omega
theorem v_bd {v : Nat → Nat} {n : Nat} (h : ∀ x, x < n → v x ≤ 7) : ∀ k, k ≤ n → v_hi v k ≤ 7 ∧ v_lo v k ≤ 8
  | 0, _ => by simp [v_hi, v_lo]
  | k + 1, hk => by
    have := v_bd h k (by omega)
    have := h k (by omega)
    unfold v_hi v_lo
    split <;> omega
theorem g_row {I : Nat → Nat → Int32} {i r n : Nat} (h : r_Roll I i r n) {w : Nat → Nat} (hw : ∀ x, w x = (b_row I i n)[x]?.getD 0) : ∀ k, k ≤ n → w_hi w (b_row I i k).length = v_hi (b_v I i) k ∧ (((b_row I i k).length = 0 ∧ v_hi (b_v I i) k = 0 ∧ v_lo (b_v I i) k = 8) ∨ (0 < (b_row I i k).length ∧ 0 < v_hi (b_v I i) k ∧ w_lo w (b_row I i k).length = v_lo (b_v I i) k)) ∧ (k ≠ 0 → b_v I i (k - 1) ≠ 0 → b_v I i (k - 1) ≤ v_hi (b_v I i) k ∧ v_lo (b_v I i) k ≤ b_v I i (k - 1))
  | 0, _ => ⟨rfl, Or.inl ⟨rfl, rfl, rfl⟩, fun h0 => absurd rfl h0⟩
  | k + 1, hk => by
    obtain ⟨e1, e2, e3⟩ := g_row h hw k (by omega)
    obtain ⟨h1, -, -, -, -, h6, -, -, -, -, h11⟩ := b_at h (show k < n by omega)
    have er : b_row I i (k + 1) = if b_s I i k = true then b_row I i k ++ [b_v I i k] else b_row I i k := rfl
    have eh : v_hi (b_v I i) (k + 1) = if b_v I i k = 0 then v_hi (b_v I i) k else max (v_hi (b_v I i) k) (b_v I i k) := rfl
    have el : v_lo (b_v I i) (k + 1) = if b_v I i k = 0 then v_lo (b_v I i) k else min (v_lo (b_v I i) k) (b_v I i k) := rfl
    have e4 : k + 1 ≠ 0 → b_v I i (k + 1 - 1) ≠ 0 → b_v I i (k + 1 - 1) ≤ v_hi (b_v I i) (k + 1) ∧ v_lo (b_v I i) (k + 1) ≤ b_v I i (k + 1 - 1) := by
      intro _ c
      rw [Nat.add_sub_cancel] at c ⊢
      rw [eh, el, if_neg c, if_neg c]
      omega
    by_cases c : b_s I i k = true
    · have cv : b_v I i k ≠ 0 := by
        unfold b_s at c
        simp at c
        exact c.2
      rw [if_pos c] at er
      have ll : (b_row I i (k + 1)).length = (b_row I i k).length + 1 := by rw [er, List.length_append, List.length_singleton]
      have wl : w (b_row I i k).length = b_v I i k := by
        have p := (b_row_pre (I := I) (i := i) (x := (b_row I i k).length) (n - (k + 1)) (k + 1) (by omega)).1
        rw [show k + 1 + (n - (k + 1)) = n by omega] at p
        rw [hw, p, er, List.getElem?_append_right (Nat.le_refl _)]
        simp
      rw [if_neg cv] at eh el
      refine ⟨?_, Or.inr ⟨by omega, by omega, ?_⟩, e4⟩
      · rw [ll, eh, ← e1]
        show max _ (w _) = _
        rw [wl]
      · rw [ll, el]
        show min _ (w _) = _
        rw [wl]
        rcases e2 with ⟨l0, -, q⟩ | ⟨-, -, q⟩
        · rw [l0, q]
          show min 1000000 _ = _
          omega
        · rw [q]
    · rw [if_neg c] at er
      by_cases cv : b_v I i k = 0
      · rw [if_pos cv] at eh el
        rw [er, eh, el]
        exact ⟨e1, e2, by rw [eh, el] at e4; exact e4⟩
      · have cg : b_g I i k = 0 := by
          have : ¬ b_g I i k = 1 := fun q => c (by unfold b_s; simp [q, cv])
          omega
        obtain ⟨k0, kv⟩ := h11 cg
        obtain ⟨f1, f2⟩ := e3 k0 (by rw [← kv]; exact cv)
        rw [← kv] at f1 f2
        rw [if_neg cv, Nat.max_eq_left f1] at eh
        rw [if_neg cv, Nat.min_eq_left f2] at el
        rw [er, eh, el]
        exact ⟨e1, e2, by rw [eh, el] at e4; exact e4⟩
theorem call_range : Call_range := by
  intro x I mu h
  have hR := h
  obtain ⟨len, h⟩ := h
  by_cases c1 : n_in x 0 7 = 0
  · exact ⟨-1, I, by simp (disch := omega) only [z_ob, z_ok, z_ar, z_b_s, z_l_s, z_g_tr, z_x_il, z_x_ir, z_lay, z_shs, z_lens, nI_clamp, n_lt0, n_l0, n_l8, n_l16, n_l24, n_l32, n_l40, n_l48, n_l56, n_l64, n_l72, n_s1, fX12_within_eq, fX13_in_eq, fX12_isSinger_eq, fX12_areTicks_eq, ite_true, ite_false, if_true, if_false, not_false_eq_true, not_true_eq_false, or_self, false_or, or_false, true_or, or_true, and_true, true_and, and_false, false_and, eq_self, fX12_range, c1], by simp (disch := omega) only [z_ob, z_ok, z_ar, z_b_s, z_l_s, z_g_tr, z_x_il, z_x_ir, z_lay, z_shs, z_lens, nI_clamp, n_lt0, n_l0, n_l8, n_l16, n_l24, n_l32, n_l40, n_l48, n_l56, n_l64, n_l72, n_s1, fX12_within_eq, fX13_in_eq, fX12_isSinger_eq, fX12_areTicks_eq, ite_true, ite_false, if_true, if_false, not_false_eq_true, not_true_eq_false, or_self, false_or, or_false, true_or, or_true, and_true, true_and, and_false, false_and, eq_self, fX13_range, c1], hR⟩
  obtain ⟨i, hi, rfl⟩ := n_in7 c1
  have hP := h.2.2.2.2.2.1
  have h8 := h.2.2.2.2.2.2.1 i hi
  have hn := h8.1
  have hr := o_roll hP (show i < 9 by omega)
  have hl := b_row_len I i (len i)
  have m1 := m_lays (mu := mu) hi h8 ar_132 rfl (by decide)
  obtain ⟨w, hw⟩ : ∃ w : Nat → Nat, ∀ x, w x = (b_row I i (len i))[x]?.getD 0 := ⟨_, fun _ => rfl⟩
  obtain ⟨g1, g2, -⟩ := g_row h8 hw (len i) (Nat.le_refl _)
  have wb : ∀ x, w x ≤ 7 := fun x => by rw [hw]; exact (b_row_ok h8 (len i) (Nat.le_refl _) x).2
  have vb := v_bd (v := b_v I i) (n := len i) (fun x hx => (b_at h8 hx).1)
  have ct : z_lp (fX12_range_b28 0 (mu i) I (z_Rm mu)) 300 ((0 : Int32), (8 : Int32), (0 : Int32)) = some (nI (v_hi (b_v I i) (len i)), nI (v_lo (b_v I i) (len i))) := by
    refine z_lp_tr (n := len i) (fun k => (nI (v_hi (b_v I i) k), nI (v_lo (b_v I i) k), nI k)) ?_ ?_ 300 (by omega)
    · intro k hk
      obtain ⟨v1, v2, -⟩ := b_at h8 hk
      obtain ⟨b1, b2⟩ := vb k (by omega)
      unfold fX12_range_b28 fX5_length
      dsimp only
      rw [z_g_t hr.1, z_g_t hr.1, h8.2.1, z_b_s, if_neg (nI_ge hk (by omega)), c_noteAt hP (show i < 9 by omega) h8.2.1 hn (by omega), z_b_s, if_pos hk, v2, (n_mx (show v_hi (b_v I i) k < 2 ^ 31 by omega) (show b_v I i k < 2 ^ 31 by omega)).1, (n_mn (show v_lo (b_v I i) k < 2 ^ 31 by omega) (show b_v I i k < 2 ^ 31 by omega)).1]
      simp only [z_l_s, n_s1]
      show _ = some (Sum.inl (nI (if b_v I i k = 0 then _ else _), nI (if b_v I i k = 0 then _ else _), _))
      by_cases c : b_v I i k = 0
      · rw [if_pos ((n_eq0 (by omega)).mpr c), if_pos c, if_pos c]
      · rw [if_neg (fun q => c ((n_eq0 (by omega)).mp q)), if_neg c, if_neg c]
    · unfold fX12_range_b28 fX5_length
      dsimp only
      rw [z_g_t hr.1, z_g_t hr.1, h8.2.1, z_b_s, if_pos (nI_le (Nat.le_refl _) (by omega))]
  obtain ⟨J, hJ⟩ : ∃ J, J = b_put I 132 (b_row I i (len i)) := ⟨_, rfl⟩
  rw [← hJ] at m1
  have mt : z_lp (fX13_range_b32 102 (nI (b_row I i (len i)).length) J (z_Rm mu)) 300 ((1000000 : Int32), (0 : Int32), (0 : Int32)) = some (nI (w_lo w (b_row I i (len i)).length), nI (w_hi w (b_row I i (len i)).length)) := by
    refine z_lp_tr (n := (b_row I i (len i)).length) (fun k => (nI (w_lo w k), nI (w_hi w k), nI k)) ?_ ?_ 300 (by omega)
    · intro k hk
      obtain ⟨b1, b2⟩ := w_bd wb k
      have b3 := wb k
      have ew : J 132 k = nI (w k) := by rw [hJ, b_put_at hk, hw]
      unfold fX13_range_b32
      dsimp only
      rw [if_neg (nI_ge hk (by omega)), show z_Rm mu 102 52 = 132 from rfl, z_g_t (n_ok (n := 60) rfl (by omega) (by decide)), nI_clamp (show k < 2 ^ 31 by omega), ew, (n_mn (show w_lo w k < 2 ^ 31 by omega) (show w k < 2 ^ 31 by omega)).2, z_b_s, (n_mx (show w_hi w k < 2 ^ 31 by omega) (show w k < 2 ^ 31 by omega)).2, z_b_s]
      simp only [z_l_s, n_s1]
      rfl
    · unfold fX13_range_b32
      dsimp only
      rw [if_pos (nI_le (Nat.le_refl _) (by omega))]
  obtain ⟨b1, b2⟩ := vb (len i) (Nat.le_refl _)
  have c0 : fX12_range 0 (nI i) I (z_Rm mu) = if nI (v_hi (b_v I i) (len i)) = 0 then some (-2) else some (nI (v_hi (b_v I i) (len i)) - nI (v_lo (b_v I i) (len i))) := by
    unfold fX12_range
    rw [z_g_t o_0, fX12_isSinger_eq, z_b_s, if_neg c1, r_01, z_g_t o_3, r_30, z_g_t (k_4 hi), nI_clamp (by omega), r_4 hi, z_g_t hr.1, ct, z_b_s]
  have d0 : fX13_range 102 (nI i) I (z_Rm mu) = if nI (b_row I i (len i)).length = 0 then some (-2, J) else some (nI (w_hi w (b_row I i (len i)).length) - nI (w_lo w (b_row I i (len i)).length), J) := by
    unfold fX13_range
    rw [z_g_t m_ob, fX13_in_eq, z_b_s, if_neg c1, show z_Rm mu 102 52 = 132 from rfl, m1, z_b_s, mt, z_b_s]
  have hRJ : Rel J mu := by rw [hJ]; exact rel_put hR (by omega)
  rw [c0, d0]
  rcases g2 with ⟨q1, q2, q3⟩ | ⟨q1, q2, q3⟩
  · exact ⟨-2, J, by rw [q2]; rfl, by rw [q1]; rfl, hRJ⟩
  · refine ⟨nI (v_hi (b_v I i) (len i)) - nI (v_lo (b_v I i) (len i)), J, ?_, ?_, hRJ⟩
    · rw [if_neg (nI_ne0 q2 (by omega))]
    · rw [if_neg (nI_ne0 q1 (by omega)), g1, q3]
/-! backwards -/
def n_al (e : Nat → Bool) : Nat → Nat → Bool
  | _, 0 => true
  | m, d + 1 => e m && n_al e (m + 1) d
theorem lp_all {X : Type} {body : Int32 → Option (Int32 ⊕ X)} {e : Nat → Bool} {n : Nat} {x y : X} (hb : ∀ k, k < n → body (nI k) = if e k = true then some (.inl (nI (k + 1))) else some (.inr x)) (he : body (nI n) = some (.inr y)) : ∀ (d m N : Nat), m + d = n → d < N → z_lp body N (nI m) = some (if n_al e m d = true then y else x) := by
  intro d
  induction d with
  | zero =>
    intro m N h1 h2
    obtain ⟨M, rfl⟩ : ∃ M, N = M + 1 := ⟨N - 1, by omega⟩
    unfold z_lp
    rw [show m = n by omega, he]
    rfl
  | succ d ih =>
    intro m N h1 h2
    obtain ⟨M, rfl⟩ : ∃ M, N = M + 1 := ⟨N - 1, by omega⟩
    unfold z_lp
    rw [hb m (by omega)]
    show _ = some (if (e m && n_al e (m + 1) d) = true then _ else _)
    by_cases c : e m = true
    · rw [if_pos c, c, Bool.true_and]
      exact ih (m + 1) M (by omega) (by omega)
    · rw [if_neg c, if_neg (by simp [c])]
def t_load (I : Nat → Nat → Int32) (p q : List Nat) : Nat → Nat → Int32 := z_u (b_put (z_u (b_put I 95 p) 94 2 (nI p.length)) 96 q) 94 3 (nI q.length)
theorem c_load {I : Nat → Nat → Int32} {mu len : Nat → Nat} {i j : Nat} (hP : r_P mu) (hi : i < 8) (hj : j < 8) (h1 : r_Roll I i (mu i) (len i)) (h2 : r_Roll I j (mu j) (len j)) : fX11_load 94 (mu i) (mu j) I (z_Rm mu) = some (t_load I (b_row I i (len i)) (b_row I j (len j))) := by
  have r1 := o_roll hP (show i < 9 by omega)
  have r2 := o_roll hP (show j < 9 by omega)
  have hm := p_le hP (show j < 9 by omega)
  have ho : z_ob 94 11 := rfl
  obtain ⟨J, hJ⟩ : ∃ J, J = z_u (b_put I 95 (b_row I i (len i))) 94 2 (nI (b_row I i (len i)).length) := ⟨_, rfl⟩
  have jo : ∀ b, b ≠ 94 → b ≠ 95 → J b = I b := fun b p1 p2 => by rw [hJ, u_o p1, b_put_o p2]
  have hR : r_Roll J j (mu j) (len j) := f_R h2 (fun b h1 h2 => jo b (by omega) (by omega)) (fun b h1 h2 => jo b (by omega) (by omega))
  have w1 := c_write hP hi h1 (show z_ar 95 from rfl) rfl (by omega)
  have w2 := c_write hP hj hR (show z_ar 96 from rfl) rfl (by omega)
  rw [b_row_congr (jo 106 (by decide) (by decide)) (jo 109 (by decide) (by decide))] at w2
  unfold fX11_load t_load
  rw [z_g_t ho, z_g_t r1.1, z_g_t r2.1, show z_Rm mu 94 0 = 95 from rfl, w1, z_b_s, z_l_s]
  dsimp only
  rw [← hJ, show z_Rm mu 94 1 = 96 from rfl, w2, z_b_s, z_l_s]
theorem t_load_o {I : Nat → Nat → Int32} {p q : List Nat} {b : Nat} (h1 : b ≠ 94) (h2 : b ≠ 95) (h3 : b ≠ 96) : t_load I p q b = I b := by
  unfold t_load
  rw [u_o h1, b_put_o h3, u_o h1, b_put_o h2]
theorem t_load_at {I : Nat → Nat → Int32} {p q : List Nat} : t_load I p q 94 2 = nI p.length ∧ t_load I p q 94 3 = nI q.length ∧ (∀ k, k < p.length → t_load I p q 95 k = nI (p[k]?.getD 0)) ∧ (∀ k, k < q.length → t_load I p q 96 k = nI (q[k]?.getD 0)) := by
  unfold t_load
  refine ⟨?_, ?_, fun k hk => ?_, fun k hk => ?_⟩
  · rw [z_u_k (by decide), b_put_o (by decide), z_u_at]
  · rw [z_u_at]
  · rw [u_o (by decide), b_put_o (by decide), u_o (by decide), b_put_at hk]
  · rw [u_o (by decide), b_put_at hk]
theorem rel_load {I : Nat → Nat → Int32} {mu : Nat → Nat} {p q : List Nat} (h : Rel I mu) : Rel (t_load I p q) mu := rel_u (rel_put (rel_u (rel_put h (by omega)) (by omega)) (by omega)) (by omega)
/-- both tunes laid by the model, over a heap that differs from I in other cells alone -/
theorem m_load {I J : Nat → Nat → Int32} {mu len : Nat → Nat} {i j : Nat} (hP : r_P mu) (hi : i < 8) (hj : j < 8) (h1 : r_Roll I i (mu i) (len i)) (h2 : r_Roll I j (mu j) (len j)) (hJ : ∀ b, b < 94 ∨ 102 ≤ b → J b = I b) : fX13_laysTune 102 (nI i) 132 J (z_Rm mu) = some (nI (b_row I i (len i)).length, b_put J 132 (b_row I i (len i))) ∧ fX13_laysTune 102 (nI j) 133 (b_put J 132 (b_row I i (len i))) (z_Rm mu) = some (nI (b_row I j (len j)).length, b_put (b_put J 132 (b_row I i (len i))) 133 (b_row I j (len j))) := by
  have m1 := p_le hP (show i < 9 by omega)
  have m2 := p_le hP (show j < 9 by omega)
  have k1 : r_Roll J i (mu i) (len i) := f_R h1 (fun b h1 h2 => hJ b (by omega)) (fun b h1 h2 => hJ b (by omega))
  have k2 : ∀ l, r_Roll (b_put J 132 l) j (mu j) (len j) := fun l => f_R h2 (fun b h1 h2 => by rw [b_put_o (by omega), hJ b (by omega)]) (fun b h1 h2 => by rw [b_put_o (by omega), hJ b (by omega)])
  have l1 := m_lays (mu := mu) hi k1 ar_132 rfl (by decide)
  have l2 := fun l => m_lays (mu := mu) hj (k2 l) ar_133 rfl (by decide)
  rw [b_row_congr (hJ 106 (by omega)) (hJ 109 (by omega))] at l1
  refine ⟨l1, ?_⟩
  rw [l2, b_row_congr (by rw [b_put_o (by decide), hJ 106 (by omega)]) (by rw [b_put_o (by decide), hJ 109 (by omega)])]
theorem call_backwards : Call_backwards := by
  intro x y I mu h
  have hR := h
  obtain ⟨len, h⟩ := h
  by_cases c1 : n_in x 0 7 = 0
  · exact ⟨-1, I, I, by simp (disch := omega) only [z_ob, z_ok, z_ar, z_b_s, z_l_s, z_g_tr, z_x_il, z_x_ir, z_lay, z_shs, z_lens, nI_clamp, n_lt0, n_l0, n_l8, n_l16, n_l24, n_l32, n_l40, n_l48, n_l56, n_l64, n_l72, n_s1, fX12_within_eq, fX13_in_eq, fX12_isSinger_eq, fX12_areTicks_eq, ite_true, ite_false, if_true, if_false, not_false_eq_true, not_true_eq_false, or_self, false_or, or_false, true_or, or_true, and_true, true_and, and_false, false_and, eq_self, fX12_backwards, c1], by simp (disch := omega) only [z_ob, z_ok, z_ar, z_b_s, z_l_s, z_g_tr, z_x_il, z_x_ir, z_lay, z_shs, z_lens, nI_clamp, n_lt0, n_l0, n_l8, n_l16, n_l24, n_l32, n_l40, n_l48, n_l56, n_l64, n_l72, n_s1, fX12_within_eq, fX13_in_eq, fX12_isSinger_eq, fX12_areTicks_eq, ite_true, ite_false, if_true, if_false, not_false_eq_true, not_true_eq_false, or_self, false_or, or_false, true_or, or_true, and_true, true_and, and_false, false_and, eq_self, fX13_backwards, c1], hR⟩
  by_cases c2 : n_in y 0 7 = 0
  · exact ⟨-1, I, I, by simp (disch := omega) only [z_ob, z_ok, z_ar, z_b_s, z_l_s, z_g_tr, z_x_il, z_x_ir, z_lay, z_shs, z_lens, nI_clamp, n_lt0, n_l0, n_l8, n_l16, n_l24, n_l32, n_l40, n_l48, n_l56, n_l64, n_l72, n_s1, fX12_within_eq, fX13_in_eq, fX12_isSinger_eq, fX12_areTicks_eq, ite_true, ite_false, if_true, if_false, not_false_eq_true, not_true_eq_false, or_self, false_or, or_false, true_or, or_true, and_true, true_and, and_false, false_and, eq_self, fX12_backwards, c1, c2], by simp (disch := omega) only [z_ob, z_ok, z_ar, z_b_s, z_l_s, z_g_tr, z_x_il, z_x_ir, z_lay, z_shs, z_lens, nI_clamp, n_lt0, n_l0, n_l8, n_l16, n_l24, n_l32, n_l40, n_l48, n_l56, n_l64, n_l72, n_s1, fX12_within_eq, fX13_in_eq, fX12_isSinger_eq, fX12_areTicks_eq, ite_true, ite_false, if_true, if_false, not_false_eq_true, not_true_eq_false, or_self, false_or, or_false, true_or, or_true, and_true, true_and, and_false, false_and, eq_self, fX13_backwards, c1, c2], hR⟩
  obtain ⟨i, hi, rfl⟩ := n_in7 c1
  obtain ⟨j, hj, rfl⟩ := n_in7 c2
  have hP := h.2.2.2.2.2.1
  have h8 := h.2.2.2.2.2.2.1 i hi
  have h9 := h.2.2.2.2.2.2.1 j hj
  have r1 := o_roll hP (show i < 9 by omega)
  have r2 := o_roll hP (show j < 9 by omega)
  have hl1 := b_row_len I i (len i)
  have hl2 := b_row_len I j (len j)
  have hn1 := h8.1
  have hn2 := h9.1
  have e1 := c_load hP hi hj h8 h9
  obtain ⟨p, hp⟩ : ∃ p, p = b_row I i (len i) := ⟨_, rfl⟩
  obtain ⟨q, hq⟩ : ∃ q, q = b_row I j (len j) := ⟨_, rfl⟩
  obtain ⟨l1, l2⟩ := m_load (J := t_load I p q) hP hi hj h8 h9 (fun b hb => t_load_o (by omega) (by omega) (by omega))
  rw [← hp, ← hq] at e1 l2
  rw [← hp] at l1 hl1
  rw [← hq] at hl2
  obtain ⟨t1, t2, t3, t4⟩ := t_load_at (I := I) (p := p) (q := q)
  have hRL : Rel (b_put (b_put (t_load I p q) 132 p) 133 q) mu := rel_put (rel_put (rel_load hR) (by omega)) (by omega)
  obtain ⟨L, hL⟩ : ∃ L, L = t_load I p q := ⟨_, rfl⟩
  rw [← hL] at e1 l1 l2 t1 t2 t3 t4 hRL
  obtain ⟨K, hK⟩ : ∃ K, K = b_put (b_put L 132 p) 133 q := ⟨_, rfl⟩
  have s3 : ∀ k, k < p.length → K 132 k = nI (p[k]?.getD 0) := fun k hk => by rw [hK, b_put_o (by decide), b_put_at hk]
  have s4 : ∀ k, k < q.length → K 133 k = nI (q[k]?.getD 0) := fun k hk => by rw [hK, b_put_at hk]
  rw [← hK] at l2 hRL
  have c0 : fX12_backwards 0 (nI i) (nI j) I (z_Rm mu) = z_b (fX11_areMirrored 94 (mu i) (mu j) I (z_Rm mu)) (fun q8 => if q8.1 = 0 then (some ((0 : Int32), q8.2)) else (some ((1 : Int32), q8.2))) := by
    unfold fX12_backwards
    rw [z_g_t o_0, fX12_isSinger_eq, z_b_s, if_neg c1, fX12_isSinger_eq, z_b_s, if_neg c2, r_01, z_g_t o_3, r_30, z_g_t (k_4 hi), z_g_t (k_4 hj), nI_clamp (by omega), nI_clamp (by omega), r_4 hi, r_4 hj, show z_Rm mu 0 10 = 94 from rfl, z_g_t (show z_ob 94 11 from rfl)]
  have d0 : fX13_backwards 102 (nI i) (nI j) L (z_Rm mu) = if nI q.length = nI p.length then (z_b (z_lp (fX13_backwards_b50 102 (nI p.length) K (z_Rm mu)) 300 (0 : Int32)) (fun q13 => z_x q13 (fun q15 => some q15) (fun q14 => some ((1 : Int32), K)))) else some ((0 : Int32), K) := by
    unfold fX13_backwards
    rw [z_g_t m_ob, fX13_in_eq, z_b_s, if_neg c1, fX13_in_eq, z_b_s, if_neg c2, show z_Rm mu 102 52 = 132 from rfl, show z_Rm mu 102 53 = 133 from rfl, l1, z_b_s]
    dsimp only
    rw [l2, z_b_s]
  have c3 : fX11_areMirrored 94 (mu i) (mu j) I (z_Rm mu) = if nI p.length = nI q.length then (z_b (z_lp (fX11_areMirrored_b21 94 (mu i) (mu j) L (z_Rm mu)) 300 (0 : Int32)) (fun q8 => z_x q8 (fun q10 => some q10) (fun q9 => some ((1 : Int32), L)))) else some ((0 : Int32), L) := by
    unfold fX11_areMirrored
    rw [z_g_t (show z_ob 94 11 from rfl), z_g_t r1.1, z_g_t r2.1, e1, z_b_s, t1, t2]
  have hpq : nI p.length = nI q.length ↔ p.length = q.length := n_eq (by omega) (by omega)
  by_cases c4 : p.length = q.length
  · have ix : ∀ k, k < p.length → (nI p.length - 1) - nI k = nI (p.length - 1 - k) := fun k hk => by
      rw [show nI p.length - 1 = nI (p.length - 1) from n_sub (b := 1) (by omega), n_sub (by omega)]
    have A := lp_all (body := fX11_areMirrored_b21 94 (mu i) (mu j) L (z_Rm mu)) (e := fun k => p[k]?.getD 0 == q[p.length - 1 - k]?.getD 0) (n := p.length) (x := .inl ((0 : Int32), L)) (y := .inr ()) (by
      intro k hk
      have w1 := (b_row_ok h8 (len i) (Nat.le_refl _) k).2
      have w2 := (b_row_ok h9 (len j) (Nat.le_refl _) (p.length - 1 - k)).2
      rw [← hp] at w1
      rw [← hq] at w2
      unfold fX11_areMirrored_b21
      dsimp only
      rw [t1, if_neg (nI_ge hk (by omega)), show z_Rm mu 94 0 = 95 from rfl, show z_Rm mu 94 1 = 96 from rfl, t2, ← c4, ix k hk, z_g_t (n_ok (n := 60) rfl (by omega) (by decide)), z_g_t (n_ok (n := 60) rfl (by omega) (by decide)), nI_clamp (show k < 2 ^ 31 by omega), nI_clamp (show p.length - 1 - k < 2 ^ 31 by omega), t3 k hk, t4 _ (by omega), z_l_s, n_s1]
      by_cases c : p[k]?.getD 0 = q[p.length - 1 - k]?.getD 0
      · rw [if_pos (by rw [c]), if_pos (by rw [c]; simp)]
      · rw [if_neg (fun z => c ((n_eq (by omega) (by omega)).mp z)), if_neg (by simpa using c)]) (by
      unfold fX11_areMirrored_b21
      dsimp only
      rw [t1, if_pos (nI_le (Nat.le_refl _) (by omega))]) p.length 0 300 (by omega) (by omega)
    have B := lp_all (body := fX13_backwards_b50 102 (nI p.length) K (z_Rm mu)) (e := fun k => p[k]?.getD 0 == q[p.length - 1 - k]?.getD 0) (n := p.length) (x := .inl ((0 : Int32), K)) (y := .inr ()) (by
      intro k hk
      have w1 := (b_row_ok h8 (len i) (Nat.le_refl _) k).2
      have w2 := (b_row_ok h9 (len j) (Nat.le_refl _) (p.length - 1 - k)).2
      rw [← hp] at w1
      rw [← hq] at w2
      unfold fX13_backwards_b50
      dsimp only
      rw [if_neg (nI_ge hk (by omega)), show z_Rm mu 102 52 = 132 from rfl, show z_Rm mu 102 53 = 133 from rfl, ix k hk, z_g_t (n_ok (n := 60) rfl (by omega) (by decide)), z_g_t (n_ok (n := 60) rfl (by omega) (by decide)), nI_clamp (show k < 2 ^ 31 by omega), nI_clamp (show p.length - 1 - k < 2 ^ 31 by omega), s3 k hk, s4 _ (by omega), z_l_s, n_s1]
      by_cases c : p[k]?.getD 0 = q[p.length - 1 - k]?.getD 0
      · rw [if_pos (by rw [c]), if_pos (by rw [c]; simp)]
      · rw [if_neg (fun z => c ((n_eq (by omega) (by omega)).mp z)), if_neg (by simpa using c)]) (by
      unfold fX13_backwards_b50
      dsimp only
      rw [if_pos (nI_le (Nat.le_refl _) (by omega))]) p.length 0 300 (by omega) (by omega)
    rw [c0, c3, if_pos (hpq.mpr c4), show (0 : Int32) = nI 0 from rfl, A]
    by_cases ce : n_al (fun k => p[k]?.getD 0 == q[p.length - 1 - k]?.getD 0) 0 p.length = true
    · refine ⟨1, L, K, ?_, ?_, hRL⟩
      · rw [if_pos ce]; rfl
      · rw [d0, if_pos (hpq.mpr c4).symm, show (0 : Int32) = nI 0 from rfl, B, if_pos ce]; rfl
    · refine ⟨0, L, K, ?_, ?_, hRL⟩
      · rw [if_neg ce]; rfl
      · rw [d0, if_pos (hpq.mpr c4).symm, show (0 : Int32) = nI 0 from rfl, B, if_neg ce]; rfl
  · refine ⟨0, L, K, ?_, ?_, hRL⟩
    · rw [c0, c3, if_neg (fun z => c4 (hpq.mp z)), z_b_s, if_pos rfl]
    · rw [d0, if_neg (fun z => c4 (hpq.mp z.symm))]
