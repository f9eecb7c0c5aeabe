/-! end, firstCome -/
theorem n_high (p : Nat → Bool) : fX12_highest (nI (n_set p 8)) = some (t_nm (t_hiD p 8) (-1)) := by
  have key : ∀ k N, k ≤ 8 → k < N → z_lp (fX12_highest_b3 (nI (n_set p 8))) N (nI k - 1) = some (match t_hiD p k with
      | some q => .inl (nI q)
      | none => .inr ()) := by
    intro k
    induction k with
    | zero =>
      intro N _ hN
      obtain ⟨N, rfl⟩ : ∃ q, N = q + 1 := ⟨N - 1, by omega⟩
      unfold z_lp fX12_highest_b3
      dsimp only
      rw [if_pos (show nI 0 - 1 < 0 by decide)]
      rfl
    | succ k ih =>
      intro N hk hN
      obtain ⟨N, rfl⟩ : ∃ q, N = q + 1 := ⟨N - 1, by omega⟩
      have hb : fX12_highest_b3 (nI (n_set p 8)) (nI (k + 1) - 1) = if p k = true then some (.inr (.inl (nI k))) else some (.inl (nI k - 1)) := by
        unfold fX12_highest_b3
        dsimp only
        rw [nI_pred, if_neg (nI_pos (by omega)), n_setk (by omega), z_l_s]
        by_cases c : p k = true
        · rw [if_pos c, if_neg (by decide), if_pos c]
        · rw [if_neg c, if_pos rfl, if_neg c, Int32.sub_eq_add_neg]
      unfold z_lp t_hiD
      rw [hb]
      by_cases c : p k = true
      · rw [if_pos c, if_pos c]
      · rw [if_neg c, if_neg c]
        exact ih N (by omega) (by omega)
  unfold fX12_highest
  have := key 8 300 (Nat.le_refl 8) (by decide)
  rw [show nI 8 - 1 = (7 : Int32) from rfl] at this
  rw [this, z_b_s]
  cases t_hiD p 8 <;> rfl
theorem n_low_c (p : Nat → Bool) : fX12_lowest (nI (n_set p 8)) = some (t_nm (t_loD p 8) (-1)) := by
  have key : ∀ d k N, k + d = 8 → d < N → t_loD p k = none → z_lp (fX12_lowest_b2 (nI (n_set p 8))) N (nI k) = some (match t_loD p 8 with
      | some q => .inl (nI q)
      | none => .inr ()) := by
    intro d
    induction d with
    | zero =>
      intro k N e hN h0
      have : k = 8 := by omega
      subst this
      obtain ⟨N, rfl⟩ : ∃ q, N = q + 1 := ⟨N - 1, by omega⟩
      rw [h0]
      unfold z_lp fX12_lowest_b2
      dsimp only
      rw [if_pos n_88]
    | succ d ih =>
      intro k N e hN h0
      obtain ⟨N, rfl⟩ : ∃ q, N = q + 1 := ⟨N - 1, by omega⟩
      have hb : fX12_lowest_b2 (nI (n_set p 8)) (nI k) = if p k = true then some (.inr (.inl (nI k))) else some (.inl (nI (k + 1))) := by
        unfold fX12_lowest_b2
        dsimp only
        rw [if_neg (n_8 (by omega)), n_setk (by omega), z_l_s, n_s1]
        by_cases c : p k = true
        · rw [if_pos c, if_neg (by decide), if_pos c]
        · rw [if_neg c, if_pos rfl, if_neg c]
      have e1 : t_loD p (k + 1) = if p k = true then some k else none := by
        unfold t_loD
        rw [h0]
      unfold z_lp
      rw [hb]
      by_cases c : p k = true
      · rw [if_pos c] at e1 ⊢
        have up : ∀ d, t_loD p (k + 1 + d) = some k := by
          intro d
          induction d with
          | zero => exact e1
          | succ d ih2 =>
            show (match t_loD p (k + 1 + d) with
              | some q => some q
              | none => if p (k + 1 + d) = true then some (k + 1 + d) else none) = some k
            rw [ih2]
        have := up d
        rw [show k + 1 + d = 8 by omega] at this
        rw [this]
      · rw [if_neg c] at e1 ⊢
        exact ih (k + 1) N (by omega) (by omega) e1
  unfold fX12_lowest
  have := key 8 0 300 (by decide) (by decide) rfl
  have this' : z_lp (fX12_lowest_b2 (nI (n_set p 8))) 300 (0 : Int32) = _ := this
  rw [this', z_b_s]
  cases t_loD p 8 <;> rfl
theorem n_low_m {p : Nat → Bool} {q : Nat} (hq : t_loD p 8 = some q) {z2 : Int32} {I : z_He} {R : Nat → Nat → Nat} : z_lp (fX13_firstCome_b34 102 z2 (nI (n_set p 8)) I R) 300 (0 : Int32) = some (nI q) := by
  have q8 := t_loD_lt hq
  have key : ∀ d k N, k + d = 8 → d < N → t_loD p k = none → z_lp (fX13_firstCome_b34 102 z2 (nI (n_set p 8)) I R) N (nI k) = some (nI q) := by
    intro d
    induction d with
    | zero =>
      intro k N e hN h0
      have : k = 8 := by omega
      subst this
      rw [hq] at h0
      cases h0
    | succ d ih =>
      intro k N e hN h0
      obtain ⟨N, rfl⟩ : ∃ q, N = q + 1 := ⟨N - 1, by omega⟩
      have hb : fX13_firstCome_b34 102 z2 (nI (n_set p 8)) I R (nI k) = if p k = true then some (.inr (nI k)) else some (.inl (nI (k + 1))) := by
        unfold fX13_firstCome_b34
        dsimp only
        rw [n_sethas (by omega), z_b_s, z_l_s, n_s1]
        by_cases c : p k = true
        · rw [if_pos c, if_neg (by decide), if_pos c]
        · rw [if_neg c, if_pos rfl, if_neg c]
      have e1 : t_loD p (k + 1) = if p k = true then some k else none := by
        unfold t_loD
        rw [h0]
      unfold z_lp
      rw [hb]
      by_cases c : p k = true
      · rw [if_pos c] at e1 ⊢
        have up : ∀ d, t_loD p (k + 1 + d) = some k := by
          intro d
          induction d with
          | zero => exact e1
          | succ d ih2 =>
            show (match t_loD p (k + 1 + d) with
              | some q => some q
              | none => if p (k + 1 + d) = true then some (k + 1 + d) else none) = some k
            rw [ih2]
        have := up d
        rw [show k + 1 + d = 8 by omega, hq] at this
        cases this
        rfl
      · rw [if_neg c] at e1 ⊢
        exact ih (k + 1) N (by omega) (by omega) e1
  exact key 8 0 300 (by decide) (by decide) rfl
theorem t_loD_none {p : Nat → Bool} : ∀ {n : Nat}, t_loD p n = none ↔ ∀ k, k < n → p k = false
  | 0 => by simp [t_loD]
  | n + 1 => by
    unfold t_loD
    constructor
    · intro h k hk
      cases e : t_loD p n with
      | some q => rw [e] at h; cases h
      | none =>
        rw [e] at h
        dsimp only at h
        by_cases c : p n = true
        · rw [if_pos c] at h; cases h
        · by_cases ek : k = n
          · subst ek; simpa using c
          · exact t_loD_none.mp e k (by omega)
    · intro h
      rw [t_loD_none.mpr (fun k hk => h k (by omega)), h n (by omega)]
      rfl
theorem t_hiD_none {p : Nat → Bool} : ∀ {n : Nat}, t_hiD p n = none ↔ ∀ k, k < n → p k = false
  | 0 => by simp [t_hiD]
  | n + 1 => by
    unfold t_hiD
    constructor
    · intro h k hk
      by_cases c : p n = true
      · rw [if_pos c] at h; cases h
      · rw [if_neg c] at h
        by_cases ek : k = n
        · subst ek; simpa using c
        · exact t_hiD_none.mp h k (by omega)
    · intro h
      rw [if_neg (by rw [h n (by omega)]; decide)]
      exact t_hiD_none.mpr (fun k hk => h k (by omega))
section EN
variable {E : z_He} {mu len : Nat → Nat} {T : Nat} {S S' : t_S} {X : (Nat → Int32) → Int32} {W : Nat → (Nat → Int32) → Int32}
/-- who is done or not told stays as he is -/
theorem t_off (hE : t_Env E mu len T X W) (hok : t_ok E len S) {j : Nat} (hj : j < 8) (hoff : t_on len S j = false) : (t_tick E len T X W S).1 j = S.1 j := by
  obtain ⟨hR, hL, -, -, hT1, hT2⟩ := hE
  have h60 : ∀ j, j < 8 → len j ≤ 60 := fun j hj => (hR.2.2.2.2.2.2.1 j hj).1
  have key : ∀ k, k ≤ 8 → (t_run E len T X W (t_at S) S k).1 j = S.1 j := by
    intro k
    induction k with
    | zero => intro _; rfl
    | succ k ih =>
      intro hk
      have i1 := ih (by omega)
      obtain ⟨r1, r2, r3⟩ := t_run_ok (X := X) hL.2.1 h60 hT1 hT2 hok k (by omega)
      have hb : k < 8 := by omega
      obtain ⟨a1, a2⟩ := t_at_ok hok h60 hb
      obtain ⟨o1, o2, o3⟩ := t_one_ok (X := X) (i := k) (at0 := t_at S) hL.2.1 (h60 k hb) hT1 hT2 hb r1 (by rw [r2 k (Nat.le_refl k)]; exact a1) a2
      show (t_one E len T X W (t_at S) k (t_run E len T X W (t_at S) S k)).1 j = S.1 j
      by_cases c : j = k
      · subst c
        generalize t_run E len T X W (t_at S) S j = Z at i1
        unfold t_one
        rw [i1]
        unfold t_on at hoff
        by_cases c0 : S.1 j 0 = 0
        · rw [if_pos c0, i1]
        · rw [if_neg c0]
          by_cases c5 : S.1 j 5 < nI (len j)
          · simp [c0, c5] at hoff
          · rw [if_neg c5, i1]
      · rw [o2 j c, i1]
  have k8 := key 8 (Nat.le_refl 8)
  unfold t_tick
  generalize t_run E len T X W (t_at S) S 8 = Z at k8
  exact k8
theorem t_tg (hE : t_Env E mu len T X W) : ∀ k, (∀ q, q < k → (t_is E len T X W S q).2 0 < 99999) → (t_ig E len T X W S k) 0 = nI k
  | 0, _ => rfl
  | k + 1, h => by
    rw [t_ig_1 (h k (by omega))]
    generalize t_tick E len T X W (t_is E len T X W S k) = Z
    show (t_ig E len T X W S k) 0 + 1 = nI (k + 1)
    rw [t_tg hE k (fun q hq => h q (by omega)), n_s1]
theorem t_go_on {k q : Nat} (h : (t_is E len T X W S k).2 0 < 99999) (hq : q ≤ k) : (t_is E len T X W S q).2 0 < 99999 := by
  by_cases c : (t_is E len T X W S q).2 0 < 99999
  · exact c
  · have := (t_is_stop c (k - q)).1
    rw [show q + (k - q) = k by omega] at this
    rw [this] at h
    exact h
theorem t_gn_2 {G : Nat → Int32} : (t_gn len S S' G) 2 = t_nm (t_hiD (t_dn len S S') 8) (G 2) ∧ (t_gn len S S' G) 3 = t_tm (t_hiD (t_dn len S S') 8) (G 3) (G 0 + 1) ∧ (t_gn len S S' G) 4 = t_fw (t_loD (t_vn len S S') 8) (G 4) ∧ (t_gn len S S' G) 5 = t_ww (t_loD (t_vn len S S') 8) (G 4) (G 5) (G 0 + 1) := ⟨rfl, rfl, rfl, rfl⟩
/-- all are done -/
def t_over (len : Nat → Nat) (S : t_S) : Prop := ∀ j, j < 8 → t_on len S j = false
theorem t_over_k (hE : t_Env E mu len T X W) (hok : t_ok E len S) {k : Nat} (h : t_over len (t_is E len T X W S k)) : ∀ d, t_over len (t_is E len T X W S (k + d)) ∧ (t_ig E len T X W S (k + d)) 2 = (t_ig E len T X W S k) 2 ∧ (t_ig E len T X W S (k + d)) 3 = (t_ig E len T X W S k) 3
  | 0 => ⟨h, rfl, rfl⟩
  | d + 1 => by
    obtain ⟨i1, i2, i3⟩ := t_over_k hE hok h d
    show t_over len (t_is E len T X W S (k + d + 1)) ∧ (t_ig E len T X W S (k + d + 1)) 2 = _ ∧ (t_ig E len T X W S (k + d + 1)) 3 = _
    by_cases c : (t_is E len T X W S (k + d)).2 0 < 99999
    · have off := fun j (hj : j < 8) => t_off hE (t_is_ok hE hok (k + d)) hj (i1 j hj)
      rw [t_is_1 c, t_ig_1 c]
      generalize t_tick E len T X W (t_is E len T X W S (k + d)) = Z at off
      have hdn : t_hiD (t_dn len (t_is E len T X W S (k + d)) Z) 8 = none := t_hiD_none.mpr (fun j hj => by unfold t_dn; rw [i1 j hj]; rfl)
      obtain ⟨g2, g3, -⟩ := t_gn_2 (len := len) (S := t_is E len T X W S (k + d)) (S' := Z) (G := t_ig E len T X W S (k + d))
      rw [g2, g3, hdn]
      refine ⟨fun j hj => ?_, i2, i3⟩
      have := i1 j hj
      unfold t_on at this ⊢
      rw [off j hj]
      exact this
    · obtain ⟨s1, s2⟩ := t_is_stop c 1
      rw [s1, s2]
      exact ⟨i1, i2, i3⟩
def t_ds (len : Nat → Nat) (S : t_S) (j : Nat) : Bool := S.1 j 0 != 0 && !decide (S.1 j 5 < nI (len j))
theorem c_ds {st : Nat} {I : z_He} (hs : c_St st) (hR : RelL E mu len) (hc : c_In (mu 9) st E I S) : fX2_doneBits 59 st I (z_Rm mu) = some (nI (n_set (t_ds len S) 8)) := by
  rw [c_doneBits hs hR.2.2.2.2.2.1]
  congr 2
  apply n_set_congr
  intro j hj
  unfold t_ds
  rw [hc.2.1 j 0 hj (by decide), hc.2.1 j 5 hj (by decide), (c_roll hs hR hj hc).2.1]
theorem m_ds {B I : z_He} (hB : m_B (mu 9) E B) (hR : RelL E mu len) (hm : m_In B I S) (hok : t_ok E len S) : fX13_doneSet 102 I (z_Rm mu) = some (nI (n_set (t_ds len S) 8)) ∧ fX13_toldSet 102 I (z_Rm mu) = some (nI (n_set (fun j => E 103 j != 0) 8)) := by
  constructor
  · rw [m_doneSet]
    congr 2
    apply n_set_congr
    intro j hj
    unfold t_ds
    rw [m_rd hm hj (f := 0) (by decide) (by omega), m_rd hm hj (f := 5) (by decide) (by omega), m_st hB hm (show 102 ≤ 110 ∧ 110 ≠ 104 by decide) (by unfold m_dirt; omega), (hR.2.2.2.2.2.2.1 j hj).2.2.1]
    rcases (hok.1 j hj).1 with h0 | h0 <;> rw [h0] <;> rfl
  · rw [m_toldSet]
    congr 2
    apply n_set_congr
    intro j hj
    rw [m_rd hm hj (f := 0) (by decide) (by omega), hok.2.1 j 0 hj (by decide), show 8 * 0 + j = j by omega]
    rcases (hR.2.1.1 j hj).1 with h0 | h0 <;> rw [h0] <;> rfl
theorem ds_over (hok : t_ok E len S) : nI (n_set (t_ds len S) 8) = nI (n_set (fun j => E 103 j != 0) 8) ↔ t_over len S := by
  rw [n_set_inj]
  unfold t_over
  constructor
  · intro h j hj
    have := h j hj
    have e0 := hok.2.1 j 0 hj (by decide)
    rw [show 8 * 0 + j = j by omega] at e0
    unfold t_ds at this
    unfold t_on
    rw [e0] at this ⊢
    by_cases c0 : E 103 j = 0
    · simp [c0]
    · by_cases c5 : S.1 j 5 < nI (len j)
      · simp [c0, c5] at this
      · simp [c5]
  · intro h j hj
    have := h j hj
    have e0 := hok.2.1 j 0 hj (by decide)
    rw [show 8 * 0 + j = j by omega] at e0
    unfold t_ds
    unfold t_on at this
    rw [e0] at this ⊢
    by_cases c0 : E 103 j = 0
    · simp [c0]
    · by_cases c5 : S.1 j 5 < nI (len j)
      · simp [c0, c5] at this
      · simp [c5]
theorem ds_new (hok : t_ok E len S) (hok' : t_ok E len S') : nI (n_set (t_ds len S') 8) &&& (nI (n_set (t_ds len S) 8) ^^^ (-1)) = nI (n_set (t_dn len S S') 8) := by
  rw [n_set_andn]
  congr 1
  apply n_set_congr
  intro j hj
  have e0 := hok.2.1 j 0 hj (by decide)
  have e1 := hok'.2.1 j 0 hj (by decide)
  rw [show 8 * 0 + j = j by omega] at e0 e1
  unfold t_ds t_dn t_on
  rw [e0, e1]
  by_cases c0 : E 103 j = 0
  · simp [c0]
  · by_cases c5 : S.1 j 5 < nI (len j) <;> by_cases c6 : S'.1 j 5 < nI (len j) <;> simp [c0, c5, c6]
/-- the class's search for the end: q is the first TICK behind which all is over -/
theorem c_ends (hE : t_Env E mu len T X W) (hok : t_ok E len S) {n : Nat} (hn : n ≤ 240) {y : Int32} : ∀ (d k N : Nat) (J : z_He), k + d = n → d + 1 < N → c_In (mu 9) 72 E J (t_is E len T X W S k) → ¬ t_over len (t_is E len T X W S k) → ∃ J' S'', c_In (mu 9) 72 E J' S'' ∧ ((∃ q, k < q ∧ q ≤ n ∧ t_over len (t_is E len T X W S q) ∧ ¬ t_over len (t_is E len T X W S (q - 1)) ∧ z_lp (fX12_end_b74 0 (nI n) y (nI (n_set (fun j => E 103 j != 0) 8)) (z_Rm mu)) N (nI (n_set (t_ds len (t_is E len T X W S k)) 8), nI (k + 1), J) = some (.inr (nI (n_set (t_ds len (t_is E len T X W S (q - 1))) 8), nI q, nI (n_set (t_ds len (t_is E len T X W S q)) 8), J'))) ∨ (¬ t_over len (t_is E len T X W S n) ∧ z_lp (fX12_end_b74 0 (nI n) y (nI (n_set (fun j => E 103 j != 0) 8)) (z_Rm mu)) N (nI (n_set (t_ds len (t_is E len T X W S k)) 8), nI (k + 1), J) = some (.inl (-2, J')))) := by
  intro d
  induction d with
  | zero =>
    intro k N J e hN h hov
    have : k = n := by omega
    subst this
    obtain ⟨N, rfl⟩ : ∃ q, N = q + 1 := ⟨N - 1, by omega⟩
    refine ⟨J, _, h, Or.inr ⟨hov, ?_⟩⟩
    unfold z_lp fX12_end_b74
    dsimp only
    rw [if_pos (nI_lt (by omega) (by omega))]
  | succ d ih =>
    intro k N J e hN h hov
    obtain ⟨N, rfl⟩ : ∃ q, N = q + 1 := ⟨N - 1, by omega⟩
    obtain ⟨K, f1, f2⟩ := c_it c72 hE (t_is_ok hE hok k) h
    have f2' : c_In (mu 9) 72 E K (t_is E len T X W S (k + 1)) := f2
    have hb : fX12_end_b74 0 (nI n) y (nI (n_set (fun j => E 103 j != 0) 8)) (z_Rm mu) (nI (n_set (t_ds len (t_is E len T X W S k)) 8), nI (k + 1), J) = _ := rfl
    conv at hb =>
      rhs
      unfold fX12_end_b74
    dsimp only at hb
    rw [if_neg (nI_nlt (show k + 1 ≤ n by omega) (by omega)), r_40, r_06, z_g_t (show z_ob 59 2 from rfl), f1, z_b_s] at hb
    dsimp only at hb
    rw [c_ds c72 hE.1 f2', z_b_s, z_l_s, n_s1] at hb
    by_cases c : t_over len (t_is E len T X W S (k + 1))
    · rw [if_pos ((ds_over (t_is_ok hE hok (k + 1))).mpr c)] at hb
      refine ⟨K, _, f2', Or.inl ⟨k + 1, by omega, by omega, c, hov, ?_⟩⟩
      unfold z_lp
      rw [hb]
      rfl
    · rw [if_neg (fun q => c ((ds_over (t_is_ok hE hok (k + 1))).mp q))] at hb
      obtain ⟨J', S'', g1, g2⟩ := ih (k + 1) N K (by omega) (by omega) f2' c
      refine ⟨J', S'', g1, ?_⟩
      rcases g2 with ⟨q, q1, q2, q3, q4, q5⟩ | ⟨q1, q2⟩
      · refine Or.inl ⟨q, by omega, q2, q3, q4, ?_⟩
        unfold z_lp
        rw [hb]
        exact q5
      · refine Or.inr ⟨q1, ?_⟩
        unfold z_lp
        rw [hb]
        exact q2
end EN
