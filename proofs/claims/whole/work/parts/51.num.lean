/-! small numbers: nI n -/
theorem n_add (a b : Nat) : nI a + nI b = nI (a + b) := (Int32.ofNat_add a b).symm
theorem n_mul (a b : Nat) : nI a * nI b = nI (a * b) := (Int32.ofNat_mul a b).symm
theorem n_sub {a b : Nat} (h : b ≤ a) : nI a - nI b = nI (a - b) := (Int32.ofNat_sub a b h).symm
theorem n_lt {a b : Nat} (ha : a < 2 ^ 31) (hb : b < 2 ^ 31) : nI a < nI b ↔ a < b := Int32.ofNat_lt_iff_lt ha hb
theorem n_le {a b : Nat} (ha : a < 2 ^ 31) (hb : b < 2 ^ 31) : nI a ≤ nI b ↔ a ≤ b := by
  rw [Int32.le_iff_toInt_le, nI_toInt ha, nI_toInt hb]
  omega
theorem n_eq {a b : Nat} (ha : a < 2 ^ 31) (hb : b < 2 ^ 31) : nI a = nI b ↔ a = b := by
  rw [← Int32.toInt_inj, nI_toInt ha, nI_toInt hb]
  omega
theorem n_lit (n : Nat) : (OfNat.ofNat n : Int32) = nI n := rfl
theorem n_nn {x : Int32} (h : ¬ x < 0) : x = nI x.toNatClampNeg := by
  have h0 : (0 : Int32) ≤ x := Int32.not_lt.mp h
  exact (Int32.ofNat_toNatClampNeg x h0).symm
/-- x between two small numbers -/
theorem n_of {x : Int32} {b : Nat} (hb : b < 2 ^ 31) (h0 : ¬ x < 0) (h1 : ¬ nI b < x) : ∃ i, i ≤ b ∧ x = nI i := by
  refine ⟨x.toNatClampNeg, ?_, n_nn h0⟩
  rw [n_nn h0, n_lt hb x.toNatClampNeg_lt] at h1
  omega
/-- is x between a and b: 1 or 0 -/
def n_in (x a b : Int32) : Int32 := if x < a then 0 else if b < x then 0 else 1
theorem fX12_within_eq (x a b : Int32) : fX12_within x a b = some (n_in x a b) := by
  unfold fX12_within n_in
  split
  · rfl
  · split <;> rfl
theorem fX13_in_eq (x a b : Int32) : fX13_in x a b = some (n_in x a b) := by
  unfold fX13_in n_in
  split
  · rfl
  · split <;> rfl
theorem n_in01 (x a b : Int32) : n_in x a b = 0 ∨ n_in x a b = 1 := by
  unfold n_in
  split
  · exact Or.inl rfl
  · split
    · exact Or.inl rfl
    · exact Or.inr rfl
theorem n_in_no {x a b : Int32} (h : ¬ n_in x a b = 0) : ¬ x < a ∧ ¬ b < x := by
  unfold n_in at h
  constructor
  · intro c; rw [if_pos c] at h; exact h rfl
  · intro c
    by_cases c2 : x < a
    · rw [if_pos c2] at h; exact h rfl
    · rw [if_neg c2, if_pos c] at h; exact h rfl
theorem n_in_1 {x a b : Int32} (h1 : ¬ x < a) (h2 : ¬ b < x) : n_in x a b = 1 := by
  unfold n_in
  rw [if_neg h1, if_neg h2]
theorem n_in_nI {x : Int32} {b : Nat} (hb : b < 2 ^ 31) (h : ¬ n_in x 0 (nI b) = 0) : ∃ i, i ≤ b ∧ x = nI i := n_of hb (n_in_no h).1 (n_in_no h).2
theorem fX12_isSinger_eq (x : Int32) : fX12_isSinger x = some (n_in x 0 7) := by
  unfold fX12_isSinger
  rw [fX12_within_eq]
  show z_g _ _ = _
  unfold z_g
  rw [if_pos (n_in01 x 0 7)]
theorem fX12_areTicks_eq (x : Int32) : fX12_areTicks x = some (n_in x 1 240) := by
  unfold fX12_areTicks
  rw [fX12_within_eq]
  show z_g _ _ = _
  unfold z_g
  rw [if_pos (n_in01 x 1 240)]
theorem z_g_t {α : Type} {c : Prop} [Decidable c] {x : Option α} (h : c) : z_g c x = x := if_pos h
theorem z_b_s {α β : Type} {v : α} {k : α → Option β} : z_b (some v) k = k v := rfl
theorem z_l_s {α β : Type} {v : α} {k : α → β} : z_l v k = k v := rfl
/-- place k of an array that has n places -/
theorem n_ok {t a k n : Nat} (hl : z_len t a = n) (hk : k < n) (hn : n < 2 ^ 31) : z_ok t a (nI k) := by
  unfold z_ok
  rw [hl, nI_clamp (by omega)]
  intro h
  rcases h with h | h
  · exact nI_pos (by omega) h
  · omega
/-- a loop by its trace -/
theorem z_lp_tr {S X : Type} {body : S → Option (S ⊕ X)} (s : Nat → S) {n : Nat} {x : X} (h1 : ∀ k, k < n → body (s k) = some (.inl (s (k + 1)))) (h2 : body (s n) = some (.inr x)) : ∀ N, n < N → z_lp body N (s 0) = some x := by
  have key : ∀ (j k N : Nat), k + j = n → j < N → z_lp body N (s k) = some x := by
    intro j
    induction j with
    | zero =>
      intro k N e hN
      have : k = n := by omega
      subst this
      obtain ⟨M, rfl⟩ : ∃ M, N = M + 1 := ⟨N - 1, by omega⟩
      unfold z_lp
      rw [h2]
    | succ j ih =>
      intro k N e hN
      obtain ⟨M, rfl⟩ : ∃ M, N = M + 1 := ⟨N - 1, by omega⟩
      unfold z_lp
      rw [h1 k (by omega)]
      exact ih (k + 1) M (by omega) (by omega)
  intro N hN
  exact key n 0 N (by omega) hN
theorem z_lp_b {S X β : Type} {body : S → Option (S ⊕ X)} {s0 : S} {N : Nat} {k : X → Option β} (n : Nat) (x : X) (s : Nat → S) (h0 : s 0 = s0) (h1 : ∀ k, k < n → body (s k) = some (.inl (s (k + 1)))) (h2 : body (s n) = some (.inr x)) (hN : n < N) : z_b (z_lp body N s0) k = k x := by
  rw [← h0, z_lp_tr s h1 h2 N hN]
  rfl
/-- cells -/
theorem z_u_at (I : Nat → Nat → Int32) (a k : Nat) (v : Int32) : z_u I a k v a k = v := by simp [z_u, upd]
theorem z_u_k {I : Nat → Nat → Int32} {a k j : Nat} {v : Int32} (h : j ≠ k) : z_u I a k v a j = I a j := by simp [z_u, upd, h]
theorem z_u_a {I : Nat → Nat → Int32} {a b k : Nat} {v : Int32} (h : b ≠ a) : z_u I a k v b = I b := by simp [z_u, h]
theorem z_u_eq (I : Nat → Nat → Int32) (a k : Nat) (v : Int32) (b j : Nat) : z_u I a k v b j = if b = a ∧ j = k then v else I b j := by
  by_cases hb : b = a
  · subst hb
    by_cases hj : j = k
    · subst hj; simp [z_u, upd]
    · simp [z_u, upd, hj]
  · simp [z_u, hb]
theorem z_v_eq (R : Nat → Nat → Nat) (a k v b j : Nat) : z_v R a k v b j = if b = a ∧ j = k then v else R b j := by
  by_cases hb : b = a
  · subst hb
    by_cases hj : j = k
    · subst hj; simp [z_v]
    · simp [z_v, hj]
  · simp [z_v, hb]
theorem n_shl {k : Nat} (hk : k < 31) : z_shl 1 (nI k) = nI (2 ^ k) := by
  have : ∀ k : Nat, k < 31 → z_shl 1 (nI k) = nI (2 ^ k) := by decide +kernel
  exact this k hk
theorem n_8 {k : Nat} (h : k < 8) : ¬ (8 : Int32) ≤ nI k := nI_ge h (by decide)
theorem n_88 : (8 : Int32) ≤ nI 8 := nI_le (Nat.le_refl 8) (by decide)
theorem n_s1 (k : Nat) : nI k + 1 = nI (k + 1) := (nI_succ k).symm
theorem n_lt0 {k : Nat} (h : k < 2 ^ 31) : (nI k < 0) = False := eq_false (nI_pos h)
theorem z_g_tr {α : Type} {x : Option α} {i : Decidable True} : @z_g α True i x = x := if_pos trivial
theorem z_x_il {A B C : Type} {a : A} {f : A → C} {g : B → C} : z_x (.inl a) f g = f a := rfl
theorem z_x_ir {A B C : Type} {b : B} {f : A → C} {g : B → C} : z_x (.inr b) f g = g b := rfl
theorem n_l8 (k : Nat) : (8 : Int32) + nI k = nI (8 + k) := n_add 8 k
theorem n_l16 (k : Nat) : (16 : Int32) + nI k = nI (16 + k) := n_add 16 k
theorem n_l24 (k : Nat) : (24 : Int32) + nI k = nI (24 + k) := n_add 24 k
theorem n_l32 (k : Nat) : (32 : Int32) + nI k = nI (32 + k) := n_add 32 k
theorem n_l40 (k : Nat) : (40 : Int32) + nI k = nI (40 + k) := n_add 40 k
theorem n_l48 (k : Nat) : (48 : Int32) + nI k = nI (48 + k) := n_add 48 k
theorem n_l56 (k : Nat) : (56 : Int32) + nI k = nI (56 + k) := n_add 56 k
theorem n_l64 (k : Nat) : (64 : Int32) + nI k = nI (64 + k) := n_add 64 k
theorem n_l72 (k : Nat) : (72 : Int32) + nI k = nI (72 + k) := n_add 72 k
theorem n_l0 (k : Nat) : (0 : Int32) + nI k = nI k := by
  rw [show (0 : Int32) = nI 0 from rfl, n_add, Nat.zero_add]
