/-! THE RELATION between the class's cells and the model's, and the ranges -/
/-- the singers of a stage (its base st) beside a row of 82 (the cell a) -/
def r_W (I : Nat → Nat → Int32) (st a : Nat) : Prop := (∀ f i, f < 10 → i < 8 → I (st + 2 + i) f = I a (8 * f + i)) ∧ I st 1 = I a 80 ∧ I st 2 = I a 81
/-- ranges of a row of 82; len: how long the rolls are (at most 60) -/
def r_V (I : Nat → Nat → Int32) (a : Nat) (len : Nat → Nat) : Prop :=
  (∀ i, i < 8 → (I a i = 0 ∨ I a i = 1) ∧ (-20 ≤ (I a (8 + i)).toInt ∧ (I a (8 + i)).toInt ≤ 20) ∧ (∃ n, n ≤ 15 ∧ I a (16 + i) = nI n) ∧ (∃ n, n ≤ 3 ∧ I a (24 + i) = nI n) ∧ (∃ n, n ≤ 20 ∧ I a (32 + i) = nI n) ∧ (∃ n, n ≤ len i ∧ I a (40 + i) = nI n) ∧ (∃ n, n ≤ 599 ∧ I a (48 + i) = nI n) ∧ (∃ n, n ≤ 20 ∧ I a (56 + i) = nI n) ∧ (I a (72 + i) = 0 ∨ I a (72 + i) = 1) ∧ (I a i = 0 → ∀ f, f < 10 → I a (8 * f + i) = 0)) ∧ (∃ n, n ≤ 99999 ∧ I a 80 = nI n) ∧ ∃ n, n < 65536 ∧ I a 81 = nI n
/-- how many of the first k beats have a mark (a row of zeros and ones from place b on) -/
def r_sum (f : Nat → Int32) (b : Nat) : Nat → Nat
  | 0 => 0
  | k + 1 => if f (b + k) = 1 then r_sum f b k + 1 else r_sum f b k
/-- roll i of the model beside the class's roll at the cell r; n beats -/
def r_Roll (I : Nat → Nat → Int32) (i r n : Nat) : Prop := n ≤ 60 ∧ I r 3 = nI n ∧ I 110 i = nI n ∧ I (r + 3) 0 = 0 ∧ ∀ k, k < n → (∃ v, v ≤ 7 ∧ I (r + 1) k = nI v ∧ I 106 (60 * i + k) = nI v) ∧ (∃ h b g, h ≤ 1 ∧ b ≤ 1 ∧ g ≤ 1 ∧ I 107 (60 * i + k) = nI h ∧ I 108 (60 * i + k) = nI b ∧ I 109 (60 * i + k) = nI g ∧ I (r + 2) k = nI (h + 2 * b + 4 * g) ∧ (g = 0 → k ≠ 0 ∧ I 106 (60 * i + k) = I 106 (60 * i + k - 1))) ∧ I (r + 3) (k + 1) = nI (r_sum (I 107) (60 * i) (k + 1))
/-- where the class's rolls lie: nine places, each once -/
def r_P (mu : Nat → Nat) : Prop := (∀ j, j < 9 → ∃ q, q < 9 ∧ mu j = 5 + 4 * q) ∧ (∀ i j, i < 9 → j < 9 → mu i = mu j → i = j) ∧ ((mu 9 = 41 ∧ mu 10 = 49) ∨ (mu 9 = 49 ∧ mu 10 = 41))
/-- the class's number of a step, the model's being 0 .. 12 -/
def l_op (op : Nat) : Nat := match op with
  | 0 => 0
  | 1 => 1
  | 2 => 43
  | 3 => 45
  | 4 => 42
  | 5 => 47
  | 6 => 37
  | 7 => 60
  | 8 => 62
  | 9 => 61
  | 10 => 2
  | 11 => 4
  | _ => 3
def l_kind (k : Nat) : Nat := match k with
  | 0 => 117
  | 1 => 118
  | 2 => 98
  | 3 => 99
  | _ => 120
/-- a code: at each place the step, its number, where it leaps in the class and in the model -/
abbrev l_C : Type := Nat → Nat × Nat × Nat × Nat
/-- the modes: d values lie there (d < 100), or a truth (100); the code goes from place f to place t, from mode 0 to mode e -/
def l_ty (cd : l_C) (md : Nat → Nat) (f t e : Nat) : Prop := md f = 0 ∧ md t = e ∧ ∀ k, f ≤ k → k < t →
  ((cd k).1 ≤ 1 ∧ md k < 20 ∧ md (k + 1) = md k + 1) ∨ (2 ≤ (cd k).1 ∧ (cd k).1 ≤ 6 ∧ md k < 30 ∧ 2 ≤ md k ∧ md (k + 1) + 1 = md k) ∨ (7 ≤ (cd k).1 ∧ (cd k).1 ≤ 9 ∧ md k = 2 ∧ md (k + 1) = 100) ∨ ((cd k).1 = 10 ∧ md k = 100 ∧ md (k + 1) = 100) ∨
  (((cd k).1 = 11 ∨ (cd k).1 = 12) ∧ md k = 100 ∧ md (k + 1) = 0 ∧ k < (cd k).2.2.2 ∧ (cd k).2.2.2 ≤ (cd k).2.2.1 ∧ (cd k).2.2.1 ≤ t ∧ md (cd k).2.2.1 = 100 ∧ md (cd k).2.2.2 = 100 ∧ ((cd k).2.2.2 = (cd k).2.2.1 ∨ ((cd (cd k).2.2.2).1 = (cd k).1 ∧ (cd (cd k).2.2.2).2.2.1 = (cd k).2.2.1)))
def l_code (I : Nat → Nat → Int32) (A : Nat) (cd : l_C) (k : Nat) : Prop := (cd k).1 ≤ 12 ∧ ((cd k).1 = 0 → (cd k).2.1 < 100000) ∧ ((cd k).1 = 1 → (cd k).2.1 < 8) ∧ I (A + 1) k = nI (l_op (cd k).1) ∧ I (A + 2) k = nI (if (cd k).1 ≤ 1 then (cd k).2.1 else if 11 ≤ (cd k).1 then (cd k).2.2.1 else 0) ∧ I 118 k = nI (1048576 * (cd k).1 + (if (cd k).1 ≤ 1 then (cd k).2.1 else if 11 ≤ (cd k).1 then (cd k).2.2.2 else 0))
/-- rule r: kind, from, half, to -/
def l_rule (I : Nat → Nat → Int32) (A : Nat) (cd : l_C) (s r kd f h t : Nat) : Prop := kd ≤ 4 ∧ f ≤ h ∧ h < t ∧ t ≤ s ∧ I (A + 3) r = nI kd ∧ I (A + 4) r = nI f ∧ I (A + 5) r = nI h ∧ I (A + 6) r = nI t ∧ I 119 r = nI (l_kind kd) ∧ I 120 r = nI f ∧ I 121 r = nI h ∧ I 122 r = nI t ∧ (kd ≠ 4 → ∃ md, l_ty cd md f h 1 ∧ ∀ k, f ≤ k → k < h → (cd k).1 ≤ 6) ∧ ∃ md, l_ty cd md h t 100
def r_L (I : Nat → Nat → Int32) (A : Nat) : Prop := ∃ (n s : Nat) (cd : l_C), n ≤ 16 ∧ s ≤ 240 ∧ I A 2 = nI s ∧ I A 7 = nI n ∧ I 102 20 = nI n ∧ (∀ k, k < s → l_code I A cd k) ∧ ∀ r, r < n → ∃ kd f h t, l_rule I A cd s r kd f h t
/-- the tape -/
def r_T (I : Nat → Nat → Int32) : Prop := ∃ n, n ≤ 260 ∧ I 1 1 = nI n ∧ I 102 11 = nI n ∧ ∀ k, k < n → ∃ v, v < 256 ∧ I 2 k = nI v ∧ I 111 k &&& 255 = nI v
def r_C (I : Nat → Nat → Int32) : Prop := (∃ n, n ≤ 15 ∧ I 3 4 = nI n ∧ I 102 3 = nI n) ∧ (∃ n, 60 ≤ n ∧ n ≤ 600 ∧ I 3 5 = nI n ∧ I 102 4 = nI n) ∧ I 0 8 = I 102 57 ∧ (I 102 57 = 0 ∨ I 102 57 = 1)
/-- no beat ahead of the first: of all nine rolls -/
def r_0 (I : Nat → Nat → Int32) : Prop := ∀ q, q < 9 → I (8 + 4 * q) 0 = 0
def RelL (I : Nat → Nat → Int32) (mu len : Nat → Nat) : Prop := r_W I 62 103 ∧ r_V I 103 len ∧ (I 102 57 = 0 ∨ (r_W I 82 105 ∧ r_V I 105 (fun _ => 60))) ∧ r_C I ∧ r_T I ∧ r_P mu ∧ (∀ i, i < 8 → r_Roll I i (mu i) (len i)) ∧ r_L I (mu 9) ∧ r_0 I
def Rel (I : Nat → Nat → Int32) (mu : Nat → Nat) : Prop := ∃ len : Nat → Nat, RelL I mu len
/-- what the relation reads of a cell -/
def k_loc (mu : Nat → Nat) (b k : Nat) : Prop := b = 0 ∨ b = 1 ∨ b = 2 ∨ b = 3 ∨ (b = 62 ∧ k ≠ 0) ∨ (64 ≤ b ∧ b < 72) ∨ (b = 82 ∧ k ≠ 0) ∨ (84 ≤ b ∧ b < 92) ∨ b = 103 ∨ b = 105 ∨ (106 ≤ b ∧ b ≤ 111) ∨ (118 ≤ b ∧ b ≤ 122) ∨ (b = 102 ∧ (k = 3 ∨ k = 4 ∨ k = 11 ∨ k = 20 ∨ k = 57)) ∨ (∃ j, j < 8 ∧ mu j ≤ b ∧ b ≤ mu j + 3) ∨ (b = mu 9 ∧ (k = 2 ∨ k = 7)) ∨ (mu 9 < b ∧ b ≤ mu 9 + 6) ∨ (∃ q, q < 9 ∧ b = 8 + 4 * q ∧ k = 0)
theorem r_sum_eq {f g : Nat → Int32} {b : Nat} : ∀ {k : Nat}, (∀ j, j < k → f (b + j) = g (b + j)) → r_sum f b k = r_sum g b k
  | 0, _ => rfl
  | k + 1, h => by
    unfold r_sum
    rw [h k (by omega), r_sum_eq (fun j hj => h j (by omega))]
theorem rel_frame {I I' : Nat → Nat → Int32} {mu : Nat → Nat} (h : Rel I mu) (hf : ∀ b k, k_loc mu b k → I' b k = I b k) : Rel I' mu := by
  obtain ⟨len, h1, h2, h3, h5, h6, h7, h8, h9, h10⟩ := h
  have c0 : I' 0 = I 0 := funext fun k => hf 0 k (Or.inl rfl)
  have c1 : I' 1 = I 1 := funext fun k => hf 1 k (Or.inr (Or.inl rfl))
  have c2 : I' 2 = I 2 := funext fun k => hf 2 k (Or.inr (Or.inr (Or.inl rfl)))
  have c3 : I' 3 = I 3 := funext fun k => hf 3 k (Or.inr (Or.inr (Or.inr (Or.inl rfl))))
  have c103 : I' 103 = I 103 := funext fun k => hf 103 k (by unfold k_loc; omega)
  have c105 : I' 105 = I 105 := funext fun k => hf 105 k (by unfold k_loc; omega)
  have cA : ∀ b, (106 ≤ b ∧ b ≤ 111) ∨ (118 ≤ b ∧ b ≤ 122) ∨ (64 ≤ b ∧ b < 72) ∨ (84 ≤ b ∧ b < 92) → I' b = I b := fun b hb => funext fun k => hf b k (by unfold k_loc; omega)
  have cR : ∀ j b, j < 8 → mu j ≤ b → b ≤ mu j + 3 → I' b = I b := fun j b hj h1 h2 => funext fun k => hf b k (by unfold k_loc; exact Or.inr (Or.inr (Or.inr (Or.inr (Or.inr (Or.inr (Or.inr (Or.inr (Or.inr (Or.inr (Or.inr (Or.inr (Or.inr (Or.inl ⟨j, hj, h1, h2⟩))))))))))))))
  have cL : ∀ b, mu 9 < b → b ≤ mu 9 + 6 → I' b = I b := fun b h1 h2 => funext fun k => hf b k (by unfold k_loc; omega)
  have cM : ∀ k, (k = 3 ∨ k = 4 ∨ k = 11 ∨ k = 20 ∨ k = 57) → I' 102 k = I 102 k := fun k hk => hf 102 k (by unfold k_loc; omega)
  have c62 : ∀ k, k ≠ 0 → I' 62 k = I 62 k := fun k hk => hf 62 k (by unfold k_loc; omega)
  have c82 : ∀ k, k ≠ 0 → I' 82 k = I 82 k := fun k hk => hf 82 k (by unfold k_loc; omega)
  have cl2 : I' (mu 9) 2 = I (mu 9) 2 := hf _ _ (by unfold k_loc; omega)
  have cl7 : I' (mu 9) 7 = I (mu 9) 7 := hf _ _ (by unfold k_loc; omega)
  refine ⟨len, ?_, ?_, ?_, ?_, ?_, h7, ?_, ?_, fun q hq => ?_⟩
  · unfold r_W at h1 ⊢
    rw [c103, c62 1 (by decide), c62 2 (by decide)]
    exact ⟨fun f i hf' hi => by rw [cA (62 + 2 + i) (by omega)]; exact h1.1 f i hf' hi, h1.2⟩
  · unfold r_V at h2 ⊢
    rw [c103]
    exact h2
  · rw [cM 57 (by omega)]
    refine h3.imp id (fun h3 => ?_)
    obtain ⟨h3, h4⟩ := h3
    refine ⟨?_, ?_⟩
    · unfold r_W at h3 ⊢
      rw [c105, c82 1 (by decide), c82 2 (by decide)]
      exact ⟨fun f i hf' hi => by rw [cA (82 + 2 + i) (by omega)]; exact h3.1 f i hf' hi, h3.2⟩
    · unfold r_V at h4 ⊢
      rw [c105]
      exact h4
  · unfold r_C at h5 ⊢
    rw [c0, c3, cM 3 (by omega), cM 4 (by omega), cM 57 (by omega)]
    exact h5
  · unfold r_T at h6 ⊢
    rw [c1, c2, cM 11 (by omega), cA 111 (by omega)]
    exact h6
  · intro i hi
    have := h8 i hi
    unfold r_Roll at this ⊢
    rw [cR i (mu i) hi (by omega) (by omega), cR i (mu i + 1) hi (by omega) (by omega), cR i (mu i + 2) hi (by omega) (by omega), cR i (mu i + 3) hi (by omega) (by omega), cA 106 (by omega), cA 107 (by omega), cA 108 (by omega), cA 109 (by omega), cA 110 (by omega)]
    exact this
  · unfold r_L l_code l_rule at h9 ⊢
    rw [cl2, cl7, cM 20 (by omega), cL (mu 9 + 1) (by omega) (by omega), cL (mu 9 + 2) (by omega) (by omega), cL (mu 9 + 3) (by omega) (by omega), cL (mu 9 + 4) (by omega) (by omega), cL (mu 9 + 5) (by omega) (by omega), cL (mu 9 + 6) (by omega) (by omega), cA 118 (by omega), cA 119 (by omega), cA 120 (by omega), cA 121 (by omega), cA 122 (by omega)]
    exact h9
  · rw [hf (8 + 4 * q) 0 (by unfold k_loc; exact Or.inr (Or.inr (Or.inr (Or.inr (Or.inr (Or.inr (Or.inr (Or.inr (Or.inr (Or.inr (Or.inr (Or.inr (Or.inr (Or.inr (Or.inr (Or.inr ⟨q, hq, rfl, rfl⟩))))))))))))))))]
    exact h10 q hq
