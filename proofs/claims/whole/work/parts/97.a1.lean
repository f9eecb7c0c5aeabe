/-! roll: a plain reader -/
abbrev u_Q : Type := Nat × Nat × Nat × Nat
abbrev u_F : Type := Nat → u_Q
def u_up (F : u_F) (k : Nat) (q : u_Q) : u_F := fun j => if j = k then q else F j
theorem u_up_at {F : u_F} {k : Nat} {q : u_Q} : u_up F k q k = q := if_pos rfl
theorem u_up_o {F : u_F} {k j : Nat} {q : u_Q} (h : j ≠ k) : u_up F k q j = F j := if_neg h
def u_flt (c p : Nat) : Int32 := (-1000 : Int32) * nI c - nI p
def u_isT (x : Int32) : Bool := !decide (x < 50) && !decide ((57 : Int32) < x)
def u_isN (x : Int32) : Bool := decide (x = 46) || (!decide (x < 97) && !decide ((103 : Int32) < x))
def u_val (x : Int32) : Nat := if x = 46 then 0 else x.toNatClampNeg - 96
def u_tm (x : Int32) : Nat := if u_isT x = true then x.toNatClampNeg - 48 else 1
def u_tp (x : Int32) (p : Nat) : Nat := if u_isT x = true then p + 1 else p
def u_add (F : u_F) (m v t : Nat) : u_F := fun k => if m ≤ k ∧ k < m + t then (v, 0, 0, if k = m then 1 else 0) else F k
def u_mh (F : u_F) (m : Nat) : u_F := u_up F (m - 1) ((F (m - 1)).1, 1, (F (m - 1)).2.2.1, (F (m - 1)).2.2.2)
def u_mb (F : u_F) (m : Nat) : u_F := u_up F (m - 1) ((F (m - 1)).1, (F (m - 1)).2.1, 1, (F (m - 1)).2.2.2)
/-- c beats more, each as the one from place a on -/
def u_rep (F : u_F) (a m : Nat) : Nat → u_F
  | 0 => F
  | c + 1 => u_up (u_rep F a m c) (m + c) (u_rep F a m c (a + c))
def u_hs (F : u_F) : Nat → Nat
  | 0 => 0
  | k + 1 => u_hs F k + (F k).2.1
abbrev u_Rs : Type := Int32 ⊕ (Nat × u_F)
/-- the marks behind a sound -/
def u_p1 (sg : Nat → Int32) (p : Nat) : Nat := if sg p = 94 then p + 1 else p
def u_p2 (sg : Nat → Int32) (p : Nat) : Nat := if sg p = 44 then p + 1 else p
def u_F1 (sg : Nat → Int32) (p m : Nat) (F : u_F) : u_F := if sg p = 94 then u_mh F m else F
def u_F2 (sg : Nat → Int32) (p m : Nat) (F : u_F) : u_F := if sg p = 44 then u_mb F m else F
def u_et (sg : Nat → Int32) (p : Nat) : Nat := if sg (p + 1) = 120 then u_tm (sg (p + 2)) else 1
def u_ep (sg : Nat → Int32) (p : Nat) : Nat := if sg (p + 1) = 120 then p + 3 else p + 1
/-- ph: false: an item must begin; true: one has ended -/
def u_it (sg : Nat → Int32) (n : Nat) : Nat → Bool → Nat → Nat → u_F → Nat → (Nat → Nat) → (Nat → Nat) → Option u_Rs
  | 0, _, _, _, _, _, _, _ => none
  | k + 1, false, p, m, F, d, fr, ab =>
    if sg p = 40 then (if d = 2 then some (.inl (u_flt 5 p)) else u_it sg n k false (p + 1) m F (d + 1) (x_up fr d p) (x_up ab d m))
    else if u_isN (sg p) = true then
      (if 60 < m + u_tm (sg (p + 1)) then some (.inl (u_flt 6 p))
       else u_it sg n k true (u_p2 sg (u_p1 sg (u_tp (sg (p + 1)) (p + 1)))) (m + u_tm (sg (p + 1))) (u_F2 sg (u_p1 sg (u_tp (sg (p + 1)) (p + 1))) (m + u_tm (sg (p + 1))) (u_F1 sg (u_tp (sg (p + 1)) (p + 1)) (m + u_tm (sg (p + 1))) (u_add F m (u_val (sg p)) (u_tm (sg (p + 1)))))) d fr ab)
    else some (.inl (u_flt 1 p))
  | k + 1, true, p, m, F, d, fr, ab =>
    if sg p = 41 ∧ 0 < d then
      (if sg (p + 1) = 120 ∧ u_isT (sg (p + 2)) = false then some (.inl (u_flt 1 (p + 2)))
       else if 60 < ab (d - 1) + (m - ab (d - 1)) * u_et sg p then some (.inl (u_flt 6 (fr (d - 1))))
       else u_it sg n k true (u_ep sg p) (ab (d - 1) + (m - ab (d - 1)) * u_et sg p) (u_rep F (ab (d - 1)) m ((m - ab (d - 1)) * (u_et sg p - 1))) (d - 1) fr ab)
    else if p < n ∨ 0 < d then u_it sg n k false p m F d fr ab
    else some (.inr (m, F))
section UI
variable {sg : Nat → Int32} {n : Nat}
theorem u_it_mono : ∀ (k : Nat) (ph : Bool) (p m : Nat) (F : u_F) (d : Nat) (fr ab : Nat → Nat) (r : u_Rs), u_it sg n k ph p m F d fr ab = some r → ∀ j, u_it sg n (k + j) ph p m F d fr ab = some r := by
  intro k
  induction k with
  | zero => intro ph p m F d fr ab r h; cases h
  | succ k ih =>
    intro ph p m F d fr ab r h j
    rw [show k + 1 + j = k + j + 1 by omega]
    cases ph with
    | false =>
      unfold u_it at h ⊢
      split
      · rename_i c
        rw [if_pos c] at h
        split
        · rename_i c2
          rw [if_pos c2] at h
          exact h
        · rename_i c2
          rw [if_neg c2] at h
          exact ih _ _ _ _ _ _ _ _ h j
      · rename_i c
        rw [if_neg c] at h
        split
        · rename_i c2
          rw [if_pos c2] at h
          split
          · rename_i c3
            rw [if_pos c3] at h
            exact h
          · rename_i c3
            rw [if_neg c3] at h
            exact ih _ _ _ _ _ _ _ _ h j
        · rename_i c2
          rw [if_neg c2] at h
          exact h
    | true =>
      unfold u_it at h ⊢
      split
      · rename_i c
        rw [if_pos c] at h
        split
        · rename_i c2
          rw [if_pos c2] at h
          exact h
        · rename_i c2
          rw [if_neg c2] at h
          split
          · rename_i c3
            rw [if_pos c3] at h
            exact h
          · rename_i c3
            rw [if_neg c3] at h
            exact ih _ _ _ _ _ _ _ _ h j
      · rename_i c
        rw [if_neg c] at h
        split
        · rename_i c2
          rw [if_pos c2] at h
          exact ih _ _ _ _ _ _ _ _ h j
        · rename_i c2
          rw [if_neg c2] at h
          exact h
theorem u_it_det {k k' : Nat} {ph : Bool} {p m : Nat} {F : u_F} {d : Nat} {fr ab : Nat → Nat} {r r' : u_Rs} (h : u_it sg n k ph p m F d fr ab = some r) (h' : u_it sg n k' ph p m F d fr ab = some r') : r = r' := by
  have a := u_it_mono k ph p m F d fr ab r h k'
  have b := u_it_mono k' ph p m F d fr ab r' h' k
  rw [show k' + k = k + k' by omega, a] at b
  cases b
  rfl
end UI
/-- from one state to another; to the end -/
abbrev u_St : Type := Bool × Nat × Nat × u_F × Nat × (Nat → Nat) × (Nat → Nat)
def u_run (sg : Nat → Int32) (n k : Nat) (s : u_St) : Option u_Rs := u_it sg n k s.1 s.2.1 s.2.2.1 s.2.2.2.1 s.2.2.2.2.1 s.2.2.2.2.2.1 s.2.2.2.2.2.2
def u_to (sg : Nat → Int32) (n : Nat) (s s' : u_St) : Prop := ∃ j, ∀ k, u_run sg n (k + j) s = u_run sg n k s'
def u_end (sg : Nat → Int32) (n : Nat) (s : u_St) (r : u_Rs) : Prop := ∃ k, u_run sg n k s = some r
section UT
variable {sg : Nat → Int32} {n : Nat} {s s' s'' : u_St} {r r' : u_Rs}
theorem u_to_r : u_to sg n s s := ⟨0, fun _ => rfl⟩
theorem u_to_t (h : u_to sg n s s') (g : u_to sg n s' s'') : u_to sg n s s'' := by
  obtain ⟨a, ha⟩ := h
  obtain ⟨b, hb⟩ := g
  exact ⟨b + a, fun k => by rw [← Nat.add_assoc, ha, hb]⟩
theorem u_to_e (h : u_to sg n s s') (g : u_end sg n s' r) : u_end sg n s r := by
  obtain ⟨a, ha⟩ := h
  obtain ⟨b, hb⟩ := g
  exact ⟨b + a, by rw [ha, hb]⟩
theorem u_end_det (h : u_end sg n s r) (g : u_end sg n s r') : r = r' := by
  obtain ⟨a, ha⟩ := h
  obtain ⟨b, hb⟩ := g
  exact u_it_det ha hb
end UT
/-- the text: n bytes -/
def u_sg (n : Nat) (sg : Nat → Int32) : Prop := (∀ p, p < n → ∃ v, v < 256 ∧ sg p = nI v) ∧ ∀ p, n ≤ p → sg p = -1
theorem u_sg_lt {n p v : Nat} {sg : Nat → Int32} (h : u_sg n sg) (e : sg p = nI v) (hv : v < 2 ^ 31) : p < n := by
  apply Nat.lt_of_not_le
  intro l
  rw [h.2 p l] at e
  exact n_m1 hv e.symm
theorem u_isT_ok {x : Int32} (h : u_isT x = true) : ∃ v, 50 ≤ v ∧ v ≤ 57 ∧ x = nI v := by
  unfold u_isT at h
  simp at h
  have h0 : ¬ x < 0 := by
    intro q
    rw [Int32.le_iff_toInt_le] at h
    rw [Int32.lt_iff_toInt_lt] at q
    have e1 : (50 : Int32).toInt = 50 := rfl
    have e2 : (0 : Int32).toInt = 0 := rfl
    omega
  obtain ⟨v, hv, e⟩ := n_of (b := 57) (by decide) h0 (by rw [Int32.not_lt]; exact h.2)
  refine ⟨v, ?_, hv, e⟩
  rw [e] at h
  have := h.1
  rw [show (50 : Int32) = nI 50 from rfl, n_le (by decide) (by omega)] at this
  exact this
theorem u_isN_ok {x : Int32} (h : u_isN x = true) : x = nI 46 ∨ ∃ v, 97 ≤ v ∧ v ≤ 103 ∧ x = nI v := by
  unfold u_isN at h
  simp at h
  rcases h with h | h
  · exact Or.inl h
  · have h0 : ¬ x < 0 := by
      intro q
      rw [Int32.le_iff_toInt_le] at h
      rw [Int32.lt_iff_toInt_lt] at q
      have e1 : (97 : Int32).toInt = 97 := rfl
      have e2 : (0 : Int32).toInt = 0 := rfl
      omega
    obtain ⟨v, hv, e⟩ := n_of (b := 103) (by decide) h0 (by rw [Int32.not_lt]; exact h.2)
    refine Or.inr ⟨v, ?_, hv, e⟩
    rw [e] at h
    have := h.1
    rw [show (97 : Int32) = nI 97 from rfl, n_le (by decide) (by omega)] at this
    exact this
theorem u_tm_b (x : Int32) : 1 ≤ u_tm x ∧ u_tm x ≤ 9 := by
  unfold u_tm
  by_cases c : u_isT x = true
  · rw [if_pos c]
    obtain ⟨v, h1, h2, e⟩ := u_isT_ok c
    rw [e, nI_clamp (by omega)]
    omega
  · rw [if_neg c]
    omega
theorem u_val_b {x : Int32} (h : u_isN x = true) : u_val x ≤ 7 := by
  unfold u_val
  by_cases c : x = 46
  · rw [if_pos c]; omega
  · rw [if_neg c]
    rcases u_isN_ok h with q | ⟨v, h1, h2, q⟩
    · exact absurd q c
    · rw [q, nI_clamp (by omega)]
      omega
