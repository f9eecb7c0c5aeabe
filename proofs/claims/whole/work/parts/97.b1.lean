/-! law: a plain reader, step by step -/
abbrev q_M : Type := Nat → Nat × Nat
abbrev q_K : Type := List (Nat × Nat)
abbrev q_U : Type := Nat → Nat × Nat × Nat × Nat
abbrev q_S : Type := Nat × Nat × Nat × q_M × q_K × Nat × Nat × q_U
abbrev q_R : Type := Int32 ⊕ (Nat × q_M × Nat × q_U)
def q_up (M : q_M) (k : Nat) (x : Nat × Nat) : q_M := fun j => if j = k then x else M j
theorem q_up_at {M : q_M} {k : Nat} {x : Nat × Nat} : q_up M k x k = x := if_pos rfl
theorem q_up_o {M : q_M} {k j : Nat} {x : Nat × Nat} (h : j ≠ k) : q_up M k x j = M j := if_neg h
def q_uu (ru : q_U) (k : Nat) (x : Nat × Nat × Nat × Nat) : q_U := fun j => if j = k then x else ru j
theorem q_uu_at {M : q_U} {k : Nat} {x : Nat × Nat × Nat × Nat} : q_uu M k x k = x := if_pos rfl
theorem q_uu_o {M : q_U} {k j : Nat} {x : Nat × Nat × Nat × Nat} (h : j ≠ k) : q_uu M k x j = M j := if_neg h
def q_top (st : q_K) : Nat := match st with
  | [] => 0
  | x :: _ => x.1
def q_lnd (M : q_M) (st : q_K) (s : Nat) : q_M := match st with
  | [] => M
  | x :: _ => q_up M x.2 (x.1, s)
def q_kd (x : Int32) : Nat := if x = 98 then 2 else if x = 99 then 3 else if x = 117 then 0 else if x = 118 then 1 else if x = 120 then 4 else 9
def q_op (x : Int32) : Nat := if x = 43 then 2 else if x = 45 then 3 else if x = 42 then 4 else if x = 47 then 5 else if x = 37 then 6 else 0
def q_cmp (x : Int32) : Nat := if x = 60 then 7 else if x = 62 then 8 else if x = 61 then 9 else 0
def q_let (x : Int32) : Nat := if x = 97 then 3 else if x = 100 then 1 else if x = 107 then 6 else if x = 108 then 5 else if x = 110 then 4 else if x = 112 then 2 else if x = 115 then 0 else if x = 116 then 7 else 9
def q_dg (x : Int32) : Bool := !decide (x < 48) && !decide ((57 : Int32) < x)
/-- up to f digits: the number, and where it ends -/
def q_acc (sg : Nat → Int32) : Nat → Nat → Nat → Nat × Nat
  | 0, p, v => (v, p)
  | f + 1, p, v => if q_dg (sg p) = true then q_acc sg f (p + 1) (10 * v + ((sg p).toNatClampNeg - 48)) else (v, p)
/-- how deep -/
def q_ct : q_K → Nat
  | [] => 0
  | x :: r => (if x.1 = 10 ∨ x.1 = 13 ∨ x.1 = 14 then 1 else 0) + q_ct r
def q_step (sg : Nat → Int32) (n : Nat) (S : q_S) : q_S ⊕ q_R := match S with
  | (0, p, s, M, _, _, nr, ru) => if q_kd (sg p) = 9 then .inr (.inl (u_flt 1 p)) else if nr = 16 then .inr (.inl (u_flt 4 p)) else .inl (if q_kd (sg p) = 4 then 5 else 1, p + 1, s, M, [], 0, nr, q_uu ru nr (q_kd (sg p), s, 0, 0))
  | (1, p, s, M, st, cx, nr, ru) => if sg p = 91 then (if q_ct st = 6 then .inr (.inl (u_flt 5 p)) else .inl (1, p + 1, s, M, (14, 0) :: st, cx, nr, ru)) else if q_dg (sg p) = true then (if q_dg (sg (q_acc sg 5 p 0).2) = true then .inr (.inl (u_flt 2 (q_acc sg 5 p 0).2)) else .inl (2, (q_acc sg 5 p 0).2, s + 1, q_up M s (0, (q_acc sg 5 p 0).1), st, cx, nr, ru)) else if q_let (sg p) = 9 then .inr (.inl (u_flt 1 p)) else .inl (2, p + 1, s + 1, q_up M s (1, q_let (sg p)), st, cx, nr, ru)
  | (2, p, s, M, st, cx, nr, ru) => if (4 ≤ q_top st ∧ q_top st ≤ 6) ∨ ((q_top st = 2 ∨ q_top st = 3) ∧ q_op (sg p) < 4) then .inl (2, p, s + 1, q_up M s (q_top st, 0), st.tail, cx, nr, ru) else if 2 ≤ q_op (sg p) then .inl (1, p + 1, s, M, (q_op (sg p), 0) :: st, cx, nr, ru) else if q_top st = 14 then (if sg p = 93 then .inl (2, p + 1, s, M, st.tail, cx, nr, ru) else .inr (.inl (u_flt 1 p))) else if cx = 0 then .inl (5, p, s, M, st, cx, nr, ru) else if cx = 1 then .inl (3, p, s, M, st, cx, nr, ru) else .inl (4, p, s + 1, q_up M s (cx, 0), st, cx, nr, ru)
  | (3, p, s, M, st, _, nr, ru) => if q_cmp (sg p) = 0 then .inr (.inl (u_flt 1 p)) else .inl (1, p + 1, s, M, st, q_cmp (sg p), nr, ru)
  | (4, p, s, M, st, cx, nr, ru) => if q_top st = 10 then .inl (4, p, s + 1, q_up M s (10, 0), st.tail, cx, nr, ru) else .inl (6, p, s, M, st, cx, nr, ru)
  | (5, p, s, M, _, cx, nr, ru) => if sg p = 40 then .inl (8, p + 1, s, M, [(13, 0)], cx, nr, q_uu ru nr ((ru nr).1, (ru nr).2.1, s, 0)) else .inr (.inl (u_flt 1 p))
  | (6, p, s, M, st, cx, nr, ru) => if sg p = 41 then (if q_top st = 11 ∨ q_top st = 12 then .inl (6, p, s, q_lnd M st s, st.tail, cx, nr, ru) else if st.tail = [] then .inl (7, p + 1, s, M, [], cx, nr, ru) else .inl (4, p + 1, s, M, st.tail, cx, nr, ru)) else if sg p = 38 then (if q_top st = 11 then .inl (6, p, s, q_lnd M st s, st.tail, cx, nr, ru) else .inl (8, p + 1, s + 1, q_up M s (11, 0), (11, s) :: st, cx, nr, ru)) else if sg p = 124 then (if q_top st = 11 ∨ q_top st = 12 then .inl (6, p, s, q_lnd M st s, st.tail, cx, nr, ru) else .inl (8, p + 1, s + 1, q_up M s (12, 0), (12, s) :: st, cx, nr, ru)) else .inr (.inl (u_flt 1 p))
  | (7, p, s, M, _, cx, nr, ru) => if sg p = 59 then .inl (0, p + 1, s, M, [], cx, nr + 1, q_uu ru nr ((ru nr).1, (ru nr).2.1, (ru nr).2.2.1, s)) else if p < n then .inr (.inl (u_flt 1 p)) else .inr (.inr (s, M, nr + 1, q_uu ru nr ((ru nr).1, (ru nr).2.1, (ru nr).2.2.1, s)))
  | (_, p, s, M, st, cx, nr, ru) => if sg p = 33 ∨ sg p = 40 then (if q_ct st = 6 then .inr (.inl (u_flt 5 p)) else .inl (8, p + 1, s, M, (if sg p = 33 then 10 else 13, 0) :: st, cx, nr, ru)) else .inl (1, p, s, M, st, 1, nr, ru)
def q_it (sg : Nat → Int32) (n : Nat) : Nat → q_S → q_S ⊕ q_R
  | 0, S => .inl S
  | j + 1, S => match q_step sg n S with
    | .inl S' => q_it sg n j S'
    | .inr r => .inr r
def q_to (sg : Nat → Int32) (n : Nat) (S S' : q_S) : Prop := ∃ j, q_it sg n j S = .inl S'
def q_end (sg : Nat → Int32) (n : Nat) (S : q_S) (r : q_R) : Prop := ∃ j, q_it sg n j S = .inr r
section QT
variable {sg : Nat → Int32} {n : Nat}
theorem q_it_s {j : Nat} {S : q_S} : q_it sg n (j + 1) S = (match q_step sg n S with
    | .inl S' => q_it sg n j S'
    | .inr r => .inr r) := rfl
theorem q_it_add : ∀ (j : Nat) (S S' : q_S) (k : Nat), q_it sg n j S = .inl S' → q_it sg n (j + k) S = q_it sg n k S' := by
  intro j
  induction j with
  | zero => intro S S' k h; cases h; rw [Nat.zero_add]
  | succ j ih =>
    intro S S' k h
    rw [show j + 1 + k = j + k + 1 by omega]
    rw [q_it_s] at h ⊢
    cases e : q_step sg n S with
    | inl S1 => rw [e] at h; exact ih S1 S' k h
    | inr r => rw [e] at h; cases h
theorem q_it_end : ∀ (j : Nat) (S : q_S) (r : q_R) (k : Nat), q_it sg n j S = .inr r → q_it sg n (j + k) S = .inr r := by
  intro j
  induction j with
  | zero => intro S r k h; cases h
  | succ j ih =>
    intro S r k h
    rw [show j + 1 + k = j + k + 1 by omega]
    rw [q_it_s] at h ⊢
    cases e : q_step sg n S with
    | inl S1 => rw [e] at h; exact ih S1 r k h
    | inr r' => rw [e] at h; exact h
theorem q_to_r {S : q_S} : q_to sg n S S := ⟨0, rfl⟩
theorem q_to_t {S S' S'' : q_S} (h : q_to sg n S S') (g : q_to sg n S' S'') : q_to sg n S S'' := by
  obtain ⟨j, hj⟩ := h
  obtain ⟨k, hk⟩ := g
  exact ⟨j + k, by rw [q_it_add j S S' k hj, hk]⟩
theorem q_to_e {S S' : q_S} {r : q_R} (h : q_to sg n S S') (g : q_end sg n S' r) : q_end sg n S r := by
  obtain ⟨j, hj⟩ := h
  obtain ⟨k, hk⟩ := g
  exact ⟨j + k, by rw [q_it_add j S S' k hj, hk]⟩
theorem q_end_det {S : q_S} {r r' : q_R} (h : q_end sg n S r) (g : q_end sg n S r') : r = r' := by
  obtain ⟨j, hj⟩ := h
  obtain ⟨k, hk⟩ := g
  have a := q_it_end j S r k hj
  have c := q_it_end k S r' j hk
  rw [show k + j = j + k by omega, a] at c
  cases c
  rfl
theorem q_to_s {S S' : q_S} (h : q_step sg n S = .inl S') : q_to sg n S S' := ⟨1, by unfold q_it; rw [h]; rfl⟩
theorem q_end_s {S : q_S} {r : q_R} (h : q_step sg n S = .inr r) : q_end sg n S r := ⟨1, by unfold q_it; rw [h]⟩
theorem q_to_ind {P : q_S → Prop} (hs : ∀ S S', P S → q_step sg n S = .inl S' → P S') : ∀ (j : Nat) (S S' : q_S), P S → q_it sg n j S = .inl S' → P S' := by
  intro j
  induction j with
  | zero => intro S S' h e; cases e; exact h
  | succ j ih =>
    intro S S' h e
    rw [q_it_s] at e
    cases c : q_step sg n S with
    | inl S1 => rw [c] at e; exact ih S1 S' (hs S S1 h c) e
    | inr r => rw [c] at e; cases e
end QT
