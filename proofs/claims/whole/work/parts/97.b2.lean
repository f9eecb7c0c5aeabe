/-! law: the steps, one by one; what stays true -/
section QS
variable {sg : Nat → Int32} {n p s : Nat} {M : q_M} {st : q_K} {cx nr : Nat} {ru : q_U}
theorem q_ph0 : q_step sg n (0, p, s, M, st, cx, nr, ru) = (if q_kd (sg p) = 9 then .inr (.inl (u_flt 1 p)) else if nr = 16 then .inr (.inl (u_flt 4 p)) else .inl (if q_kd (sg p) = 4 then 5 else 1, p + 1, s, M, [], 0, nr, q_uu ru nr (q_kd (sg p), s, 0, 0))) := rfl
theorem q_ph1 : q_step sg n (1, p, s, M, st, cx, nr, ru) = (if sg p = 91 then (if q_ct st = 6 then .inr (.inl (u_flt 5 p)) else .inl (1, p + 1, s, M, (14, 0) :: st, cx, nr, ru)) else if q_dg (sg p) = true then (if q_dg (sg (q_acc sg 5 p 0).2) = true then .inr (.inl (u_flt 2 (q_acc sg 5 p 0).2)) else .inl (2, (q_acc sg 5 p 0).2, s + 1, q_up M s (0, (q_acc sg 5 p 0).1), st, cx, nr, ru)) else if q_let (sg p) = 9 then .inr (.inl (u_flt 1 p)) else .inl (2, p + 1, s + 1, q_up M s (1, q_let (sg p)), st, cx, nr, ru)) := rfl
theorem q_ph2 : q_step sg n (2, p, s, M, st, cx, nr, ru) = (if (4 ≤ q_top st ∧ q_top st ≤ 6) ∨ ((q_top st = 2 ∨ q_top st = 3) ∧ q_op (sg p) < 4) then .inl (2, p, s + 1, q_up M s (q_top st, 0), st.tail, cx, nr, ru) else if 2 ≤ q_op (sg p) then .inl (1, p + 1, s, M, (q_op (sg p), 0) :: st, cx, nr, ru) else if q_top st = 14 then (if sg p = 93 then .inl (2, p + 1, s, M, st.tail, cx, nr, ru) else .inr (.inl (u_flt 1 p))) else if cx = 0 then .inl (5, p, s, M, st, cx, nr, ru) else if cx = 1 then .inl (3, p, s, M, st, cx, nr, ru) else .inl (4, p, s + 1, q_up M s (cx, 0), st, cx, nr, ru)) := rfl
theorem q_ph3 : q_step sg n (3, p, s, M, st, cx, nr, ru) = (if q_cmp (sg p) = 0 then .inr (.inl (u_flt 1 p)) else .inl (1, p + 1, s, M, st, q_cmp (sg p), nr, ru)) := rfl
theorem q_ph4 : q_step sg n (4, p, s, M, st, cx, nr, ru) = (if q_top st = 10 then .inl (4, p, s + 1, q_up M s (10, 0), st.tail, cx, nr, ru) else .inl (6, p, s, M, st, cx, nr, ru)) := rfl
theorem q_ph5 : q_step sg n (5, p, s, M, st, cx, nr, ru) = (if sg p = 40 then .inl (8, p + 1, s, M, [(13, 0)], cx, nr, q_uu ru nr ((ru nr).1, (ru nr).2.1, s, 0)) else .inr (.inl (u_flt 1 p))) := rfl
theorem q_ph6 : q_step sg n (6, p, s, M, st, cx, nr, ru) = (if sg p = 41 then (if q_top st = 11 ∨ q_top st = 12 then .inl (6, p, s, q_lnd M st s, st.tail, cx, nr, ru) else if st.tail = [] then .inl (7, p + 1, s, M, [], cx, nr, ru) else .inl (4, p + 1, s, M, st.tail, cx, nr, ru)) else if sg p = 38 then (if q_top st = 11 then .inl (6, p, s, q_lnd M st s, st.tail, cx, nr, ru) else .inl (8, p + 1, s + 1, q_up M s (11, 0), (11, s) :: st, cx, nr, ru)) else if sg p = 124 then (if q_top st = 11 ∨ q_top st = 12 then .inl (6, p, s, q_lnd M st s, st.tail, cx, nr, ru) else .inl (8, p + 1, s + 1, q_up M s (12, 0), (12, s) :: st, cx, nr, ru)) else .inr (.inl (u_flt 1 p))) := rfl
theorem q_ph7 : q_step sg n (7, p, s, M, st, cx, nr, ru) = (if sg p = 59 then .inl (0, p + 1, s, M, [], cx, nr + 1, q_uu ru nr ((ru nr).1, (ru nr).2.1, (ru nr).2.2.1, s)) else if p < n then .inr (.inl (u_flt 1 p)) else .inr (.inr (s, M, nr + 1, q_uu ru nr ((ru nr).1, (ru nr).2.1, (ru nr).2.2.1, s)))) := rfl
theorem q_ph8 : q_step sg n (8, p, s, M, st, cx, nr, ru) = (if sg p = 33 ∨ sg p = 40 then (if q_ct st = 6 then .inr (.inl (u_flt 5 p)) else .inl (8, p + 1, s, M, (if sg p = 33 then 10 else 13, 0) :: st, cx, nr, ru)) else .inl (1, p, s, M, st, 1, nr, ru)) := rfl
theorem q_dg_ok {x : Int32} (h : q_dg x = true) : ∃ v, 48 ≤ v ∧ v ≤ 57 ∧ x = nI v := by
  unfold q_dg at h
  simp at h
  have h0 : ¬ x < 0 := by
    intro q
    rw [Int32.le_iff_toInt_le] at h
    rw [Int32.lt_iff_toInt_lt] at q
    have e1 : (48 : Int32).toInt = 48 := rfl
    have e2 : (0 : Int32).toInt = 0 := rfl
    omega
  obtain ⟨v, hv, e⟩ := n_of (b := 57) (by decide) h0 (by rw [Int32.not_lt]; exact h.2)
  refine ⟨v, ?_, hv, e⟩
  rw [e] at h
  have := h.1
  rw [show (48 : Int32) = nI 48 from rfl, n_le (by decide) (by omega)] at this
  exact this
theorem q_dg_lt (hs : u_sg n sg) (h : q_dg (sg p) = true) : p < n := by
  obtain ⟨v, v1, v2, e⟩ := q_dg_ok h
  exact u_sg_lt hs e (by omega)
theorem q_acc_b (hs : u_sg n sg) : ∀ (f p v : Nat), p ≤ n → p ≤ (q_acc sg f p v).2 ∧ (q_acc sg f p v).2 ≤ n ∧ ∀ j, v + 1 ≤ 10 ^ j → (q_acc sg f p v).1 + 1 ≤ 10 ^ (j + f) := by
  intro f
  induction f with
  | zero => intro p v hp; exact ⟨Nat.le_refl p, hp, fun j hj => hj⟩
  | succ f ih =>
    intro p v hp
    unfold q_acc
    by_cases c : q_dg (sg p) = true
    · rw [if_pos c]
      obtain ⟨x, x1, x2, e⟩ := q_dg_ok c
      have pn := q_dg_lt hs c
      obtain ⟨a1, a2, a3⟩ := ih (p + 1) (10 * v + ((sg p).toNatClampNeg - 48)) (by omega)
      refine ⟨by omega, a2, fun j hj => ?_⟩
      have := a3 (j + 1) (by rw [e, nI_clamp (by omega), Nat.pow_succ]; omega)
      rw [show j + 1 + f = j + (f + 1) by omega] at this
      exact this
    · rw [if_neg c]
      refine ⟨Nat.le_refl p, hp, fun j hj => Nat.le_trans hj (Nat.pow_le_pow_right (by decide) (by omega))⟩
/-- the number read at a digit -/
theorem q_num_b (hs : u_sg n sg) (h : q_dg (sg p) = true) : p < (q_acc sg 5 p 0).2 ∧ (q_acc sg 5 p 0).2 ≤ n ∧ (q_acc sg 5 p 0).1 < 100000 := by
  have pn := q_dg_lt hs h
  obtain ⟨a1, a2, a3⟩ := q_acc_b hs 5 p 0 (by omega)
  refine ⟨?_, a2, ?_⟩
  · have e : q_acc sg 5 p 0 = q_acc sg 4 (p + 1) (10 * 0 + ((sg p).toNatClampNeg - 48)) := by
      rw [q_acc, if_pos h]
    rw [e]
    have := (q_acc_b hs 4 (p + 1) (10 * 0 + ((sg p).toNatClampNeg - 48)) (by omega)).1
    omega
  · have := a3 0 (by decide)
    have e : (10 : Nat) ^ (0 + 5) = 100000 := by decide
    omega
theorem q_kd_b {x : Int32} (h : ¬ q_kd x = 9) : q_kd x ≤ 4 ∧ ∃ v, v < 256 ∧ x = nI v := by
  unfold q_kd at h ⊢
  by_cases c1 : x = 98
  · rw [if_pos c1]; exact ⟨by decide, 98, by decide, c1⟩
  rw [if_neg c1] at h ⊢
  by_cases c2 : x = 99
  · rw [if_pos c2]; exact ⟨by decide, 99, by decide, c2⟩
  rw [if_neg c2] at h ⊢
  by_cases c3 : x = 117
  · rw [if_pos c3]; exact ⟨by decide, 117, by decide, c3⟩
  rw [if_neg c3] at h ⊢
  by_cases c4 : x = 118
  · rw [if_pos c4]; exact ⟨by decide, 118, by decide, c4⟩
  rw [if_neg c4] at h ⊢
  by_cases c5 : x = 120
  · rw [if_pos c5]; exact ⟨by decide, 120, by decide, c5⟩
  rw [if_neg c5] at h
  exact absurd rfl h
theorem q_op_b {x : Int32} (h : 2 ≤ q_op x) : q_op x ≤ 6 ∧ ∃ v, v < 256 ∧ x = nI v := by
  unfold q_op at h ⊢
  by_cases c1 : x = 43
  · rw [if_pos c1]; exact ⟨by decide, 43, by decide, c1⟩
  rw [if_neg c1] at h ⊢
  by_cases c2 : x = 45
  · rw [if_pos c2]; exact ⟨by decide, 45, by decide, c2⟩
  rw [if_neg c2] at h ⊢
  by_cases c3 : x = 42
  · rw [if_pos c3]; exact ⟨by decide, 42, by decide, c3⟩
  rw [if_neg c3] at h ⊢
  by_cases c4 : x = 47
  · rw [if_pos c4]; exact ⟨by decide, 47, by decide, c4⟩
  rw [if_neg c4] at h ⊢
  by_cases c5 : x = 37
  · rw [if_pos c5]; exact ⟨by decide, 37, by decide, c5⟩
  rw [if_neg c5] at h
  omega
theorem q_cmp_b {x : Int32} (h : ¬ q_cmp x = 0) : 7 ≤ q_cmp x ∧ q_cmp x ≤ 9 ∧ ∃ v, v < 256 ∧ x = nI v := by
  unfold q_cmp at h ⊢
  by_cases c1 : x = 60
  · rw [if_pos c1]; exact ⟨by decide, by decide, 60, by decide, c1⟩
  rw [if_neg c1] at h ⊢
  by_cases c2 : x = 62
  · rw [if_pos c2]; exact ⟨by decide, by decide, 62, by decide, c2⟩
  rw [if_neg c2] at h ⊢
  by_cases c3 : x = 61
  · rw [if_pos c3]; exact ⟨by decide, by decide, 61, by decide, c3⟩
  rw [if_neg c3] at h
  exact absurd rfl h
theorem q_let_b {x : Int32} (h : ¬ q_let x = 9) : q_let x ≤ 7 ∧ ∃ v, v < 256 ∧ x = nI v := by
  unfold q_let at h ⊢
  by_cases c1 : x = 97
  · rw [if_pos c1]; exact ⟨by decide, 97, by decide, c1⟩
  rw [if_neg c1] at h ⊢
  by_cases c2 : x = 100
  · rw [if_pos c2]; exact ⟨by decide, 100, by decide, c2⟩
  rw [if_neg c2] at h ⊢
  by_cases c3 : x = 107
  · rw [if_pos c3]; exact ⟨by decide, 107, by decide, c3⟩
  rw [if_neg c3] at h ⊢
  by_cases c4 : x = 108
  · rw [if_pos c4]; exact ⟨by decide, 108, by decide, c4⟩
  rw [if_neg c4] at h ⊢
  by_cases c5 : x = 110
  · rw [if_pos c5]; exact ⟨by decide, 110, by decide, c5⟩
  rw [if_neg c5] at h ⊢
  by_cases c6 : x = 112
  · rw [if_pos c6]; exact ⟨by decide, 112, by decide, c6⟩
  rw [if_neg c6] at h ⊢
  by_cases c7 : x = 115
  · rw [if_pos c7]; exact ⟨by decide, 115, by decide, c7⟩
  rw [if_neg c7] at h ⊢
  by_cases c8 : x = 116
  · rw [if_pos c8]; exact ⟨by decide, 116, by decide, c8⟩
  rw [if_neg c8] at h
  exact absurd rfl h
end QS
/-- signs of the stack that are said later -/
def q_pd : q_K → Nat
  | [] => 0
  | x :: r => (if (2 ≤ x.1 ∧ x.1 ≤ 6) ∨ x.1 = 10 then 1 else 0) + q_pd r
/-- the leaps of the stack -/
def q_lp (M : q_M) : Nat → q_K → Prop
  | _, [] => True
  | b, x :: r => if x.1 = 11 ∨ x.1 = 12 then x.2 < b ∧ M x.2 = (x.1, 0) ∧ q_lp M x.2 r else q_lp M b r
theorem q_lp_up {M : q_M} {y : Nat × Nat} {k : Nat} : ∀ {st : q_K} {b b' : Nat}, q_lp M b st → b ≤ k → b ≤ b' → q_lp (q_up M k y) b' st
  | [], _, _, _, _, _ => trivial
  | x :: r, b, b', h, hk, hb => by
    unfold q_lp at h ⊢
    by_cases c : x.1 = 11 ∨ x.1 = 12
    · rw [if_pos c] at h ⊢
      obtain ⟨h1, h2, h3⟩ := h
      exact ⟨by omega, by rw [q_up_o (by omega)]; exact h2, q_lp_up h3 (by omega) (Nat.le_refl _)⟩
    · rw [if_neg c] at h ⊢
      exact q_lp_up h hk hb
def q_inv (n : Nat) (S : q_S) : Prop := match S with
  | (ph, p, s, M, st, cx, nr, _) => s + q_pd st + (if 7 ≤ cx ∧ (ph = 1 ∨ ph = 2) then 1 else 0) ≤ p ∧ st.length ≤ p ∧ p ≤ n ∧ nr ≤ 16 ∧ (ph ≠ 0 → nr < 16) ∧ ph ≤ 8 ∧ (cx = 0 ∨ cx = 1 ∨ (7 ≤ cx ∧ cx ≤ 9)) ∧ q_lp M s st
