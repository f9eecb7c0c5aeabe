/-! law: what stays true from step to step -/
section QI
variable {sg : Nat → Int32} {n : Nat}
theorem q_lt (hs : u_sg n sg) {p v : Nat} (e : sg p = nI v) (hv : v < 2 ^ 31) : p < n := u_sg_lt hs e hv
theorem q_tl {st : q_K} {M : q_M} {s : Nat} (h : q_top st = 11 ∨ q_top st = 12) (hl : q_lp M s st) : q_lp (q_lnd M st s) s st.tail ∧ q_pd st.tail = q_pd st ∧ st.tail.length ≤ st.length := by
  cases st with
  | nil => simp [q_top] at h
  | cons x r =>
    unfold q_top at h
    unfold q_lp at hl
    dsimp only at h
    rw [if_pos h] at hl
    refine ⟨q_lp_up hl.2.2 (Nat.le_refl _) (by omega), ?_, by simp⟩
    show q_pd r = (if (2 ≤ x.1 ∧ x.1 ≤ 6) ∨ x.1 = 10 then 1 else 0) + q_pd r
    rw [if_neg (by omega)]
    omega
theorem q_pp {st : q_K} {M : q_M} {s : Nat} (h : (2 ≤ q_top st ∧ q_top st ≤ 6) ∨ q_top st = 10) (hl : q_lp M s st) : (∀ y, q_lp (q_up M s y) (s + 1) st.tail) ∧ q_pd st.tail + 1 = q_pd st ∧ st.tail.length ≤ st.length := by
  cases st with
  | nil => simp [q_top] at h
  | cons x r =>
    unfold q_top at h
    unfold q_lp at hl
    dsimp only at h
    rw [if_neg (by omega)] at hl
    refine ⟨fun y => q_lp_up hl (Nat.le_refl _) (by omega), ?_, by simp⟩
    show q_pd r + 1 = (if (2 ≤ x.1 ∧ x.1 ≤ 6) ∨ x.1 = 10 then 1 else 0) + q_pd r
    rw [if_pos h]
    omega
theorem q_po {st : q_K} {M : q_M} {s : Nat} (h : ¬ (q_top st = 11 ∨ q_top st = 12)) (hl : q_lp M s st) : q_lp M s st.tail ∧ q_pd st.tail ≤ q_pd st ∧ st.tail.length ≤ st.length := by
  cases st with
  | nil => exact ⟨trivial, Nat.le_refl _, Nat.le_refl _⟩
  | cons x r =>
    unfold q_top at h
    unfold q_lp at hl
    dsimp only at h
    rw [if_neg h] at hl
    refine ⟨hl, ?_, by simp⟩
    show q_pd r ≤ (if (2 ≤ x.1 ∧ x.1 ≤ 6) ∨ x.1 = 10 then 1 else 0) + q_pd r
    omega
theorem q_cx {cx ph a b : Nat} (h : a + (if 7 ≤ cx ∧ (ph = 1 ∨ ph = 2) then 1 else 0) ≤ b) : a ≤ b := by
  omega
theorem q_inv_step (hs : u_sg n sg) (S S' : q_S) (h : q_inv n S) (e : q_step sg n S = .inl S') : q_inv n S' := by
  obtain ⟨ph, p, s, M, st, cx, nr, ru⟩ := S
  obtain ⟨h1, h2, h3, h4, h5, h6, h7, h8⟩ := h
  have c9 : ph = 0 ∨ ph = 1 ∨ ph = 2 ∨ ph = 3 ∨ ph = 4 ∨ ph = 5 ∨ ph = 6 ∨ ph = 7 ∨ ph = 8 := by omega
  rcases c9 with rfl | rfl | rfl | rfl | rfl | rfl | rfl | rfl | rfl
  · rw [q_ph0] at e
    by_cases c1 : q_kd (sg p) = 9
    · rw [if_pos c1] at e; cases e
    rw [if_neg c1] at e
    by_cases c2 : nr = 16
    · rw [if_pos c2] at e; cases e
    rw [if_neg c2] at e
    cases e
    obtain ⟨k1, v, v1, v2⟩ := q_kd_b c1
    have := q_lt hs v2 (by omega)
    refine ⟨?_, by simp, by omega, by omega, fun _ => by omega, by split <;> omega, Or.inl rfl, trivial⟩
    rw [if_neg (by omega)]
    show s + 0 + 0 ≤ p + 1
    omega
  · rw [q_ph1] at e
    have hn := h5 (by decide)
    by_cases c1 : sg p = 91
    · rw [if_pos c1] at e
      by_cases c2 : q_ct st = 6
      · rw [if_pos c2] at e; cases e
      rw [if_neg c2] at e
      cases e
      have := q_lt (v := 91) hs c1 (by decide)
      refine ⟨?_, by simp; omega, by omega, h4, fun _ => hn, by decide, h7, ?_⟩
      · show s + (0 + q_pd st) + _ ≤ _
        omega
      · unfold q_lp
        rw [if_neg (by decide)]
        exact h8
    rw [if_neg c1] at e
    by_cases c2 : q_dg (sg p) = true
    · rw [if_pos c2] at e
      obtain ⟨b1, b2, b3⟩ := q_num_b hs c2
      by_cases c3 : q_dg (sg (q_acc sg 5 p 0).2) = true
      · rw [if_pos c3] at e; cases e
      rw [if_neg c3] at e
      cases e
      have e12 : (if 7 ≤ cx ∧ (1 = 1 ∨ 1 = 2) then 1 else 0) = (if 7 ≤ cx ∧ (2 = 1 ∨ 2 = 2) then 1 else 0) := by simp
      rw [e12] at h1
      refine ⟨by omega, by omega, by omega, h4, fun _ => hn, by decide, h7, q_lp_up h8 (Nat.le_refl s) (by omega)⟩
    rw [if_neg c2] at e
    by_cases c3 : q_let (sg p) = 9
    · rw [if_pos c3] at e; cases e
    rw [if_neg c3] at e
    cases e
    obtain ⟨k1, v, v1, v2⟩ := q_let_b c3
    have := q_lt hs v2 (by omega)
    have e12 : (if 7 ≤ cx ∧ (1 = 1 ∨ 1 = 2) then 1 else 0) = (if 7 ≤ cx ∧ (2 = 1 ∨ 2 = 2) then 1 else 0) := by simp
    rw [e12] at h1
    refine ⟨by omega, by omega, by omega, h4, fun _ => hn, by decide, h7, q_lp_up h8 (Nat.le_refl s) (by omega)⟩
  · rw [q_ph2] at e
    have hn := h5 (by decide)
    by_cases c1 : (4 ≤ q_top st ∧ q_top st ≤ 6) ∨ ((q_top st = 2 ∨ q_top st = 3) ∧ q_op (sg p) < 4)
    · rw [if_pos c1] at e
      cases e
      obtain ⟨a1, a2, a3⟩ := q_pp (by omega) h8
      exact ⟨by omega, by omega, h3, h4, fun _ => hn, by decide, h7, a1 _⟩
    rw [if_neg c1] at e
    by_cases c2 : 2 ≤ q_op (sg p)
    · rw [if_pos c2] at e
      cases e
      obtain ⟨k1, v, v1, v2⟩ := q_op_b c2
      have := q_lt hs v2 (by omega)
      have e12 : (if 7 ≤ cx ∧ (1 = 1 ∨ 1 = 2) then 1 else 0) = (if 7 ≤ cx ∧ (2 = 1 ∨ 2 = 2) then 1 else 0) := by simp
      refine ⟨?_, by simp; omega, by omega, h4, fun _ => hn, by decide, h7, ?_⟩
      · rw [e12]
        show s + ((if (2 ≤ q_op (sg p) ∧ q_op (sg p) ≤ 6) ∨ q_op (sg p) = 10 then 1 else 0) + q_pd st) + _ ≤ _
        rw [if_pos (by omega)]
        omega
      · unfold q_lp
        dsimp only
        rw [if_neg (by omega)]
        exact h8
    rw [if_neg c2] at e
    by_cases c3 : q_top st = 14
    · rw [if_pos c3] at e
      by_cases c4 : sg p = 93
      · rw [if_pos c4] at e
        cases e
        have := q_lt (v := 93) hs c4 (by decide)
        obtain ⟨a1, a2, a3⟩ := q_po (by omega) h8
        exact ⟨by omega, by omega, by omega, h4, fun _ => hn, by decide, h7, a1⟩
      · rw [if_neg c4] at e; cases e
    rw [if_neg c3] at e
    by_cases c4 : cx = 0
    · rw [if_pos c4] at e
      cases e
      exact ⟨by rw [if_neg (by omega)]; omega, h2, h3, h4, fun _ => hn, by decide, h7, h8⟩
    rw [if_neg c4] at e
    by_cases c5 : cx = 1
    · rw [if_pos c5] at e
      cases e
      exact ⟨by rw [if_neg (by omega)]; omega, h2, h3, h4, fun _ => hn, by decide, h7, h8⟩
    rw [if_neg c5] at e
    cases e
    rw [if_pos (by omega)] at h1
    exact ⟨by rw [if_neg (by omega)]; omega, h2, h3, h4, fun _ => hn, by decide, h7, q_lp_up h8 (Nat.le_refl s) (by omega)⟩
  · rw [q_ph3] at e
    have hn := h5 (by decide)
    by_cases c1 : q_cmp (sg p) = 0
    · rw [if_pos c1] at e; cases e
    rw [if_neg c1] at e
    cases e
    obtain ⟨k1, k2, v, v1, v2⟩ := q_cmp_b c1
    have := q_lt hs v2 (by omega)
    exact ⟨by split <;> omega, by omega, by omega, h4, fun _ => hn, by decide, Or.inr (Or.inr ⟨k1, k2⟩), h8⟩
  · rw [q_ph4] at e
    have hn := h5 (by decide)
    by_cases c1 : q_top st = 10
    · rw [if_pos c1] at e
      cases e
      obtain ⟨a1, a2, a3⟩ := q_pp (Or.inr c1) h8
      exact ⟨by omega, by omega, h3, h4, fun _ => hn, by decide, h7, a1 _⟩
    · rw [if_neg c1] at e
      cases e
      exact ⟨by rw [if_neg (by omega)]; omega, h2, h3, h4, fun _ => hn, by decide, h7, h8⟩
  · rw [q_ph5] at e
    have hn := h5 (by decide)
    by_cases c1 : sg p = 40
    · rw [if_pos c1] at e
      cases e
      have := q_lt (v := 40) hs c1 (by decide)
      refine ⟨?_, by simp, by omega, h4, fun _ => hn, by decide, h7, ?_⟩
      · rw [if_neg (by omega)]
        show s + 0 + 0 ≤ p + 1
        omega
      · unfold q_lp q_lp
        rw [if_neg (by decide)]
        trivial
    · rw [if_neg c1] at e; cases e
  · rw [q_ph6] at e
    have hn := h5 (by decide)
    rw [if_neg (by omega)] at h1
    have land : (q_top st = 11 ∨ q_top st = 12) → q_inv n (6, p, s, q_lnd M st s, st.tail, cx, nr, ru) := fun c => by
      obtain ⟨a1, a2, a3⟩ := q_tl c h8
      exact ⟨by rw [if_neg (by omega)]; omega, by omega, h3, h4, fun _ => hn, by decide, h7, a1⟩
    have jump : ∀ k, (k = 11 ∨ k = 12) → p < n → q_inv n (8, p + 1, s + 1, q_up M s (k, 0), (k, s) :: st, cx, nr, ru) := fun k hk pn => by
      refine ⟨?_, by simp; omega, by omega, h4, fun _ => hn, by decide, h7, ?_⟩
      · rw [if_neg (by omega)]
        show s + 1 + ((if (2 ≤ k ∧ k ≤ 6) ∨ k = 10 then 1 else 0) + q_pd st) + 0 ≤ p + 1
        rw [if_neg (by omega)]
        omega
      · unfold q_lp
        dsimp only
        rw [if_pos hk]
        exact ⟨by omega, q_up_at, q_lp_up h8 (Nat.le_refl s) (Nat.le_refl s)⟩
    by_cases c1 : sg p = 41
    · rw [if_pos c1] at e
      have pn := q_lt (v := 41) hs c1 (by decide)
      by_cases c2 : q_top st = 11 ∨ q_top st = 12
      · rw [if_pos c2] at e; cases e; exact land c2
      rw [if_neg c2] at e
      obtain ⟨a1, a2, a3⟩ := q_po c2 h8
      by_cases c3 : st.tail = []
      · rw [if_pos c3] at e
        cases e
        refine ⟨?_, by simp, by omega, h4, fun _ => hn, by decide, h7, trivial⟩
        rw [if_neg (by omega)]
        show s + 0 + 0 ≤ p + 1
        omega
      · rw [if_neg c3] at e
        cases e
        exact ⟨by rw [if_neg (by omega)]; omega, by omega, by omega, h4, fun _ => hn, by decide, h7, a1⟩
    rw [if_neg c1] at e
    by_cases c2 : sg p = 38
    · rw [if_pos c2] at e
      have pn := q_lt (v := 38) hs c2 (by decide)
      by_cases c3 : q_top st = 11
      · rw [if_pos c3] at e; cases e; exact land (Or.inl c3)
      · rw [if_neg c3] at e; cases e; exact jump 11 (Or.inl rfl) pn
    rw [if_neg c2] at e
    by_cases c3 : sg p = 124
    · rw [if_pos c3] at e
      have pn := q_lt (v := 124) hs c3 (by decide)
      by_cases c4 : q_top st = 11 ∨ q_top st = 12
      · rw [if_pos c4] at e; cases e; exact land c4
      · rw [if_neg c4] at e; cases e; exact jump 12 (Or.inr rfl) pn
    · rw [if_neg c3] at e; cases e
  · rw [q_ph7] at e
    have hn := h5 (by decide)
    by_cases c1 : sg p = 59
    · rw [if_pos c1] at e
      cases e
      have := q_lt (v := 59) hs c1 (by decide)
      refine ⟨?_, by simp, by omega, by omega, fun q => absurd rfl q, by decide, h7, trivial⟩
      rw [if_neg (by omega)]
      show s + 0 + 0 ≤ p + 1
      omega
    · rw [if_neg c1] at e
      by_cases c2 : p < n
      · rw [if_pos c2] at e; cases e
      · rw [if_neg c2] at e; cases e
  · rw [q_ph8] at e
    have hn := h5 (by decide)
    rw [if_neg (by omega)] at h1
    by_cases c1 : sg p = 33 ∨ sg p = 40
    · rw [if_pos c1] at e
      have pn : p < n := by
        rcases c1 with c1 | c1
        · exact q_lt (v := 33) hs c1 (by decide)
        · exact q_lt (v := 40) hs c1 (by decide)
      by_cases c2 : q_ct st = 6
      · rw [if_pos c2] at e; cases e
      rw [if_neg c2] at e
      cases e
      refine ⟨?_, by simp; omega, by omega, h4, fun _ => hn, by decide, h7, ?_⟩
      · rw [if_neg (show ¬ (7 ≤ cx ∧ (8 = 1 ∨ 8 = 2)) by omega)]
        have hb : ∀ y : Nat, (if (2 ≤ y ∧ y ≤ 6) ∨ y = 10 then 1 else 0) ≤ 1 := fun y => by split <;> omega
        have hb2 := hb (if sg p = 33 then 10 else 13)
        show s + ((if (2 ≤ (if sg p = 33 then 10 else 13) ∧ (if sg p = 33 then 10 else 13) ≤ 6) ∨ (if sg p = 33 then 10 else 13) = 10 then 1 else 0) + q_pd st) + 0 ≤ p + 1
        omega
      · unfold q_lp
        dsimp only
        rw [if_neg (by split <;> omega)]
        exact h8
    · rw [if_neg c1] at e
      cases e
      exact ⟨by rw [if_neg (by omega)]; omega, h2, h3, h4, fun _ => hn, by decide, Or.inr (Or.inl rfl), h8⟩
theorem q_inv_to (hs : u_sg n sg) {S S' : q_S} (h : q_inv n S) (e : q_to sg n S S') : q_inv n S' := by
  obtain ⟨j, hj⟩ := e
  exact q_to_ind (q_inv_step hs) j S S' h hj
end QI
