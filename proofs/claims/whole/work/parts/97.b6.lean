/-! law: the machine's steps by name; the class's numbers, factors, terms, sums -/
section QN
variable {sg : Nat → Int32} {n p s : Nat} {M : q_M} {st : q_K} {cx nr : Nat} {ru : q_U}
theorem q_s_push (h : ¬ ((4 ≤ q_top st ∧ q_top st ≤ 6) ∨ ((q_top st = 2 ∨ q_top st = 3) ∧ q_op (sg p) < 4))) (h2 : 2 ≤ q_op (sg p)) : q_step sg n (2, p, s, M, st, cx, nr, ru) = .inl (1, p + 1, s, M, (q_op (sg p), 0) :: st, cx, nr, ru) := by
  rw [q_ph2, if_neg h, if_pos h2]
theorem q_s_pop (h : (4 ≤ q_top st ∧ q_top st ≤ 6) ∨ ((q_top st = 2 ∨ q_top st = 3) ∧ q_op (sg p) < 4)) : q_step sg n (2, p, s, M, st, cx, nr, ru) = .inl (2, p, s + 1, q_up M s (q_top st, 0), st.tail, cx, nr, ru) := by
  rw [q_ph2, if_pos h]
theorem q_s_cl (h : q_top st = 14) (h0 : q_op (sg p) = 0) (h3 : sg p = 93) : q_step sg n (2, p, s, M, st, cx, nr, ru) = .inl (2, p + 1, s, M, st.tail, cx, nr, ru) := by
  rw [q_ph2, if_neg (by omega), if_neg (by omega), if_pos h, if_pos h3]
theorem q_e_cl (h : q_top st = 14) (h0 : q_op (sg p) = 0) (h3 : ¬ sg p = 93) : q_step sg n (2, p, s, M, st, cx, nr, ru) = .inr (.inl (u_flt 1 p)) := by
  rw [q_ph2, if_neg (by omega), if_neg (by omega), if_pos h, if_neg h3]
theorem q_s_cx (h : ¬ (2 ≤ q_top st ∧ q_top st ≤ 6)) (h4 : ¬ q_top st = 14) (h0 : q_op (sg p) = 0) : (cx = 0 → q_step sg n (2, p, s, M, st, cx, nr, ru) = .inl (5, p, s, M, st, cx, nr, ru)) ∧ (cx = 1 → q_step sg n (2, p, s, M, st, cx, nr, ru) = .inl (3, p, s, M, st, cx, nr, ru)) ∧ (7 ≤ cx → q_step sg n (2, p, s, M, st, cx, nr, ru) = .inl (4, p, s + 1, q_up M s (cx, 0), st, cx, nr, ru)) := by
  refine ⟨fun c => ?_, fun c => ?_, fun c => ?_⟩
  · rw [q_ph2, if_neg (by omega), if_neg (by omega), if_neg h4, if_pos c]
  · rw [q_ph2, if_neg (by omega), if_neg (by omega), if_neg h4, if_neg (by omega), if_pos c]
  · rw [q_ph2, if_neg (by omega), if_neg (by omega), if_neg h4, if_neg (by omega), if_neg (by omega)]
theorem q_inv_b {ph : Nat} (h : q_inv n (ph, p, s, M, st, cx, nr, ru)) : s + q_pd st ≤ p ∧ p ≤ n := by
  obtain ⟨h1, h2, h3, h4⟩ := h
  exact ⟨by omega, h3⟩
theorem q_op_v (x : Int32) : q_op x = 0 ∨ (2 ≤ q_op x ∧ q_op x ≤ 6 ∧ x = nI (l_op (q_op x))) := by
  unfold q_op
  by_cases c1 : x = 43
  · subst c1; right; decide +kernel
  rw [if_neg c1]
  by_cases c2 : x = 45
  · subst c2; right; decide +kernel
  rw [if_neg c2]
  by_cases c3 : x = 42
  · subst c3; right; decide +kernel
  rw [if_neg c3]
  by_cases c4 : x = 47
  · subst c4; right; decide +kernel
  rw [if_neg c4]
  by_cases c5 : x = 37
  · subst c5; right; decide +kernel
  rw [if_neg c5]
  exact Or.inl rfl
theorem q_dg_eq (x : Int32) : fX4_isDigit x = some (if q_dg x = true then 1 else 0) := by
  unfold fX4_isDigit q_dg
  by_cases c1 : x < 48
  · rw [if_pos c1]; simp [c1]
  · rw [if_neg c1]
    by_cases c2 : (57 : Int32) < x
    · rw [if_pos c2]; simp [c2]
    · rw [if_neg c2]; simp [c1, c2]
theorem q_let_eq (x : Int32) : fX4_letterOf x = some (if q_let x = 9 then -1 else nI (q_let x)) := by
  by_cases c97 : x = 97
  · subst c97; decide +kernel
  by_cases c98 : x = 98
  · subst c98; decide +kernel
  by_cases c99 : x = 99
  · subst c99; decide +kernel
  by_cases c100 : x = 100
  · subst c100; decide +kernel
  by_cases c101 : x = 101
  · subst c101; decide +kernel
  by_cases c102 : x = 102
  · subst c102; decide +kernel
  by_cases c103 : x = 103
  · subst c103; decide +kernel
  by_cases c104 : x = 104
  · subst c104; decide +kernel
  by_cases c105 : x = 105
  · subst c105; decide +kernel
  by_cases c106 : x = 106
  · subst c106; decide +kernel
  by_cases c107 : x = 107
  · subst c107; decide +kernel
  by_cases c108 : x = 108
  · subst c108; decide +kernel
  by_cases c109 : x = 109
  · subst c109; decide +kernel
  by_cases c110 : x = 110
  · subst c110; decide +kernel
  by_cases c111 : x = 111
  · subst c111; decide +kernel
  by_cases c112 : x = 112
  · subst c112; decide +kernel
  by_cases c113 : x = 113
  · subst c113; decide +kernel
  by_cases c114 : x = 114
  · subst c114; decide +kernel
  by_cases c115 : x = 115
  · subst c115; decide +kernel
  by_cases c116 : x = 116
  · subst c116; decide +kernel
  unfold fX4_letterOf q_let
  rw [if_neg c97, if_neg c98, if_neg c99, if_neg c100, if_neg c101, if_neg c102, if_neg c103, if_neg c104, if_neg c105, if_neg c106, if_neg c107, if_neg c108, if_neg c109, if_neg c110, if_neg c111, if_neg c112, if_neg c113, if_neg c114, if_neg c115, if_neg c116, if_neg c97, if_neg c100, if_neg c107, if_neg c108, if_neg c110, if_neg c112, if_neg c115, if_neg c116, if_pos rfl]
theorem q_kd_eq (x : Int32) : fX4_kindOf x = some (if q_kd x = 9 then -1 else nI (q_kd x)) := by
  by_cases c98 : x = 98
  · subst c98; decide +kernel
  by_cases c99 : x = 99
  · subst c99; decide +kernel
  by_cases c117 : x = 117
  · subst c117; decide +kernel
  by_cases c118 : x = 118
  · subst c118; decide +kernel
  by_cases c120 : x = 120
  · subst c120; decide +kernel
  unfold fX4_kindOf q_kd
  rw [if_neg c98, if_neg c99, if_neg c117, if_neg c118, if_neg c120, if_neg c98, if_neg c99, if_neg c117, if_neg c118, if_neg c120, if_pos rfl]
end QN
def w_G (I : z_He) (A n : Nat) (sg : Nat → Int32) (nr : Nat) (ru : q_U) (S0 : q_S) (J : z_He) (p s : Nat) (M : q_M) (b e e' : Nat) (res : Option (Int32 × z_He)) (Z : Nat → Nat → q_M → Prop) : Prop := (∃ J' p' s' M', res = some (1, J') ∧ p < p' ∧ p' ≤ n ∧ w_X I A J' p' s' M' nr ru ∧ (∀ k, k < s → M' k = M k ∧ J' (A + 2) k = J (A + 2) k) ∧ w_T b M' (J' (A + 2)) s s' e e' ∧ Z p' s' M') ∨ ∃ J' c q, res = some (0, J') ∧ w_F I A n J' (u_flt c q) ∧ 1 ≤ c ∧ c ≤ 5 ∧ q ≤ n ∧ q_end sg n S0 (.inl (u_flt c q))
section WN
variable {I J : z_He} {mu : Nat → Nat} {n p s : Nat} {M : q_M} {nr : Nat} {ru : q_U} {sg : Nat → Int32} {f : Int32}
theorem cl_passes (hP : r_P mu) (ht : w_tx I n sg) (h : w_X I (mu 10) J p s M nr ru) (hp : p ≤ n) (hs : s ≤ 240) (x : Int32) : (sg p = x → fX10_passes 1 x J (z_Rm mu) = some (1, z_u J 1 2 (nI (p + 1)))) ∧ (¬ sg p = x → ∃ J', fX10_passes 1 x J (z_Rm mu) = some (0, J') ∧ w_F I (mu 10) n J' (u_flt 1 p)) := by
  constructor
  · intro c
    unfold fX10_passes
    rw [z_g_t o1, cl_sg hP ht h (by omega), z_b_s, if_pos c, z_l_s, h.2.1, n_s1]
  · intro c
    obtain ⟨a1, a2⟩ := cl_flt (n := n) hP h (by omega) hs (c := 1) (q := p)
    refine ⟨_, ?_, a2⟩
    unfold fX10_passes
    rw [z_g_t o1, cl_sg hP ht h (by omega), z_b_s, if_neg c, h.2.1, show fX10_fails 1 (1 : Int32) = fX10_fails 1 (nI 1) from rfl, a1, z_b_s, z_g_t (Or.inl rfl)]
theorem cl_num0 (hP : r_P mu) (ht : w_tx I n sg) : ∀ (f p v j N : Nat) (J : z_He), j + f = 5 → w_X I (mu 10) J p s M nr ru → p ≤ n → f < N → ∃ J', z_lp (fX4_readNumber_b4 58 (z_Rm mu)) N (nI v, nI j, J) = some (nI (q_acc sg f p v).1, J') ∧ w_X I (mu 10) J' (q_acc sg f p v).2 s M nr ru ∧ J' (mu 10 + 2) = J (mu 10 + 2) := by
  intro f
  induction f with
  | zero =>
    intro p v j N J hj h hp hN
    obtain ⟨N, rfl⟩ : ∃ N', N = N' + 1 := ⟨N - 1, by omega⟩
    refine ⟨J, ?_, h, rfl⟩
    have : j = 5 := by omega
    subst this
    rfl
  | succ f ih =>
    intro p v j N J hj h hp hN
    obtain ⟨N, rfl⟩ : ∃ N', N = N' + 1 := ⟨N - 1, by omega⟩
    have j5 : ¬ (5 : Int32) ≤ nI j := nI_ge (show j < 5 by omega) (by decide)
    by_cases c : q_dg (sg p) = true
    · obtain ⟨x, x1, x2, e⟩ := q_dg_ok c
      have pn := q_dg_lt ht.1 c
      obtain ⟨a1, a2, a3⟩ := cl_pass hP h
      have eq : q_acc sg (f + 1) p v = q_acc sg f (p + 1) (10 * v + ((sg p).toNatClampNeg - 48)) := by
        rw [q_acc, if_pos c]
      obtain ⟨J', e1, e2, e3⟩ := ih (p + 1) (10 * v + ((sg p).toNatClampNeg - 48)) (j + 1) N _ (by omega) a2 (by omega) (by omega)
      rw [eq]
      refine ⟨J', ?_, e2, e3.trans a3⟩
      have nb : nI v * (10 : Int32) + sg p - (48 : Int32) = nI (10 * v + ((sg p).toNatClampNeg - 48)) := by
        rw [e, nI_clamp (by omega), show (10 : Int32) = nI 10 from rfl, n_mul, n_add, show (48 : Int32) = nI 48 from rfl, n_sub (by omega), show v * 10 + x - 48 = 10 * v + (x - 48) by omega]
      have eb : fX4_readNumber_b4 58 (z_Rm mu) (nI v, nI j, J) = some (.inl (nI (10 * v + ((sg p).toNatClampNeg - 48)), nI (j + 1), z_u J 1 2 (nI (p + 1)))) := by
        unfold fX4_readNumber_b4
        dsimp only
        rw [if_neg j5, show z_Rm mu 58 0 = 1 from rfl, z_g_t o1, cl_sg hP ht h (by omega), z_b_s, q_dg_eq, z_b_s, if_pos c, if_neg (show ¬ (1 : Int32) = 0 by decide), z_b_s, z_l_s, a1, z_b_s, z_l_s, n_s1, nb]
      unfold z_lp
      rw [eb]
      exact e1
    · have eq : q_acc sg (f + 1) p v = (v, p) := by
        rw [q_acc, if_neg c]
      rw [eq]
      refine ⟨J, ?_, h, rfl⟩
      have eb : fX4_readNumber_b4 58 (z_Rm mu) (nI v, nI j, J) = some (.inr (nI v, J)) := by
        unfold fX4_readNumber_b4
        dsimp only
        rw [if_neg j5, show z_Rm mu 58 0 = 1 from rfl, z_g_t o1, cl_sg hP ht h (by omega), z_b_s, q_dg_eq, z_b_s, if_neg c, if_pos rfl]
      unfold z_lp
      rw [eb]
def w_Z (sg : Nat → Int32) (n : Nat) (S0 : q_S) (st : q_K) (cx nr : Nat) (ru : q_U) (E : Int32 → Prop) : Nat → Nat → q_M → Prop := fun p' s' M' => q_to sg n S0 (2, p', s', M', st, cx, nr, ru) ∧ E (sg p')
def k_fac (I : z_He) (mu : Nat → Nat) (n : Nat) (sg : Nat → Int32) (k o : Nat) : Prop := ∀ (J : z_He) (p s : Nat) (M : q_M) (st : q_K) (cx nr : Nat) (ru : q_U) (e : Nat), w_X I (mu 10) J p s M nr ru → q_inv n (1, p, s, M, st, cx, nr, ru) → q_ct st = o → e ≤ 2 * o + 3 → w_G I (mu 10) n sg nr ru (1, p, s, M, st, cx, nr, ru) J p s M 6 e (e + 1) (z_fxA k 2 58 (nI o) J (z_Rm mu)) (w_Z sg n (1, p, s, M, st, cx, nr, ru) st cx nr ru (fun _ => True))
def k_term (I : z_He) (mu : Nat → Nat) (n : Nat) (sg : Nat → Int32) (k o : Nat) : Prop := ∀ (J : z_He) (p s : Nat) (M : q_M) (st : q_K) (cx nr : Nat) (ru : q_U) (e : Nat), w_X I (mu 10) J p s M nr ru → q_inv n (1, p, s, M, st, cx, nr, ru) → q_ct st = o → e ≤ 2 * o + 2 → ¬ (4 ≤ q_top st ∧ q_top st ≤ 6) → w_G I (mu 10) n sg nr ru (1, p, s, M, st, cx, nr, ru) J p s M 6 e (e + 1) (z_fxA k 1 58 (nI o) J (z_Rm mu)) (w_Z sg n (1, p, s, M, st, cx, nr, ru) st cx nr ru (fun x => q_op x < 4))
def k_sum (I : z_He) (mu : Nat → Nat) (n : Nat) (sg : Nat → Int32) (k o : Nat) : Prop := ∀ (J : z_He) (p s : Nat) (M : q_M) (st : q_K) (cx nr : Nat) (ru : q_U) (e : Nat), w_X I (mu 10) J p s M nr ru → q_inv n (1, p, s, M, st, cx, nr, ru) → q_ct st = o → e ≤ 2 * o + 1 → ¬ (2 ≤ q_top st ∧ q_top st ≤ 6) → w_G I (mu 10) n sg nr ru (1, p, s, M, st, cx, nr, ru) J p s M 6 e (e + 1) (z_fxA k 0 58 (nI o) J (z_Rm mu)) (w_Z sg n (1, p, s, M, st, cx, nr, ru) st cx nr ru (fun x => q_op x = 0))
theorem w_push (hP : r_P mu) (h : w_X I (mu 10) J p s M nr ru) (hs : s < 240) {a v e : Nat} (ha : (a = 0 ∧ v < 100000) ∨ (a = 1 ∧ v < 8)) (he : e < 20) : fX3_addStep (mu 10) (nI (l_op a)) (nI v) J (z_Rm mu) = some (w_put (mu 10) s (nI (l_op a)) (nI v) J) ∧ w_X I (mu 10) (w_put (mu 10) s (nI (l_op a)) (nI v) J) p (s + 1) (q_up M s (a, v)) nr ru ∧ (∀ k, k < s → q_up M s (a, v) k = M k ∧ w_put (mu 10) s (nI (l_op a)) (nI v) J (mu 10 + 2) k = J (mu 10 + 2) k) ∧ w_T 6 (q_up M s (a, v)) (w_put (mu 10) s (nI (l_op a)) (nI v) J (mu 10 + 2)) s (s + 1) e (e + 1) := by
  obtain ⟨a1, a2⟩ := cl_add hP h hs (x := nI (l_op a)) (y := nI v) (a := (a, v)) rfl
  obtain ⟨v1, v2⟩ := w_put_v (J := J) (s := s) (A := mu 10) (x := nI (l_op a)) (y := nI v)
  exact ⟨a1, a2, fun k hk => ⟨q_up_o (by omega), v2 k (by omega)⟩, w_T_push (a := a) (x := v) q_up_at v1 ha (by omega) he⟩
theorem k_f (hP : r_P mu) (hX : mu 12 = mu 10) (ht : w_tx I n sg) {k o : Nat} (ho : o ≤ 6) (hr : o < 6 → k_sum I mu n sg k (o + 1)) : k_fac I mu n sg (k + 1) o := by
  intro J p s M st cx nr ru e h hi hc he
  obtain ⟨b1, b2⟩ := q_inv_b hi
  have n240 := ht.2.1
  have e0 : z_fxA (k + 1) 2 58 (nI o) J (z_Rm mu) = fX4_readFactor (z_fxA k) 58 (nI o) J (z_Rm mu) := rfl
  rw [e0]
  unfold fX4_readFactor
  rw [z_g_t o584, (o58 hX).1, (o58 hX).2, z_g_t o1, cl_sg hP ht h (by omega), z_b_s]
  by_cases c91 : sg p = 91
  · have pn := q_lt (v := 91) ht.1 c91 (by decide)
    rw [if_pos c91]
    by_cases c6 : o < 6
    · have s1 : q_step sg n (1, p, s, M, st, cx, nr, ru) = .inl (1, p + 1, s, M, (14, 0) :: st, cx, nr, ru) := by
        rw [q_ph1, if_pos c91, if_neg (by omega)]
      obtain ⟨a1, a2, a3⟩ := cl_pass hP h
      have i1 := q_inv_step ht.1 _ _ hi s1
      rw [if_pos (show nI o < (6 : Int32) from nI_lt (b := 6) c6 (by decide)), a1, z_b_s, n_s1]
      rcases hr c6 _ (p + 1) s M ((14, 0) :: st) cx nr ru e a2 i1 (show (if (14 : Nat) = 10 ∨ (14 : Nat) = 13 ∨ (14 : Nat) = 14 then 1 else 0) + q_ct st = o + 1 by rw [if_pos (by decide)]; omega) (by omega) (show ¬ (2 ≤ 14 ∧ 14 ≤ 6) by decide) with ⟨J2, p2, s2, M2, g1, g2, g3, g4, g5, g6, g7, g8⟩ | ⟨J2, c, q, g1, g2, g3, g4, g5, g6⟩
      · have to := q_to_t (q_to_s s1) g7
        have i2 := q_inv_b (q_inv_to ht.1 hi to)
        obtain ⟨d1, d2⟩ := cl_passes hP ht g4 g3 (by omega) 93
        rw [g1, z_b_s, if_neg (show ¬ (1 : Int32) = 0 by decide)]
        by_cases c93 : sg p2 = 93
        · have pn2 := q_lt (v := 93) ht.1 c93 (by decide)
          obtain ⟨x1, x2, x3⟩ := cl_pass hP g4
          rw [d1 c93, z_b_s, if_neg (show ¬ (1 : Int32) = 0 by decide)]
          refine Or.inl ⟨_, p2 + 1, s2, M2, rfl, by omega, by omega, x2, fun j hj => ?_, ?_, q_to_t to (q_to_s (q_s_cl rfl g8 c93)), trivial⟩
          · dsimp only
            rw [x3, (g5 j hj).2, a3]; exact ⟨(g5 j hj).1, rfl⟩
          · dsimp only
            rw [x3]; exact g6
        · obtain ⟨J3, x1, x2⟩ := d2 c93
          rw [x1, z_b_s, if_pos rfl]
          exact Or.inr ⟨J3, 1, p2, rfl, x2, by decide, by decide, g3, q_to_e to (q_end_s (q_e_cl rfl g8 c93))⟩
      · rw [g1, z_b_s, if_pos rfl]
        exact Or.inr ⟨J2, c, q, rfl, g2, g3, g4, g5, q_to_e (q_to_s s1) g6⟩
    · obtain ⟨a1, a2⟩ := cl_flt (n := n) hP h (by omega) (by omega) (c := 5) (q := p)
      have o6 : o = 6 := by omega
      rw [if_neg (show ¬ nI o < (6 : Int32) by rw [o6]; decide), cl_place h, z_b_s, show fX10_fails 1 (5 : Int32) = fX10_fails 1 (nI 5) from rfl, a1, z_b_s, z_g_t (Or.inl rfl)]
      exact Or.inr ⟨_, 5, p, rfl, a2, by decide, by decide, by omega, q_end_s (by rw [q_ph1, if_pos c91, if_pos (by omega)])⟩
  · rw [if_neg c91, q_dg_eq, z_b_s]
    by_cases cd : q_dg (sg p) = true
    · have pn := q_dg_lt ht.1 cd
      obtain ⟨u1, u2, u3⟩ := q_num_b ht.1 cd
      obtain ⟨J2, d1, d2, d3⟩ := cl_num0 (s := s) (M := M) (nr := nr) (ru := ru) hP ht 5 p 0 0 300 J rfl h (by omega) (by decide)
      rw [if_pos cd, if_neg (show ¬ (1 : Int32) = 0 by decide)]
      unfold fX4_readNumber
      rw [z_g_t o584, show ((0 : Int32), (0 : Int32), J) = (nI 0, nI 0, J) from rfl, d1, z_b_s]
      unfold fX4_readNumber_j51
      dsimp only
      rw [(o58 hX).1, (o58 hX).2, z_g_t o1, cl_sg hP ht d2 (by omega), z_b_s, q_dg_eq, z_b_s]
      by_cases cd2 : q_dg (sg (q_acc sg 5 p 0).2) = true
      · obtain ⟨a1, a2⟩ := cl_flt (n := n) hP d2 (by omega) (by omega) (c := 2) (q := (q_acc sg 5 p 0).2)
        rw [if_pos cd2, if_neg (show ¬ (1 : Int32) = 0 by decide), cl_place d2, z_b_s, show fX10_fails 1 (2 : Int32) = fX10_fails 1 (nI 2) from rfl, a1, z_b_s, z_g_t (Or.inl rfl), z_b_s, z_g_t (Or.inl rfl)]
        exact Or.inr ⟨_, 2, _, rfl, a2, by decide, by decide, u2, q_end_s (by rw [q_ph1, if_neg c91, if_pos cd, if_pos cd2])⟩
      · obtain ⟨a1, a2, a3, a4⟩ := w_push (e := e) hP d2 (show s < 240 by omega) (a := 0) (v := (q_acc sg 5 p 0).1) (Or.inl ⟨rfl, u3⟩) (by omega)
        rw [if_neg cd2, if_pos rfl, z_g_t (o_sp hP).1, show fX3_addStep (mu 10) (0 : Int32) = fX3_addStep (mu 10) (nI (l_op 0)) from rfl, a1, z_b_s, z_b_s, z_g_t (Or.inr rfl)]
        refine Or.inl ⟨_, _, _, _, rfl, u1, u2, a2, fun j hj => ⟨(a3 j hj).1, ?_⟩, a4, q_to_s (by rw [q_ph1, if_neg c91, if_pos cd, if_neg cd2]), trivial⟩
        dsimp only
        rw [(a3 j hj).2, d3]
    · rw [if_neg cd, if_pos rfl, q_let_eq, z_b_s]
      by_cases cl : q_let (sg p) = 9
      · obtain ⟨a1, a2⟩ := cl_flt (n := n) hP h (by omega) (by omega) (c := 1) (q := p)
        rw [if_pos cl, if_pos rfl, cl_place h, z_b_s, show fX10_fails 1 (1 : Int32) = fX10_fails 1 (nI 1) from rfl, a1, z_b_s, z_g_t (Or.inl rfl)]
        exact Or.inr ⟨_, 1, p, rfl, a2, by decide, by decide, by omega, q_end_s (by rw [q_ph1, if_neg c91, if_neg cd, if_pos cl])⟩
      · obtain ⟨k1, v, v1, v2⟩ := q_let_b cl
        have pn := q_lt ht.1 v2 (by omega)
        obtain ⟨x1, x2, x3⟩ := cl_pass hP h
        obtain ⟨a1, a2, a3, a4⟩ := w_push (e := e) hP x2 (show s < 240 by omega) (a := 1) (v := q_let (sg p)) (Or.inr ⟨rfl, by omega⟩) (by omega)
        rw [if_neg cl, if_neg (n_m1 (by omega)), x1, z_b_s, z_g_t (o_sp hP).1, show fX3_addStep (mu 10) (1 : Int32) = fX3_addStep (mu 10) (nI (l_op 1)) from rfl, a1, z_b_s]
        refine Or.inl ⟨_, _, _, _, rfl, by omega, by omega, a2, fun j hj => ⟨(a3 j hj).1, ?_⟩, a4, q_to_s (by rw [q_ph1, if_neg c91, if_neg cd, if_neg cl]), trivial⟩
        rw [(a3 j hj).2, x3]
/-- one sign more: both sides are read, the sign is said -/
theorem w_bin {J2 : z_He} {p2 s0 s1 s2 e : Nat} {M1 M2 : q_M} {op : Nat} (hP : r_P mu) (h1 : w_T 6 M1 (J (mu 10 + 2)) s0 s1 e (e + 1)) (h2 : w_X I (mu 10) J2 p2 s2 M2 nr ru) (hs : s2 < 240) (h3 : ∀ k, k < s1 → M2 k = M1 k ∧ J2 (mu 10 + 2) k = J (mu 10 + 2) k) (h4 : w_T 6 M2 (J2 (mu 10 + 2)) s1 s2 (e + 1) (e + 2)) (ho : 2 ≤ op) (ho6 : op ≤ 6) (he : e ≤ 20) : fX3_addStep (mu 10) (nI (l_op op)) 0 J2 (z_Rm mu) = some (w_put (mu 10) s2 (nI (l_op op)) 0 J2) ∧ w_X I (mu 10) (w_put (mu 10) s2 (nI (l_op op)) 0 J2) p2 (s2 + 1) (q_up M2 s2 (op, 0)) nr ru ∧ (∀ k, k < s1 → q_up M2 s2 (op, 0) k = M1 k ∧ w_put (mu 10) s2 (nI (l_op op)) 0 J2 (mu 10 + 2) k = J (mu 10 + 2) k) ∧ w_T 6 (q_up M2 s2 (op, 0)) (w_put (mu 10) s2 (nI (l_op op)) 0 J2 (mu 10 + 2)) s0 (s2 + 1) e (e + 1) := by
  obtain ⟨a1, a2⟩ := cl_add hP h2 hs (x := nI (l_op op)) (y := 0) (a := (op, 0)) rfl
  obtain ⟨v1, v2⟩ := w_put_v (J := J2) (s := s2) (A := mu 10) (x := nI (l_op op)) (y := 0)
  have l1 := h1.1
  have l2 := h4.1
  have lo : ∀ k, k < s1 → q_up M2 s2 (op, 0) k = M1 k ∧ w_put (mu 10) s2 (nI (l_op op)) 0 J2 (mu 10 + 2) k = J (mu 10 + 2) k := fun k hk => ⟨by rw [q_up_o (by omega)]; exact (h3 k hk).1, by rw [v2 k (by omega)]; exact (h3 k hk).2⟩
  refine ⟨a1, a2, lo, ?_⟩
  refine w_T_g (w_T_c h1 (fun k _ hk => lo k hk)) (w_T_g (w_T_c h4 (fun k _ hk => ⟨q_up_o (by omega), v2 k (by omega)⟩)) (w_T_bin (e := e) q_up_at v1 ho ho6 (Nat.le_refl 6) (by omega)))
theorem cl_tb (rec : z_RT) (a : Nat) (z : Int32) (R : Nat → Nat → Nat) (x y : Int32) (j : Nat) (G : z_He) (hj : j < 240) : fX4_readTerm_b17 rec a z R (x, y, nI j, G) = if x = 0 then some (.inr (x, G)) else if 4 ≤ q_op y then fX4_readTerm_j47_17 rec a z y (nI j) G R else some (.inr (x, G)) := by
  unfold fX4_readTerm_b17
  dsimp only
  rw [if_neg (show ¬ (240 : Int32) ≤ nI j from nI_ge hj (by decide))]
  by_cases c0 : x = 0
  · rw [if_pos c0, if_pos c0]
  rw [if_neg c0, if_neg c0]
  by_cases c42 : y = 42
  · rw [if_pos c42, if_pos (by rw [c42]; decide)]
  rw [if_neg c42]
  by_cases c47 : y = 47
  · rw [if_pos c47, if_pos (by rw [c47]; decide)]
  rw [if_neg c47]
  by_cases c37 : y = 37
  · rw [if_pos c37, if_pos (by rw [c37]; decide)]
  rw [if_neg c37]
  rw [if_neg]
  intro z
  unfold q_op at z
  by_cases d43 : y = 43
  · rw [if_pos d43] at z; revert z; decide
  rw [if_neg d43] at z
  by_cases d45 : y = 45
  · rw [if_pos d45] at z; revert z; decide
  rw [if_neg d45] at z
  rw [if_neg c42] at z
  rw [if_neg c47] at z
  rw [if_neg c37] at z
  revert z; decide
def k_tl (I : z_He) (A n : Nat) (sg : Nat → Int32) (nr : Nat) (ru : q_U) (S0 : q_S) (st : q_K) (cx : Nat) (J : z_He) (p s : Nat) (M : q_M) (e : Nat) (t : Int32 × Int32 × Int32 × z_He) : Prop := ∃ j, t.2.2.1 = nI j ∧ j ≤ 240 ∧ ((∃ p' s' M', t.1 = 1 ∧ t.2.1 = sg p' ∧ p < p' ∧ j + 1 ≤ p' ∧ p' ≤ n ∧ w_X I A t.2.2.2 p' s' M' nr ru ∧ (∀ k, k < s → M' k = M k ∧ t.2.2.2 (A + 2) k = J (A + 2) k) ∧ w_T 6 M' (t.2.2.2 (A + 2)) s s' e (e + 1) ∧ q_to sg n S0 (2, p', s', M', st, cx, nr, ru) ∧ True) ∨ ∃ c q, t.1 = 0 ∧ w_F I A n t.2.2.2 (u_flt c q) ∧ 1 ≤ c ∧ c ≤ 5 ∧ q ≤ n ∧ q_end sg n S0 (.inl (u_flt c q)))
theorem k_t (hP : r_P mu) (hX : mu 12 = mu 10) (ht : w_tx I n sg) {k o : Nat} (ho : o ≤ 6) (hr : k_fac I mu n sg k o) : k_term I mu n sg (k + 1) o := by
  intro J p s M st cx nr ru e h hi hc he htop
  obtain ⟨b1, b2⟩ := q_inv_b hi
  have n240 := ht.2.1
  have e0 : z_fxA (k + 1) 1 58 (nI o) J (z_Rm mu) = fX4_readTerm (z_fxA k) 58 (nI o) J (z_Rm mu) := rfl
  rw [e0]
  unfold fX4_readTerm
  rw [z_g_t o584]
  generalize hS : ((1, p, s, M, st, cx, nr, ru) : q_S) = S0 at hi
  have loop : ∀ t, k_tl I (mu 10) n sg nr ru S0 st cx J p s M e t → ∃ x, z_lp (fX4_readTerm_b17 (z_fxA k) 58 (nI o) (z_Rm mu)) 300 t = some x ∧ (x.1 = 0 ∨ x.1 = 1) ∧ w_G I (mu 10) n sg nr ru S0 J p s M 6 e (e + 1) (some x) (w_Z sg n S0 st cx nr ru (fun x => q_op x < 4)) := by
    intro t hs
    refine lp_var (k_tl I (mu 10) n sg nr ru S0 st cx J p s M e) (fun x => (x.1 = 0 ∨ x.1 = 1) ∧ w_G I (mu 10) n sg nr ru S0 J p s M 6 e (e + 1) (some x) (w_Z sg n S0 st cx nr ru (fun x => q_op x < 4))) (fun t => 241 - t.2.2.1.toNatClampNeg) ?_ 300 t (by omega) hs
    intro t hs
    obtain ⟨a, b, d, G⟩ := t
    obtain ⟨j, hj, j240, hs⟩ := hs
    dsimp only at hj hs ⊢
    subst hj
    rcases hs with ⟨p', s', M', w1, w2, w3, w4, w5, w6, w7, w8, w9, w10⟩ | ⟨c, q, w1, w⟩
    · subst w1
      subst w2
      rw [cl_tb _ _ _ _ _ _ _ _ (by omega), if_neg (show ¬ (1 : Int32) = 0 by decide)]
      by_cases cg : 4 ≤ q_op (sg p')
      · have g2 : 2 ≤ q_op (sg p') ∧ q_op (sg p') ≤ 6 ∧ sg p' = nI (l_op (q_op (sg p'))) := by
          rcases q_op_v (sg p') with z | z
          · omega
          · exact z
        rw [if_pos cg]
        have pn := (q_op_b g2.1).2
        obtain ⟨v, v1, v2⟩ := pn
        have pn := q_lt ht.1 v2 (by omega)
        have i1 := q_inv_to ht.1 hi w9
        have st1 : q_step sg n (2, p', s', M', st, cx, nr, ru) = .inl (1, p' + 1, s', M', (q_op (sg p'), 0) :: st, cx, nr, ru) := q_s_push (by omega) g2.1
        have i2 := q_inv_step ht.1 _ _ i1 st1
        have to := q_to_t w9 (q_to_s st1)
        obtain ⟨x1, x2, x3⟩ := cl_pass hP w6
        unfold fX4_readTerm_j47_17
        rw [(o58 hX).1, (o58 hX).2, z_g_t o1, x1, z_b_s]
        rcases hr _ (p' + 1) s' M' ((q_op (sg p'), 0) :: st) cx nr ru (e + 1) x2 i2 (show (if q_op (sg p') = 10 ∨ q_op (sg p') = 13 ∨ q_op (sg p') = 14 then 1 else 0) + q_ct st = o by rw [if_neg (by omega)]; omega) (by omega)  with ⟨J2, p2, s2, M2, g1, g2', g3, g4, g5, g6, g7, g8⟩ | ⟨J2, c, q, g1, g2', g3, g4, g5, g6⟩
        · have to2 := q_to_t to g7
          have i3 := q_inv_b (q_inv_to ht.1 hi to2)
          have i3' : s2 + 1 ≤ p2 := by
            have e3 : q_pd ((q_op (sg p'), 0) :: st) = (if (2 ≤ q_op (sg p') ∧ q_op (sg p') ≤ 6) ∨ q_op (sg p') = 10 then 1 else 0) + q_pd st := rfl
            rw [if_pos (by omega)] at e3
            omega
          have st2 : q_step sg n (2, p2, s2, M2, (q_op (sg p'), 0) :: st, cx, nr, ru) = .inl (2, p2, s2 + 1, q_up M2 s2 (q_op (sg p'), 0), st, cx, nr, ru) := q_s_pop (st := (q_op (sg p'), 0) :: st) (show (4 ≤ q_op (sg p') ∧ q_op (sg p') ≤ 6) ∨ ((q_op (sg p') = 2 ∨ q_op (sg p') = 3) ∧ q_op (sg p2) < 4) by omega)
          rw [x3] at g5
          obtain ⟨y1, y2, y3, y4⟩ := w_bin (op := q_op (sg p')) hP w8 g4 (show s2 < 240 by omega) g5 g6 g2.1 g2.2.1 (by omega)
          have ey : fX3_addStep (mu 10) (sg p') 0 J2 (z_Rm mu) = some (w_put (mu 10) s2 (nI (l_op (q_op (sg p')))) 0 J2) := by
            rw [g2.2.2, ← g2.2.2]
            exact (congrArg (fun z => fX3_addStep (mu 10) z 0 J2 (z_Rm mu)) g2.2.2).trans y1
          rw [g1, z_b_s, z_g_t (o_sp hP).1, ey, z_b_s, cl_sg hP ht y2 (by omega), z_b_s, z_l_s, n_s1]
          refine Or.inl ⟨_, rfl, ⟨j + 1, rfl, by omega, Or.inl ⟨p2, s2 + 1, _, rfl, rfl, by omega, by omega, g3, y2, fun i hi => ?_, y4, q_to_t to2 (q_to_s st2), trivial⟩⟩, ?_⟩
          · have l8 := w8.1
            dsimp only
            rw [(y3 i (by omega)).1, (y3 i (by omega)).2]
            exact w7 i hi
          · dsimp only
            rw [nI_clamp (by omega), nI_clamp (by omega)]
            omega
        · obtain ⟨J3, y1, y2⟩ := cf_add hP g2' (x := sg p') (y := 0)
          obtain ⟨v, y3⟩ := cf_sg hP ht y2
          rw [g1, z_b_s, z_g_t (o_sp hP).1, y1, z_b_s, y3, z_b_s, z_l_s, n_s1]
          refine Or.inl ⟨_, rfl, ⟨j + 1, rfl, by omega, Or.inr ⟨c, q, rfl, y2, g3, g4, g5, q_to_e to g6⟩⟩, ?_⟩
          dsimp only
          rw [nI_clamp (by omega), nI_clamp (by omega)]
          omega
      · rw [if_neg cg]
        exact Or.inr ⟨_, rfl, Or.inr rfl, Or.inl ⟨G, p', s', M', rfl, w3, w5, w6, w7, w8, w9, (by omega)⟩⟩
    · subst w1
      by_cases j2 : j < 240
      · rw [cl_tb _ _ _ _ _ _ _ _ j2, if_pos rfl]
        exact Or.inr ⟨_, rfl, Or.inl rfl, Or.inr ⟨G, c, q, rfl, w⟩⟩
      · unfold fX4_readTerm_b17
        dsimp only
        rw [if_pos (show (240 : Int32) ≤ nI j from nI_le (a := 240) (by omega) (by omega))]
        exact Or.inr ⟨_, rfl, Or.inl rfl, Or.inr ⟨G, c, q, rfl, w⟩⟩
  have fin : ∀ (t : Int32 × Int32 × Int32 × z_He), k_tl I (mu 10) n sg nr ru S0 st cx J p s M e t → w_G I (mu 10) n sg nr ru S0 J p s M 6 e (e + 1) (z_b (z_lp (fX4_readTerm_b17 (z_fxA k) 58 (nI o) (z_Rm mu)) 300 t) (fun q15 => z_g (q15.1 = 0 ∨ q15.1 = 1) (some (q15.1, q15.2)))) (w_Z sg n S0 st cx nr ru (fun x => q_op x < 4)) := by
    intro t hs
    obtain ⟨x, f1, f2, f3⟩ := loop t hs
    rw [f1, z_b_s, z_g_t f2]
    exact f3
  rcases hr J p s M st cx nr ru e h (by rw [hS]; exact hi) hc (by omega)  with ⟨J2, p2, s2, M2, g1, g2, g3, g4, g5, g6, g7, g8⟩ | ⟨J2, c, q, g1, g2, g3, g4, g5, g6⟩
  · rw [hS] at g7
    rw [g1, z_b_s, (o58 hX).1, z_g_t o1, cl_sg hP ht g4 (by omega), z_b_s]
    exact fin _ ⟨0, rfl, by decide, Or.inl ⟨p2, s2, M2, rfl, rfl, g2, by omega, g3, g4, g5, g6, g7, trivial⟩⟩
  · rw [hS] at g6
    obtain ⟨v, y3⟩ := cf_sg hP ht g2
    rw [g1, z_b_s, (o58 hX).1, z_g_t o1, y3, z_b_s]
    exact fin _ ⟨0, rfl, by decide, Or.inr ⟨c, q, rfl, g2, g3, g4, g5, g6⟩⟩
theorem cl_sb (rec : z_RT) (a : Nat) (z : Int32) (R : Nat → Nat → Nat) (x y : Int32) (j : Nat) (G : z_He) (hj : j < 240) : fX4_readSum_b17 rec a z R (x, y, nI j, G) = if x = 0 then some (.inr (x, G)) else if (q_op y = 2 ∨ q_op y = 3) then fX4_readSum_j41_17 rec a z y (nI j) G R else some (.inr (x, G)) := by
  unfold fX4_readSum_b17
  dsimp only
  rw [if_neg (show ¬ (240 : Int32) ≤ nI j from nI_ge hj (by decide))]
  by_cases c0 : x = 0
  · rw [if_pos c0, if_pos c0]
  rw [if_neg c0, if_neg c0]
  by_cases c43 : y = 43
  · rw [if_pos c43, if_pos (by rw [c43]; decide)]
  rw [if_neg c43]
  by_cases c45 : y = 45
  · rw [if_pos c45, if_pos (by rw [c45]; decide)]
  rw [if_neg c45]
  rw [if_neg]
  intro z
  unfold q_op at z
  rw [if_neg c43] at z
  rw [if_neg c45] at z
  by_cases d42 : y = 42
  · rw [if_pos d42] at z; revert z; decide
  rw [if_neg d42] at z
  by_cases d47 : y = 47
  · rw [if_pos d47] at z; revert z; decide
  rw [if_neg d47] at z
  by_cases d37 : y = 37
  · rw [if_pos d37] at z; revert z; decide
  rw [if_neg d37] at z
  revert z; decide
def k_sl (I : z_He) (A n : Nat) (sg : Nat → Int32) (nr : Nat) (ru : q_U) (S0 : q_S) (st : q_K) (cx : Nat) (J : z_He) (p s : Nat) (M : q_M) (e : Nat) (t : Int32 × Int32 × Int32 × z_He) : Prop := ∃ j, t.2.2.1 = nI j ∧ j ≤ 240 ∧ ((∃ p' s' M', t.1 = 1 ∧ t.2.1 = sg p' ∧ p < p' ∧ j + 1 ≤ p' ∧ p' ≤ n ∧ w_X I A t.2.2.2 p' s' M' nr ru ∧ (∀ k, k < s → M' k = M k ∧ t.2.2.2 (A + 2) k = J (A + 2) k) ∧ w_T 6 M' (t.2.2.2 (A + 2)) s s' e (e + 1) ∧ q_to sg n S0 (2, p', s', M', st, cx, nr, ru) ∧ q_op (sg p') < 4) ∨ ∃ c q, t.1 = 0 ∧ w_F I A n t.2.2.2 (u_flt c q) ∧ 1 ≤ c ∧ c ≤ 5 ∧ q ≤ n ∧ q_end sg n S0 (.inl (u_flt c q)))
theorem k_s (hP : r_P mu) (hX : mu 12 = mu 10) (ht : w_tx I n sg) {k o : Nat} (ho : o ≤ 6) (hr : k_term I mu n sg k o) : k_sum I mu n sg (k + 1) o := by
  intro J p s M st cx nr ru e h hi hc he htop
  obtain ⟨b1, b2⟩ := q_inv_b hi
  have n240 := ht.2.1
  have e0 : z_fxA (k + 1) 0 58 (nI o) J (z_Rm mu) = fX4_readSum (z_fxA k) 58 (nI o) J (z_Rm mu) := rfl
  rw [e0]
  unfold fX4_readSum
  rw [z_g_t o584]
  generalize hS : ((1, p, s, M, st, cx, nr, ru) : q_S) = S0 at hi
  have loop : ∀ t, k_sl I (mu 10) n sg nr ru S0 st cx J p s M e t → ∃ x, z_lp (fX4_readSum_b17 (z_fxA k) 58 (nI o) (z_Rm mu)) 300 t = some x ∧ (x.1 = 0 ∨ x.1 = 1) ∧ w_G I (mu 10) n sg nr ru S0 J p s M 6 e (e + 1) (some x) (w_Z sg n S0 st cx nr ru (fun x => q_op x = 0)) := by
    intro t hs
    refine lp_var (k_sl I (mu 10) n sg nr ru S0 st cx J p s M e) (fun x => (x.1 = 0 ∨ x.1 = 1) ∧ w_G I (mu 10) n sg nr ru S0 J p s M 6 e (e + 1) (some x) (w_Z sg n S0 st cx nr ru (fun x => q_op x = 0))) (fun t => 241 - t.2.2.1.toNatClampNeg) ?_ 300 t (by omega) hs
    intro t hs
    obtain ⟨a, b, d, G⟩ := t
    obtain ⟨j, hj, j240, hs⟩ := hs
    dsimp only at hj hs ⊢
    subst hj
    rcases hs with ⟨p', s', M', w1, w2, w3, w4, w5, w6, w7, w8, w9, w10⟩ | ⟨c, q, w1, w⟩
    · subst w1
      subst w2
      rw [cl_sb _ _ _ _ _ _ _ _ (by omega), if_neg (show ¬ (1 : Int32) = 0 by decide)]
      by_cases cg : (q_op (sg p') = 2 ∨ q_op (sg p') = 3)
      · have g2 : 2 ≤ q_op (sg p') ∧ q_op (sg p') ≤ 6 ∧ sg p' = nI (l_op (q_op (sg p'))) := by
          rcases q_op_v (sg p') with z | z
          · omega
          · exact z
        rw [if_pos cg]
        have pn := (q_op_b g2.1).2
        obtain ⟨v, v1, v2⟩ := pn
        have pn := q_lt ht.1 v2 (by omega)
        have i1 := q_inv_to ht.1 hi w9
        have st1 : q_step sg n (2, p', s', M', st, cx, nr, ru) = .inl (1, p' + 1, s', M', (q_op (sg p'), 0) :: st, cx, nr, ru) := q_s_push (by omega) g2.1
        have i2 := q_inv_step ht.1 _ _ i1 st1
        have to := q_to_t w9 (q_to_s st1)
        obtain ⟨x1, x2, x3⟩ := cl_pass hP w6
        unfold fX4_readSum_j41_17
        rw [(o58 hX).1, (o58 hX).2, z_g_t o1, x1, z_b_s]
        rcases hr _ (p' + 1) s' M' ((q_op (sg p'), 0) :: st) cx nr ru (e + 1) x2 i2 (show (if q_op (sg p') = 10 ∨ q_op (sg p') = 13 ∨ q_op (sg p') = 14 then 1 else 0) + q_ct st = o by rw [if_neg (by omega)]; omega) (by omega) (show ¬ (4 ≤ q_op (sg p') ∧ q_op (sg p') ≤ 6) by omega) with ⟨J2, p2, s2, M2, g1, g2', g3, g4, g5, g6, g7, g8⟩ | ⟨J2, c, q, g1, g2', g3, g4, g5, g6⟩
        · have to2 := q_to_t to g7
          have i3 := q_inv_b (q_inv_to ht.1 hi to2)
          have i3' : s2 + 1 ≤ p2 := by
            have e3 : q_pd ((q_op (sg p'), 0) :: st) = (if (2 ≤ q_op (sg p') ∧ q_op (sg p') ≤ 6) ∨ q_op (sg p') = 10 then 1 else 0) + q_pd st := rfl
            rw [if_pos (by omega)] at e3
            omega
          have st2 : q_step sg n (2, p2, s2, M2, (q_op (sg p'), 0) :: st, cx, nr, ru) = .inl (2, p2, s2 + 1, q_up M2 s2 (q_op (sg p'), 0), st, cx, nr, ru) := q_s_pop (st := (q_op (sg p'), 0) :: st) (show (4 ≤ q_op (sg p') ∧ q_op (sg p') ≤ 6) ∨ ((q_op (sg p') = 2 ∨ q_op (sg p') = 3) ∧ q_op (sg p2) < 4) by omega)
          rw [x3] at g5
          obtain ⟨y1, y2, y3, y4⟩ := w_bin (op := q_op (sg p')) hP w8 g4 (show s2 < 240 by omega) g5 g6 g2.1 g2.2.1 (by omega)
          have ey : fX3_addStep (mu 10) (sg p') 0 J2 (z_Rm mu) = some (w_put (mu 10) s2 (nI (l_op (q_op (sg p')))) 0 J2) := by
            rw [g2.2.2, ← g2.2.2]
            exact (congrArg (fun z => fX3_addStep (mu 10) z 0 J2 (z_Rm mu)) g2.2.2).trans y1
          rw [g1, z_b_s, z_g_t (o_sp hP).1, ey, z_b_s, cl_sg hP ht y2 (by omega), z_b_s, z_l_s, n_s1]
          refine Or.inl ⟨_, rfl, ⟨j + 1, rfl, by omega, Or.inl ⟨p2, s2 + 1, _, rfl, rfl, by omega, by omega, g3, y2, fun i hi => ?_, y4, q_to_t to2 (q_to_s st2), g8⟩⟩, ?_⟩
          · have l8 := w8.1
            dsimp only
            rw [(y3 i (by omega)).1, (y3 i (by omega)).2]
            exact w7 i hi
          · dsimp only
            rw [nI_clamp (by omega), nI_clamp (by omega)]
            omega
        · obtain ⟨J3, y1, y2⟩ := cf_add hP g2' (x := sg p') (y := 0)
          obtain ⟨v, y3⟩ := cf_sg hP ht y2
          rw [g1, z_b_s, z_g_t (o_sp hP).1, y1, z_b_s, y3, z_b_s, z_l_s, n_s1]
          refine Or.inl ⟨_, rfl, ⟨j + 1, rfl, by omega, Or.inr ⟨c, q, rfl, y2, g3, g4, g5, q_to_e to g6⟩⟩, ?_⟩
          dsimp only
          rw [nI_clamp (by omega), nI_clamp (by omega)]
          omega
      · rw [if_neg cg]
        exact Or.inr ⟨_, rfl, Or.inr rfl, Or.inl ⟨G, p', s', M', rfl, w3, w5, w6, w7, w8, w9, (by rcases q_op_v (sg p') with z | z <;> omega)⟩⟩
    · subst w1
      by_cases j2 : j < 240
      · rw [cl_sb _ _ _ _ _ _ _ _ j2, if_pos rfl]
        exact Or.inr ⟨_, rfl, Or.inl rfl, Or.inr ⟨G, c, q, rfl, w⟩⟩
      · unfold fX4_readSum_b17
        dsimp only
        rw [if_pos (show (240 : Int32) ≤ nI j from nI_le (a := 240) (by omega) (by omega))]
        exact Or.inr ⟨_, rfl, Or.inl rfl, Or.inr ⟨G, c, q, rfl, w⟩⟩
  have fin : ∀ (t : Int32 × Int32 × Int32 × z_He), k_sl I (mu 10) n sg nr ru S0 st cx J p s M e t → w_G I (mu 10) n sg nr ru S0 J p s M 6 e (e + 1) (z_b (z_lp (fX4_readSum_b17 (z_fxA k) 58 (nI o) (z_Rm mu)) 300 t) (fun q15 => z_g (q15.1 = 0 ∨ q15.1 = 1) (some (q15.1, q15.2)))) (w_Z sg n S0 st cx nr ru (fun x => q_op x = 0)) := by
    intro t hs
    obtain ⟨x, f1, f2, f3⟩ := loop t hs
    rw [f1, z_b_s, z_g_t f2]
    exact f3
  rcases hr J p s M st cx nr ru e h (by rw [hS]; exact hi) hc (by omega) (by omega) with ⟨J2, p2, s2, M2, g1, g2, g3, g4, g5, g6, g7, g8⟩ | ⟨J2, c, q, g1, g2, g3, g4, g5, g6⟩
  · rw [hS] at g7
    rw [g1, z_b_s, (o58 hX).1, z_g_t o1, cl_sg hP ht g4 (by omega), z_b_s]
    exact fin _ ⟨0, rfl, by decide, Or.inl ⟨p2, s2, M2, rfl, rfl, g2, by omega, g3, g4, g5, g6, g7, g8⟩⟩
  · rw [hS] at g6
    obtain ⟨v, y3⟩ := cf_sg hP ht g2
    rw [g1, z_b_s, (o58 hX).1, z_g_t o1, y3, z_b_s]
    exact fin _ ⟨0, rfl, by decide, Or.inr ⟨c, q, rfl, g2, g3, g4, g5, g6⟩⟩
theorem k_sumA (hP : r_P mu) (hX : mu 12 = mu 10) (ht : w_tx I n sg) : ∀ (i o k : Nat), o + i = 6 → 3 * i + 3 ≤ k → k_sum I mu n sg k o := by
  intro i
  induction i with
  | zero =>
    intro o k ho hk
    obtain ⟨k, rfl⟩ : ∃ k', k = k' + 3 := ⟨k - 3, by omega⟩
    exact k_s hP hX ht (by omega) (k_t hP hX ht (by omega) (k_f hP hX ht (by omega) (fun q => by omega)))
  | succ i ih =>
    intro o k ho hk
    obtain ⟨k, rfl⟩ : ∃ k', k = k' + 3 := ⟨k - 3, by omega⟩
    exact k_s hP hX ht (by omega) (k_t hP hX ht (by omega) (k_f hP hX ht (by omega) (fun q => ih (o + 1) k (by omega) (by omega))))
end WN
