/-! law: the class's comparisons, tests, parts, choices -/
def q_sn (x : Int32) : Prop := x = 41 ∨ x = 38 ∨ x = 124
/-- behind a piece: the machine is there, or the sign is wrong -/
def q_at (sg : Nat → Int32) (n : Nat) (S0 : q_S) (p s : Nat) (M : q_M) (st : q_K) (cx nr : Nat) (ru : q_U) : Prop := (q_sn (sg p) → q_to sg n S0 (6, p, s, M, st, cx, nr, ru)) ∧ (¬ q_sn (sg p) → q_end sg n S0 (.inl (u_flt 1 p)))
section QA
variable {sg : Nat → Int32} {n p s : Nat} {M : q_M} {st : q_K} {cx nr : Nat} {ru : q_U} {S0 S1 : q_S}
theorem q_at_of (h : q_to sg n S0 (6, p, s, M, st, cx, nr, ru)) : q_at sg n S0 p s M st cx nr ru := by
  refine ⟨fun _ => h, fun c => q_to_e h (q_end_s ?_)⟩
  rw [q_ph6, if_neg (fun z => c (Or.inl z)), if_neg (fun z => c (Or.inr (Or.inl z))), if_neg (fun z => c (Or.inr (Or.inr z)))]
theorem q_at_t (h : q_to sg n S0 S1) (g : q_at sg n S1 p s M st cx nr ru) : q_at sg n S0 p s M st cx nr ru := ⟨fun c => q_to_t h (g.1 c), fun c => q_to_e h (g.2 c)⟩
theorem q_at_land {op k : Nat} (h : q_at sg n S0 p s M ((op, k) :: st) cx nr ru) (ho : op = 11 ∨ (op = 12 ∧ ¬ sg p = 38)) : q_at sg n S0 p s (q_up M k (op, s)) st cx nr ru := by
  refine ⟨fun c => q_to_t (h.1 c) (q_to_s ?_), h.2⟩
  have t : q_top ((op, k) :: st) = op := rfl
  rw [q_ph6]
  rcases c with c | c | c
  · rw [if_pos c, if_pos (by rw [t]; omega)]; rfl
  · rw [if_neg (by rw [c]; decide), if_pos c, if_pos (by rw [t]; rcases ho with q | q; exact q; exact absurd c q.2)]; rfl
  · rw [if_neg (by rw [c]; decide), if_neg (by rw [c]; decide), if_pos c, if_pos (by rw [t]; omega)]; rfl
theorem q_cmp_l (x : Int32) (h : ¬ q_cmp x = 0) : x = nI (l_op (q_cmp x)) ∧ (x = 60 ∨ x = 62 ∨ x = 61) := by
  unfold q_cmp at h ⊢
  by_cases c1 : x = 60
  · subst c1; exact ⟨by decide +kernel, Or.inl rfl⟩
  rw [if_neg c1] at h ⊢
  by_cases c2 : x = 62
  · subst c2; exact ⟨by decide +kernel, Or.inr (Or.inl rfl)⟩
  rw [if_neg c2] at h ⊢
  by_cases c3 : x = 61
  · subst c3; exact ⟨by decide +kernel, Or.inr (Or.inr rfl)⟩
  rw [if_neg c3] at h
  exact absurd rfl h
theorem q_cmp_n (x : Int32) (h : q_cmp x = 0) : ¬ x = 60 ∧ ¬ x = 62 ∧ ¬ x = 61 := by
  refine ⟨fun e => ?_, fun e => ?_, fun e => ?_⟩ <;> (rw [e] at h; revert h; decide)
theorem q_top_ne {st : q_K} (h : 10 ≤ q_top st) : ¬ st = [] := fun e => by
  rw [e] at h
  have : q_top [] = 0 := rfl
  omega
end QA
def w_ZT (sg : Nat → Int32) (n : Nat) (S0 : q_S) (st : q_K) (nr : Nat) (ru : q_U) : Nat → Nat → q_M → Prop := fun p' s' M' => ∃ cx', q_to sg n S0 (4, p', s', M', st, cx', nr, ru)
def w_ZP (sg : Nat → Int32) (n : Nat) (S0 : q_S) (st : q_K) (nr : Nat) (ru : q_U) (E : Int32 → Prop) : Nat → Nat → q_M → Prop := fun p' s' M' => E (sg p') ∧ s' ≤ p' ∧ ∃ cx', q_at sg n S0 p' s' M' st cx' nr ru
section WP
variable {I J : z_He} {mu : Nat → Nat} {n p s : Nat} {M : q_M} {nr : Nat} {ru : q_U} {sg : Nat → Int32} {f : Int32}
theorem cl_skip (hP : r_P mu) (h : J (mu 10) 2 = nI s) (hs : s < 240) {x y : Int32} : fX3_addSkip (mu 10) x y J (z_Rm mu) = some (nI s, w_put (mu 10) s x y J) := by
  unfold fX3_addSkip
  have e : w_put (mu 10) s x y J (mu 10) 2 = nI (s + 1) := by
    unfold w_put
    rw [z_u_at]
  rw [z_g_t (o_sp hP).1, cl_add0 hP h hs, z_b_s, e, nI_pred]
theorem k_cmp (hP : r_P mu) (hX : mu 12 = mu 10) (ht : w_tx I n sg) {o : Nat} (ho : o ≤ 6) {J : z_He} {p s : Nat} {M : q_M} {st : q_K} {nr : Nat} {ru : q_U} (h : w_X I (mu 10) J p s M nr ru) (hi : q_inv n (1, p, s, M, st, 1, nr, ru)) (hc : q_ct st = o) (htop : 10 ≤ q_top st ∧ q_top st ≤ 13) : w_G I (mu 10) n sg nr ru (1, p, s, M, st, 1, nr, ru) J p s M 12 0 100 (fX4_readComparison 58 (nI o) J (z_Rm mu)) (w_ZT sg n (1, p, s, M, st, 1, nr, ru) st nr ru) := by
  have n240 := ht.2.1
  have ks : k_sum I mu n sg 30 o := k_sumA hP hX ht (6 - o) o 30 (by omega) (by omega)
  unfold fX4_readComparison
  rw [z_g_t o584]
  rcases ks J p s M st 1 nr ru 0 h hi hc (by omega) (by omega) with ⟨J2, p2, s2, M2, g1, g2, g3, g4, g5, g6, g7, g8⟩ | ⟨J2, c, q, g1, g⟩
  · have i2 := q_inv_to ht.1 hi g7
    obtain ⟨b1, b2⟩ := q_inv_b i2
    have s3 : q_step sg n (2, p2, s2, M2, st, 1, nr, ru) = .inl (3, p2, s2, M2, st, 1, nr, ru) := (q_s_cx (by omega) (by omega) g8).2.1 rfl
    have to3 := q_to_t g7 (q_to_s s3)
    have i3 := q_inv_to ht.1 hi to3
    rw [g1, z_b_s, if_neg (show ¬ (1 : Int32) = 0 by decide), (o58 hX).1, z_g_t o1, cl_sg hP ht g4 (by omega), z_b_s]
    by_cases cc : q_cmp (sg p2) = 0
    · obtain ⟨d1, d2, d3⟩ := q_cmp_n _ cc
      obtain ⟨a1, a2⟩ := cl_flt (n := n) hP g4 (by omega) (by omega) (c := 1) (q := p2)
      rw [if_neg d1, if_neg d2, if_neg d3, cl_place g4, z_b_s, show fX10_fails 1 (1 : Int32) = fX10_fails 1 (nI 1) from rfl, a1, z_b_s, z_g_t (Or.inl rfl)]
      exact Or.inr ⟨_, 1, p2, rfl, a2, by decide, by decide, g3, q_to_e to3 (q_end_s (by rw [q_ph3, if_pos cc]))⟩
    · obtain ⟨d1, d2⟩ := q_cmp_l _ cc
      obtain ⟨k1, k2, v, v1, v2⟩ := q_cmp_b cc
      have pn := q_lt ht.1 v2 (by omega)
      have key : w_G I (mu 10) n sg nr ru (1, p, s, M, st, 1, nr, ru) J p s M 12 0 100 (fX4_readComparison_j52 58 (nI o) (sg p2) J2 (z_Rm mu)) (w_ZT sg n (1, p, s, M, st, 1, nr, ru) st nr ru) := by
        have s4 : q_step sg n (3, p2, s2, M2, st, 1, nr, ru) = .inl (1, p2 + 1, s2, M2, st, q_cmp (sg p2), nr, ru) := by rw [q_ph3, if_neg cc]
        have to4 := q_to_t to3 (q_to_s s4)
        have i4 := q_inv_step ht.1 _ _ i3 s4
        obtain ⟨x1, x2, x3⟩ := cl_pass hP g4
        unfold fX4_readComparison_j52
        rw [(o58 hX).1, (o58 hX).2, z_g_t o1, x1, z_b_s]
        rcases ks _ (p2 + 1) s2 M2 st (q_cmp (sg p2)) nr ru 1 x2 i4 hc (by omega) (by omega) with ⟨J3, p3, s3', M3, r1, r2, r3, r4, r5, r6, r7, r8⟩ | ⟨J3, c, q, r1, r2, r3, r4, r5, r6⟩
        · have to5 := q_to_t to4 r7
          have s5 : q_step sg n (2, p3, s3', M3, st, q_cmp (sg p2), nr, ru) = .inl (4, p3, s3' + 1, q_up M3 s3' (q_cmp (sg p2), 0), st, q_cmp (sg p2), nr, ru) := (q_s_cx (by omega) (by omega) r8).2.2 k1
          have to6 := q_to_t to5 (q_to_s s5)
          obtain ⟨b3, b4⟩ := q_inv_b (q_inv_to ht.1 hi to6)
          have l6 := g6.1
          have m6 := r6.1
          obtain ⟨a1, a2⟩ := cl_add hP r4 (show s3' < 240 by omega) (x := sg p2) (y := 0) (a := (q_cmp (sg p2), 0)) d1
          obtain ⟨v1, v2⟩ := w_put_v (J := J3) (s := s3') (A := mu 10) (x := sg p2) (y := 0)
          rw [r1, z_b_s, if_neg (show ¬ (1 : Int32) = 0 by decide), z_g_t (o_sp hP).1, a1, z_b_s]
          rw [x3] at r5
          refine Or.inl ⟨_, p3, s3' + 1, _, rfl, by omega, r3, a2, fun k hk => ⟨?_, ?_⟩, ?_, _, to6⟩
          · rw [q_up_o (by omega), (r5 k (by omega)).1, (g5 k hk).1]
          · rw [v2 k (by omega), (r5 k (by omega)).2, (g5 k hk).2]
          · refine w_T_g (w_T_le (w_T_c g6 (fun k _ hk => ⟨?_, ?_⟩)) (by decide)) (w_T_g (w_T_le (w_T_c r6 (fun k _ hk => ⟨?_, ?_⟩)) (by decide)) (w_T_cmp q_up_at v1 k1 k2 (by decide)))
            · rw [q_up_o (by omega), (r5 k hk).1]
            · rw [v2 k (by omega), (r5 k hk).2]
            · rw [q_up_o (by omega)]
            · rw [v2 k (by omega)]
        · rw [r1, z_b_s, if_pos rfl]
          exact Or.inr ⟨J3, c, q, rfl, r2, r3, r4, r5, q_to_e to4 r6⟩
      rcases d2 with e | e | e
      · rw [if_pos e]; exact key
      · rw [if_neg (by rw [e]; decide), if_pos e]; exact key
      · rw [if_neg (by rw [e]; decide), if_neg (by rw [e]; decide), if_pos e]; exact key
  · rw [g1, z_b_s, if_pos rfl]
    exact Or.inr ⟨J2, c, q, rfl, g⟩
def k_test (I : z_He) (mu : Nat → Nat) (n : Nat) (sg : Nat → Int32) (k o : Nat) : Prop := ∀ (J : z_He) (p s : Nat) (M : q_M) (st : q_K) (cx nr : Nat) (ru : q_U), w_X I (mu 10) J p s M nr ru → q_inv n (8, p, s, M, st, cx, nr, ru) → q_ct st = o → 10 ≤ q_top st ∧ q_top st ≤ 13 → w_G I (mu 10) n sg nr ru (8, p, s, M, st, cx, nr, ru) J p s M 12 0 100 (z_fxB k 2 58 (nI o) J (z_Rm mu)) (w_ZT sg n (8, p, s, M, st, cx, nr, ru) st nr ru)
def k_part (I : z_He) (mu : Nat → Nat) (n : Nat) (sg : Nat → Int32) (k o : Nat) : Prop := ∀ (J : z_He) (p s : Nat) (M : q_M) (st : q_K) (cx nr : Nat) (ru : q_U), w_X I (mu 10) J p s M nr ru → q_inv n (8, p, s, M, st, cx, nr, ru) → q_ct st = o → q_top st = 12 ∨ q_top st = 13 → w_G I (mu 10) n sg nr ru (8, p, s, M, st, cx, nr, ru) J p s M 12 0 100 (z_fxB k 1 58 (nI o) J (z_Rm mu)) (w_ZP sg n (8, p, s, M, st, cx, nr, ru) st nr ru (fun x => ¬ x = 38))
def k_cho (I : z_He) (mu : Nat → Nat) (n : Nat) (sg : Nat → Int32) (k o : Nat) : Prop := ∀ (J : z_He) (p s : Nat) (M : q_M) (st : q_K) (cx nr : Nat) (ru : q_U), w_X I (mu 10) J p s M nr ru → q_inv n (8, p, s, M, st, cx, nr, ru) → q_ct st = o → q_top st = 13 → w_G I (mu 10) n sg nr ru (8, p, s, M, st, cx, nr, ru) J p s M 12 0 100 (z_fxB k 0 58 (nI o) J (z_Rm mu)) (w_ZP sg n (8, p, s, M, st, cx, nr, ru) st nr ru (fun x => ¬ x = 38 ∧ ¬ x = 124))
theorem k_te (hP : r_P mu) (hX : mu 12 = mu 10) (ht : w_tx I n sg) {k o : Nat} (ho : o ≤ 6) (hr : o < 6 → k_test I mu n sg k (o + 1) ∧ k_cho I mu n sg k (o + 1)) : k_test I mu n sg (k + 1) o := by
  intro J p s M st cx nr ru h hi hc htop
  obtain ⟨b1, b2⟩ := q_inv_b hi
  have n240 := ht.2.1
  have e0 : z_fxB (k + 1) 2 58 (nI o) J (z_Rm mu) = fX4_readTest (z_fxB k) 58 (nI o) J (z_Rm mu) := rfl
  rw [e0]
  unfold fX4_readTest
  rw [z_g_t o584, (o58 hX).1, z_g_t o1, cl_sg hP ht h (by omega), z_b_s]
  have br : sg p = 33 ∨ sg p = 40 → w_G I (mu 10) n sg nr ru (8, p, s, M, st, cx, nr, ru) J p s M 12 0 100 (fX4_readTest_j26 (z_fxB k) 58 (nI o) (sg p) J (z_Rm mu)) (w_ZT sg n (8, p, s, M, st, cx, nr, ru) st nr ru) := by
    intro cs
    have pn : p < n := by
      rcases cs with cs | cs
      · exact q_lt (v := 33) ht.1 cs (by decide)
      · exact q_lt (v := 40) ht.1 cs (by decide)
    unfold fX4_readTest_j26
    rw [(o58 hX).1, (o58 hX).2]
    by_cases c6 : o < 6
    · obtain ⟨x1, x2, x3⟩ := cl_pass hP h
      rw [if_pos (show nI o < (6 : Int32) from nI_lt (b := 6) c6 (by decide)), z_g_t o1, x1, z_b_s, n_s1]
      have s1 : q_step sg n (8, p, s, M, st, cx, nr, ru) = .inl (8, p + 1, s, M, (if sg p = 33 then 10 else 13, 0) :: st, cx, nr, ru) := by
        rw [q_ph8, if_pos cs, if_neg (by omega)]
      by_cases c40 : sg p = 40
      · rw [if_neg (show ¬ sg p = 33 by rw [c40]; decide)] at s1
        have i1 := q_inv_step ht.1 _ _ hi s1
        rw [if_pos c40]
        rcases (hr c6).2 _ (p + 1) s M ((13, 0) :: st) cx nr ru x2 i1 (show (if (13 : Nat) = 10 ∨ (13 : Nat) = 13 ∨ (13 : Nat) = 14 then 1 else 0) + q_ct st = o + 1 by rw [if_pos (by decide)]; omega) rfl with ⟨J2, p2, s2, M2, g1, g2, g3, g4, g5, g6, g7, g8, cx2, g9⟩ | ⟨J2, c, q, g1, g2, g3, g4, g5, g6⟩
        · have at2 := q_at_t (q_to_s s1) g9
          obtain ⟨d1, d2⟩ := cl_passes hP ht g4 g3 (by omega) 41
          rw [g1, z_b_s, if_neg (show ¬ (1 : Int32) = 0 by decide)]
          by_cases c41 : sg p2 = 41
          · have pn2 := q_lt (v := 41) ht.1 c41 (by decide)
            obtain ⟨y1, y2, y3⟩ := cl_pass hP g4
            rw [d1 c41, z_b_s, if_neg (show ¬ (1 : Int32) = 0 by decide)]
            refine Or.inl ⟨_, p2 + 1, s2, M2, rfl, by omega, by omega, y2, fun j hj => ?_, ?_, cx2, q_to_t (at2.1 (Or.inl c41)) (q_to_s ?_)⟩
            · dsimp only
              rw [y3, (g5 j hj).2, x3]; exact ⟨(g5 j hj).1, rfl⟩
            · dsimp only
              rw [y3]; exact g6
            · rw [q_ph6, if_pos c41]
              exact (if_neg (show ¬ (13 = 11 ∨ 13 = 12) by decide)).trans (if_neg (q_top_ne htop.1))
          · obtain ⟨J3, y1, y2⟩ := d2 c41
            rw [y1, z_b_s, if_pos rfl]
            refine Or.inr ⟨J3, 1, p2, rfl, y2, by decide, by decide, g3, at2.2 (fun z => ?_)⟩
            rcases z with z | z | z
            · exact c41 z
            · exact g7.1 z
            · exact g7.2 z
        · rw [g1, z_b_s, if_pos rfl]
          exact Or.inr ⟨J2, c, q, rfl, g2, g3, g4, g5, q_to_e (q_to_s s1) g6⟩
      · have c33 : sg p = 33 := by
          rcases cs with q | q
          · exact q
          · exact absurd q c40
        rw [if_pos c33] at s1
        have i1 := q_inv_step ht.1 _ _ hi s1
        rw [if_neg c40]
        rcases (hr c6).1 _ (p + 1) s M ((10, 0) :: st) cx nr ru x2 i1 (show (if (10 : Nat) = 10 ∨ (10 : Nat) = 13 ∨ (10 : Nat) = 14 then 1 else 0) + q_ct st = o + 1 by rw [if_pos (by decide)]; omega) (show 10 ≤ 10 ∧ 10 ≤ 13 by decide) with ⟨J2, p2, s2, M2, g1, g2, g3, g4, g5, g6, cx2, g7⟩ | ⟨J2, c, q, g1, g2, g3, g4, g5, g6⟩
        · have to2 := q_to_t (q_to_s s1) g7
          have s3 : q_step sg n (4, p2, s2, M2, (10, 0) :: st, cx2, nr, ru) = .inl (4, p2, s2 + 1, q_up M2 s2 (10, 0), st, cx2, nr, ru) := by
            rw [q_ph4]
            exact if_pos rfl
          have to3 := q_to_t to2 (q_to_s s3)
          obtain ⟨b3, b4⟩ := q_inv_b (q_inv_to ht.1 hi to3)
          have l6 := g6.1
          obtain ⟨a1, a2⟩ := cl_add hP g4 (show s2 < 240 by omega) (x := 2) (y := 0) (a := (10, 0)) rfl
          obtain ⟨v1, v2⟩ := w_put_v (J := J2) (s := s2) (A := mu 10) (x := 2) (y := 0)
          rw [g1, z_b_s, if_neg (show ¬ (1 : Int32) = 0 by decide), z_g_t (o_sp hP).1, a1, z_b_s]
          refine Or.inl ⟨_, p2, s2 + 1, _, rfl, by omega, g3, a2, fun j hj => ⟨?_, ?_⟩, ?_, cx2, to3⟩
          · rw [q_up_o (by omega), (g5 j hj).1]
          · rw [v2 j (by omega), (g5 j hj).2, x3]
          · exact w_T_g (w_T_c g6 (fun j _ hj => ⟨q_up_o (by omega), v2 j (by omega)⟩)) (w_T_not q_up_at v1 (by decide))
        · rw [g1, z_b_s, if_pos rfl]
          exact Or.inr ⟨J2, c, q, rfl, g2, g3, g4, g5, q_to_e (q_to_s s1) g6⟩
    · obtain ⟨a1, a2⟩ := cl_flt (n := n) hP h (by omega) (by omega) (c := 5) (q := p)
      have o6 : o = 6 := by omega
      rw [if_neg (show ¬ nI o < (6 : Int32) by rw [o6]; decide), z_g_t o1, cl_place h, z_b_s, show fX10_fails 1 (5 : Int32) = fX10_fails 1 (nI 5) from rfl, a1, z_b_s, z_g_t (Or.inl rfl)]
      exact Or.inr ⟨_, 5, p, rfl, a2, by decide, by decide, by omega, q_end_s (by rw [q_ph8, if_pos cs, if_pos (by omega)])⟩
  by_cases c33 : sg p = 33
  · rw [if_pos c33]; exact br (Or.inl c33)
  rw [if_neg c33]
  by_cases c40 : sg p = 40
  · rw [if_pos c40]; exact br (Or.inr c40)
  rw [if_neg c40]
  have s1 : q_step sg n (8, p, s, M, st, cx, nr, ru) = .inl (1, p, s, M, st, 1, nr, ru) := by
    rw [q_ph8, if_neg (by rintro (q | q); exact c33 q; exact c40 q)]
  rcases k_cmp hP hX ht ho h (q_inv_step ht.1 _ _ hi s1) hc htop with ⟨J2, p2, s2, M2, g1, g2, g3, g4, g5, g6, cx2, g7⟩ | ⟨J2, c, q, g1, g2, g3, g4, g5, g6⟩
  · rw [g1, z_b_s, z_g_t (Or.inr rfl)]
    exact Or.inl ⟨J2, p2, s2, M2, rfl, g2, g3, g4, g5, g6, cx2, q_to_t (q_to_s s1) g7⟩
  · rw [g1, z_b_s, z_g_t (Or.inl rfl)]
    exact Or.inr ⟨J2, c, q, rfl, g2, g3, g4, g5, q_to_e (q_to_s s1) g6⟩
def k_pl (I : z_He) (A n : Nat) (sg : Nat → Int32) (nr : Nat) (ru : q_U) (S0 : q_S) (st : q_K) (J : z_He) (p s : Nat) (M : q_M) (t : Int32 × Int32 × Int32 × z_He) : Prop := ∃ j, t.2.2.1 = nI j ∧ j ≤ 240 ∧ ((∃ p' s' M' ks cx', t.1 = 1 ∧ t.2.1 = w_prev ks ∧ p < p' ∧ j + 1 ≤ p' ∧ p' ≤ n ∧ s' ≤ p' ∧ w_X I A t.2.2.2 p' s' M' nr ru ∧ (∀ k, k < s → M' k = M k ∧ t.2.2.2 (A + 2) k = J (A + 2) k) ∧ w_ch 11 M' (t.2.2.2 (A + 2)) s ks s' ∧ q_at sg n S0 p' s' M' st cx' nr ru ∧ True) ∨ ∃ c q, t.1 = 0 ∧ w_F I A n t.2.2.2 (u_flt c q) ∧ 1 ≤ c ∧ c ≤ 5 ∧ q ≤ n ∧ q_end sg n S0 (.inl (u_flt c q)))
theorem k_pa (hP : r_P mu) (hX : mu 12 = mu 10) (ht : w_tx I n sg) {k o : Nat} (ho : o ≤ 6) (hr : k_test I mu n sg k o) : k_part I mu n sg (k + 1) o := by
  intro J p s M st cx nr ru h hi hc htop
  obtain ⟨b1, b2⟩ := q_inv_b hi
  have n240 := ht.2.1
  have e0 : z_fxB (k + 1) 1 58 (nI o) J (z_Rm mu) = fX4_readPart (z_fxB k) 58 (nI o) J (z_Rm mu) := rfl
  rw [e0]
  unfold fX4_readPart
  rw [z_g_t o584]
  generalize hS : ((8, p, s, M, st, cx, nr, ru) : q_S) = S0 at hi
  have loop : ∀ t, k_pl I (mu 10) n sg nr ru S0 st J p s M t → ∃ x, z_lp (fX4_readPart_b11 (z_fxB k) 58 (nI o) (z_Rm mu)) 300 t = some x ∧ w_G I (mu 10) n sg nr ru S0 J p s M 12 0 100 (fX4_readPart_j64 (z_fxB k) 58 x.1 x.2.1 x.2.2 (z_Rm mu)) (w_ZP sg n S0 st nr ru (fun x => ¬ x = 38)) := by
    intro t hs
    refine lp_var (body := fX4_readPart_b11 (z_fxB k) 58 (nI o) (z_Rm mu)) (k_pl I (mu 10) n sg nr ru S0 st J p s M) (fun (x : Int32 × Int32 × z_He) => w_G I (mu 10) n sg nr ru S0 J p s M 12 0 100 (fX4_readPart_j64 (z_fxB k) 58 x.1 x.2.1 x.2.2 (z_Rm mu)) (w_ZP sg n S0 st nr ru (fun x => ¬ x = 38))) (fun t => 241 - t.2.2.1.toNatClampNeg) ?_ 300 t (by omega) hs
    intro t hs
    obtain ⟨a, b, d, G⟩ := t
    obtain ⟨j, hj, j240, hs⟩ := hs
    dsimp only at hj hs ⊢
    subst hj
    rcases hs with ⟨p', s', M', ks, cx', w1, w2, w3, w4, w5, w6, w7, w8, w9, w10, w11⟩ | ⟨c, q, w1, w2, w⟩
    · subst w1
      subst w2
      unfold fX4_readPart_b11
      dsimp only
      rw [if_neg (show ¬ (240 : Int32) ≤ nI j from nI_ge (show j < 240 by omega) (by decide)), if_neg (show ¬ (1 : Int32) = 0 by decide), (o58 hX).1, (o58 hX).2, z_g_t o1, cl_sg hP ht w7 (by omega), z_b_s]
      by_cases cg : sg p' = 38
      · have pn := q_lt (v := 38) ht.1 cg (by decide)
        have to6 := w10.1 ((fun z => Or.inr (Or.inl z)) cg)
        have i6 := q_inv_to ht.1 hi to6
        have st1 : q_step sg n (6, p', s', M', st, cx', nr, ru) = .inl (8, p' + 1, s' + 1, q_up M' s' (11, 0), (11, s') :: st, cx', nr, ru) := by
          rw [q_ph6, if_neg (by rw [cg]; decide), if_pos cg, if_neg (by omega)]
        have i2 := q_inv_step ht.1 _ _ i6 st1
        have to := q_to_t to6 (q_to_s st1)
        obtain ⟨x1, x2, x3⟩ := cl_pass hP w7
        have y2 := (cl_add hP x2 (show s' < 240 by omega) (x := 4) (y := w_prev ks) (a := (11, 0)) rfl).2
        obtain ⟨v1, v2⟩ := w_put_v (J := z_u G 1 2 (nI (p' + 1))) (s := s') (A := mu 10) (x := 4) (y := w_prev ks)
        rw [if_pos cg, x1, z_b_s, z_g_t (o_sp hP).1, cl_skip hP x2.2.2.2.1 (by omega), z_b_s]
        dsimp only
        rcases hr _ (p' + 1) (s' + 1) (q_up M' s' (11, 0)) ((11, s') :: st) cx' nr ru y2 i2 (show (if (11 : Nat) = 10 ∨ (11 : Nat) = 13 ∨ (11 : Nat) = 14 then 1 else 0) + q_ct st = o by rw [if_neg (by decide)]; omega) (show 10 ≤ 11 ∧ 11 ≤ 13 by decide) with ⟨J2, p2, s2, M2, g1, g2, g3, g4, g5, g6, cx2, g7⟩ | ⟨J2, c, q, g1, g2, g3, g4, g5, g6⟩
        · have to2 := q_to_t to g7
          have at2 := q_at_of (q_to_t to2 (q_to_s (show q_step sg n (4, p2, s2, M2, (11, s') :: st, cx2, nr, ru) = .inl (6, p2, s2, M2, (11, s') :: st, cx2, nr, ru) by rw [q_ph4]; exact if_neg (show ¬ 11 = 10 by decide))))
          have sle : s2 ≤ p2 := by
            have := q_inv_b (q_inv_to ht.1 hi to2)
            omega
          have l6 := g6.1
          have l9 := (w_ch_le w9).1
          rw [g1, z_b_s, z_l_s, n_s1]
          have mk : M2 s' = (11, 0) := by rw [(g5 s' (by omega)).1, q_up_at]
          have at3 := q_at_land (op := 11) (k := s') at2 (Or.inl rfl)
          have X3 : w_X I (mu 10) J2 p2 s2 (q_up M2 s' (11, s2)) nr ru := w_X_c g4 (fun i hi => by
            by_cases ci : i = s'
            · rw [ci, q_up_at, mk]
            · rw [q_up_o ci]) (fun _ _ => rfl)
          have lo : ∀ i, i < s' → q_up M2 s' (11, s2) i = M' i ∧ J2 (mu 10 + 2) i = G (mu 10 + 2) i := fun i hi => by
            refine ⟨?_, ?_⟩
            · rw [q_up_o (by omega), (g5 i (by omega)).1, q_up_o (by omega)]
            · rw [(g5 i (by omega)).2, v2 i (by omega), x3]
          refine Or.inl ⟨_, rfl, ⟨j + 1, rfl, by omega, Or.inl ⟨p2, s2, q_up M2 s' (11, s2), s' :: ks, cx2, rfl, rfl, by omega, by omega, g3, sle, X3, fun i hi => ?_, ⟨by omega, q_up_at, ?_, ?_, ?_⟩, at3, trivial⟩⟩, ?_⟩
          · dsimp only
            rw [(lo i (by omega)).1, (lo i (by omega)).2]
            exact w8 i hi
          · dsimp only
            rw [(g5 s' (by omega)).2, v1]
          · exact w_T_c g6 (fun i i1 i2 => ⟨q_up_o (by omega), rfl⟩)
          · exact w_ch_c w9 (fun i i1 i2 => lo i i2)
          · dsimp only
            rw [nI_clamp (by omega), nI_clamp (by omega)]
            omega
        · rw [g1, z_b_s, z_l_s, n_s1]
          refine Or.inl ⟨_, rfl, ⟨j + 1, rfl, by omega, Or.inr ⟨c, q, rfl, g2, g3, g4, g5, q_to_e to g6⟩⟩, ?_⟩
          dsimp only
          rw [nI_clamp (by omega), nI_clamp (by omega)]
          omega
      · rw [if_neg cg]
        refine Or.inr ⟨_, rfl, ?_⟩
        dsimp only
        obtain ⟨J2, y1, y2, y3, y4⟩ := cl_land hP w7 (by omega) (w_ch_lk w9)
        unfold fX4_readPart_j64
        rw [(o58 hX).2, z_g_t (o_sp hP).1, y1, z_b_s, z_g_t (Or.inr rfl)]
        have l9 := (w_ch_le w9).2
        refine Or.inl ⟨J2, p', s', M', rfl, w3, w5, y2, fun i hi => ⟨(w8 i hi).1, ?_⟩, ?_, cg, w6, cx', w10⟩
        · rw [y4 i (fun q => by have := l9 i q; omega)]
          exact (w8 i hi).2
        · exact w_fin (Or.inl rfl) (by omega) w9 y3 (fun i _ _ i3 => y4 i i3)
    · subst w1
      have ex : fX4_readPart_b11 (z_fxB k) 58 (nI o) (z_Rm mu) (0, b, nI j, G) = some (.inr (0, b, G)) := by
        unfold fX4_readPart_b11
        dsimp only
        by_cases j2 : (240 : Int32) ≤ nI j
        · rw [if_pos j2]
        · rw [if_neg j2, if_pos rfl]
      rw [ex]
      refine Or.inr ⟨_, rfl, ?_⟩
      dsimp only
      obtain ⟨J2, y1, y2⟩ := cf_land hP w2 (x := b)
      unfold fX4_readPart_j64
      rw [(o58 hX).2, z_g_t (o_sp hP).1, y1, z_b_s, z_g_t (Or.inl rfl)]
      exact Or.inr ⟨J2, c, q, rfl, y2, w⟩
  have fin : ∀ (t : Int32 × Int32 × Int32 × z_He), k_pl I (mu 10) n sg nr ru S0 st J p s M t → w_G I (mu 10) n sg nr ru S0 J p s M 12 0 100 (z_b (z_lp (fX4_readPart_b11 (z_fxB k) 58 (nI o) (z_Rm mu)) 300 t) (fun q12 => fX4_readPart_j64 (z_fxB k) 58 q12.1 q12.2.1 q12.2.2 (z_Rm mu))) (w_ZP sg n S0 st nr ru (fun x => ¬ x = 38)) := by
    intro t hs
    obtain ⟨x, f1, f3⟩ := loop t hs
    rw [f1, z_b_s]
    exact f3
  have hi0 := hi
  rw [← hS] at hi0
  rcases hr J p s M st cx nr ru h hi0 hc (by omega) with ⟨J2, p2, s2, M2, g1, g2, g3, g4, g5, g6, cx2, g7⟩ | ⟨J2, c, q, g1, g2, g3, g4, g5, g6⟩
  · rw [hS] at g7
    have at2 := q_at_of (q_to_t g7 (q_to_s (show q_step sg n (4, p2, s2, M2, st, cx2, nr, ru) = .inl (6, p2, s2, M2, st, cx2, nr, ru) by rw [q_ph4, if_neg (by omega)])))
    have sle : s2 ≤ p2 := by
      have := q_inv_b (q_inv_to ht.1 hi g7)
      omega
    rw [g1, z_b_s]
    exact fin _ ⟨0, rfl, by decide, Or.inl ⟨p2, s2, M2, [], cx2, rfl, rfl, g2, by omega, g3, sle, g4, g5, g6, at2, trivial⟩⟩
  · rw [hS] at g6
    rw [g1, z_b_s]
    exact fin _ ⟨0, rfl, by decide, Or.inr ⟨c, q, rfl, g2, g3, g4, g5, g6⟩⟩
def k_cl (I : z_He) (A n : Nat) (sg : Nat → Int32) (nr : Nat) (ru : q_U) (S0 : q_S) (st : q_K) (J : z_He) (p s : Nat) (M : q_M) (t : Int32 × Int32 × Int32 × z_He) : Prop := ∃ j, t.2.2.1 = nI j ∧ j ≤ 240 ∧ ((∃ p' s' M' ks cx', t.1 = 1 ∧ t.2.1 = w_prev ks ∧ p < p' ∧ j + 1 ≤ p' ∧ p' ≤ n ∧ s' ≤ p' ∧ w_X I A t.2.2.2 p' s' M' nr ru ∧ (∀ k, k < s → M' k = M k ∧ t.2.2.2 (A + 2) k = J (A + 2) k) ∧ w_ch 12 M' (t.2.2.2 (A + 2)) s ks s' ∧ q_at sg n S0 p' s' M' st cx' nr ru ∧ ¬ sg p' = 38) ∨ ∃ c q, t.1 = 0 ∧ w_F I A n t.2.2.2 (u_flt c q) ∧ 1 ≤ c ∧ c ≤ 5 ∧ q ≤ n ∧ q_end sg n S0 (.inl (u_flt c q)))
theorem k_ch (hP : r_P mu) (hX : mu 12 = mu 10) (ht : w_tx I n sg) {k o : Nat} (ho : o ≤ 6) (hr : k_part I mu n sg k o) : k_cho I mu n sg (k + 1) o := by
  intro J p s M st cx nr ru h hi hc htop
  obtain ⟨b1, b2⟩ := q_inv_b hi
  have n240 := ht.2.1
  have e0 : z_fxB (k + 1) 0 58 (nI o) J (z_Rm mu) = fX4_readChoice (z_fxB k) 58 (nI o) J (z_Rm mu) := rfl
  rw [e0]
  unfold fX4_readChoice
  rw [z_g_t o584]
  generalize hS : ((8, p, s, M, st, cx, nr, ru) : q_S) = S0 at hi
  have loop : ∀ t, k_cl I (mu 10) n sg nr ru S0 st J p s M t → ∃ x, z_lp (fX4_readChoice_b11 (z_fxB k) 58 (nI o) (z_Rm mu)) 300 t = some x ∧ w_G I (mu 10) n sg nr ru S0 J p s M 12 0 100 (fX4_readChoice_j64 (z_fxB k) 58 x.1 x.2.1 x.2.2 (z_Rm mu)) (w_ZP sg n S0 st nr ru (fun x => ¬ x = 38 ∧ ¬ x = 124)) := by
    intro t hs
    refine lp_var (body := fX4_readChoice_b11 (z_fxB k) 58 (nI o) (z_Rm mu)) (k_cl I (mu 10) n sg nr ru S0 st J p s M) (fun (x : Int32 × Int32 × z_He) => w_G I (mu 10) n sg nr ru S0 J p s M 12 0 100 (fX4_readChoice_j64 (z_fxB k) 58 x.1 x.2.1 x.2.2 (z_Rm mu)) (w_ZP sg n S0 st nr ru (fun x => ¬ x = 38 ∧ ¬ x = 124))) (fun t => 241 - t.2.2.1.toNatClampNeg) ?_ 300 t (by omega) hs
    intro t hs
    obtain ⟨a, b, d, G⟩ := t
    obtain ⟨j, hj, j240, hs⟩ := hs
    dsimp only at hj hs ⊢
    subst hj
    rcases hs with ⟨p', s', M', ks, cx', w1, w2, w3, w4, w5, w6, w7, w8, w9, w10, w11⟩ | ⟨c, q, w1, w2, w⟩
    · subst w1
      subst w2
      unfold fX4_readChoice_b11
      dsimp only
      rw [if_neg (show ¬ (240 : Int32) ≤ nI j from nI_ge (show j < 240 by omega) (by decide)), if_neg (show ¬ (1 : Int32) = 0 by decide), (o58 hX).1, (o58 hX).2, z_g_t o1, cl_sg hP ht w7 (by omega), z_b_s]
      by_cases cg : sg p' = 124
      · have pn := q_lt (v := 124) ht.1 cg (by decide)
        have to6 := w10.1 ((fun z => Or.inr (Or.inr z)) cg)
        have i6 := q_inv_to ht.1 hi to6
        have st1 : q_step sg n (6, p', s', M', st, cx', nr, ru) = .inl (8, p' + 1, s' + 1, q_up M' s' (12, 0), (12, s') :: st, cx', nr, ru) := by
          rw [q_ph6, if_neg (by rw [cg]; decide), if_neg (by rw [cg]; decide), if_pos cg, if_neg (by omega)]
        have i2 := q_inv_step ht.1 _ _ i6 st1
        have to := q_to_t to6 (q_to_s st1)
        obtain ⟨x1, x2, x3⟩ := cl_pass hP w7
        have y2 := (cl_add hP x2 (show s' < 240 by omega) (x := 3) (y := w_prev ks) (a := (12, 0)) rfl).2
        obtain ⟨v1, v2⟩ := w_put_v (J := z_u G 1 2 (nI (p' + 1))) (s := s') (A := mu 10) (x := 3) (y := w_prev ks)
        rw [if_pos cg, x1, z_b_s, z_g_t (o_sp hP).1, cl_skip hP x2.2.2.2.1 (by omega), z_b_s]
        dsimp only
        rcases hr _ (p' + 1) (s' + 1) (q_up M' s' (12, 0)) ((12, s') :: st) cx' nr ru y2 i2 (show (if (12 : Nat) = 10 ∨ (12 : Nat) = 13 ∨ (12 : Nat) = 14 then 1 else 0) + q_ct st = o by rw [if_neg (by decide)]; omega) (Or.inl rfl) with ⟨J2, p2, s2, M2, g1, g2, g3, g4, g5, g6, g7, g8, cx2, g9⟩ | ⟨J2, c, q, g1, g2, g3, g4, g5, g6⟩
        · have at2 := q_at_t to g9
          have sle : s2 ≤ p2 := g8
          have l6 := g6.1
          have l9 := (w_ch_le w9).1
          rw [g1, z_b_s, z_l_s, n_s1]
          have mk : M2 s' = (12, 0) := by rw [(g5 s' (by omega)).1, q_up_at]
          have at3 := q_at_land (op := 12) (k := s') at2 (Or.inr ⟨rfl, g7⟩)
          have X3 : w_X I (mu 10) J2 p2 s2 (q_up M2 s' (12, s2)) nr ru := w_X_c g4 (fun i hi => by
            by_cases ci : i = s'
            · rw [ci, q_up_at, mk]
            · rw [q_up_o ci]) (fun _ _ => rfl)
          have lo : ∀ i, i < s' → q_up M2 s' (12, s2) i = M' i ∧ J2 (mu 10 + 2) i = G (mu 10 + 2) i := fun i hi => by
            refine ⟨?_, ?_⟩
            · rw [q_up_o (by omega), (g5 i (by omega)).1, q_up_o (by omega)]
            · rw [(g5 i (by omega)).2, v2 i (by omega), x3]
          refine Or.inl ⟨_, rfl, ⟨j + 1, rfl, by omega, Or.inl ⟨p2, s2, q_up M2 s' (12, s2), s' :: ks, cx2, rfl, rfl, by omega, by omega, g3, sle, X3, fun i hi => ?_, ⟨by omega, q_up_at, ?_, ?_, ?_⟩, at3, g7⟩⟩, ?_⟩
          · dsimp only
            rw [(lo i (by omega)).1, (lo i (by omega)).2]
            exact w8 i hi
          · dsimp only
            rw [(g5 s' (by omega)).2, v1]
          · exact w_T_c g6 (fun i i1 i2 => ⟨q_up_o (by omega), rfl⟩)
          · exact w_ch_c w9 (fun i i1 i2 => lo i i2)
          · dsimp only
            rw [nI_clamp (by omega), nI_clamp (by omega)]
            omega
        · rw [g1, z_b_s, z_l_s, n_s1]
          refine Or.inl ⟨_, rfl, ⟨j + 1, rfl, by omega, Or.inr ⟨c, q, rfl, g2, g3, g4, g5, q_to_e to g6⟩⟩, ?_⟩
          dsimp only
          rw [nI_clamp (by omega), nI_clamp (by omega)]
          omega
      · rw [if_neg cg]
        refine Or.inr ⟨_, rfl, ?_⟩
        dsimp only
        obtain ⟨J2, y1, y2, y3, y4⟩ := cl_land hP w7 (by omega) (w_ch_lk w9)
        unfold fX4_readChoice_j64
        rw [(o58 hX).2, z_g_t (o_sp hP).1, y1, z_b_s, z_g_t (Or.inr rfl)]
        have l9 := (w_ch_le w9).2
        refine Or.inl ⟨J2, p', s', M', rfl, w3, w5, y2, fun i hi => ⟨(w8 i hi).1, ?_⟩, ?_, ⟨w11, cg⟩, w6, cx', w10⟩
        · rw [y4 i (fun q => by have := l9 i q; omega)]
          exact (w8 i hi).2
        · exact w_fin (Or.inr rfl) (by omega) w9 y3 (fun i _ _ i3 => y4 i i3)
    · subst w1
      have ex : fX4_readChoice_b11 (z_fxB k) 58 (nI o) (z_Rm mu) (0, b, nI j, G) = some (.inr (0, b, G)) := by
        unfold fX4_readChoice_b11
        dsimp only
        by_cases j2 : (240 : Int32) ≤ nI j
        · rw [if_pos j2]
        · rw [if_neg j2, if_pos rfl]
      rw [ex]
      refine Or.inr ⟨_, rfl, ?_⟩
      dsimp only
      obtain ⟨J2, y1, y2⟩ := cf_land hP w2 (x := b)
      unfold fX4_readChoice_j64
      rw [(o58 hX).2, z_g_t (o_sp hP).1, y1, z_b_s, z_g_t (Or.inl rfl)]
      exact Or.inr ⟨J2, c, q, rfl, y2, w⟩
  have fin : ∀ (t : Int32 × Int32 × Int32 × z_He), k_cl I (mu 10) n sg nr ru S0 st J p s M t → w_G I (mu 10) n sg nr ru S0 J p s M 12 0 100 (z_b (z_lp (fX4_readChoice_b11 (z_fxB k) 58 (nI o) (z_Rm mu)) 300 t) (fun q12 => fX4_readChoice_j64 (z_fxB k) 58 q12.1 q12.2.1 q12.2.2 (z_Rm mu))) (w_ZP sg n S0 st nr ru (fun x => ¬ x = 38 ∧ ¬ x = 124)) := by
    intro t hs
    obtain ⟨x, f1, f3⟩ := loop t hs
    rw [f1, z_b_s]
    exact f3
  have hi0 := hi
  rw [← hS] at hi0
  rcases hr J p s M st cx nr ru h hi0 hc (by omega) with ⟨J2, p2, s2, M2, g1, g2, g3, g4, g5, g6, g7, g8, cx2, g9⟩ | ⟨J2, c, q, g1, g2, g3, g4, g5, g6⟩
  · rw [hS] at g9
    have at2 := g9
    have sle : s2 ≤ p2 := g8
    rw [g1, z_b_s]
    exact fin _ ⟨0, rfl, by decide, Or.inl ⟨p2, s2, M2, [], cx2, rfl, rfl, g2, by omega, g3, sle, g4, g5, g6, at2, g7⟩⟩
  · rw [hS] at g6
    rw [g1, z_b_s]
    exact fin _ ⟨0, rfl, by decide, Or.inr ⟨c, q, rfl, g2, g3, g4, g5, g6⟩⟩
theorem k_choA (hP : r_P mu) (hX : mu 12 = mu 10) (ht : w_tx I n sg) : ∀ (i o k : Nat), o + i = 6 → 3 * i + 3 ≤ k → k_cho I mu n sg k o ∧ k_test I mu n sg (k - 2) o := by
  intro i
  induction i with
  | zero =>
    intro o k ho hk
    obtain ⟨k, rfl⟩ : ∃ k', k = k' + 3 := ⟨k - 3, by omega⟩
    have t := k_te (k := k) hP hX ht (show o ≤ 6 by omega) (fun q => by omega)
    refine ⟨k_ch hP hX ht (by omega) (k_pa hP hX ht (by omega) t), ?_⟩
    rw [show k + 3 - 2 = k + 1 by omega]
    exact t
  | succ i ih =>
    intro o k ho hk
    obtain ⟨k, rfl⟩ : ∃ k', k = k' + 5 := ⟨k - 5, by omega⟩
    obtain ⟨c1, -⟩ := ih (o + 1) (k + 2) (by omega) (by omega)
    obtain ⟨-, c2⟩ := ih (o + 1) (k + 4) (by omega) (by omega)
    rw [show k + 4 - 2 = k + 2 by omega] at c2
    have t := k_te (k := k + 2) hP hX ht (show o ≤ 6 by omega) (fun q => ⟨c2, c1⟩)
    refine ⟨k_ch hP hX ht (by omega) (k_pa hP hX ht (by omega) t), ?_⟩
    rw [show k + 5 - 2 = k + 2 + 1 by omega]
    exact t
end WP
