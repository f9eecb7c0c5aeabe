/-! law: the class's rules -/
def w_ru (ru : q_U) (nr s : Nat) : q_U := q_uu ru nr ((ru nr).1, (ru nr).2.1, (ru nr).2.2.1, s)
def w_U (M : q_M) (V : Nat → Int32) (s nr : Nat) (ru : q_U) : Prop := (∀ k, k < s → w_ck M V k) ∧ ∀ r, r < nr → (ru r).1 ≤ 4 ∧ (ru r).2.1 ≤ (ru r).2.2.1 ∧ (ru r).2.2.1 < (ru r).2.2.2 ∧ (ru r).2.2.2 ≤ s ∧ ((ru r).1 ≠ 4 → w_T 6 M V (ru r).2.1 (ru r).2.2.1 0 1) ∧ w_T 12 M V (ru r).2.2.1 (ru r).2.2.2 0 100
theorem w_T_ck {b : Nat} {M : q_M} {V : Nat → Int32} {s t e e' : Nat} (h : w_T b M V s t e e') : ∀ k, s ≤ k → k < t → w_ck M V k := by
  obtain ⟨h0, md, h1, h2, h3⟩ := h
  exact fun k k1 k2 => (h3 k k1 k2).1
theorem w_T_lt {b : Nat} {M : q_M} {V : Nat → Int32} {s t e e' : Nat} (h : w_T b M V s t e e') (he : e ≠ e') : s < t := by
  obtain ⟨h0, md, h1, h2, h3⟩ := h
  by_cases c : s = t
  · subst c
    omega
  · omega
/-- one rule more -/
theorem w_U_s {M M' : q_M} {V V' : Nat → Int32} {s s1 s3 nr kd : Nat} {ru ru' : q_U} (h : w_U M V s nr ru) (ha : ∀ k, k < s → M' k = M k ∧ V' k = V k) (hk : kd ≤ 4) (h1 : kd ≠ 4 → w_T 6 M' V' s s1 0 1) (h1' : kd = 4 → s1 = s) (h2 : w_T 12 M' V' s1 s3 0 100) (hr : ∀ r, r < nr → ru' r = ru r) (hn : ru' nr = (kd, s, s1, s3)) : w_U M' V' s3 (nr + 1) ru' := by
  have l2 := w_T_lt h2 (by decide)
  have l1 : s ≤ s1 := by
    by_cases c : kd = 4
    · have := h1' c
      omega
    · exact (h1 c).1
  refine ⟨fun k hk' => ?_, fun r hr' => ?_⟩
  · by_cases c1 : k < s
    · exact w_ck_c (h.1 k c1) (ha k c1).1 (ha k c1).2
    · by_cases c2 : k < s1
      · by_cases c : kd = 4
        · have := h1' c
          omega
        · exact w_T_ck (h1 c) k (by omega) c2
      · exact w_T_ck h2 k (by omega) hk'
  · by_cases c : r = nr
    · subst c
      rw [hn]
      exact ⟨hk, l1, l2, Nat.le_refl _, h1, h2⟩
    · obtain ⟨a1, a2, a3, a4, a5, a6⟩ := h.2 r (by omega)
      rw [hr r (by omega)]
      exact ⟨a1, a2, a3, by omega, fun q => w_T_c (a5 q) (fun k _ k2 => ha k (by omega)), w_T_c a6 (fun k _ k2 => ha k (by omega))⟩
section WR
variable {I : z_He} {mu : Nat → Nat} {n : Nat} {sg : Nat → Int32}
theorem cl_rule (hP : r_P mu) {J : z_He} {p s : Nat} {M : q_M} {nr : Nat} {ru ru' : q_U} {kd a b : Nat} (h : w_X I (mu 10) J p s M nr ru) (hn : nr < 16) (h1 : ∀ r, r < nr → ru' r = ru r) (h2 : ru' nr = (kd, a, b, s)) : ∃ J', fX3_addRule (mu 10) (nI kd) (nI a) (nI b) J (z_Rm mu) = some J' ∧ w_X I (mu 10) J' p s M (nr + 1) ru' ∧ J' (mu 10 + 2) = J (mu 10 + 2) := by
  have hm := w_10 hP
  obtain ⟨a1, a2, a3, a4, a5, a6, a7, l1, l2, l3, l4, l5, l6⟩ := o_sp hP
  obtain ⟨x1, x2, x3, x4, x5, x6, x7⟩ := h
  have cl : (nI nr).toNatClampNeg = nr := nI_clamp (by omega)
  unfold fX3_addRule
  rw [z_g_t a1, x5, if_neg (show ¬ (16 : Int32) ≤ nI nr from nI_ge hn (by decide)), a4, a5, a6, a7, z_g_t (n_ok l3 hn (by decide)), cl, z_l_s, u_o (show mu 10 ≠ mu 10 + 3 by omega), x5, z_g_t (n_ok l4 hn (by decide)), cl, z_l_s, u_o (show mu 10 ≠ mu 10 + 4 by omega), u_o (show mu 10 ≠ mu 10 + 3 by omega), x5, z_g_t (n_ok l5 hn (by decide)), cl, z_l_s, u_o (show mu 10 ≠ mu 10 + 5 by omega), u_o (show mu 10 ≠ mu 10 + 4 by omega), u_o (show mu 10 ≠ mu 10 + 3 by omega), x5, z_g_t (n_ok l6 hn (by decide)), cl, z_l_s, u_o (show mu 10 ≠ mu 10 + 6 by omega), u_o (show mu 10 ≠ mu 10 + 5 by omega), u_o (show mu 10 ≠ mu 10 + 4 by omega), u_o (show mu 10 ≠ mu 10 + 3 by omega), x5, x4, n_s1, z_l_s]
  refine ⟨_, rfl, ⟨fun b k q1 q2 => ?_, ?_, ?_, ?_, ?_, fun k hk => ?_, fun r hr => ?_⟩, ?_⟩
  · rw [u_o (by omega), u_o (by omega), u_o (by omega), u_o (by omega), u_o (by omega)]; exact x1 b k q1 q2
  · rw [u_o (by omega), u_o (by omega), u_o (by omega), u_o (by omega), u_o (by omega)]; exact x2
  · rw [u_o (by omega), u_o (by omega), u_o (by omega), u_o (by omega), u_o (by omega)]; exact x3
  · rw [z_u_k (by decide), u_o (by omega), u_o (by omega), u_o (by omega), u_o (by omega)]; exact x4
  · rw [z_u_at]
  · rw [u_o (by omega), u_o (by omega), u_o (by omega), u_o (by omega), u_o (by omega)]; exact x6 k hk
  · by_cases c : r = nr
    · subst c
      rw [h2]
      refine ⟨?_, ?_, ?_, ?_⟩
      · rw [u_o (by omega), u_o (by omega), u_o (by omega), u_o (by omega), z_u_at]
      · rw [u_o (by omega), u_o (by omega), u_o (by omega), z_u_at]
      · rw [u_o (by omega), u_o (by omega), z_u_at]
      · rw [u_o (by omega), z_u_at]
    · rw [h1 r (by omega)]
      obtain ⟨y1, y2, y3, y4⟩ := x7 r (by omega)
      refine ⟨?_, ?_, ?_, ?_⟩
      · rw [u_o (by omega), u_o (by omega), u_o (by omega), u_o (by omega), z_u_k c]; exact y1
      · rw [u_o (by omega), u_o (by omega), u_o (by omega), z_u_k c, u_o (by omega)]; exact y2
      · rw [u_o (by omega), u_o (by omega), z_u_k c, u_o (by omega), u_o (by omega)]; exact y3
      · rw [u_o (by omega), z_u_k c, u_o (by omega), u_o (by omega), u_o (by omega)]; exact y4
  · rw [u_o (by omega), u_o (by omega), u_o (by omega), u_o (by omega), u_o (by omega)]
/-- what reading a rule comes to -/
def w_RR (I : z_He) (A n : Nat) (sg : Nat → Int32) (S0 : q_S) (p nr : Nat) (res : Option (Int32 × z_He)) : Prop := (∃ J' p' s' M' cx' ru1, res = some (1, J') ∧ p < p' ∧ p' ≤ n ∧ nr < 16 ∧ q_to sg n S0 (7, p', s', M', [], cx', nr, ru1) ∧ w_X I A J' p' s' M' (nr + 1) (w_ru ru1 nr s') ∧ w_U M' (J' (A + 2)) s' (nr + 1) (w_ru ru1 nr s')) ∨ ∃ J' c q, res = some (0, J') ∧ w_F I A n J' (u_flt c q) ∧ 1 ≤ c ∧ c ≤ 5 ∧ q ≤ n ∧ q_end sg n S0 (.inl (u_flt c q))
theorem k_j90 (hP : r_P mu) (hX : mu 12 = mu 10) (ht : w_tx I n sg) {S0 : q_S} {J J1 : z_He} {p p1 s s1 nr kd : Nat} {M M1 : q_M} {ru : q_U} (h : w_X I (mu 10) J1 p1 s1 M1 nr (q_uu ru nr (kd, s, 0, 0))) (hpp : p < p1) (hi0 : q_inv n S0) (hto : q_to sg n S0 (5, p1, s1, M1, [], 0, nr, q_uu ru nr (kd, s, 0, 0))) (hn : nr < 16) (hU : w_U M (J (mu 10 + 2)) s nr ru) (ha : ∀ k, k < s → M1 k = M k ∧ J1 (mu 10 + 2) k = J (mu 10 + 2) k) (hk : kd ≤ 4) (h1 : kd ≠ 4 → w_T 6 M1 (J1 (mu 10 + 2)) s s1 0 1) (h1' : kd = 4 → s1 = s) : w_RR I (mu 10) n sg S0 p nr (fX4_readRule_j90 58 (nI kd) (nI s) J1 (z_Rm mu)) := by
  have n240 := ht.2.1
  have i5 := q_inv_to ht.1 hi0 hto
  obtain ⟨b1, b2⟩ := q_inv_b i5
  unfold fX4_readRule_j90 fX3_stepCount
  rw [(o58 hX).1, (o58 hX).2, z_g_t (o_sp hP).1, z_g_t (o_sp hP).1, h.2.2.2.1, z_b_s, z_g_t o1]
  obtain ⟨d1, d2⟩ := cl_passes hP ht h b2 (by omega) 40
  by_cases c40 : sg p1 = 40
  · have pn := q_lt (v := 40) ht.1 c40 (by decide)
    obtain ⟨x1, x2, x3⟩ := cl_pass hP h
    have s5 : q_step sg n (5, p1, s1, M1, [], 0, nr, q_uu ru nr (kd, s, 0, 0)) = .inl (8, p1 + 1, s1, M1, [(13, 0)], 0, nr, q_uu (q_uu ru nr (kd, s, 0, 0)) nr (kd, s, s1, 0)) := by
      rw [q_ph5, if_pos c40, q_uu_at]
    have i8 := q_inv_step ht.1 _ _ i5 s5
    have to8 := q_to_t hto (q_to_s s5)
    have X8 : w_X I (mu 10) (z_u J1 1 2 (nI (p1 + 1))) (p1 + 1) s1 M1 nr (q_uu (q_uu ru nr (kd, s, 0, 0)) nr (kd, s, s1, 0)) := w_X_c x2 (fun _ _ => rfl) (fun r hr => q_uu_o (by omega))
    rw [d1 c40, z_b_s, if_neg (show ¬ (1 : Int32) = 0 by decide)]
    dsimp only
    rw [show z_fxB 30 0 58 (1 : Int32) = z_fxB 30 0 58 (nI 1) from rfl]
    rcases (k_choA hP hX ht 5 1 30 rfl (by decide)).1 _ (p1 + 1) s1 M1 [(13, 0)] 0 nr _ X8 i8 rfl rfl with ⟨J2, p2, s2, M2, g1, g2, g3, g4, g5, g6, g7, g8, cx2, g9⟩ | ⟨J2, c, q, g1, g2, g3, g4, g5, g6⟩
    · have at2 := q_at_t to8 g9
      obtain ⟨e1, e2⟩ := cl_passes hP ht g4 g3 (by omega) 41
      rw [g1, z_b_s, if_neg (show ¬ (1 : Int32) = 0 by decide)]
      by_cases c41 : sg p2 = 41
      · have pn2 := q_lt (v := 41) ht.1 c41 (by decide)
        obtain ⟨y1, y2, y3⟩ := cl_pass hP g4
        have l1 : s ≤ s1 := by
          by_cases c : kd = 4
          · have := h1' c
            omega
          · exact (h1 c).1
        rw [x3] at g5
        have ra : ∀ r, r < nr → w_ru (q_uu (q_uu ru nr (kd, s, 0, 0)) nr (kd, s, s1, 0)) nr s2 r = ru r := fun r hr => by
          unfold w_ru
          rw [q_uu_o (by omega), q_uu_o (by omega), q_uu_o (by omega)]
        have rb : w_ru (q_uu (q_uu ru nr (kd, s, 0, 0)) nr (kd, s, s1, 0)) nr s2 nr = (kd, s, s1, s2) := by
          unfold w_ru
          rw [q_uu_at, q_uu_at]
        have rc : ∀ r, r < nr → w_ru (q_uu (q_uu ru nr (kd, s, 0, 0)) nr (kd, s, s1, 0)) nr s2 r = q_uu (q_uu ru nr (kd, s, 0, 0)) nr (kd, s, s1, 0) r := fun r hr => by
          rw [ra r hr, q_uu_o (by omega), q_uu_o (by omega)]
        obtain ⟨J4, z1, z2, z3⟩ := cl_rule hP y2 hn rc rb
        rw [e1 c41, z_b_s, if_neg (show ¬ (1 : Int32) = 0 by decide)]
        dsimp only
        rw [z1, z_b_s]
        refine Or.inl ⟨J4, p2 + 1, s2, M2, cx2, _, rfl, by omega, by omega, hn, q_to_t (at2.1 (Or.inl c41)) (q_to_s ?_), z2, ?_⟩
        · rw [q_ph6, if_pos c41]
          exact (if_neg (show ¬ (13 = 11 ∨ 13 = 12) by decide)).trans (if_pos rfl)
        · rw [z3, y3]
          refine w_U_s (s1 := s1) hU (fun k hk' => ⟨?_, ?_⟩) hk (fun c => w_T_c (h1 c) (fun k _ k2 => g5 k k2)) h1' g6 ra rb
          · rw [(g5 k (by omega)).1, (ha k hk').1]
          · rw [(g5 k (by omega)).2, (ha k hk').2]
      · obtain ⟨J3, y1, y2⟩ := e2 c41
        rw [y1, z_b_s, if_pos rfl]
        refine Or.inr ⟨J3, 1, p2, rfl, y2, by decide, by decide, g3, at2.2 (fun z => ?_)⟩
        rcases z with z | z | z
        · exact c41 z
        · exact g7.1 z
        · exact g7.2 z
    · rw [g1, z_b_s, if_pos rfl]
      exact Or.inr ⟨J2, c, q, rfl, g2, g3, g4, g5, q_to_e to8 g6⟩
  · obtain ⟨J3, y1, y2⟩ := d2 c40
    rw [y1, z_b_s, if_pos rfl]
    exact Or.inr ⟨J3, 1, p1, rfl, y2, by decide, by decide, b2, q_to_e hto (q_end_s (by rw [q_ph5, if_neg c40]))⟩
theorem k_rule (hP : r_P mu) (hX : mu 12 = mu 10) (ht : w_tx I n sg) {J : z_He} {p s nr cx : Nat} {M : q_M} {st : q_K} {ru : q_U} (h : w_X I (mu 10) J p s M nr ru) (hi : q_inv n (0, p, s, M, st, cx, nr, ru)) (hU : w_U M (J (mu 10 + 2)) s nr ru) : w_RR I (mu 10) n sg (0, p, s, M, st, cx, nr, ru) p nr (fX4_readRule 58 J (z_Rm mu)) := by
  have n240 := ht.2.1
  obtain ⟨b1, b2⟩ := q_inv_b hi
  have n16 : nr ≤ 16 := hi.2.2.2.1
  unfold fX4_readRule
  rw [z_g_t o584, (o58 hX).1, (o58 hX).2, z_g_t o1, cl_sg hP ht h (by omega), z_b_s, q_kd_eq, z_b_s]
  by_cases ck : q_kd (sg p) = 9
  · obtain ⟨a1, a2⟩ := cl_flt (n := n) hP h (by omega) (by omega) (c := 1) (q := p)
    rw [if_pos ck, if_pos rfl, cl_place h, z_b_s, show fX10_fails 1 (1 : Int32) = fX10_fails 1 (nI 1) from rfl, a1, z_b_s, z_g_t (Or.inl rfl)]
    exact Or.inr ⟨_, 1, p, rfl, a2, by decide, by decide, b2, q_end_s (by rw [q_ph0, if_pos ck])⟩
  · obtain ⟨k4, v, v1, v2⟩ := q_kd_b ck
    have pn := q_lt ht.1 v2 (by omega)
    rw [if_neg ck, if_neg (n_m1 (by omega)), z_g_t (o_sp hP).1]
    unfold fX3_ruleCount
    rw [z_g_t (o_sp hP).1, h.2.2.2.2.1, z_b_s]
    by_cases c16 : nr = 16
    · obtain ⟨a1, a2⟩ := cl_flt (n := n) hP h (by omega) (by omega) (c := 4) (q := p)
      rw [if_neg (show ¬ nI nr < (16 : Int32) by rw [c16]; decide), cl_place h, z_b_s, show fX10_fails 1 (4 : Int32) = fX10_fails 1 (nI 4) from rfl, a1, z_b_s, z_g_t (Or.inl rfl)]
      exact Or.inr ⟨_, 4, p, rfl, a2, by decide, by decide, b2, q_end_s (by rw [q_ph0, if_neg ck, if_pos c16])⟩
    · obtain ⟨x1, x2, x3⟩ := cl_pass hP h
      have X1 : w_X I (mu 10) (z_u J 1 2 (nI (p + 1))) (p + 1) s M nr (q_uu ru nr (q_kd (sg p), s, 0, 0)) := w_X_c x2 (fun _ _ => rfl) (fun r hr => q_uu_o (by omega))
      have s1 : q_step sg n (0, p, s, M, st, cx, nr, ru) = .inl (if q_kd (sg p) = 4 then 5 else 1, p + 1, s, M, [], 0, nr, q_uu ru nr (q_kd (sg p), s, 0, 0)) := by
        rw [q_ph0, if_neg ck, if_neg c16]
      rw [if_pos (show nI nr < (16 : Int32) from nI_lt (b := 16) (by omega) (by decide)), x1, z_b_s]
      unfold fX3_stepCount
      rw [z_g_t (o_sp hP).1, x2.2.2.2.1, z_b_s]
      by_cases c4 : q_kd (sg p) = 4
      · rw [if_pos c4] at s1
        rw [if_pos (show nI (q_kd (sg p)) = 4 by rw [c4]; rfl)]
        exact k_j90 hP hX ht X1 (by omega) hi (q_to_s s1) (by omega) hU (fun k hk => ⟨rfl, by rw [x3]⟩) k4 (fun q => absurd c4 q) (fun _ => rfl)
      · rw [if_neg c4] at s1
        have i1 := q_inv_step ht.1 _ _ hi s1
        rw [if_neg (show ¬ nI (q_kd (sg p)) = 4 from fun z => c4 ((n_eq (a := q_kd (sg p)) (b := 4) (by omega) (by decide)).mp z)), show z_fxA 30 0 58 (0 : Int32) = z_fxA 30 0 58 (nI 0) from rfl]
        rcases (k_sumA hP hX ht 6 0 30 rfl (by decide)) _ (p + 1) s M [] 0 nr _ 0 X1 i1 rfl (by decide) (show ¬ (2 ≤ 0 ∧ 0 ≤ 6) by decide) with ⟨J2, p2, s2, M2, g1, g2, g3, g4, g5, g6, g7, g8⟩ | ⟨J2, c, q, g1, g2, g3, g4, g5, g6⟩
        · have to2 := q_to_t (q_to_s s1) g7
          have s3 := (q_s_cx (sg := sg) (n := n) (p := p2) (s := s2) (M := M2) (st := []) (cx := 0) (nr := nr) (ru := q_uu ru nr (q_kd (sg p), s, 0, 0)) (show ¬ (2 ≤ 0 ∧ 0 ≤ 6) by decide) (show ¬ 0 = 14 by decide) g8).1 rfl
          rw [g1, z_b_s, if_neg (show ¬ (1 : Int32) = 0 by decide)]
          dsimp only
          rw [x3] at g5
          exact k_j90 hP hX ht g4 (by omega) hi (q_to_t to2 (q_to_s s3)) (by omega) hU g5 k4 (fun _ => g6) (fun q => absurd q c4)
        · rw [g1, z_b_s, if_pos rfl]
          exact Or.inr ⟨J2, c, q, rfl, g2, g3, g4, g5, q_to_e (q_to_s s1) g6⟩
end WR
