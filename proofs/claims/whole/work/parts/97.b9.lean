/-! law: the class reads a law -/
theorem w_flt_neg : ∀ c, c < 6 → ∀ q, q < 241 → 1 ≤ c → u_flt c q < 0 ∧ ¬ u_flt c q = 0 := by decide +kernel
def q_M0 : q_M := fun _ => (0, 0)
def q_U0 : q_U := fun _ => (0, 0, 0, 0)
def q_s0 : q_S := (0, 0, 0, q_M0, [], 0, 0, q_U0)
theorem R_58 {mu : Nat → Nat} {a : Nat} : z_v (z_Rm mu) 58 1 a = z_Rm (x_up mu 12 a) := by
  funext b j
  rw [z_v_eq]
  unfold z_Rm x_up
  by_cases c : b = 58 ∧ j = 1
  · rw [if_pos c, if_neg (by omega), if_neg (by omega), if_neg (by omega), if_neg (by omega), if_neg (by omega), if_pos c, if_pos rfl]
  · rw [if_neg c]
    by_cases c1 : b = 4 ∧ j < 8
    · rw [if_pos c1, if_pos c1, if_neg (by omega)]
    · rw [if_neg c1, if_neg c1, if_neg (show ¬ (8 : Nat) = 12 by decide), if_neg (show ¬ (9 : Nat) = 12 by decide), if_neg (show ¬ (10 : Nat) = 12 by decide), if_neg (show ¬ (11 : Nat) = 12 by decide), if_neg c, if_neg c]
theorem r_P12 {mu : Nat → Nat} (h : r_P mu) (a : Nat) : r_P (x_up mu 12 a) := by
  obtain ⟨h1, h2, h3⟩ := h
  refine ⟨fun j hj => ?_, fun i j hi hj => ?_, ?_⟩
  · rw [x_up_o (by omega)]; exact h1 j hj
  · rw [x_up_o (by omega), x_up_o (by omega)]; exact h2 i j hi hj
  · rw [x_up_o (by omega), x_up_o (by omega)]; exact h3
def w_C (A : Nat) (J : z_He) (s : Nat) (M : q_M) (nr : Nat) (ru : q_U) : Prop := J A 2 = nI s ∧ J A 7 = nI nr ∧ (∀ k, k < s → J (A + 1) k = nI (l_op (M k).1)) ∧ ∀ r, r < nr → J (A + 3) r = nI (ru r).1 ∧ J (A + 4) r = nI (ru r).2.1 ∧ J (A + 5) r = nI (ru r).2.2.1 ∧ J (A + 6) r = nI (ru r).2.2.2
theorem q_inv0 {n : Nat} : q_inv n q_s0 := by
  unfold q_s0 q_inv
  dsimp only
  refine ⟨?_, by simp, by omega, by omega, fun q => absurd rfl q, by omega, Or.inl rfl, trivial⟩
  rw [if_neg (by omega)]
  exact Nat.zero_le _
section WL
variable {I K : z_He} {mu : Nat → Nat} {n N : Nat} {sg : Nat → Int32}
def k_ll (K : z_He) (A n : Nat) (sg : Nat → Int32) (t : Int32 × Int32 × z_He) : Prop := (∃ p s M cx nr ru1, t.1 = 1 ∧ t.2.1 = nI nr ∧ nr < 16 ∧ p ≤ n ∧ q_to sg n q_s0 (7, p, s, M, [], cx, nr, ru1) ∧ w_X K A t.2.2 p s M (nr + 1) (w_ru ru1 nr s) ∧ w_U M (t.2.2 (A + 2)) s (nr + 1) (w_ru ru1 nr s)) ∨ ∃ j c q, t.1 = 0 ∧ t.2.1 = nI j ∧ j ≤ 16 ∧ w_F K A n t.2.2 (u_flt c q) ∧ 1 ≤ c ∧ c ≤ 5 ∧ q ≤ n ∧ q_end sg n q_s0 (.inl (u_flt c q))
/-- behind all rules -/
def k_le (K : z_He) (A n : Nat) (sg : Nat → Int32) (t : Int32 × z_He) : Prop := (∃ p s M cx nr ru1, t.1 = 1 ∧ nr < 16 ∧ p ≤ n ∧ ¬ sg p = 59 ∧ q_to sg n q_s0 (7, p, s, M, [], cx, nr, ru1) ∧ w_X K A t.2 p s M (nr + 1) (w_ru ru1 nr s) ∧ w_U M (t.2 (A + 2)) s (nr + 1) (w_ru ru1 nr s)) ∨ ∃ c q, t.1 = 0 ∧ w_F K A n t.2 (u_flt c q) ∧ 1 ≤ c ∧ c ≤ 5 ∧ q ≤ n ∧ q_end sg n q_s0 (.inl (u_flt c q))
theorem k_loop (hP : r_P mu) (hX : mu 12 = mu 10) (ht : w_tx K n sg) {a2 : Nat} (t : Int32 × Int32 × z_He) (h : k_ll K (mu 10) n sg t) : ∃ x, z_lp (fX4_readLaw_b28 58 a2 (z_Rm mu)) 300 t = some x ∧ k_le K (mu 10) n sg x := by
  refine lp_var (body := fX4_readLaw_b28 58 a2 (z_Rm mu)) (k_ll K (mu 10) n sg) (fun (x : Int32 × z_He) => k_le K (mu 10) n sg x) (fun t => 17 - t.2.1.toNatClampNeg) ?_ 300 t (by omega) h
  intro t h
  obtain ⟨a, b, G⟩ := t
  unfold fX4_readLaw_b28
  dsimp only
  rcases h with ⟨p, s, M, cx, nr, ru1, h1, h2, h3, h4, h5, h6, h7⟩ | ⟨j, c, q, h1, h2, h3, h⟩
  · dsimp only at h1 h2 h6 h7
    subst h1
    subst h2
    rw [if_neg (show ¬ (16 : Int32) ≤ nI nr from nI_ge h3 (by decide)), if_neg (show ¬ (1 : Int32) = 0 by decide), (o58 hX).1, z_g_t o1, cl_sg hP ht h6 (by omega), z_b_s]
    by_cases c : sg p = 59
    · have pn := q_lt (v := 59) ht.1 c (by decide)
      obtain ⟨x1, x2, x3⟩ := cl_pass hP h6
      have s7 : q_step sg n (7, p, s, M, [], cx, nr, ru1) = .inl (0, p + 1, s, M, [], cx, nr + 1, w_ru ru1 nr s) := by
        rw [q_ph7, if_pos c]
        rfl
      have to0 := q_to_t h5 (q_to_s s7)
      have i0 := q_inv_to ht.1 q_inv0 to0
      rw [← x3] at h7
      rw [if_pos c, x1, z_b_s]
      rcases k_rule hP hX ht x2 i0 h7 with ⟨J2, p2, s2, M2, cx2, ru2, g1, g2, g3, g4, g5, g6, g7⟩ | ⟨J2, c, q, g1, g2, g3, g4, g5, g6⟩
      · rw [g1, z_b_s, z_l_s, n_s1]
        refine Or.inl ⟨_, rfl, Or.inl ⟨p2, s2, M2, cx2, nr + 1, ru2, rfl, rfl, g4, g3, q_to_t to0 g5, g6, g7⟩, ?_⟩
        dsimp only
        rw [nI_clamp (by omega), nI_clamp (by omega)]
        omega
      · rw [g1, z_b_s, z_l_s, n_s1]
        refine Or.inl ⟨_, rfl, Or.inr ⟨nr + 1, c, q, rfl, rfl, by omega, g2, g3, g4, g5, q_to_e to0 g6⟩, ?_⟩
        dsimp only
        rw [nI_clamp (by omega), nI_clamp (by omega)]
        omega
    · rw [if_neg c]
      exact Or.inr ⟨_, rfl, Or.inl ⟨p, s, M, cx, nr, ru1, rfl, h3, h4, c, h5, h6, h7⟩⟩
  · dsimp only at h1 h2 h
    subst h1
    subst h2
    refine Or.inr ⟨(0, G), ?_, Or.inr ⟨c, q, rfl, h⟩⟩
    by_cases c16 : (16 : Int32) ≤ nI j
    · rw [if_pos c16]
    · rw [if_neg c16, if_pos rfl]
theorem c_laws (hP : r_P mu) (hn : 1 ≤ n) (h240 : n ≤ 240) (hs : u_sg n sg) (hN : I 1 1 = nI N) (hnN : n ≤ N) (N31 : N < 2 ^ 31) (htx : ∀ p, p < n → I 2 p = sg p) : ∃ v J', fX4_readLaw 58 (nI n) (mu 10) I (z_Rm mu) = some (v, J', z_Rm (x_up mu 12 (mu 10))) ∧ (∀ b k, ¬ (b = 1 ∧ (k = 2 ∨ k = 3 ∨ k = 4)) → ¬ (mu 10 ≤ b ∧ b ≤ mu 10 + 6) → J' b k = I b k) ∧ ((∃ s M nr ru, v = nI nr ∧ 0 < nr ∧ nr ≤ 16 ∧ s ≤ 240 ∧ w_C (mu 10) J' s M nr ru ∧ w_U M (J' (mu 10 + 2)) s nr ru ∧ q_end sg n q_s0 (.inr (s, M, nr, ru))) ∨ ∃ c q, v = u_flt c q ∧ 1 ≤ c ∧ c ≤ 5 ∧ q ≤ 240 ∧ q_end sg n q_s0 (.inl (u_flt c q))) := by
  have hm := w_10 hP
  have hP1 := r_P12 hP (mu 10)
  have hX : (x_up mu 12 (mu 10)) 12 = (x_up mu 12 (mu 10)) 10 := by rw [x_up_at, x_up_o (by decide)]
  have e10 : (x_up mu 12 (mu 10)) 10 = mu 10 := x_up_o (by decide)
  have ob := (o_sp hP).1
  unfold fX4_readLaw
  rw [z_g_t o584, z_g_t ob, z_l_s, R_58]
  generalize hmu : x_up mu 12 (mu 10) = nu at hP1 hX e10 ⊢
  rw [(o58 hX).1, (o58 hX).2, e10, z_g_t ob]
  unfold fX3_clear fX10_open
  rw [z_g_t ob, z_l_s, z_l_s, z_b_s, z_g_t o1, z_g_t o1, z_l_s, z_l_s, z_l_s, z_b_s, z_u_k (show (1 : Nat) ≠ 2 by decide), u_o (show 1 ≠ mu 10 by omega), u_o (show 1 ≠ mu 10 by omega), hN]
  have mn : z_min (nI n) (nI N) = nI n := by
    unfold z_min
    rw [if_neg (nI_nlt hnN N31)]
  rw [mn]
  generalize hK : z_u (z_u (z_u (z_u (z_u I (mu 10) 2 0) (mu 10) 7 0) 1 2 0) 1 3 (nI n)) 1 4 0 = K
  have k1 : ∀ b k, ¬ (b = 1 ∧ (k = 2 ∨ k = 3 ∨ k = 4)) → ¬ (mu 10 ≤ b ∧ b ≤ mu 10 + 6) → K b k = I b k := fun b k q1 q2 => by
    rw [← hK, z_u_eq, if_neg (by omega), z_u_eq, if_neg (by omega), z_u_eq, if_neg (by omega), z_u_eq, if_neg (by omega), z_u_eq, if_neg (by omega)]
  have k13 : K 1 3 = nI n := by rw [← hK, z_u_k (by decide), z_u_at]
  have tx : w_tx K n sg := ⟨hs, h240, k13, fun p hp => by rw [k1 2 p (by omega) (by omega)]; exact htx p hp⟩
  have X0 : w_X K (nu 10) K 0 0 q_M0 0 q_U0 := by
    rw [e10]
    refine ⟨fun _ _ _ _ => rfl, ?_, ?_, ?_, ?_, fun k hk => by omega, fun r hr => by omega⟩
    · rw [← hK, z_u_k (by decide), z_u_k (by decide), z_u_at]; rfl
    · rw [← hK, z_u_at]
    · rw [← hK, u_o (by omega), u_o (by omega), u_o (by omega), z_u_k (by decide), z_u_at]; rfl
    · rw [← hK, u_o (by omega), u_o (by omega), u_o (by omega), z_u_at]; rfl
  have U0 : w_U q_M0 (K (nu 10 + 2)) 0 0 q_U0 := ⟨fun k hk => by omega, fun r hr => by omega⟩
  have j82 : ∀ (J : z_He) (v x : Int32), w_Y (mu 10) K J → J (mu 10) 7 = x → v = (if J 1 4 = 0 then x else J 1 4) → fX4_readLaw_j82 58 (mu 10) J (z_Rm nu) = some (v, J, z_Rm nu) ∧ ∀ b k, ¬ (b = 1 ∧ (k = 2 ∨ k = 3 ∨ k = 4)) → ¬ (mu 10 ≤ b ∧ b ≤ mu 10 + 6) → J b k = I b k := by
    intro J v x y1 y2 y3
    constructor
    · unfold fX4_readLaw_j82 fX3_ruleCount fX10_answer
      rw [(o58 hX).1, (o58 hX).2, e10, z_g_t ob, z_g_t ob, z_b_s, z_g_t o1, z_g_t o1, y2, y3]
      by_cases c : J 1 4 = 0
      · rw [if_pos c, if_pos c, z_b_s]
      · rw [if_neg c, if_neg c, z_b_s]
    · intro b k q1 q2
      rw [y1 b k (by omega) q2]
      exact k1 b k q1 q2
  have flt : ∀ (J : z_He) (c q : Nat), w_F K (mu 10) n J (u_flt c q) → 1 ≤ c → c ≤ 5 → q ≤ n → fX4_readLaw_j82 58 (mu 10) J (z_Rm nu) = some (u_flt c q, J, z_Rm nu) ∧ ∀ b k, ¬ (b = 1 ∧ (k = 2 ∨ k = 3 ∨ k = 4)) → ¬ (mu 10 ≤ b ∧ b ≤ mu 10 + 6) → J b k = I b k := by
    intro J c q f1 c1 c5 qn
    exact j82 J _ _ f1.1 rfl (by rw [f1.2.1, if_neg (w_flt_neg c (by omega) q (by omega) c1).2])
  have go : ∀ t, k_ll K (nu 10) n sg t → ∃ v J', z_b (z_lp (fX4_readLaw_b28 58 (mu 10) (z_Rm nu)) 300 t) (fun q15 => fX4_readLaw_j69 58 (mu 10) q15.1 q15.2 (z_Rm nu)) = some (v, J', z_Rm nu) ∧ (∀ b k, ¬ (b = 1 ∧ (k = 2 ∨ k = 3 ∨ k = 4)) → ¬ (mu 10 ≤ b ∧ b ≤ mu 10 + 6) → J' b k = I b k) ∧ ((∃ s M nr ru, v = nI nr ∧ 0 < nr ∧ nr ≤ 16 ∧ s ≤ 240 ∧ w_C (mu 10) J' s M nr ru ∧ w_U M (J' (mu 10 + 2)) s nr ru ∧ q_end sg n q_s0 (.inr (s, M, nr, ru))) ∨ ∃ c q, v = u_flt c q ∧ 1 ≤ c ∧ c ≤ 5 ∧ q ≤ 240 ∧ q_end sg n q_s0 (.inl (u_flt c q))) := by
    intro t hl
    obtain ⟨x, f1, f2⟩ := k_loop (a2 := mu 10) hP1 hX tx t hl
    rw [f1, z_b_s]
    obtain ⟨a, G⟩ := x
    unfold fX4_readLaw_j69
    dsimp only
    rcases f2 with ⟨p, s, M, cx, nr, ru1, h1, h3, h4, h5, h6, h7, h8⟩ | ⟨c, q, h1, h2, h3, h4, h5, h6⟩
    · dsimp only at h1 h7 h8
      subst h1
      have i7 := q_inv_b (q_inv_to hs q_inv0 h6)
      obtain ⟨d1, d2⟩ := cl_passes hP1 tx h7 h4 (by omega) (-1)
      rw [if_neg (show ¬ (1 : Int32) = 0 by decide), (o58 hX).1, z_g_t o1]
      by_cases c : p < n
      · have cm : ¬ sg p = -1 := by
          obtain ⟨w, w1, w2⟩ := hs.1 p c
          rw [w2]
          exact n_m1 (by omega)
        obtain ⟨J3, y1, y2⟩ := d2 cm
        rw [e10] at y2
        obtain ⟨z1, z2⟩ := flt J3 1 p y2 (by decide) (by decide) h4
        rw [y1, z_b_s]
        refine ⟨_, _, z1, z2, Or.inr ⟨1, p, rfl, by decide, by decide, by omega, q_to_e h6 (q_end_s ?_)⟩⟩
        rw [q_ph7, if_neg h5, if_pos c]
      · obtain ⟨x1, x2, x3⟩ := cl_pass hP1 h7
        rw [d1 (hs.2 p (by omega)), z_b_s]
        dsimp only
        rw [e10] at x2 x3 h8
        obtain ⟨w1, w2, w3, w4, w5, w6, w7⟩ := x2
        obtain ⟨z1, z2⟩ := j82 _ (nI (nr + 1)) _ w1 w5 (by rw [w3, if_pos rfl])
        refine ⟨_, _, z1, z2, Or.inl ⟨s, M, nr + 1, _, rfl, by omega, by omega, by omega, ⟨w4, w5, w6, w7⟩, by rw [x3]; exact h8, q_to_e h6 (q_end_s ?_)⟩⟩
        rw [q_ph7, if_neg h5, if_neg c]
        rfl
    · dsimp only at h1 h2
      subst h1
      rw [if_pos rfl]
      rw [e10] at h2
      obtain ⟨z1, z2⟩ := flt G c q h2 h3 h4 h5
      exact ⟨_, _, z1, z2, Or.inr ⟨c, q, rfl, h3, h4, by omega, h6⟩⟩
  rcases k_rule hP1 hX tx X0 (st := []) (cx := 0) q_inv0 U0 with ⟨J2, p2, s2, M2, cx2, ru2, g1, g2, g3, g4, g5, g6, g7⟩ | ⟨J2, c, q, g1, g2, g3, g4, g5, g6⟩
  · rw [g1, z_b_s]
    exact go _ (Or.inl ⟨p2, s2, M2, cx2, 0, ru2, rfl, rfl, by omega, g3, g5, g6, g7⟩)
  · rw [g1, z_b_s]
    exact go _ (Or.inr ⟨0, c, q, rfl, rfl, by omega, g2, g3, g4, g5, g6⟩)
end WL
