/-! law: the call -/
theorem la_code {I2 : z_He} {A s : Nat} {M : q_M} (h1 : ∀ k, k < s → w_ck M (I2 (A + 2)) k) (h2 : ∀ k, k < s → I2 (A + 1) k = nI (l_op (M k).1)) (h3 : ∀ k, k < s → I2 118 k = nI (1048576 * (M k).1 + (M k).2)) : ∀ k, k < s → l_code I2 A (w_cd M (I2 (A + 2))) k := by
  intro k hk
  obtain ⟨a1, a2, a3, a4, a5⟩ := h1 k hk
  refine ⟨a1, a2, a3, h2 k hk, a5, ?_⟩
  rw [h3 k hk]
  show nI (1048576 * (M k).1 + (M k).2) = nI (1048576 * (M k).1 + (if (M k).1 ≤ 1 then (M k).2 else if 11 ≤ (M k).1 then (M k).2 else 0))
  by_cases c1 : (M k).1 ≤ 1
  · rw [if_pos c1]
  · rw [if_neg c1]
    by_cases c2 : 11 ≤ (M k).1
    · rw [if_pos c2]
    · rw [if_neg c2, a4 (by omega) (by omega)]
theorem la_ty {b : Nat} {M : q_M} {V : Nat → Int32} {f t e : Nat} (h : w_T b M V f t 0 e) : ∃ md, l_ty (w_cd M V) md f t e ∧ ∀ k, f ≤ k → k < t → (w_cd M V k).1 ≤ b := by
  obtain ⟨h0, md, h1, h2, h3⟩ := h
  exact ⟨md, ⟨h1, h2, fun k k1 k2 => (h3 k k1 k2).2.2⟩, fun k k1 k2 => (h3 k k1 k2).2.1⟩
theorem la_L {I2 : z_He} {A s nr : Nat} {M : q_M} {ru : q_U} (hn : nr ≤ 16) (hs : s ≤ 240) (hC : w_C A I2 s M nr ru) (hU : w_U M (I2 (A + 2)) s nr ru) (h20 : I2 102 20 = nI nr) (h118 : ∀ k, k < s → I2 118 k = nI (1048576 * (M k).1 + (M k).2)) (hr : ∀ r, r < nr → I2 119 r = nI (l_kind (ru r).1) ∧ I2 120 r = nI (ru r).2.1 ∧ I2 121 r = nI (ru r).2.2.1 ∧ I2 122 r = nI (ru r).2.2.2) : r_L I2 A := by
  obtain ⟨c1, c2, c3, c4⟩ := hC
  refine ⟨nr, s, w_cd M (I2 (A + 2)), hn, hs, c1, c2, h20, la_code hU.1 c3 h118, fun r hr' => ?_⟩
  obtain ⟨u1, u2, u3, u4, u5, u6⟩ := hU.2 r hr'
  obtain ⟨d1, d2, d3, d4⟩ := c4 r hr'
  obtain ⟨e1, e2, e3, e4⟩ := hr r hr'
  obtain ⟨md, m1, -⟩ := la_ty u6
  exact ⟨_, _, _, _, u1, u2, u3, u4, d1, d2, d3, d4, e1, e2, e3, e4, fun q => la_ty (u5 q), md, m1⟩
theorem p_law2 {mu : Nat → Nat} (h : r_P mu) : ∀ b, mu 9 ≤ b → b ≤ mu 9 + 6 → ¬ (mu 10 ≤ b ∧ b ≤ mu 10 + 6) := by
  intro b h1 h2 h3
  rcases h.2.2 with ⟨e1, e2⟩ | ⟨e1, e2⟩ <;> omega
section RL
variable {I I2 : z_He} {mu len : Nat → Nat}
theorem rel_la {nu : Nat → Nat} (h : RelL I mu len) (hnu : r_P nu) (hn8 : ∀ j, j < 8 → nu j = mu j) (hf : ∀ b k, ¬ (b = 1 ∧ 1 ≤ k ∧ k ≤ 4) → ¬ (mu 10 ≤ b ∧ b ≤ mu 10 + 6) → ¬ (b = 102 ∧ 11 ≤ k ∧ k ≤ 20) → ¬ (112 ≤ b ∧ b ≤ 122) → I2 b k = I b k) (h1 : I2 1 1 = 0) (h2 : I2 102 11 = 0) (hL : r_L I2 (nu 9)) : RelL I2 nu len := by
  obtain ⟨w1, w2, w3, w5, w6, w7, w8, w9, w0⟩ := h
  have hl := p_law w7
  have hb : ∀ b, b ≠ 1 → ¬ (mu 10 ≤ b ∧ b ≤ mu 10 + 6) → b ≠ 102 → ¬ (112 ≤ b ∧ b ≤ 122) → I2 b = I b := fun b q1 q2 q3 q4 => funext fun k => hf b k (by omega) q2 (by omega) q4
  have h102 : ∀ k, (k = 3 ∨ k = 4 ∨ k = 57) → I2 102 k = I 102 k := fun k hk => hf 102 k (by omega) (by omega) (by omega) (by omega)
  refine ⟨f_W w1 (fun i hi => ?_) ?_ ?_ ?_, f_V w2 ?_, f_K w3 (h102 57 (by omega)) (fun i hi => ?_) ?_ ?_ ?_, f_C w5 ?_ ?_ (h102 3 (by omega)) (h102 4 (by omega)) ?_ (h102 57 (by omega)), ⟨0, by decide, h1, h2, fun k hk => absurd hk (Nat.not_lt_zero k)⟩, hnu, fun i hi => ?_, hL, fun q hq => ?_⟩
  all_goals first | (rw [hb _ (by omega) (by omega) (by omega) (by omega)]; done) | skip
  · rw [hn8 i hi]
    have li := p_le w7 (j := i) (by omega)
    exact f_R (w8 i hi) (fun b b1 b2 => hb b (by omega) (by omega) (by omega) (by omega)) (fun b b1 b2 => hb b (by omega) (by omega) (by omega) (by omega))
  · rw [hb _ (by omega) (by omega) (by omega) (by omega)]; exact w0 q hq
end RL
def mu_lw (mu : Nat → Nat) : Nat → Nat := x_up (x_up (x_up mu 12 (mu 10)) 9 (mu 10)) 10 (mu 9)
section RM
variable {mu nu nu' : Nat → Nat} {I J : z_He} {y v z : Int32}
theorem lw_9 : mu_lw mu 9 = mu 10 := by
  unfold mu_lw
  rw [x_up_o (by decide), x_up_at]
theorem lw_10 : mu_lw mu 10 = mu 9 := x_up_at
theorem lw_o {j : Nat} (h1 : j ≠ 9) (h2 : j ≠ 10) (h3 : j ≠ 12) : mu_lw mu j = mu j := by
  unfold mu_lw
  rw [x_up_o h2, x_up_o h1, x_up_o h3]
theorem mulw_P (h : r_P mu) : r_P (mu_lw mu) := by
  obtain ⟨h1, h2, h3⟩ := h
  refine ⟨fun j hj => ?_, fun i j hi hj e => ?_, ?_⟩
  · rw [lw_o (by omega) (by omega) (by omega)]; exact h1 j hj
  · rw [lw_o (by omega) (by omega) (by omega), lw_o (by omega) (by omega) (by omega)] at e
    exact h2 i j hi hj e
  · rw [lw_9, lw_10]
    rcases h3 with ⟨e1, e2⟩ | ⟨e1, e2⟩
    · exact Or.inr ⟨e2, e1⟩
    · exact Or.inl ⟨e2, e1⟩
theorem R_lw : z_v (z_v (z_Rm (x_up mu 12 (mu 10))) 3 2 (mu 10)) 3 3 (mu 9) = z_Rm (mu_lw mu) := by
  funext b j
  rw [z_v_eq, z_v_eq]
  by_cases c3 : b = 3 ∧ j = 3
  · rw [if_pos c3, c3.1, c3.2]
    exact lw_10.symm
  · rw [if_neg c3]
    by_cases c2 : b = 3 ∧ j = 2
    · rw [if_pos c2, c2.1, c2.2]
      exact lw_9.symm
    · rw [if_neg c2]
      unfold z_Rm
      by_cases d1 : b = 4 ∧ j < 8
      · rw [if_pos d1, if_pos d1, lw_o (by omega) (by omega) (by omega), x_up_o (by omega)]
      · rw [if_neg d1, if_neg d1, if_neg c2, if_neg c2, if_neg c3, if_neg c3, lw_o (by decide) (by decide) (by decide), lw_o (by decide) (by decide) (by decide), x_up_o (by decide), x_up_o (by decide), show mu_lw mu 12 = x_up mu 12 (mu 10) 12 by unfold mu_lw; rw [x_up_o (by decide), x_up_o (by decide)]]
theorem lay1 (nu : Nat → Nat) : z_Rm nu 0 0 = 1 ∧ z_Rm nu 0 1 = 3 ∧ z_Rm nu 0 3 = 58 ∧ z_Rm nu 3 2 = nu 9 ∧ z_Rm nu 3 3 = nu 10 := ⟨rfl, rfl, rfl, rfl, rfl⟩
theorem law_f (c2 : ¬ n_in y 1 240 = 0) (t1 : I 1 1 = z) (c3 : y ≤ z) (e1 : fX4_readLaw 58 y (mu 10) I (z_Rm mu) = some (v, J, z_Rm nu)) (hv : v ≤ 0) : fX12_law 0 y I (z_Rm mu) = some (v, z_u J 1 1 0, z_Rm nu) := by
  unfold fX12_law fX10_length
  rw [z_g_t o_0, fX12_within_eq, z_b_s, if_neg c2, show z_Rm mu 0 0 = 1 from rfl, z_g_t (show z_ob 1 10 from rfl), z_g_t (show z_ob 1 10 from rfl), t1, z_b_s, if_pos c3, show z_Rm mu 0 1 = 3 from rfl, show z_Rm mu 0 3 = 58 from rfl, show z_Rm mu 3 3 = mu 10 from rfl, z_g_t (show z_ob 3 7 from rfl), z_g_t (show z_ob 58 4 from rfl)]
  obtain ⟨q, hq⟩ : ∃ q, q = (v, J, z_Rm nu) := ⟨_, rfl⟩
  have qR : q.2.2 = z_Rm nu := congrArg (fun t => t.2.2) hq
  have q0 : q.2.2 0 0 = 1 := by rw [qR]; exact (lay1 nu).1
  have qv : q.1 ≤ 0 := by rw [hq]; exact hv
  rw [← hq] at e1
  rw [e1, z_b_s, z_g_t (ob_text q0), cl_1 q0, z_b_s, if_pos qv, qR, congrArg (fun t => t.1) hq, congrArg (fun t => t.2.1) hq]
theorem law_s (c2 : ¬ n_in y 1 240 = 0) (t1 : I 1 1 = z) (c3 : y ≤ z) (e1 : fX4_readLaw 58 y (mu 10) I (z_Rm mu) = some (v, J, z_Rm nu)) (hv : ¬ v ≤ 0) (hsp : fX7_takeSpareLaw 3 (z_Rm nu) = some (z_Rm nu')) : fX12_law 0 y I (z_Rm mu) = some (v, z_u J 1 1 0, z_Rm nu') := by
  have hsp' : fX7_takeSpareLaw (z_Rm nu 0 1) (z_Rm nu) = some (z_Rm nu') := by rw [(lay1 nu).2.1]; exact hsp
  unfold fX12_law fX10_length
  rw [z_g_t o_0, fX12_within_eq, z_b_s, if_neg c2, show z_Rm mu 0 0 = 1 from rfl, z_g_t (show z_ob 1 10 from rfl), z_g_t (show z_ob 1 10 from rfl), t1, z_b_s, if_pos c3, show z_Rm mu 0 1 = 3 from rfl, show z_Rm mu 0 3 = 58 from rfl, show z_Rm mu 3 3 = mu 10 from rfl, z_g_t (show z_ob 3 7 from rfl), z_g_t (show z_ob 58 4 from rfl)]
  obtain ⟨q, hq⟩ : ∃ q, q = (v, J, z_Rm nu) := ⟨_, rfl⟩
  have qR : q.2.2 = z_Rm nu := congrArg (fun t => t.2.2) hq
  have q0 : q.2.2 0 0 = 1 := by rw [qR]; exact (lay1 nu).1
  have q1 : q.2.2 0 1 = 3 := by rw [qR]; exact (lay1 nu).2.1
  have qJ : q.2.1 = J := congrArg (fun t => t.2.1) hq
  have qv : ¬ q.1 ≤ 0 := by rw [hq]; exact hv
  have hsp2 : fX7_takeSpareLaw (q.2.2 0 1) q.2.2 = some (z_Rm nu') := by rw [qR]; exact hsp'
  have qe : q.1 = v := congrArg (fun t => t.1) hq
  rw [← hq] at e1
  rw [e1, z_b_s, z_g_t (ob_text q0), cl_1 q0, z_b_s, if_neg qv, z_g_t (ob_book q1), hsp2, z_b_s, qJ, qe]
end RM
theorem q_noend {sg : Nat → Int32} {n : Nat} {s : q_S} {f : Int32} {x : Nat × q_M × Nat × q_U} (h : q_end sg n s (.inl f)) (g : q_end sg n s (.inr x)) : False := by
  have := q_end_det h g
  cases this
theorem call_law : Call_law := by
  intro x1 I mu h
  obtain ⟨len, h⟩ := h
  by_cases c2 : n_in x1 1 240 = 0
  · refine ⟨-1, I, mu, I, ?_, ?_, len, h⟩
    · unfold fX12_law
      rw [z_g_t o_0, fX12_within_eq, z_b_s, if_pos c2]
    · unfold fX13_law
      rw [z_g_t m_ob, fX13_in_eq, z_b_s, if_pos c2]
  obtain ⟨t, ht, t1, t2, t3⟩ := h.2.2.2.2.1
  by_cases c3 : ¬ x1 ≤ nI t
  · refine ⟨-1, I, mu, I, ?_, ?_, len, h⟩
    · unfold fX12_law fX10_length
      rw [z_g_t o_0, fX12_within_eq, z_b_s, if_neg c2, show z_Rm mu 0 0 = 1 from rfl, z_g_t (show z_ob 1 10 from rfl), z_g_t (show z_ob 1 10 from rfl), t1, z_b_s, if_neg c3]
    · unfold fX13_law
      rw [z_g_t m_ob, fX13_in_eq, z_b_s, if_neg c2, t2, if_neg c3]
  have c3 := Decidable.not_not.mp c3
  have c2' := c2
  obtain ⟨n, n1, n240, rfl⟩ := n_in_range (a := 1) (b := 240) (by decide) c2' (by decide)
  have nt : n ≤ t := (n_le (by omega) (by omega)).mp c3
  have hP := h.2.2.2.2.2.1
  have hm := w_10 hP
  let sg : Nat → Int32 := fun p => if p < n then I 2 p else -1
  have hsg : u_sg n sg := by
    refine ⟨fun p hp => ?_, fun p hp => if_neg (by omega)⟩
    obtain ⟨v, hv, v1, v2⟩ := t3 p (by omega)
    exact ⟨v, hv, by rw [← v1]; exact if_pos hp⟩
  have htx : ∀ p, p < n → I 2 p = sg p := fun p hp => (if_pos hp).symm
  have h111 : ∀ p, p < n → I 111 p &&& 255 = sg p := fun p hp => by
    obtain ⟨v, hv, v1, v2⟩ := t3 p (by omega)
    rw [v2, ← v1]
    exact htx p hp
  obtain ⟨v, J, e1, e2, e4⟩ := c_laws hP n1 n240 hsg t1 nt (by omega) htx
  have kf : ∀ b k, ¬ (b = 1 ∧ 1 ≤ k ∧ k ≤ 4) → ¬ (mu 10 ≤ b ∧ b ≤ mu 10 + 6) → z_u J 1 1 0 b k = I b k := fun b k q1 q2 => by
    rw [z_u_eq, if_neg (by omega)]
    exact e2 b k (by omega) q2
  have mo : ∀ nu : Nat → Nat, _ := fun nu => mo_laws (I := z_u J 1 1 0) (sg := sg) (mu := nu) (N := t) n1 n240 hsg (fun p hp => by rw [kf 111 p (by omega) (by omega)]; exact h111 p hp) (by rw [kf 102 11 (by omega) (by omega)]; exact t2) nt (by omega)
  rcases e4 with ⟨s, M, nr, ru, f1, f2, f3, f4, f5, f6, f7⟩ | ⟨c, q, f1, f2, f3, f4, f5⟩
  · subst f1
    have sp : fX7_takeSpareLaw 3 (z_Rm (x_up mu 12 (mu 10))) = some (z_Rm (mu_lw mu)) := by
      unfold fX7_takeSpareLaw
      rw [z_g_t (show z_ob 3 7 from rfl), (lay1 (x_up mu 12 (mu 10))).2.2.2.1, (lay1 (x_up mu 12 (mu 10))).2.2.2.2, show x_up mu 12 (mu 10) 9 = mu 9 from x_up_o (by decide), show x_up mu 12 (mu 10) 10 = mu 10 from x_up_o (by decide), z_g_t (o_law hP), z_l_s, z_l_s, R_lw]
    have cl := law_s c2 t1 c3 e1 (show ¬ nI nr ≤ 0 from nI_nle f2 (by omega)) sp
    obtain ⟨v2, J2, g1, g11, gf, g2⟩ := mo (mu_lw mu)
    rcases g2 with ⟨c, q, -, g2, -⟩ | ⟨s', M', nr', ru', g3, g2, g4, g5, g6⟩
    · exact absurd f7 (fun f7 => q_noend g2 f7)
    · have := q_end_det f7 g2
      cases this
      subst g3
      have ce : ∀ b, mu 10 ≤ b → b ≤ mu 10 + 6 → J2 b = J b := fun b q1 q2 => funext fun k => by
        rw [gf b k (by omega) (by omega), u_o (by omega)]
      refine ⟨nI nr, z_u J 1 1 0, mu_lw mu, J2, cl, g1, len, rel_la h (mulw_P hP) (fun j hj => lw_o (by omega) (by omega) (by omega)) (fun b k q1 q2 q3 q4 => ?_) ?_ g11 ?_⟩
      · rw [gf b k q3 q4]
        exact kf b k q1 q2
      · rw [gf 1 1 (by omega) (by omega), z_u_at]
      · rw [lw_9]
        refine la_L f3 f4 ?_ ?_ g4 g5 g6
        · unfold w_C at f5 ⊢
          rw [ce (mu 10) (by omega) (by omega), ce (mu 10 + 1) (by omega) (by omega), ce (mu 10 + 3) (by omega) (by omega), ce (mu 10 + 4) (by omega) (by omega), ce (mu 10 + 5) (by omega) (by omega), ce (mu 10 + 6) (by omega) (by omega)]
          exact f5
        · rw [ce (mu 10 + 2) (by omega) (by omega)]
          exact f6
  · subst f1
    have neg := (w_flt_neg c (by omega) q (by omega) f2).1
    have cl := law_f c2 t1 c3 e1 (Int32.le_of_lt neg)
    obtain ⟨v2, J2, g1, g11, gf, g2⟩ := mo (x_up mu 12 (mu 10))
    rcases g2 with ⟨c', q', g3, g2, g20, g118⟩ | ⟨s', M', nr', ru', g3, g2, -⟩
    · have := q_end_det f5 g2
      have ev : u_flt c q = u_flt c' q' := by
        injection this
      subst g3
      rw [← ev] at g1
      have hl := p_law hP
      refine ⟨_, _, _, J2, cl, g1, len, rel_la h (r_P12 hP (mu 10)) (fun j hj => x_up_o (by omega)) (fun b k q1 q2 q3 q4 => ?_) ?_ g11 ?_⟩
      · rw [gf b k q3 q4]
        exact kf b k q1 q2
      · rw [gf 1 1 (by omega) (by omega), z_u_at]
      · rw [x_up_o (by decide)]
        have p2 := p_law2 hP
        have cb : ∀ b, mu 9 ≤ b → b ≤ mu 9 + 6 → J2 b = I b := fun b b1 b2 => funext fun k => by
          rw [gf b k (by omega) (by omega)]
          exact kf b k (by omega) (p2 b b1 b2)
        refine f_L0 h.2.2.2.2.2.2.2.1 (fun b b1 b2 => cb b (by omega) b2) (by rw [cb _ (by omega) (by omega)]) (by rw [cb _ (by omega) (by omega)]) ?_ (fun b b1 b2 => ?_)
        · rw [g20]; exact kf 102 20 (by omega) (by omega)
        · rw [g118 b b1 b2]
          funext k
          exact kf b k (by omega) (by omega)
    · exact absurd g2 (fun g2 => q_noend f5 g2)
