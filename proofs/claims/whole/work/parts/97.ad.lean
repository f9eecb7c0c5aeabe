/-! roll: the call -/
theorem lay0 (nu : Nat → Nat) : z_Rm nu 0 0 = 1 ∧ z_Rm nu 0 1 = 3 ∧ z_Rm nu 0 5 = 62 ∧ z_Rm nu 62 0 = 63 ∧ z_Rm nu 3 0 = 4 ∧ z_Rm nu 3 1 = nu 8 := ⟨rfl, rfl, rfl, rfl, rfl, rfl⟩
theorem ob_text {a : Nat} (e : a = 1) : z_ob a 10 := e ▸ (show z_ob 1 10 from rfl)
theorem ob_book {a : Nat} (e : a = 3) : z_ob a 7 := e ▸ (show z_ob 3 7 from rfl)
theorem cl_1 {a : Nat} {J : z_He} (e : a = 1) : fX10_clear a J = some (z_u J 1 1 0) := by
  subst e
  unfold fX10_clear
  rw [z_g_t (show z_ob 1 10 from rfl), z_l_s]
section RC
variable {mu nu nu' : Nat → Nat} {I J : z_He} {i : Nat} {y v z : Int32}
theorem roll_f {x : Int32} (c1 : ¬ n_in x 0 7 = 0) (c2 : ¬ n_in y 1 60 = 0) (t1 : I 1 1 = z) (c3 : y ≤ z) (e1 : fX6_readRoll 57 y (mu 8) I (z_Rm mu) = some (v, J, z_Rm nu)) (hv : v ≤ 0) : fX12_roll 0 x y I (z_Rm mu) = some (v, z_u J 1 1 0, z_Rm nu) := by
  unfold fX12_roll fX10_length
  rw [z_g_t o_0, fX12_isSinger_eq, z_b_s, if_neg c1, fX12_within_eq, z_b_s, if_neg c2, show z_Rm mu 0 0 = 1 from rfl, z_g_t (show z_ob 1 10 from rfl), z_g_t (show z_ob 1 10 from rfl), t1, z_b_s, if_pos c3, show z_Rm mu 0 1 = 3 from rfl, show z_Rm mu 0 2 = 57 from rfl, show z_Rm mu 3 1 = mu 8 from rfl, z_g_t (show z_ob 3 7 from rfl), z_g_t (show z_ob 57 6 from rfl)]
  obtain ⟨q, hq⟩ : ∃ q, q = (v, J, z_Rm nu) := ⟨_, rfl⟩
  have qR : q.2.2 = z_Rm nu := congrArg (fun t => t.2.2) hq
  have q0 : q.2.2 0 0 = 1 := by rw [qR]; exact (lay0 nu).1
  have qv : q.1 ≤ 0 := by rw [hq]; exact hv
  rw [← hq] at e1
  rw [e1, z_b_s, z_g_t (ob_text q0), cl_1 q0, z_b_s, if_pos qv, qR, congrArg (fun t => t.1) hq, congrArg (fun t => t.2.1) hq]
theorem roll_s (hi : i < 8) (c1 : ¬ n_in (nI i) 0 7 = 0) (c2 : ¬ n_in y 1 60 = 0) (t1 : I 1 1 = z) (c3 : y ≤ z) (e1 : fX6_readRoll 57 y (mu 8) I (z_Rm mu) = some (v, J, z_Rm nu)) (hv : ¬ v ≤ 0) (hsp : fX7_takeSpareRoll 3 (nI i) (z_Rm nu) = some (z_Rm nu')) : fX12_roll 0 (nI i) y I (z_Rm mu) = some (v, (fun b f => if b = 64 + i then w_beg (z_u J 1 1 0 (64 + i)) f else z_u J 1 1 0 b f), z_Rm nu') := by
  have hsp' : fX7_takeSpareRoll (z_Rm nu 0 1) (nI i) (z_Rm nu) = some (z_Rm nu') := by rw [(lay0 nu).2.1]; exact hsp
  have r5 : z_Rm nu' (z_Rm nu' 0 5) 0 = 63 := by rw [(lay0 nu').2.2.1]; exact (lay0 nu').2.2.2.1
  have r6 : z_Rm nu' (z_Rm nu' (z_Rm nu' 0 5) 0) (nI i).toNatClampNeg = 64 + i := by rw [r5, nI_clamp (by omega)]; exact (z_ls62 nu' hi).1
  have o5 : z_ob (z_Rm nu' 0 5) 9 := by rw [(lay0 nu').2.2.1]; exact (show z_ob 62 9 from rfl)
  have o6 : z_ok 4 (z_Rm nu' (z_Rm nu' 0 5) 0) (nI i) := by rw [r5]; exact n_ok (t := 4) (a := 63) (n := 8) rfl hi (by decide)
  have o7 : z_ob (z_Rm nu' (z_Rm nu' (z_Rm nu' 0 5) 0) (nI i).toNatClampNeg) 8 := by rw [r6]; exact (z_ls62 nu' hi).2
  have o8 : fX8_begin (z_Rm nu' (z_Rm nu' (z_Rm nu' 0 5) 0) (nI i).toNatClampNeg) (z_u J 1 1 0) = some (fun b f => if b = 64 + i then w_beg (z_u J 1 1 0 (64 + i)) f else z_u J 1 1 0 b f) := by rw [r6]; exact c_beg (z_ls62 nu' hi).2
  unfold fX12_roll fX10_length
  rw [z_g_t o_0, fX12_isSinger_eq, z_b_s, if_neg c1, fX12_within_eq, z_b_s, if_neg c2, show z_Rm mu 0 0 = 1 from rfl, z_g_t (show z_ob 1 10 from rfl), z_g_t (show z_ob 1 10 from rfl), t1, z_b_s, if_pos c3, show z_Rm mu 0 1 = 3 from rfl, show z_Rm mu 0 2 = 57 from rfl, show z_Rm mu 3 1 = mu 8 from rfl, z_g_t (show z_ob 3 7 from rfl), z_g_t (show z_ob 57 6 from rfl)]
  obtain ⟨q, hq⟩ : ∃ q, q = (v, J, z_Rm nu) := ⟨_, rfl⟩
  have qR : q.2.2 = z_Rm nu := congrArg (fun t => t.2.2) hq
  have q0 : q.2.2 0 0 = 1 := by rw [qR]; exact (lay0 nu).1
  have q1 : q.2.2 0 1 = 3 := by rw [qR]; exact (lay0 nu).2.1
  have qJ : q.2.1 = J := congrArg (fun t => t.2.1) hq
  have qv : ¬ q.1 ≤ 0 := by rw [hq]; exact hv
  have hsp2 : fX7_takeSpareRoll (q.2.2 0 1) (nI i) q.2.2 = some (z_Rm nu') := by rw [qR]; exact hsp'
  have qe : q.1 = v := congrArg (fun t => t.1) hq
  rw [← hq] at e1
  rw [e1, z_b_s, z_g_t (ob_text q0), cl_1 q0, z_b_s, if_neg qv, z_g_t (ob_book q1), hsp2, z_b_s, z_g_t o5, z_g_t o6, z_g_t o7, qJ, o8, z_b_s, qe]
end RC
theorem u_noend {sg : Nat → Int32} {n : Nat} {s : u_St} {f : Int32} {x : Nat × u_F} (h : u_end sg n s (.inl f)) (g : u_end sg n s (.inr x)) : False := by
  have := u_end_det h g
  cases this
theorem call_roll : Call_roll := by
  intro x1 x2 I mu h
  obtain ⟨len, h⟩ := h
  have no1 : n_in x1 0 7 = 0 ∨ (¬ n_in x1 0 7 = 0 ∧ n_in x2 1 60 = 0) ∨ (¬ n_in x1 0 7 = 0 ∧ ¬ n_in x2 1 60 = 0) := by
    by_cases c1 : n_in x1 0 7 = 0
    · exact Or.inl c1
    · by_cases c2 : n_in x2 1 60 = 0
      · exact Or.inr (Or.inl ⟨c1, c2⟩)
      · exact Or.inr (Or.inr ⟨c1, c2⟩)
  rcases no1 with c1 | ⟨c1, c2⟩ | ⟨c1, c2⟩
  · refine ⟨-1, I, mu, I, ?_, ?_, len, h⟩
    · unfold fX12_roll
      rw [z_g_t o_0, fX12_isSinger_eq, z_b_s, if_pos c1]
    · unfold fX13_roll
      rw [z_g_t m_ob, fX13_in_eq, z_b_s, if_pos c1]
  · refine ⟨-1, I, mu, I, ?_, ?_, len, h⟩
    · unfold fX12_roll
      rw [z_g_t o_0, fX12_isSinger_eq, z_b_s, if_neg c1, fX12_within_eq, z_b_s, if_pos c2]
    · unfold fX13_roll
      rw [z_g_t m_ob, fX13_in_eq, z_b_s, if_neg c1, fX13_in_eq, z_b_s, if_pos c2]
  obtain ⟨t, ht, t1, t2, t3⟩ := h.2.2.2.2.1
  by_cases c3 : ¬ x2 ≤ nI t
  · refine ⟨-1, I, mu, I, ?_, ?_, len, h⟩
    · unfold fX12_roll fX10_length
      rw [z_g_t o_0, fX12_isSinger_eq, z_b_s, if_neg c1, fX12_within_eq, z_b_s, if_neg c2, show z_Rm mu 0 0 = 1 from rfl, z_g_t (show z_ob 1 10 from rfl), z_g_t (show z_ob 1 10 from rfl), t1, z_b_s, if_neg c3]
    · unfold fX13_roll
      rw [z_g_t m_ob, fX13_in_eq, z_b_s, if_neg c1, fX13_in_eq, z_b_s, if_neg c2, t2, if_neg c3]
  have c3 := Decidable.not_not.mp c3
  have c2' := c2
  obtain ⟨i, hi, rfl⟩ := n_in7 c1
  obtain ⟨n, n1, n60, rfl⟩ := n_in_range (a := 1) (b := 60) (by decide) c2' (by decide)
  have nt : n ≤ t := (n_le (by omega) (by omega)).mp c3
  have hP := h.2.2.2.2.2.1
  have h8 := p_le hP (show 8 < 9 by decide)
  have h0 : I (mu 8 + 3) 0 = 0 := by
    obtain ⟨q, q1, q2⟩ := hP.1 8 (by decide)
    rw [q2, show 5 + 4 * q + 3 = 8 + 4 * q by omega]
    exact h.2.2.2.2.2.2.2.2 q q1
  let sg : Nat → Int32 := fun p => if p < n then I 2 p else -1
  have hsg : u_sg n sg := by
    refine ⟨fun p hp => ?_, fun p hp => if_neg (by omega)⟩
    obtain ⟨v, hv, v1, v2⟩ := t3 p (by omega)
    exact ⟨v, hv, by rw [← v1]; exact if_pos hp⟩
  have htx : ∀ p, p < n → I 2 p = sg p := fun p hp => (if_pos hp).symm
  have h111 : ∀ p, p < n → I 111 p &&& 255 = sg p := fun p hp => by
    obtain ⟨v, hv, v1, v2⟩ := t3 p (by omega)
    rw [v2, ← v1]
    exact htx p hp
  obtain ⟨v, J, e1, e2, e3, e4⟩ := c_rolls hP n1 n60 hsg t1 nt (by omega) htx h0
  rcases e4 with ⟨m, F, f1, f2, f3, f4, f5⟩ | ⟨c, q, f1, f2, f3, f4, f5⟩
  · subst f1
    have m60 := f4.1
    have sp : fX7_takeSpareRoll 3 (nI i) (z_Rm (x_up mu 11 (mu 8))) = some (z_Rm (mu_sw mu i)) := by
      have hP1 := r_P11 hP (mu 8)
      have rr : z_Rm (x_up mu 11 (mu 8)) 4 i = mu i := by
        unfold z_Rm
        rw [if_pos ⟨rfl, hi⟩, x_up_o (by omega)]
      unfold fX7_takeSpareRoll
      rw [z_g_t (show z_ob 3 7 from rfl), fX12_isSinger_eq, z_b_s, if_neg c1, (lay0 (x_up mu 11 (mu 8))).2.2.2.2.1, (lay0 (x_up mu 11 (mu 8))).2.2.2.2.2, show x_up mu 11 (mu 8) 8 = mu 8 from x_up_o (by decide), z_g_t (n_ok (t := 3) (a := 4) (n := 8) rfl hi (by decide)), nI_clamp (show i < 2 ^ 31 by omega), rr, z_g_t (o_roll hP (show i < 9 by omega)).1, z_g_t (o_roll hP (show 8 < 9 by decide)).1, z_l_s, z_l_s, R_sw hi]
    have cl := roll_s hi c1 c2 t1 c3 e1 (show ¬ nI m ≤ 0 from nI_nle f2 (by omega)) sp
    generalize hK : (fun b f => if b = 64 + i then w_beg (z_u J 1 1 0 (64 + i)) f else z_u J 1 1 0 b f) = K at cl
    have kf : ∀ b k, ¬ (b = 1 ∧ 1 ≤ k ∧ k ≤ 4) → ¬ (mu 8 ≤ b ∧ b ≤ mu 8 + 3) → ¬ b = 64 + i → K b k = I b k := fun b k q1 q2 q3 => by
      rw [← hK]
      dsimp only
      rw [if_neg q3, z_u_eq, if_neg (by omega)]
      exact e2 b k (by omega) q2
    have k8 : ∀ b, mu 8 ≤ b → b ≤ mu 8 + 3 → K b = J b := fun b q1 q2 => by
      rw [← hK]
      funext k
      dsimp only
      rw [if_neg (by omega), u_o (by omega)]
    have k11 : K 1 1 = 0 := by
      rw [← hK]
      dsimp only
      rw [if_neg (by omega), z_u_at]
    have k64 : ∀ f, K (64 + i) f = w_beg (I (64 + i)) f := fun f => by
      rw [← hK]
      dsimp only
      rw [if_pos rfl, u_o (show 64 + i ≠ 1 by omega), show J (64 + i) = I (64 + i) from funext fun k => e2 (64 + i) k (by omega) (by omega)]
    obtain ⟨v2, J2, g1, g2⟩ := mr_roll (I := K) (sg := sg) (mu := mu_sw mu i) (N := t) hi n1 ⟨hsg, n60, fun p hp => by rw [kf 111 p (by omega) (by omega) (by omega)]; exact h111 p hp⟩ (by rw [kf 102 11 (by omega) (by omega) (by omega)]; exact t2) nt (by omega)
    rcases g2 with ⟨g2, -⟩ | ⟨m', F', g2, g3, g4, g5, g6, g7, g8, g9, g10, g11, g12⟩
    · exact absurd f5 (fun f5 => u_noend g2 f5)
    · have := u_end_det f5 g2
      cases this
      subst g3
      refine ⟨nI m, K, mu_sw mu i, J2, cl, g1, x_up len i m, rel_ro2 (I := I) (F := F) hi h f4 (fun b k q1 q2 q3 q4 q5 q6 q7 q8 => ?_) ?_ g6 ?_ g7 g8 (fun f => ?_) (fun f j hf hj => ?_) ?_ ?_⟩
      · rw [g12 b k q3 q4 q5 q7 q8]
        exact kf b k q1 q2 q6
      · rw [g12 1 1 (by omega) (by omega) (by omega) (by omega) (by omega)]
        exact k11
      · have ce : ∀ b, mu 8 ≤ b → b ≤ mu 8 + 3 → J2 b = J b := fun b q1 q2 => funext fun k => by
          rw [g12 b k (by omega) (by omega) (by omega) (by omega) (by omega), k8 b q1 q2]
        obtain ⟨x1, x2, x3⟩ := f3
        refine ⟨by rw [ce _ (by omega) (by omega)]; exact x1, fun k hk => ?_, fun k hk => by rw [ce _ (by omega) (by omega)]; exact x3 k hk⟩
        rw [ce (mu 8 + 1) (by omega) (by omega), ce (mu 8 + 2) (by omega) (by omega)]
        exact x2 k hk
      · rw [g12 (64 + i) f (by omega) (by omega) (by omega) (by omega) (by omega)]
        exact k64 f
      · rw [g9 f j hf hj]
        have k103 : ∀ k, K 103 k = I 103 k := fun k => kf 103 k (by omega) (by omega) (by omega)
        simp only [k103]
      · rw [g10]; exact kf 103 80 (by omega) (by omega) (by omega)
      · rw [g11]; exact kf 103 81 (by omega) (by omega) (by omega)
  · subst f1
    have neg := (u_flt_neg c (by omega) q (by omega) f2).1
    have cl := roll_f c1 c2 t1 c3 e1 (Int32.le_of_lt neg)
    have kf : ∀ b k, ¬ (b = 1 ∧ 1 ≤ k ∧ k ≤ 4) → ¬ (mu 8 ≤ b ∧ b ≤ mu 8 + 3) → z_u J 1 1 0 b k = I b k := fun b k q1 q2 => by
      rw [z_u_eq, if_neg (by omega)]
      exact e2 b k (by omega) q2
    obtain ⟨v2, J2, g1, g2⟩ := mr_roll (I := z_u J 1 1 0) (sg := sg) (mu := x_up mu 11 (mu 8)) (N := t) hi n1 ⟨hsg, n60, fun p hp => by rw [kf 111 p (by omega) (by omega)]; exact h111 p hp⟩ (by rw [kf 102 11 (by omega) (by omega)]; exact t2) nt (by omega)
    rcases g2 with ⟨g2, g3, g4⟩ | ⟨m', F', g2, -⟩
    · have := u_end_det f5 g2
      cases this
      refine ⟨_, _, _, J2, cl, g1, len, rel_ro1 h (fun b k q1 q2 q3 q4 => ?_) ?_ g3 ?_⟩
      · rw [g4 b k q3 q4]
        exact kf b k q1 q2
      · rw [g4 1 1 (by omega) (by omega), z_u_at]
      · rw [g4 (mu 8 + 3) 0 (by omega) (by omega), u_o (by omega)]
        exact e3
    · exact absurd g2 (fun g2 => u_noend f5 g2)
