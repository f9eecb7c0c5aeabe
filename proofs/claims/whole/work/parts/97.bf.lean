/-! law: the model reads a law -/
section MH
variable {I K J : z_He} {mu : Nat → Nat} {n N : Nat} {sg : Nat → Int32}
theorem mo_place {p s nr : Nat} {M : q_M} {ru : q_U} (h : mo_X I J p s M nr ru) (v : Nat) : mo_X I (z_u J 102 12 (nI v)) v s M nr ru := by
  obtain ⟨x1, x2, x3, x4, x5, x6⟩ := h
  refine ⟨fun b k q1 q2 => by rw [z_u_eq, if_neg (by omega)]; exact x1 b k q1 q2, z_u_at _ _ _ _, ?_, ?_, fun k hk => ?_, fun r hr => ?_⟩
  · rw [z_u_k (by decide)]; exact x3
  · rw [z_u_k (by decide)]; exact x4
  · rw [u_o (by decide)]; exact x5 k hk
  · rw [u_o (by decide), u_o (by decide), u_o (by decide), u_o (by decide)]; exact x6 r hr
def mo_ll (K : z_He) (n : Nat) (sg : Nat → Int32) (t : Int32 × z_He) : Prop := (∃ p s M cx nr ru1, t.1 = 1 ∧ nr < 16 ∧ q_to sg n q_s0 (7, p, s, M, [], cx, nr, ru1) ∧ mo_X K t.2 p s M (nr + 1) (w_ru ru1 nr s)) ∨ ∃ c q, t.1 = 0 ∧ mo_F K t.2 (u_flt c q) ∧ q_end sg n q_s0 (.inl (u_flt c q))
def mo_le (K : z_He) (n : Nat) (sg : Nat → Int32) (t : Int32 × z_He) : Prop := (∃ s M nr ru, t.1 = 1 ∧ s ≤ 240 ∧ nr ≤ 16 ∧ q_end sg n q_s0 (.inr (s, M, nr, ru)) ∧ ∃ p, mo_X K t.2 p s M nr ru) ∨ ∃ c q, t.1 = 0 ∧ mo_F K t.2 (u_flt c q) ∧ q_end sg n q_s0 (.inl (u_flt c q))
theorem mo_loop (ht : m_tx K n sg) (t : Int32 × z_He) (h : mo_ll K n sg t) : ∃ x, z_lp (fX13_law_b31 102 (z_Rm mu)) 300 t = some x ∧ mo_le K n sg x := by
  have n240 := ht.2.1
  refine lp_var (body := fX13_law_b31 102 (z_Rm mu)) (mo_ll K n sg) (fun (x : Int32 × z_He) => mo_le K n sg x) (fun t => if t.1 = 0 then 0 else 1 + (n + 1 - (t.2 102 12).toNatClampNeg)) ?_ 300 t (by split <;> omega) h
  intro t h
  obtain ⟨a, G⟩ := t
  unfold fX13_law_b31
  dsimp only
  rcases h with ⟨p, s, M, cx, nr, ru1, h1, h2, h3, h4⟩ | ⟨c, q, h1, h⟩
  · dsimp only at h1 h4
    subst h1
    have i7 := q_inv_l (q_inv_to ht.1 q_inv0 h3)
    have g13 : G 102 13 = nI n := by rw [h4.1 102 13 (by omega) (by omega)]; exact ht.2.2.1
    have tG : m_tx G n sg := m_tx_c ht (h4.1 102 13 (by omega) (by omega)) (funext fun k => h4.1 111 k (by omega) (by omega))
    rw [if_neg (show ¬ (1 : Int32) = 0 by decide), if_neg (show ¬ (1 : Int32) = 0 by decide), g13, h4.2.1]
    have cl : (nI p).toNatClampNeg = p := nI_clamp (by omega)
    by_cases c : p < n
    · rw [if_neg (nI_ge c (by omega))]
      unfold fX13_takes
      rw [z_g_t m_ob, ml_here tG (fun _ _ _ _ => rfl) h4.2.1 (by omega), z_b_s]
      by_cases c59 : sg p = 59
      · have s7 : q_step sg n (7, p, s, M, [], cx, nr, ru1) = .inl (0, p + 1, s, M, [], cx, nr + 1, w_ru ru1 nr s) := by
          rw [q_ph7, if_pos c59]
          rfl
        have to0 := q_to_t h3 (q_to_s s7)
        have i0 := q_inv_to ht.1 q_inv0 to0
        rw [if_pos c59, z_l_s, h4.2.1, n_s1, z_b_s, if_neg (show ¬ (1 : Int32) = 0 by decide)]
        dsimp only
        rcases ml_rule (mu := mu) ht (mo_place h4 (p + 1)) i0 with ⟨J2, p2, s2, M2, cx2, ru2, g1, g2, g3, g4, g5⟩ | ⟨J2, c, q, g1, g2, g3⟩
        · rw [g1, z_b_s, if_neg (show ¬ (1 : Int32) = 0 by decide)]
          unfold fX13_law_j67_31
          have to2 := q_to_t to0 g3
          have i2 := q_inv_l (q_inv_to ht.1 q_inv0 to2)
          refine Or.inl ⟨_, rfl, Or.inl ⟨p2, s2, M2, cx2, nr + 1, ru2, rfl, g2, to2, g5⟩, ?_⟩
          dsimp only
          rw [if_neg (show ¬ (1 : Int32) = 0 by decide), g5.2.1, nI_clamp (by omega), cl]
          omega
        · rw [g1, z_b_s, if_pos rfl]
          unfold fX13_law_j66_31 fX13_law_j67_31
          refine Or.inl ⟨_, rfl, Or.inr ⟨c, q, rfl, g2, q_to_e to0 g3⟩, ?_⟩
          dsimp only
          rw [if_pos rfl]
          omega
      · have w1 := (ml_wrong (K := G) (J := G) (c := 1) (q := p) (fun _ _ _ _ => rfl)).1
        have mf : mo_F K (z_u G 102 14 (u_flt 1 p)) (u_flt 1 p) := ⟨fun b k q1 q2 => by rw [z_u_eq, if_neg (by omega)]; exact h4.1 b k q1 q2, z_u_at _ _ _ _⟩
        rw [if_neg c59, h4.2.1, show fX13_wrongAt 102 (1 : Int32) = fX13_wrongAt 102 (nI 1) from rfl, w1, z_b_s, z_g_t (Or.inl rfl), z_b_s, if_pos rfl]
        unfold fX13_law_j66_31 fX13_law_j67_31
        refine Or.inl ⟨_, rfl, Or.inr ⟨1, p, rfl, mf, q_to_e h3 (q_end_s (by rw [q_ph7, if_neg c59, if_pos c]))⟩, ?_⟩
        dsimp only
        rw [if_pos rfl]
        omega
    · rw [if_pos (nI_le (by omega) (by omega))]
      have c59 : ¬ sg p = 59 := by
        rw [ht.1.2 p (by omega)]
        decide
      refine Or.inr ⟨_, rfl, Or.inl ⟨s, M, nr + 1, _, rfl, by omega, by omega, q_to_e h3 (q_end_s ?_), p, h4⟩⟩
      rw [q_ph7, if_neg c59, if_neg c]
      rfl
  · dsimp only at h1 h
    subst h1
    rw [if_pos rfl]
    exact Or.inr ⟨_, rfl, Or.inr ⟨c, q, rfl, h⟩⟩
theorem r_m3 (mu : Nat → Nat) : z_Rm mu 102 27 = 118 ∧ z_Rm mu 102 28 = 119 ∧ z_Rm mu 102 29 = 120 ∧ z_Rm mu 102 30 = 121 ∧ z_Rm mu 102 31 = 122 := ⟨rfl, rfl, rfl, rfl, rfl⟩
theorem mo_c1 {s : Nat} (hs : s ≤ 240) (h : J 102 17 = nI s) : ∃ J', z_lp (fX13_law_b95 102 (z_Rm mu)) 300 ((0 : Int32), J) = some J' ∧ (∀ j, j < s → J' 118 j = J 112 j) ∧ ∀ b, b ≠ 118 → J' b = J b := by
  refine lp_inv (body := fX13_law_b95 102 (z_Rm mu)) (fun k q => q.1 = nI k ∧ (∀ j, j < k → q.2 118 j = J 112 j) ∧ ∀ b, b ≠ 118 → q.2 b = J b) (fun (J' : z_He) => (∀ j, j < s → J' 118 j = J 112 j) ∧ ∀ b, b ≠ 118 → J' b = J b) (n := s) (fun k q hk hp => ?_) (fun q hp => ?_) 300 ((0 : Int32), J) (by omega) ⟨rfl, fun j hj => by omega, fun _ _ => rfl⟩
  · obtain ⟨x, G⟩ := q
    obtain ⟨p1, p2, p3⟩ := hp
    dsimp only at p1 p2 p3
    subst p1
    unfold fX13_law_b95
    dsimp only
    rw [p3 102 (by decide), h, if_neg (nI_ge hk (by omega)), (r_m mu).2.1, (r_m3 mu).1, z_g_t (n_ok (n := 260) rfl (show k < 260 by omega) (by decide)), z_g_t (n_ok (n := 260) rfl (show k < 260 by omega) (by decide)), nI_clamp (show k < 2 ^ 31 by omega), z_l_s, z_l_s, n_s1, p3 112 (by decide)]
    refine ⟨_, rfl, rfl, fun j hj => ?_, fun b hb => by dsimp only; rw [u_o hb]; exact p3 b hb⟩
    dsimp only
    by_cases c : j = k
    · rw [c, z_u_at]
    · rw [z_u_k c]; exact p2 j (by omega)
  · obtain ⟨x, G⟩ := q
    obtain ⟨p1, p2, p3⟩ := hp
    dsimp only at p1 p2 p3
    subst p1
    unfold fX13_law_b95
    dsimp only
    rw [p3 102 (by decide), h, if_pos (nI_le (Nat.le_refl s) (by omega))]
    exact ⟨G, rfl, p2, p3⟩
theorem mo_c2 {nr : Nat} (hs : nr ≤ 16) (h : J 102 19 = nI nr) : ∃ J', z_lp (fX13_law_b123 102 (z_Rm mu)) 300 ((0 : Int32), J) = some J' ∧ (∀ j, j < nr → J' 119 j = J 114 j ∧ J' 120 j = J 115 j ∧ J' 121 j = J 116 j ∧ J' 122 j = J 117 j) ∧ ∀ b, ¬ (119 ≤ b ∧ b ≤ 122) → J' b = J b := by
  refine lp_inv (body := fX13_law_b123 102 (z_Rm mu)) (fun k q => q.1 = nI k ∧ (∀ j, j < k → q.2 119 j = J 114 j ∧ q.2 120 j = J 115 j ∧ q.2 121 j = J 116 j ∧ q.2 122 j = J 117 j) ∧ ∀ b, ¬ (119 ≤ b ∧ b ≤ 122) → q.2 b = J b) (fun (J' : z_He) => (∀ j, j < nr → J' 119 j = J 114 j ∧ J' 120 j = J 115 j ∧ J' 121 j = J 116 j ∧ J' 122 j = J 117 j) ∧ ∀ b, ¬ (119 ≤ b ∧ b ≤ 122) → J' b = J b) (n := nr) (fun k q hk hp => ?_) (fun q hp => ?_) 300 ((0 : Int32), J) (by omega) ⟨rfl, fun j hj => by omega, fun _ _ => rfl⟩
  · obtain ⟨x, G⟩ := q
    obtain ⟨p1, p2, p3⟩ := hp
    dsimp only at p1 p2 p3
    subst p1
    have ok : ∀ a, z_len 1 a = 16 → z_ok 1 a (nI k) := fun a ha => n_ok ha (show k < 16 by omega) (by decide)
    unfold fX13_law_b123
    dsimp only
    rw [p3 102 (by decide), h, if_neg (nI_ge hk (by omega)), (r_m2 mu).1, (r_m2 mu).2.1, (r_m2 mu).2.2.1, (r_m2 mu).2.2.2, (r_m3 mu).2.1, (r_m3 mu).2.2.1, (r_m3 mu).2.2.2.1, (r_m3 mu).2.2.2.2, z_g_t (ok 114 rfl), z_g_t (ok 119 rfl), z_l_s, z_g_t (ok 115 rfl), z_g_t (ok 120 rfl), z_l_s, z_g_t (ok 116 rfl), z_g_t (ok 121 rfl), z_l_s, z_g_t (ok 117 rfl), z_g_t (ok 122 rfl), z_l_s, nI_clamp (show k < 2 ^ 31 by omega), z_l_s, n_s1, u_o (show (115 : Nat) ≠ 119 by decide), u_o (show (116 : Nat) ≠ 120 by decide), u_o (show (116 : Nat) ≠ 119 by decide), u_o (show (117 : Nat) ≠ 121 by decide), u_o (show (117 : Nat) ≠ 120 by decide), u_o (show (117 : Nat) ≠ 119 by decide), p3 114 (by decide), p3 115 (by decide), p3 116 (by decide), p3 117 (by decide)]
    refine ⟨_, rfl, rfl, fun j hj => ?_, fun b hb => by dsimp only; rw [u_o (by omega), u_o (by omega), u_o (by omega), u_o (by omega)]; exact p3 b hb⟩
    dsimp only
    by_cases c : j = k
    · subst c
      refine ⟨?_, ?_, ?_, ?_⟩
      · rw [u_o (by decide), u_o (by decide), u_o (by decide), z_u_at]
      · rw [u_o (by decide), u_o (by decide), z_u_at]
      · rw [u_o (by decide), z_u_at]
      · rw [z_u_at]
    · obtain ⟨y1, y2, y3, y4⟩ := p2 j (by omega)
      refine ⟨?_, ?_, ?_, ?_⟩
      · rw [u_o (by decide), u_o (by decide), u_o (by decide), z_u_k c]; exact y1
      · rw [u_o (by decide), u_o (by decide), z_u_k c, u_o (by decide)]; exact y2
      · rw [u_o (by decide), z_u_k c, u_o (by decide), u_o (by decide)]; exact y3
      · rw [z_u_k c, u_o (by decide), u_o (by decide), u_o (by decide)]; exact y4
  · obtain ⟨x, G⟩ := q
    obtain ⟨p1, p2, p3⟩ := hp
    dsimp only at p1 p2 p3
    subst p1
    unfold fX13_law_b123
    dsimp only
    rw [p3 102 (by decide), h, if_pos (nI_le (Nat.le_refl nr) (by omega))]
    exact ⟨G, rfl, p2, p3⟩
theorem mo_laws (hn : 1 ≤ n) (h240 : n ≤ 240) (hs : u_sg n sg) (htx : ∀ p, p < n → I 111 p &&& 255 = sg p) (hN : I 102 11 = nI N) (hnN : n ≤ N) (N31 : N < 2 ^ 31) : ∃ v J', fX13_law 102 (nI n) I (z_Rm mu) = some (v, J') ∧ J' 102 11 = 0 ∧ (∀ b k, ¬ (b = 102 ∧ 11 ≤ k ∧ k ≤ 20) → ¬ (112 ≤ b ∧ b ≤ 122) → J' b k = I b k) ∧ ((∃ c q, v = u_flt c q ∧ q_end sg n q_s0 (.inl (u_flt c q)) ∧ J' 102 20 = I 102 20 ∧ ∀ b, 118 ≤ b → b ≤ 122 → J' b = I b) ∨ ∃ s M nr ru, v = nI nr ∧ q_end sg n q_s0 (.inr (s, M, nr, ru)) ∧ J' 102 20 = nI nr ∧ (∀ k, k < s → J' 118 k = nI (1048576 * (M k).1 + (M k).2)) ∧ ∀ r, r < nr → J' 119 r = nI (l_kind (ru r).1) ∧ J' 120 r = nI (ru r).2.1 ∧ J' 121 r = nI (ru r).2.2.1 ∧ J' 122 r = nI (ru r).2.2.2) := by
  have ir : ¬ n_in (nI n) 1 240 = 0 := by
    rw [n_in_1 (show ¬ nI n < 1 from nI_nlt (b := 1) hn (by omega)) (show ¬ (240 : Int32) < nI n from nI_nlt (a := 240) h240 (by decide))]
    decide
  unfold fX13_law fX13_beginsText
  rw [z_g_t m_ob, fX13_in_eq, z_b_s, if_neg ir, hN, if_pos (nI_le hnN N31), z_g_t m_ob, z_l_s, z_l_s, z_l_s, z_l_s, z_b_s]
  generalize hK : z_u (z_u (z_u (z_u I 102 12 0) 102 13 (nI n)) 102 17 0) 102 19 0 = K
  have kf : ∀ b k, ¬ (b = 102 ∧ (k = 12 ∨ k = 13 ∨ k = 17 ∨ k = 19)) → K b k = I b k := fun b k q => by
    rw [← hK, z_u_eq, if_neg (by omega), z_u_eq, if_neg (by omega), z_u_eq, if_neg (by omega), z_u_eq, if_neg (by omega)]
  have tK : m_tx K n sg := ⟨hs, h240, by rw [← hK, z_u_k (by decide), z_u_k (by decide), z_u_at], fun p hp => by rw [kf 111 p (by omega)]; exact htx p hp⟩
  have XK : mo_X K K 0 0 q_M0 0 q_U0 := by
    refine ⟨fun _ _ _ _ => rfl, ?_, ?_, ?_, fun k hk => by omega, fun r hr => by omega⟩
    · rw [← hK, z_u_k (by decide), z_u_k (by decide), z_u_k (by decide), z_u_at]; rfl
    · rw [← hK, z_u_k (by decide), z_u_at]; rfl
    · rw [← hK, z_u_at]; rfl
  have go : ∀ t, mo_ll K n sg t → ∃ v J', z_b (z_lp (fX13_law_b31 102 (z_Rm mu)) 300 t) (fun q12 => fX13_law_j71 102 q12.1 q12.2 (z_Rm mu)) = some (v, J') ∧ J' 102 11 = 0 ∧ (∀ b k, ¬ (b = 102 ∧ 11 ≤ k ∧ k ≤ 20) → ¬ (112 ≤ b ∧ b ≤ 122) → J' b k = I b k) ∧ ((∃ c q, v = u_flt c q ∧ q_end sg n q_s0 (.inl (u_flt c q)) ∧ J' 102 20 = I 102 20 ∧ ∀ b, 118 ≤ b → b ≤ 122 → J' b = I b) ∨ ∃ s M nr ru, v = nI nr ∧ q_end sg n q_s0 (.inr (s, M, nr, ru)) ∧ J' 102 20 = nI nr ∧ (∀ k, k < s → J' 118 k = nI (1048576 * (M k).1 + (M k).2)) ∧ ∀ r, r < nr → J' 119 r = nI (l_kind (ru r).1) ∧ J' 120 r = nI (ru r).2.1 ∧ J' 121 r = nI (ru r).2.2.1 ∧ J' 122 r = nI (ru r).2.2.2) := by
    intro t hl
    obtain ⟨x, f1, f2⟩ := mo_loop (mu := mu) tK t hl
    rw [f1, z_b_s]
    obtain ⟨a, G⟩ := x
    unfold fX13_law_j71
    dsimp only
    rcases f2 with ⟨s, M, nr, ru, h1, h2, h3, h4, p, h5⟩ | ⟨c, q, h1, h2, h3⟩
    · dsimp only at h1 h5
      subst h1
      obtain ⟨x1, x2, x3, x4, x5, x6⟩ := h5
      obtain ⟨J2, e1, e2, e3⟩ := mo_c1 (mu := mu) (J := z_u (z_u G 102 11 0) 102 20 (nI nr)) h2 (by rw [z_u_k (by decide), z_u_k (by decide)]; exact x3)
      obtain ⟨J3, g1, g2, g3⟩ := mo_c2 (mu := mu) (J := J2) h3 (by rw [e3 102 (by decide), z_u_k (by decide), z_u_k (by decide)]; exact x4)
      have e19 : J3 102 19 = nI nr := by rw [g3 102 (by decide), e3 102 (by decide), z_u_k (by decide), z_u_k (by decide)]; exact x4
      rw [z_l_s, if_neg (show ¬ (1 : Int32) = 0 by decide), z_u_k (show (19 : Nat) ≠ 11 by decide), x4, z_l_s, e1, z_b_s, g1, z_b_s, e19]
      refine ⟨_, J3, rfl, ?_, fun b k q1 q2 => ?_, Or.inr ⟨s, M, nr, ru, rfl, h4, ?_, fun k hk => ?_, fun r hr => ?_⟩⟩
      · rw [g3 102 (by decide), e3 102 (by decide), z_u_k (by decide), z_u_at]
      · rw [g3 b (by omega), e3 b (by omega), z_u_eq, if_neg (by omega), z_u_eq, if_neg (by omega), x1 b k (by omega) (by omega)]
        exact kf b k (by omega)
      · rw [g3 102 (by decide), e3 102 (by decide), z_u_at]
      · rw [g3 118 (by decide), e2 k hk, u_o (by decide), u_o (by decide)]
        exact x5 k hk
      · obtain ⟨y1, y2, y3, y4⟩ := g2 r hr
        rw [y1, y2, y3, y4, e3 114 (by decide), e3 115 (by decide), e3 116 (by decide), e3 117 (by decide), u_o (show (114 : Nat) ≠ 102 by decide), u_o (show (114 : Nat) ≠ 102 by decide), u_o (show (115 : Nat) ≠ 102 by decide), u_o (show (115 : Nat) ≠ 102 by decide), u_o (show (116 : Nat) ≠ 102 by decide), u_o (show (116 : Nat) ≠ 102 by decide), u_o (show (117 : Nat) ≠ 102 by decide), u_o (show (117 : Nat) ≠ 102 by decide)]
        exact x6 r hr
    · dsimp only at h1 h2
      subst h1
      rw [z_l_s, if_pos rfl, z_u_k (show (14 : Nat) ≠ 11 by decide), h2.2]
      refine ⟨_, _, rfl, z_u_at _ _ _ _, fun b k q1 q2 => ?_, Or.inl ⟨c, q, rfl, h3, ?_, fun b b1 b2 => ?_⟩⟩
      · rw [z_u_eq, if_neg (by omega), h2.1 b k (by omega) (by omega)]
        exact kf b k (by omega)
      · rw [z_u_k (by decide), h2.1 102 20 (by omega) (by omega)]
        exact kf 102 20 (by omega)
      · rw [u_o (by omega)]
        funext k
        rw [h2.1 b k (by omega) (by omega)]
        exact kf b k (by omega)
  rcases ml_rule (mu := mu) tK XK (st := []) (cx := 0) q_inv0 with ⟨J2, p2, s2, M2, cx2, ru2, g1, g2, g3, g4, g5⟩ | ⟨J2, c, q, g1, g2, g3⟩
  · rw [g1, z_b_s]
    exact go _ (Or.inl ⟨p2, s2, M2, cx2, 0, ru2, rfl, g2, g3, g5⟩)
  · rw [g1, z_b_s]
    exact go _ (Or.inr ⟨c, q, rfl, g2, g3⟩)
end MH
