/-! law: the model's rules -/
def mo_Y (I J : z_He) : Prop := ∀ b k, ¬ (b = 102 ∧ (k = 12 ∨ (14 ≤ k ∧ k ≤ 19))) → ¬ (112 ≤ b ∧ b ≤ 117) → J b k = I b k
def mo_X (I J : z_He) (p s : Nat) (M : q_M) (nr : Nat) (ru : q_U) : Prop := mo_Y I J ∧ J 102 12 = nI p ∧ J 102 17 = nI s ∧ J 102 19 = nI nr ∧ (∀ k, k < s → J 112 k = nI (1048576 * (M k).1 + (M k).2)) ∧ ∀ r, r < nr → J 114 r = nI (l_kind (ru r).1) ∧ J 115 r = nI (ru r).2.1 ∧ J 116 r = nI (ru r).2.2.1 ∧ J 117 r = nI (ru r).2.2.2
def mo_F (I J : z_He) (f : Int32) : Prop := mo_Y I J ∧ J 102 14 = f
theorem q_kd_l {x : Int32} (h : ¬ q_kd x = 9) : x = nI (l_kind (q_kd x)) ∧ (x = 117 ∨ x = 118 ∨ x = 98 ∨ x = 99 ∨ x = 120) ∧ (x = 120 ↔ q_kd x = 4) := by
  unfold q_kd at h ⊢
  by_cases c1 : x = 98
  · subst c1; decide +kernel
  rw [if_neg c1] at h ⊢
  by_cases c2 : x = 99
  · subst c2; decide +kernel
  rw [if_neg c2] at h ⊢
  by_cases c3 : x = 117
  · subst c3; decide +kernel
  rw [if_neg c3] at h ⊢
  by_cases c4 : x = 118
  · subst c4; decide +kernel
  rw [if_neg c4] at h ⊢
  by_cases c5 : x = 120
  · subst c5; decide +kernel
  rw [if_neg c5] at h
  exact absurd rfl h
theorem q_kd_n {x : Int32} (h : q_kd x = 9) : ¬ x = 117 ∧ ¬ x = 118 ∧ ¬ x = 98 ∧ ¬ x = 99 ∧ ¬ x = 120 := by
  refine ⟨fun e => ?_, fun e => ?_, fun e => ?_, fun e => ?_, fun e => ?_⟩ <;> (rw [e] at h; revert h; decide)
theorem m_tx_c {K K' : z_He} {n : Nat} {sg : Nat → Int32} (h : m_tx K n sg) (h1 : K' 102 13 = K 102 13) (h2 : K' 111 = K 111) : m_tx K' n sg := ⟨h.1, h.2.1, h1.trans h.2.2.1, fun p hp => by rw [h2]; exact h.2.2.2 p hp⟩
section MF
variable {I K J : z_He} {mu : Nat → Nat} {n p s : Nat} {M : q_M} {st : q_K} {sg : Nat → Int32} {cx nr : Nat} {ru : q_U}
theorem ml_cond (ht : m_tx K n sg) (h : m_X K J p s M []) (hi : q_inv n (5, p, s, M, [], cx, nr, ru)) : mq_G K n sg (5, p, s, M, [], cx, nr, ru) (fX13_readsCondition 102 J (z_Rm mu)) (fun p' s' M' st' => st' = [] ∧ ∃ cx', q_to sg n (5, p, s, M, [], cx, nr, ru) (7, p', s', M', [], cx', nr, q_uu ru nr ((ru nr).1, (ru nr).2.1, s, 0))) := by
  have n240 := ht.2.1
  obtain ⟨b1, b2, b3⟩ := q_inv_l hi
  unfold fX13_readsCondition
  rw [z_g_t m_ob, ml_h ht h (by omega), z_b_s]
  by_cases c40 : sg p = 40
  · have pn := q_lt (v := 40) ht.1 c40 (by decide)
    have X0 : m_X K (z_u (z_u J 102 16 0) 102 18 0) p s M [] := by
      obtain ⟨h1, h2, h3, h4, h5, h6, h7⟩ := h
      refine ⟨fun b k q1 q2 => by rw [z_u_eq, if_neg (by omega), z_u_eq, if_neg (by omega)]; exact h1 b k q1 q2, ?_, ?_, ?_, ?_, fun k hk => ?_, trivial⟩
      · rw [z_u_k (by decide), z_u_k (by decide)]; exact h2
      · rw [z_u_k (by decide), z_u_at]; rfl
      · rw [z_u_k (by decide), z_u_k (by decide)]; exact h4
      · rw [z_u_at]; rfl
      · rw [u_o (by decide), u_o (by decide)]; exact h6 k hk
    obtain ⟨J2, e1, e2⟩ := (ml_opens (mu := mu) X0 (by decide) (a := 13) (Or.inr (Or.inl rfl))).2 (by decide)
    have s1 : q_step sg n (5, p, s, M, [], cx, nr, ru) = .inl (8, p + 1, s, M, [(13, 0)], cx, nr, q_uu ru nr ((ru nr).1, (ru nr).2.1, s, 0)) := by
      rw [q_ph5, if_pos c40]
    obtain ⟨y, y1, y2⟩ := ml_tests (mu := mu) ht hi e2 (Or.inl ⟨rfl, rfl⟩) (q_to_s s1)
    rw [if_pos c40, z_l_s, z_l_s, show fX13_opens 102 (13 : Int32) = fX13_opens 102 (nI 13) from rfl, e1, z_b_s, if_neg (show ¬ (1 : Int32) = 0 by decide)]
    dsimp only
    rw [y1, z_b_s]
    rcases y2 with ⟨J3, p3, s3, M3, cx3, z1, z2, z3⟩ | ⟨J3, c, q, z1, z2, z3⟩ | ⟨J3, p3, s3, M3, st3, z1, z2, z3⟩
    · rw [z1, z_x_il]
      exact Or.inl ⟨J3, p3, s3, M3, [], rfl, z2, rfl, cx3, z3⟩
    · rw [z1, z_x_il]
      exact Or.inr ⟨J3, c, q, rfl, z2, z3⟩
    · obtain ⟨a1, a2⟩ := ml_wrong (c := 1) (q := p3) z2.1
      rw [z1, z_x_ir, z2.2.1, show fX13_wrongAt 102 (1 : Int32) = fX13_wrongAt 102 (nI 1) from rfl, a1, z_b_s, z_g_t (Or.inl rfl)]
      exact Or.inr ⟨_, 1, p3, rfl, a2, z3⟩
  · obtain ⟨a1, a2⟩ := ml_wrong (c := 1) (q := p) h.1
    rw [if_neg c40, h.2.1, show fX13_wrongAt 102 (1 : Int32) = fX13_wrongAt 102 (nI 1) from rfl, a1, z_b_s, z_g_t (Or.inl rfl)]
    exact Or.inr ⟨_, 1, p, rfl, a2, q_end_s (by rw [q_ph5, if_neg c40])⟩
def mo_RR (I : z_He) (n : Nat) (sg : Nat → Int32) (S0 : q_S) (p nr : Nat) (res : Option (Int32 × z_He)) : Prop := (∃ J' p' s' M' cx' ru1, res = some (1, J') ∧ nr < 16 ∧ q_to sg n S0 (7, p', s', M', [], cx', nr, ru1) ∧ p < p' ∧ mo_X I J' p' s' M' (nr + 1) (w_ru ru1 nr s')) ∨ ∃ J' c q, res = some (0, J') ∧ mo_F I J' (u_flt c q) ∧ q_end sg n S0 (.inl (u_flt c q))
theorem r_m2 (mu : Nat → Nat) : z_Rm mu 102 23 = 114 ∧ z_Rm mu 102 24 = 115 ∧ z_Rm mu 102 25 = 116 ∧ z_Rm mu 102 26 = 117 := ⟨rfl, rfl, rfl, rfl⟩
/-- places only grow -/
theorem q_grow (hs : u_sg n sg) {S S' : q_S} (h : q_to sg n S S') : S.2.1 ≤ S'.2.1 := by
  obtain ⟨j, hj⟩ := h
  refine q_to_ind (P := fun T => S.2.1 ≤ T.2.1) (fun T T' hT e => Nat.le_trans hT ?_) j S S' (Nat.le_refl _) hj
  obtain ⟨ph, p, s, M, st, cx, nr, ru⟩ := T
  match ph, e with
  | 0, e =>
    rw [q_ph0] at e
    split at e
    · cases e
    · split at e
      · cases e
      · cases e; exact Nat.le_succ p
  | 1, e =>
    rw [q_ph1] at e
    split at e
    · split at e
      · cases e
      · cases e; exact Nat.le_succ p
    · split at e
      · rename_i c
        split at e
        · cases e
        · cases e
          have := (q_num_b hs c).1
          exact Nat.le_of_lt this
      · split at e
        · cases e
        · cases e; exact Nat.le_succ p
  | 2, e =>
    rw [q_ph2] at e
    split at e
    · cases e; exact Nat.le_refl p
    · split at e
      · cases e; exact Nat.le_succ p
      · split at e
        · split at e
          · cases e; exact Nat.le_succ p
          · cases e
        · split at e
          · cases e; exact Nat.le_refl p
          · split at e
            · cases e; exact Nat.le_refl p
            · cases e; exact Nat.le_refl p
  | 3, e =>
    rw [q_ph3] at e
    split at e
    · cases e
    · cases e; exact Nat.le_succ p
  | 4, e =>
    rw [q_ph4] at e
    split at e
    · cases e; exact Nat.le_refl p
    · cases e; exact Nat.le_refl p
  | 5, e =>
    rw [q_ph5] at e
    split at e
    · cases e; exact Nat.le_succ p
    · cases e
  | 6, e =>
    rw [q_ph6] at e
    split at e
    · split at e
      · cases e; exact Nat.le_refl p
      · split at e
        · cases e; exact Nat.le_succ p
        · cases e; exact Nat.le_succ p
    · split at e
      · split at e
        · cases e; exact Nat.le_refl p
        · cases e; exact Nat.le_succ p
      · split at e
        · split at e
          · cases e; exact Nat.le_refl p
          · cases e; exact Nat.le_succ p
        · cases e
  | 7, e =>
    rw [q_ph7] at e
    split at e
    · cases e; exact Nat.le_succ p
    · split at e
      · cases e
      · cases e
  | ph + 8, e =>
    have e : (if sg p = 33 ∨ sg p = 40 then (if q_ct st = 6 then .inr (.inl (u_flt 5 p)) else .inl (8, p + 1, s, M, (if sg p = 33 then 10 else 13, 0) :: st, cx, nr, ru)) else .inl (1, p, s, M, st, 1, nr, ru) : q_S ⊕ q_R) = .inl T' := e
    split at e
    · split at e
      · cases e
      · cases e; exact Nat.le_succ p
    · cases e; exact Nat.le_refl p
theorem ml_122 (ht : m_tx K n sg) {S0 : q_S} {c : Int32} {kd p1 s1 : Nat} {M1 : q_M} {J6 : z_He} (hX : mo_X I J p s M nr ru) (hK : ∀ b k, ¬ (b = 102 ∧ (k = 12 ∨ k = 16 ∨ k = 18)) → ¬ (b = 114 ∧ k = nr) → ¬ (b = 115 ∧ k = nr) → K b k = J b k) (k1 : K 114 nr = nI (l_kind kd)) (k2 : K 115 nr = nI s) (h6 : m_X K J6 p1 s1 M1 []) (hn : nr < 16) (hi0 : q_inv n S0) (hp : p < p1) (hto : q_to sg n S0 (5, p1, s1, M1, [], 0, nr, q_uu ru nr (kd, s, 0, 0))) : mo_RR I n sg S0 p nr (fX13_readsRule_j122 102 J6 (z_Rm mu)) := by
  obtain ⟨x1, x2, x3, x4, x5, x6⟩ := hX
  have i5 := q_inv_to ht.1 hi0 hto
  have g19 : J6 102 19 = nI nr := by rw [h6.1 102 19 (by omega) (by omega), hK 102 19 (by omega) (by omega) (by omega)]; exact x4
  have cl : (nI nr).toNatClampNeg = nr := nI_clamp (by omega)
  have s31 : J6 102 17 = nI s1 := h6.2.2.2.1
  have X7 : m_X (z_u J6 116 nr (nI s1)) (z_u J6 116 nr (nI s1)) p1 s1 M1 [] := by
    obtain ⟨y1, y2, y3, y4, y5, y6, y7⟩ := h6
    refine ⟨fun _ _ _ _ => rfl, ?_, ?_, ?_, ?_, fun k hk => ?_, trivial⟩
    · rw [u_o (by decide)]; exact y2
    · rw [u_o (by decide)]; exact y3
    · rw [u_o (by decide)]; exact y4
    · rw [u_o (by decide)]; exact y5
    · rw [u_o (by decide)]; exact y6 k hk
  have t7 : m_tx (z_u J6 116 nr (nI s1)) n sg := m_tx_c ht (by rw [u_o (by decide)]; exact h6.1 102 13 (by omega) (by omega)) (funext fun k => by rw [u_o (by decide)]; exact h6.1 111 k (by omega) (by omega))
  have fr7 : ∀ b k, ¬ (b = 102 ∧ (k = 12 ∨ (14 ≤ k ∧ k ≤ 18))) → ¬ (b = 112 ∨ b = 113) → ¬ (b = 114 ∧ k = nr) → ¬ (b = 115 ∧ k = nr) → ¬ (b = 116 ∧ k = nr) → z_u J6 116 nr (nI s1) b k = J b k := fun b k q1 q2 q3 q4 q5 => by
    rw [z_u_eq, if_neg q5, h6.1 b k q1 q2, hK b k (by omega) q3 q4]
  unfold fX13_readsRule_j122
  rw [(r_m2 mu).2.2.1, (r_m2 mu).2.2.2, g19, z_g_t (n_ok (n := 16) rfl hn (by decide)), cl, s31, z_l_s]
  rcases ml_cond (mu := mu) t7 X7 i5 with ⟨J8, p8, s8, M8, st8, g1, g2, g3, cx8, g4⟩ | ⟨J8, d, q, g1, g2, g3⟩
  · subst g3
    rw [q_uu_at] at g4
    have g19' : J8 102 19 = nI nr := by rw [g2.1 102 19 (by omega) (by omega), fr7 102 19 (by omega) (by omega) (by omega) (by omega) (by omega)]; exact x4
    have to8 := q_to_t hto g4
    have gr := q_grow ht.1 g4
    have gr : p1 ≤ p8 := gr
    rw [g1, z_b_s, if_neg (show ¬ (1 : Int32) = 0 by decide)]
    dsimp only
    rw [z_g_t (show z_ok 1 117 (J8 102 19) by rw [g19']; exact n_ok (n := 16) rfl hn (by decide)), g19', cl, g2.2.2.2.1, z_l_s, u_o (show (102 : Nat) ≠ 117 by decide), g19', n_s1, z_l_s]
    refine Or.inl ⟨_, p8, s8, M8, cx8, _, rfl, hn, to8, by omega, fun b k q1 q2 => ?_, ?_, ?_, ?_, fun k hk => ?_, fun r hr => ?_⟩
    · rw [z_u_eq, if_neg (by omega), u_o (by omega), g2.1 b k (by omega) (by omega), fr7 b k (by omega) (by omega) (by omega) (by omega) (by omega)]
      exact x1 b k q1 q2
    · rw [z_u_k (by decide), u_o (by decide)]; exact g2.2.1
    · rw [z_u_k (by decide), u_o (by decide)]; exact g2.2.2.2.1
    · rw [z_u_at]
    · rw [u_o (by decide), u_o (by decide)]; exact g2.2.2.2.2.2.1 k hk
    · by_cases c : r = nr
      · subst c
        have e : w_ru (q_uu (q_uu ru r (kd, s, 0, 0)) r (kd, s, s1, 0)) r s8 r = (kd, s, s1, s8) := by
          unfold w_ru
          rw [q_uu_at, q_uu_at]
        rw [e]
        refine ⟨?_, ?_, ?_, ?_⟩
        · rw [u_o (by decide), u_o (by decide), g2.1 114 r (by omega) (by omega), u_o (by decide), h6.1 114 r (by omega) (by omega)]; exact k1
        · rw [u_o (by decide), u_o (by decide), g2.1 115 r (by omega) (by omega), u_o (by decide), h6.1 115 r (by omega) (by omega)]; exact k2
        · rw [u_o (by decide), u_o (by decide), g2.1 116 r (by omega) (by omega), z_u_at]
        · rw [u_o (by decide), z_u_at]
      · have e : w_ru (q_uu (q_uu ru nr (kd, s, 0, 0)) nr (kd, s, s1, 0)) nr s8 r = ru r := by
          unfold w_ru
          rw [q_uu_o c, q_uu_o c, q_uu_o c]
        rw [e]
        obtain ⟨y1, y2, y3, y4⟩ := x6 r (by omega)
        refine ⟨?_, ?_, ?_, ?_⟩
        · rw [u_o (by decide), u_o (by decide), g2.1 114 r (by omega) (by omega), fr7 114 r (by omega) (by omega) (by omega) (by omega) (by omega)]; exact y1
        · rw [u_o (by decide), u_o (by decide), g2.1 115 r (by omega) (by omega), fr7 115 r (by omega) (by omega) (by omega) (by omega) (by omega)]; exact y2
        · rw [u_o (by decide), u_o (by decide), g2.1 116 r (by omega) (by omega), fr7 116 r (by omega) (by omega) (by omega) (by omega) (by omega)]; exact y3
        · rw [u_o (by decide), z_u_k c, g2.1 117 r (by omega) (by omega), fr7 117 r (by omega) (by omega) (by omega) (by omega) (by omega)]; exact y4
  · rw [g1, z_b_s, if_pos rfl]
    refine Or.inr ⟨J8, d, q, rfl, ⟨fun b k q1 q2 => ?_, g2.2⟩, q_to_e hto g3⟩
    rw [g2.1 b k (by omega) (by omega), fr7 b k (by omega) (by omega) (by omega) (by omega) (by omega)]
    exact x1 b k q1 q2
theorem ml_rule (ht : m_tx I n sg) (h : mo_X I J p s M nr ru) (hi : q_inv n (0, p, s, M, st, cx, nr, ru)) : mo_RR I n sg (0, p, s, M, st, cx, nr, ru) p nr (fX13_readsRule 102 J (z_Rm mu)) := by
  have n240 := ht.2.1
  obtain ⟨b1, b2, b3⟩ := q_inv_l hi
  have n16 : nr ≤ 16 := hi.2.2.2.1
  have hh := h
  obtain ⟨x1, x2, x3, x4, x5, x6⟩ := h
  have tJ : m_tx J n sg := m_tx_c ht (x1 102 13 (by omega) (by omega)) (funext fun k => x1 111 k (by omega) (by omega))
  have wr : ∀ c : Nat, mo_F I (z_u J 102 14 (u_flt c p)) (u_flt c p) := fun c => ⟨fun b k q1 q2 => by rw [z_u_eq, if_neg (by omega)]; exact x1 b k q1 q2, z_u_at _ _ _ _⟩
  have w1 := (ml_wrong (K := J) (J := J) (c := 1) (q := p) (fun _ _ _ _ => rfl)).1
  have w4 := (ml_wrong (K := J) (J := J) (c := 4) (q := p) (fun _ _ _ _ => rfl)).1
  unfold fX13_readsRule
  rw [z_g_t m_ob, ml_here tJ (fun _ _ _ _ => rfl) x2 (by omega), z_b_s]
  by_cases ck : q_kd (sg p) = 9
  · obtain ⟨d1, d2, d3, d4, d5⟩ := q_kd_n ck
    rw [if_neg d1, if_neg d2, if_neg d3, if_neg d4, if_neg d5, x2, show fX13_wrongAt 102 (1 : Int32) = fX13_wrongAt 102 (nI 1) from rfl, w1, z_b_s, z_g_t (Or.inl rfl)]
    exact Or.inr ⟨_, 1, p, rfl, wr 1, q_end_s (by rw [q_ph0, if_pos ck])⟩
  · obtain ⟨k4, v, v1, v2⟩ := q_kd_b ck
    have pn := q_lt ht.1 v2 (by omega)
    obtain ⟨e1, e2, e3⟩ := q_kd_l ck
    have key : mo_RR I n sg (0, p, s, M, st, cx, nr, ru) p nr (fX13_readsRule_j45 102 (sg p) J (z_Rm mu)) := by
      unfold fX13_readsRule_j45
      rw [x4]
      by_cases c16 : nr = 16
      · rw [if_pos (show nI nr = 16 by rw [c16]; rfl), x2, show fX13_wrongAt 102 (4 : Int32) = fX13_wrongAt 102 (nI 4) from rfl, w4, z_b_s, z_g_t (Or.inl rfl)]
        exact Or.inr ⟨_, 4, p, rfl, wr 4, q_end_s (by rw [q_ph0, if_neg ck, if_pos c16])⟩
      · have n15 : nr < 16 := by omega
        have cl : (nI nr).toNatClampNeg = nr := nI_clamp (by omega)
        have s1 : q_step sg n (0, p, s, M, st, cx, nr, ru) = .inl (if q_kd (sg p) = 4 then 5 else 1, p + 1, s, M, [], 0, nr, q_uu ru nr (q_kd (sg p), s, 0, 0)) := by
          rw [q_ph0, if_neg ck, if_neg c16]
        rw [if_neg (show ¬ nI nr = 16 from fun z => c16 ((n_eq (a := nr) (b := 16) (by omega) (by decide)).mp z)), (r_m2 mu).1, (r_m2 mu).2.1, z_g_t (n_ok (n := 16) rfl n15 (by decide)), cl, z_l_s, u_o (show (102 : Nat) ≠ 114 by decide), x2, n_s1, z_l_s, z_u_k (show (19 : Nat) ≠ 12 by decide), z_u_k (show (17 : Nat) ≠ 12 by decide), u_o (show (102 : Nat) ≠ 114 by decide), x4, x3, z_g_t (n_ok (n := 16) rfl n15 (by decide)), cl, z_l_s, z_l_s, z_l_s]
        generalize hK : z_u (z_u (z_u (z_u (z_u J 114 nr (sg p)) 102 12 (nI (p + 1))) 115 nr (nI s)) 102 16 0) 102 18 0 = K
        have fK : ∀ b k, ¬ (b = 102 ∧ (k = 12 ∨ k = 16 ∨ k = 18)) → ¬ (b = 114 ∧ k = nr) → ¬ (b = 115 ∧ k = nr) → K b k = J b k := fun b k q1 q2 q3 => by
          rw [← hK, z_u_eq, if_neg (by omega), z_u_eq, if_neg (by omega), z_u_eq, if_neg (by omega), z_u_eq, if_neg (by omega), z_u_eq, if_neg (by omega)]
        have K114 : K 114 nr = nI (l_kind (q_kd (sg p))) := by
          rw [← hK, u_o (by decide), u_o (by decide), u_o (by decide), u_o (by decide), z_u_at]
          exact e1
        have K115 : K 115 nr = nI s := by
          rw [← hK, u_o (by decide), u_o (by decide), z_u_at]
        have tK : m_tx K n sg := m_tx_c tJ (fK 102 13 (by omega) (by omega) (by omega)) (funext fun k => fK 111 k (by omega) (by omega) (by omega))
        have XK : m_X K K (p + 1) s M [] := by
          refine ⟨fun _ _ _ _ => rfl, ?_, ?_, ?_, ?_, fun k hk => ?_, trivial⟩
          · rw [← hK, z_u_k (by decide), z_u_k (by decide), u_o (by decide), z_u_at]
          · rw [← hK, z_u_k (by decide), z_u_at]; rfl
          · rw [fK 102 17 (by omega) (by omega) (by omega)]; exact x3
          · rw [← hK, z_u_at]; rfl
          · rw [fK 112 k (by omega) (by omega) (by omega)]; exact x5 k hk
        by_cases c4 : q_kd (sg p) = 4
        · rw [if_pos c4] at s1
          rw [if_pos (e3.mpr c4)]
          exact ml_122 (c := sg p) tK hh fK K114 K115 XK n15 hi (by omega) (q_to_s s1)
        · rw [if_neg c4] at s1
          have i1 := q_inv_step ht.1 _ _ hi s1
          rw [if_neg (fun z => c4 (e3.mp z))]
          rcases ml_sum (mu := mu) tK (base := []) (show ¬ (2 ≤ 0 ∧ 0 ≤ 6) by decide) XK i1 with ⟨J2, p2, s2, M2, st2, g1, g2, g3, g4, g5, g6⟩ | ⟨J2, d, q, g1, g2, g3⟩
          · subst g4
            have to2 := q_to_t (q_to_s s1) g6
            have s3 := (q_s_cx (sg := sg) (n := n) (p := p2) (s := s2) (M := M2) (st := []) (cx := 0) (nr := nr) (ru := q_uu ru nr (q_kd (sg p), s, 0, 0)) (show ¬ (2 ≤ 0 ∧ 0 ≤ 6) by decide) (show ¬ 0 = 14 by decide) g5).1 rfl
            rw [g1, z_b_s, if_neg (show ¬ (1 : Int32) = 0 by decide)]
            exact ml_122 (c := sg p) tK hh fK K114 K115 g2 n15 hi (by omega) (q_to_t to2 (q_to_s s3))
          · rw [g1, z_b_s, if_pos rfl]
            refine Or.inr ⟨J2, d, q, rfl, ⟨fun b k q1 q2 => ?_, g2.2⟩, q_to_e (q_to_s s1) g3⟩
            rw [g2.1 b k (by omega) (by omega), fK b k (by omega) (by omega) (by omega)]
            exact x1 b k q1 q2
    rcases e2 with e | e | e | e | e
    · rw [if_pos e]; exact key
    · rw [if_neg (by rw [e]; decide), if_pos e]; exact key
    · rw [if_neg (by rw [e]; decide), if_neg (by rw [e]; decide), if_pos e]; exact key
    · rw [if_neg (by rw [e]; decide), if_neg (by rw [e]; decide), if_neg (by rw [e]; decide), if_pos e]; exact key
    · rw [if_neg (by rw [e]; decide), if_neg (by rw [e]; decide), if_neg (by rw [e]; decide), if_neg (by rw [e]; decide), if_pos e]; exact key
end MF
