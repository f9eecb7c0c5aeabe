/-! law: the model's sums, pieces, leaps, comparisons -/
section MD
variable {K J : z_He} {mu : Nat → Nat} {n p s : Nat} {M : q_M} {st : q_K} {sg : Nat → Int32} {cx nr : Nat} {ru : q_U}
def m_sl (K : z_He) (n : Nat) (sg : Nat → Int32) (S0 : q_S) (base : q_K) (cx nr : Nat) (ru : q_U) (p : Nat) (J : z_He) : Prop := ∃ p' s' M' up, m_X K J p' s' M' (up ++ base) ∧ p < p' ∧ (∀ x, x ∈ up → (2 ≤ x.1 ∧ x.1 ≤ 6) ∨ x.1 = 14) ∧ q_to sg n S0 (2, p', s', M', up ++ base, cx, nr, ru)
def m_se (K : z_He) (n : Nat) (sg : Nat → Int32) (S0 : q_S) (base : q_K) (cx nr : Nat) (ru : q_U) (p : Nat) (y : (Int32 × z_He) ⊕ z_He) : Prop := (∃ J' c q, y = .inl (0, J') ∧ m_F K J' (u_flt c q) ∧ q_end sg n S0 (.inl (u_flt c q))) ∨ ∃ J' p' s' M' up, y = .inr J' ∧ m_X K J' p' s' M' (up ++ base) ∧ p < p' ∧ (∀ x, x ∈ up → (2 ≤ x.1 ∧ x.1 ≤ 6) ∨ x.1 = 14) ∧ q_to sg n S0 (2, p', s', M', up ++ base, cx, nr, ru) ∧ q_op (sg p') = 0 ∧ (sg p' = 93 → ∀ x, x ∈ up → ¬ x.1 = 14)
theorem ml_csw (ht : m_tx K n sg) {base : q_K} (hb : ¬ (2 ≤ q_top base ∧ q_top base ≤ 6)) {fl : Int32} (hf : (fl = 1 ∧ q_op (sg p) < 4) ∨ (fl = 0 ∧ 4 ≤ q_op (sg p))) (up : q_K) (hu : ∀ x, x ∈ up → (2 ≤ x.1 ∧ x.1 ≤ 6) ∨ x.1 = 14) (h : m_X K J p s M (up ++ base)) (hi : q_inv n (2, p, s, M, up ++ base, cx, nr, ru)) : ∃ J' s' M' up', fX13_closesSums 102 fl J (z_Rm mu) = some J' ∧ m_X K J' p s' M' (up' ++ base) ∧ q_to sg n (2, p, s, M, up ++ base, cx, nr, ru) (2, p, s', M', up' ++ base, cx, nr, ru) ∧ (∀ x, x ∈ up' → x ∈ up) ∧ ¬ ((4 ≤ q_top (up' ++ base) ∧ q_top (up' ++ base) ≤ 6) ∨ ((q_top (up' ++ base) = 2 ∨ q_top (up' ++ base) = 3) ∧ q_op (sg p) < 4)) ∧ (q_op (sg p) < 4 → (up' = [] ∧ ∀ x, x ∈ up → ¬ x.1 = 14) ∨ ∃ y r, up' = y :: r ∧ y.1 = 14) := by
  have n240 := ht.2.1
  obtain ⟨b1, b2, b3⟩ := q_inv_l hi
  rw [List.length_append] at b3
  obtain ⟨J', s', M', up', k1, k⟩ := ml_cs (mu := mu) ht hb hf up J s M 300 hu (by omega) h hi
  refine ⟨J', s', M', up', ?_, k⟩
  unfold fX13_closesSums
  rw [z_g_t m_ob, k1, z_b_s]
theorem ml_sum (ht : m_tx K n sg) {base : q_K} (hb : ¬ (2 ≤ q_top base ∧ q_top base ≤ 6)) (h : m_X K J p s M base) (hi : q_inv n (1, p, s, M, base, cx, nr, ru)) : mq_G K n sg (1, p, s, M, base, cx, nr, ru) (fX13_readsSum 102 J (z_Rm mu)) (fun p' s' M' st' => p < p' ∧ st' = base ∧ q_op (sg p') = 0 ∧ q_to sg n (1, p, s, M, base, cx, nr, ru) (2, p', s', M', base, cx, nr, ru)) := by
  have n240 := ht.2.1
  obtain ⟨b1, b2, b3⟩ := q_inv_l hi
  unfold fX13_readsSum
  rw [z_g_t m_ob, h.2.2.2.2.1, z_l_s]
  rcases ml_fac (mu := mu) ht h hi with ⟨J2, p2, s2, M2, st2, g1, g2, g3, g4, up, g5, g6⟩ | ⟨J2, c, q, g1, g2, g3⟩
  · subst g5
    rw [g1, z_b_s, if_neg (show ¬ (1 : Int32) = 0 by decide)]
    dsimp only
    generalize hS : ((1, p, s, M, base, cx, nr, ru) : q_S) = S0 at hi g4 ⊢
    obtain ⟨y, e1, e2⟩ := lp_var (body := fX13_readsSum_b14 102 (nI base.length) (z_Rm mu)) (m_sl K n sg S0 base cx nr ru p) (m_se K n sg S0 base cx nr ru p) (fun J => n + 1 - (J 102 12).toNatClampNeg) (fun G hG => by
      obtain ⟨p', s', M', up, w1, w2, w3, w4⟩ := hG
      have i1 := q_inv_to ht.1 hi w4
      obtain ⟨d1, d2, d3⟩ := q_inv_l i1
      have pl : (G 102 12).toNatClampNeg = p' := by rw [w1.2.1, nI_clamp (by omega)]
      rw [pl]
      unfold fX13_readsSum_b14
      dsimp only
      rw [ml_h ht w1 (by omega), z_b_s, m_op_eq, z_b_s]
      by_cases c0 : q_op (sg p') = 0
      · rw [if_pos c0, if_pos rfl, z_b_s]
        by_cases c93 : sg p' = 93
        · have pn := q_lt (v := 93) ht.1 c93 (by decide)
          obtain ⟨v, v1, v2⟩ := ml_ho (mu := mu) w1 (by omega)
          rw [if_pos c93, v1, z_b_s]
          rcases v2 with ⟨v2, v3⟩ | ⟨v2, v3⟩
          · obtain ⟨J3, s3, M3, up3, k1, k2, k3, k4, k5, k6⟩ := ml_csw (mu := mu) ht hb (fl := 1) (Or.inl ⟨rfl, by omega⟩) up w3 w1 i1
            rcases k6 (by omega) with ⟨z1, z2⟩ | ⟨y, r, z1, z2⟩
            · obtain ⟨x, x1, x2⟩ := v3
              exact absurd x2 (z2 x x1)
            · subst z1
              have k2' : m_X K J3 p' s3 M3 (y :: (r ++ base)) := k2
              have sc : q_step sg n (2, p', s3, M3, y :: r ++ base, cx, nr, ru) = .inl (2, p' + 1, s3, M3, r ++ base, cx, nr, ru) := q_s_cl (st := y :: r ++ base) z2 c0 c93
              obtain ⟨m1, m2, m3⟩ := ml_popo k2' (show (if y.1 = 10 ∨ y.1 = 13 ∨ y.1 = 14 then 1 else 0) + q_ct (r ++ base) = q_ct (r ++ base) + 1 by rw [if_pos (Or.inr (Or.inr z2)), Nat.add_comm])
              rw [v2, if_neg (show ¬ (1 : Int32) = 0 by decide), k1, z_b_s, m1, nI_pred, z_l_s, z_u_k (show (16 : Nat) ≠ 18 by decide), m2, nI_pred, z_l_s, m3.2.1, n_s1, z_l_s]
              refine Or.inl ⟨_, rfl, ⟨p' + 1, s3, M3, r, ml_place m3 (p' + 1), by omega, fun x hx => w3 x (k4 x (List.mem_cons_of_mem y hx)), q_to_t (q_to_t w4 k3) (q_to_s sc)⟩, ?_⟩
              rw [z_u_at, nI_clamp (by omega)]
              omega
          · rw [v2, if_pos rfl]
            exact Or.inr ⟨_, rfl, Or.inr ⟨G, p', s', M', up, rfl, w1, w2, w3, w4, c0, fun _ => v3⟩⟩
        · rw [if_neg c93]
          exact Or.inr ⟨_, rfl, Or.inr ⟨G, p', s', M', up, rfl, w1, w2, w3, w4, c0, fun q => absurd q c93⟩⟩
      · have op2 : 2 ≤ q_op (sg p') ∧ q_op (sg p') ≤ 6 := by
          rcases q_op_v (sg p') with z | z
          · exact absurd z c0
          · exact ⟨z.1, z.2.1⟩
        obtain ⟨v, v1, v2⟩ := (q_op_b op2.1).2
        have pn := q_lt ht.1 v2 (by omega)
        have key : ∀ fl : Int32, (fl = 1 ∧ q_op (sg p') < 4) ∨ (fl = 0 ∧ 4 ≤ q_op (sg p')) → (∃ s', fX13_readsSum_j38_14 102 (nI base.length) (nI (q_op (sg p'))) 102 fl G (z_Rm mu) = some (.inl s') ∧ m_sl K n sg S0 base cx nr ru p s' ∧ n + 1 - (s' 102 12).toNatClampNeg < n + 1 - p') ∨ ∃ x, fX13_readsSum_j38_14 102 (nI base.length) (nI (q_op (sg p'))) 102 fl G (z_Rm mu) = some (.inr x) ∧ m_se K n sg S0 base cx nr ru p x := by
          intro fl hf
          obtain ⟨J3, s3, M3, up3, k1, k2, k3, k4, k5, k6⟩ := ml_csw (mu := mu) ht hb hf up w3 w1 i1
          have to3 := q_to_t w4 k3
          have sp := q_s_push (n := n) (s := s3) (M := M3) (cx := cx) (nr := nr) (ru := ru) k5 op2.1
          have i3 := q_inv_to ht.1 hi to3
          obtain ⟨l1, l2, l3⟩ := q_inv_l i3
          have i4 := q_inv_step ht.1 _ _ i3 sp
          have to4 := q_to_t to3 (q_to_s sp)
          have X4 := ml_wait k2 (a := q_op (sg p')) op2
          unfold fX13_readsSum_j38_14
          rw [z_g_t m_ob, k1, z_b_s, (r_m mu).2.2, k2.2.2.2.2.1, z_g_t (n_ok (n := 260) rfl (show (up3 ++ base).length < 260 by omega) (by decide)), nI_clamp (show (up3 ++ base).length < 2 ^ 31 by omega), z_l_s, u_o (show (102 : Nat) ≠ 113 by decide), k2.2.2.2.2.1, n_s1, z_l_s, z_u_k (show (12 : Nat) ≠ 18 by decide), u_o (show (102 : Nat) ≠ 113 by decide), k2.2.1, n_s1, z_l_s, show (1048576 : Int32) = nI 1048576 from rfl, n_mul]
          rcases ml_fac (mu := mu) ht X4 i4 with ⟨J5, p5, s5, M5, st5, r1, r2, r3, r4, up5, r5, r6⟩ | ⟨J5, c, q, r1, r2, r3⟩
          · subst r5
            rw [r1, z_b_s, if_neg (show ¬ (1 : Int32) = 0 by decide)]
            have i5 := q_inv_l (q_inv_to ht.1 hi (q_to_t to4 r4))
            refine Or.inl ⟨_, rfl, ⟨p5, s5, M5, up5 ++ (q_op (sg p'), 0) :: up3, ?_, by omega, fun x hx => ?_, ?_⟩, ?_⟩
            · rw [List.append_assoc]; exact r2
            · rcases List.mem_append.mp hx with hx | hx
              · exact Or.inr (r6 x hx)
              · rcases List.mem_cons.mp hx with e | e
                · rw [e]; exact Or.inl op2
                · exact w3 x (k4 x e)
            · rw [List.append_assoc]; exact q_to_t to4 r4
            · dsimp only
              rw [r2.2.1, nI_clamp (by omega)]
              omega
          · rw [r1, z_b_s, if_pos rfl]
            exact Or.inr ⟨_, rfl, Or.inl ⟨J5, c, q, rfl, r2, q_to_e to4 r3⟩⟩
        rw [if_neg c0, if_neg (n_m1 (by omega))]
        by_cases c4 : 4 ≤ q_op (sg p')
        · rw [if_pos (show (4 : Int32) ≤ nI (q_op (sg p')) from nI_le (a := 4) c4 (by omega))]
          exact key 0 (Or.inr ⟨rfl, c4⟩)
        · rw [if_neg (show ¬ (4 : Int32) ≤ nI (q_op (sg p')) from nI_ge (b := 4) (by omega) (by decide))]
          exact key 1 (Or.inl ⟨rfl, by omega⟩)) 300 J2 (by omega) ⟨p2, s2, M2, up, g2, g3, fun x hx => Or.inr (g6 x hx), g4⟩
    rw [e1, z_b_s]
    rcases e2 with ⟨J3, c, q, z1, z2, z3⟩ | ⟨J3, p', s', M', up, z1, w1, w2, w3, w4, w5, w6⟩
    · rw [z1, z_x_il]
      exact Or.inr ⟨J3, c, q, rfl, z2, z3⟩
    · rw [z1, z_x_ir]
      have i1 := q_inv_to ht.1 hi w4
      obtain ⟨d1, d2, d3⟩ := q_inv_l i1
      obtain ⟨v, v1, v2⟩ := ml_ho (mu := mu) w1 (by omega)
      unfold fX13_readsSum_j138
      rw [v1, z_b_s]
      rcases v2 with ⟨v2, v3⟩ | ⟨v2, v3⟩
      · obtain ⟨a1, a2⟩ := ml_wrong (c := 1) (q := p') w1.1
        rw [v2, if_neg (show ¬ (1 : Int32) = 0 by decide), w1.2.1, show fX13_wrongAt 102 (1 : Int32) = fX13_wrongAt 102 (nI 1) from rfl, a1, z_b_s, z_g_t (Or.inl rfl)]
        refine Or.inr ⟨_, 1, p', rfl, a2, q_to_e w4 (q_br_e w5 (fun z => ?_) up s' M' w3 v3)⟩
        obtain ⟨x, x1, x2⟩ := v3
        exact w6 z x x1 x2
      · obtain ⟨J4, s4, M4, up4, k1, k2, k3, k4, k5, k6⟩ := ml_csw (mu := mu) ht hb (fl := 1) (Or.inl ⟨rfl, by omega⟩) up w3 w1 i1
        rw [v2, if_pos rfl, k1, z_b_s]
        rcases k6 (by omega) with ⟨z1, z2⟩ | ⟨y, r, z1, z2⟩
        · subst z1
          exact Or.inl ⟨J4, p', s4, M4, base, rfl, k2, w2, rfl, w5, q_to_t w4 k3⟩
        · subst z1
          exact absurd z2 (v3 y (k4 y List.mem_cons_self))
  · rw [g1, z_b_s, if_pos rfl]
    exact Or.inr ⟨J2, c, q, rfl, g2, g3⟩
/-- a condition's stack -/
def q_cs : q_K → Prop
  | [] => False
  | x :: r => (r = [] ∧ x.1 = 13) ∨ ((10 ≤ x.1 ∧ x.1 ≤ 13) ∧ q_cs r)
theorem q_cs_top (h : q_cs st) : 10 ≤ q_top st ∧ q_top st ≤ 13 := by
  cases st with
  | nil => exact h.elim
  | cons x r =>
    show 10 ≤ x.1 ∧ x.1 ≤ 13
    rcases h with h | h
    · omega
    · exact h.1
theorem q_cs_tl {x : Nat × Nat} (h : q_cs (x :: st)) (hx : ¬ x.1 = 13) : q_cs st := by
  rcases h with h | h
  · exact absurd h.2 hx
  · exact h.2
theorem ml_ends (ht : m_tx K n sg) : ∀ (st : q_K) (J : z_He) (s : Nat) (M : q_M) (N : Nat), st.length < N → q_cs st → m_X K J p s M st → q_inv n (4, p, s, M, st, cx, nr, ru) → ∃ J' s' M' st', z_lp (fX13_endsPiece_b0 102 (z_Rm mu)) N J = some J' ∧ m_X K J' p s' M' st' ∧ q_cs st' ∧ ¬ q_top st' = 10 ∧ q_to sg n (4, p, s, M, st, cx, nr, ru) (6, p, s', M', st', cx, nr, ru) := by
  have n240 := ht.2.1
  intro st
  induction st with
  | nil => intro J s M N hN hc; exact hc.elim
  | cons x r ih =>
    intro J s M N hN hc h hi
    obtain ⟨b1, b2, b3⟩ := q_inv_l hi
    obtain ⟨N, rfl⟩ : ∃ N', N = N' + 1 := ⟨N - 1, by omega⟩
    have t := ml_top (mu := mu) h (by omega)
    have tx : q_top (x :: r) = x.1 := rfl
    have x14 : x.1 ≤ 14 := h.2.2.2.2.2.2.2.1
    rw [if_neg (by simp), tx] at t
    by_cases c : x.1 = 10
    · have s1 : q_step sg n (4, p, s, M, x :: r, cx, nr, ru) = .inl (4, p, s + 1, q_up M s (10, 0), r, cx, nr, ru) := by
        rw [q_ph4]
        exact if_pos c
      have i1 := q_inv_step ht.1 _ _ hi s1
      obtain ⟨J1, f1, f2, -⟩ := ml_notes (mu := mu) h (show s < 260 by omega) (a := 10) (v := 0)
      obtain ⟨m1, m2, m3⟩ := ml_popo f2 (show (if x.1 = 10 ∨ x.1 = 13 ∨ x.1 = 14 then 1 else 0) + q_ct r = q_ct r + 1 by rw [if_pos (Or.inl c), Nat.add_comm])
      have eb : fX13_endsPiece_b0 102 (z_Rm mu) J = some (.inl (z_u (z_u J1 102 18 (nI r.length)) 102 16 (nI (q_ct r)))) := by
        unfold fX13_endsPiece_b0
        dsimp only
        rw [t, z_b_s, if_pos (show nI x.1 = 10 by rw [c]; rfl), show fX13_notes 102 (10 : Int32) (0 : Int32) = fX13_notes 102 (nI 10) (nI 0) from rfl, f1, z_b_s, m1, nI_pred, z_l_s, z_u_k (show (16 : Nat) ≠ 18 by decide), m2, nI_pred, z_l_s]
      have ez : z_lp (fX13_endsPiece_b0 102 (z_Rm mu)) (N + 1) J = z_lp (fX13_endsPiece_b0 102 (z_Rm mu)) N (z_u (z_u J1 102 18 (nI r.length)) 102 16 (nI (q_ct r))) := by
        rw [z_lp, eb]
      obtain ⟨J', s', M', st', k1, k2, k3, k4, k5⟩ := ih _ (s + 1) _ N (by simp at hN; omega) (q_cs_tl hc (by omega)) m3 i1
      exact ⟨J', s', M', st', by rw [ez]; exact k1, k2, k3, k4, q_to_t (q_to_s s1) k5⟩
    · refine ⟨J, s, M, x :: r, ?_, h, hc, c, q_to_s (by rw [q_ph4]; exact if_neg c)⟩
      have eb : fX13_endsPiece_b0 102 (z_Rm mu) J = some (.inr J) := by
        unfold fX13_endsPiece_b0
        dsimp only
        rw [t, z_b_s, if_neg (show ¬ nI x.1 = 10 from fun z => c ((n_eq (a := x.1) (b := 10) (by omega) (by decide)).mp z))]
      unfold z_lp
      rw [eb]
theorem ml_end (ht : m_tx K n sg) (hc : q_cs st) (h : m_X K J p s M st) (hi : q_inv n (4, p, s, M, st, cx, nr, ru)) : ∃ J' s' M' st', fX13_endsPiece 102 J (z_Rm mu) = some J' ∧ m_X K J' p s' M' st' ∧ q_cs st' ∧ ¬ q_top st' = 10 ∧ q_to sg n (4, p, s, M, st, cx, nr, ru) (6, p, s', M', st', cx, nr, ru) := by
  have n240 := ht.2.1
  obtain ⟨b1, b2, b3⟩ := q_inv_l hi
  obtain ⟨J', s', M', st', k1, k⟩ := ml_ends (mu := mu) ht st J s M 300 (by omega) hc h hi
  refine ⟨J', s', M', st', ?_, k⟩
  unfold fX13_endsPiece
  rw [z_g_t m_ob, k1, z_b_s]
theorem ml_cmp (ht : m_tx K n sg) (hc : q_cs st) (h : m_X K J p s M st) (hi : q_inv n (1, p, s, M, st, 1, nr, ru)) : mq_G K n sg (1, p, s, M, st, 1, nr, ru) (fX13_readsCompared 102 J (z_Rm mu)) (fun p' s' M' st' => p < p' ∧ q_cs st' ∧ ¬ q_top st' = 10 ∧ ∃ cx', q_to sg n (1, p, s, M, st, 1, nr, ru) (6, p', s', M', st', cx', nr, ru)) := by
  have n240 := ht.2.1
  have tc := q_cs_top hc
  unfold fX13_readsCompared
  rw [z_g_t m_ob]
  rcases ml_sum (mu := mu) ht (by omega) h hi with ⟨J2, p2, s2, M2, st2, g1, g2, g3, g4, g5, g6⟩ | ⟨J2, c, q, g1, g2, g3⟩
  · subst g4
    have i2 := q_inv_to ht.1 hi g6
    obtain ⟨b1, b2, b3⟩ := q_inv_l i2
    have s3 : q_step sg n (2, p2, s2, M2, st2, 1, nr, ru) = .inl (3, p2, s2, M2, st2, 1, nr, ru) := (q_s_cx (by omega) (by omega) g5).2.1 rfl
    have to3 := q_to_t g6 (q_to_s s3)
    have i3 := q_inv_to ht.1 hi to3
    have hh := ml_h (mu := mu) ht g2 (by omega)
    rw [g1, z_b_s, if_neg (show ¬ (1 : Int32) = 0 by decide)]
    dsimp only
    rw [hh, z_b_s]
    by_cases cc : q_cmp (sg p2) = 0
    · obtain ⟨d1, d2, d3⟩ := q_cmp_n _ cc
      obtain ⟨a1, a2⟩ := ml_wrong (c := 1) (q := p2) g2.1
      rw [if_neg d1, z_b_s, if_neg d2, z_b_s, if_neg d3]
      unfold fX13_readsCompared_j52
      rw [if_pos rfl, g2.2.1, show fX13_wrongAt 102 (1 : Int32) = fX13_wrongAt 102 (nI 1) from rfl, a1, z_b_s, z_g_t (Or.inl rfl)]
      exact Or.inr ⟨_, 1, p2, rfl, a2, q_to_e to3 (q_end_s (by rw [q_ph3, if_pos cc]))⟩
    · obtain ⟨k1, k2, v, v1, v2⟩ := q_cmp_b cc
      have pn := q_lt ht.1 v2 (by omega)
      have key : mq_G K n sg (1, p, s, M, st2, 1, nr, ru) (fX13_readsCompared_j52 102 (nI (q_cmp (sg p2))) J2 (z_Rm mu)) (fun p' s' M' st' => p < p' ∧ q_cs st' ∧ ¬ q_top st' = 10 ∧ ∃ cx', q_to sg n (1, p, s, M, st2, 1, nr, ru) (6, p', s', M', st', cx', nr, ru)) := by
        have s4 : q_step sg n (3, p2, s2, M2, st2, 1, nr, ru) = .inl (1, p2 + 1, s2, M2, st2, q_cmp (sg p2), nr, ru) := by rw [q_ph3, if_neg cc]
        have to4 := q_to_t to3 (q_to_s s4)
        have i4 := q_inv_step ht.1 _ _ i3 s4
        unfold fX13_readsCompared_j52
        rw [if_neg (n_m1 (by omega)), g2.2.1, n_s1, z_l_s]
        rcases ml_sum (mu := mu) ht (by omega) (ml_place g2 (p2 + 1)) i4 with ⟨J3, p3, s3', M3, st3, r1, r2, r3, r4, r5, r6⟩ | ⟨J3, c, q, r1, r2, r3⟩
        · subst r4
          have to5 := q_to_t to4 r6
          have s5 : q_step sg n (2, p3, s3', M3, st3, q_cmp (sg p2), nr, ru) = .inl (4, p3, s3' + 1, q_up M3 s3' (q_cmp (sg p2), 0), st3, q_cmp (sg p2), nr, ru) := (q_s_cx (by omega) (by omega) r5).2.2 k1
          have to6 := q_to_t to5 (q_to_s s5)
          have i6 := q_inv_to ht.1 hi to6
          obtain ⟨b4, b5, b6⟩ := q_inv_l i6
          obtain ⟨J4, f1, f2, -⟩ := ml_notes (mu := mu) r2 (show s3' < 260 by omega) (a := q_cmp (sg p2)) (v := 0)
          obtain ⟨J5, s6, M6, st6, k1', k2', k3', k4', k5'⟩ := ml_end (mu := mu) ht hc f2 i6
          rw [r1, z_b_s, if_neg (show ¬ (1 : Int32) = 0 by decide)]
          dsimp only
          rw [show fX13_notes 102 (nI (q_cmp (sg p2))) (0 : Int32) = fX13_notes 102 (nI (q_cmp (sg p2))) (nI 0) from rfl, f1, z_b_s, k1', z_b_s]
          exact Or.inl ⟨J5, p3, s6, M6, st6, rfl, k2', by omega, k3', k4', _, q_to_t to6 k5'⟩
        · rw [r1, z_b_s, if_pos rfl]
          exact Or.inr ⟨J3, c, q, rfl, r2, q_to_e to4 r3⟩
      obtain ⟨-, d2⟩ := q_cmp_l _ cc
      rcases d2 with e | e | e
      · rw [if_pos e]
        rw [show q_cmp (sg p2) = 7 by rw [e]; rfl] at key
        exact key
      · rw [if_neg (by rw [e]; decide), z_b_s, if_pos e]
        rw [show q_cmp (sg p2) = 8 by rw [e]; rfl] at key
        exact key
      · rw [if_neg (by rw [e]; decide), z_b_s, if_neg (by rw [e]; decide), z_b_s, if_pos e]
        rw [show q_cmp (sg p2) = 9 by rw [e]; rfl] at key
        exact key
  · rw [g1, z_b_s, if_pos rfl]
    exact Or.inr ⟨J2, c, q, rfl, g2, g3⟩
end MD
