/-! law: the model's factors and sums -/
theorem m_let_eq (x : Int32) : fX13_factOf x = some (if q_let x = 9 then -1 else nI (q_let x)) := by
  by_cases c97 : x = 97
  · subst c97; decide +kernel
  by_cases c98 : x = 98
  · subst c98; decide +kernel
  by_cases c99 : x = 99
  · subst c99; decide +kernel
  by_cases c100 : x = 100
  · subst c100; decide +kernel
  by_cases c101 : x = 101
  · subst c101; decide +kernel
  by_cases c102 : x = 102
  · subst c102; decide +kernel
  by_cases c103 : x = 103
  · subst c103; decide +kernel
  by_cases c104 : x = 104
  · subst c104; decide +kernel
  by_cases c105 : x = 105
  · subst c105; decide +kernel
  by_cases c106 : x = 106
  · subst c106; decide +kernel
  by_cases c107 : x = 107
  · subst c107; decide +kernel
  by_cases c108 : x = 108
  · subst c108; decide +kernel
  by_cases c109 : x = 109
  · subst c109; decide +kernel
  by_cases c110 : x = 110
  · subst c110; decide +kernel
  by_cases c111 : x = 111
  · subst c111; decide +kernel
  by_cases c112 : x = 112
  · subst c112; decide +kernel
  by_cases c113 : x = 113
  · subst c113; decide +kernel
  by_cases c114 : x = 114
  · subst c114; decide +kernel
  by_cases c115 : x = 115
  · subst c115; decide +kernel
  by_cases c116 : x = 116
  · subst c116; decide +kernel
  unfold fX13_factOf q_let
  rw [if_neg c97, if_neg c98, if_neg c99, if_neg c100, if_neg c101, if_neg c102, if_neg c103, if_neg c104, if_neg c105, if_neg c106, if_neg c107, if_neg c108, if_neg c109, if_neg c110, if_neg c111, if_neg c112, if_neg c113, if_neg c114, if_neg c115, if_neg c116, if_neg c97, if_neg c100, if_neg c107, if_neg c108, if_neg c110, if_neg c112, if_neg c115, if_neg c116, if_pos rfl]
theorem m_op_eq (x : Int32) : fX13_sumSign x = some (if q_op x = 0 then -1 else nI (q_op x)) := by
  by_cases c43 : x = 43
  · subst c43; decide +kernel
  by_cases c45 : x = 45
  · subst c45; decide +kernel
  by_cases c42 : x = 42
  · subst c42; decide +kernel
  by_cases c47 : x = 47
  · subst c47; decide +kernel
  by_cases c37 : x = 37
  · subst c37; decide +kernel
  unfold fX13_sumSign q_op
  rw [if_neg c43, if_neg c45, if_neg c42, if_neg c47, if_neg c37, if_neg c43, if_neg c45, if_neg c42, if_neg c47, if_neg c37, if_pos rfl]
section MC
variable {K J : z_He} {mu : Nat → Nat} {n p s : Nat} {M : q_M} {st : q_K} {sg : Nat → Int32} {cx nr : Nat} {ru : q_U}
theorem ml_15 (h : m_X K J p s M st) (v : Int32) : m_X K (z_u J 102 15 v) p s M st := by
  obtain ⟨h1, h2, h3, h4, h5, h6, h7⟩ := h
  refine ⟨fun b k q1 q2 => by rw [z_u_eq, if_neg (by omega)]; exact h1 b k q1 q2, ?_, ?_, ?_, ?_, fun k hk => ?_, ?_⟩
  · rw [z_u_k (by decide)]; exact h2
  · rw [z_u_k (by decide)]; exact h3
  · rw [z_u_k (by decide)]; exact h4
  · rw [z_u_k (by decide)]; exact h5
  · rw [u_o (by decide)]; exact h6 k hk
  · rw [u_o (by decide)]; exact h7
theorem ml_num0 (ht : m_tx K n sg) {p0 : Nat} (hp0 : p0 ≤ n) : ∀ (f p v N : Nat) (J : z_He), p0 + 5 = p + f → m_X K J p s M st → J 102 15 = nI v → p ≤ n → f < N → (q_dg (sg (q_acc sg f p v).2) = true → ∃ J', z_lp (fX13_readsNumber_b10 102 (nI p0) (z_Rm mu)) N J = some (.inr J') ∧ m_X K J' (q_acc sg f p v).2 s M st) ∧ (¬ q_dg (sg (q_acc sg f p v).2) = true → ∃ J', z_lp (fX13_readsNumber_b10 102 (nI p0) (z_Rm mu)) N J = some (.inl (1, J')) ∧ m_X K J' (q_acc sg f p v).2 s M st ∧ J' 102 15 = nI (q_acc sg f p v).1) := by
  have n240 := ht.2.1
  have stop : ∀ (p v N : Nat) (J : z_He), m_X K J p s M st → p ≤ n → ¬ q_dg (sg p) = true → 0 < N → z_lp (fX13_readsNumber_b10 102 (nI p0) (z_Rm mu)) N J = some (.inl (1, J)) := by
    intro p v N J h hp c hN
    obtain ⟨N, rfl⟩ : ∃ N', N = N' + 1 := ⟨N - 1, by omega⟩
    have eb : fX13_readsNumber_b10 102 (nI p0) (z_Rm mu) J = some (.inr (.inl (1, J))) := by
      unfold fX13_readsNumber_b10
      dsimp only
      rw [ml_dig ht h.1 h.2.1 (by omega), z_b_s, if_neg c, if_pos rfl]
    unfold z_lp
    rw [eb]
  intro f
  induction f with
  | zero =>
    intro p v N J hj h hv hp hN
    refine ⟨fun c => ⟨J, ?_, h⟩, fun c => ⟨J, stop p v N J h hp c hN, h, hv⟩⟩
    obtain ⟨N, rfl⟩ : ∃ N', N = N' + 1 := ⟨N - 1, by omega⟩
    have c : q_dg (sg p) = true := c
    have eb : fX13_readsNumber_b10 102 (nI p0) (z_Rm mu) J = some (.inr (.inr J)) := by
      unfold fX13_readsNumber_b10
      dsimp only
      rw [ml_dig ht h.1 h.2.1 (by omega), z_b_s, if_pos c, if_neg (show ¬ (1 : Int32) = 0 by decide), h.2.1, show nI p0 + (5 : Int32) = nI (p0 + 5) from n_add p0 5, if_pos (by rw [show p = p0 + 5 by omega])]
    unfold z_lp
    rw [eb]
  | succ f ih =>
    intro p v N J hj h hv hp hN
    by_cases c : q_dg (sg p) = true
    · obtain ⟨x, x1, x2, e⟩ := q_dg_ok c
      have pn := q_dg_lt ht.1 c
      have eq : q_acc sg (f + 1) p v = q_acc sg f (p + 1) (10 * v + ((sg p).toNatClampNeg - 48)) := by
        rw [q_acc, if_pos c]
      obtain ⟨N, rfl⟩ : ∃ N', N = N' + 1 := ⟨N - 1, by omega⟩
      have nb : (10 : Int32) * nI v + sg p - (48 : Int32) = nI (10 * v + ((sg p).toNatClampNeg - 48)) := by
        rw [e, nI_clamp (by omega), show (10 : Int32) = nI 10 from rfl, n_mul, n_add, show (48 : Int32) = nI 48 from rfl, n_sub (by omega), show 10 * v + x - 48 = 10 * v + (x - 48) by omega]
      have eb : fX13_readsNumber_b10 102 (nI p0) (z_Rm mu) J = some (.inl (z_u (z_u J 102 15 (nI (10 * v + ((sg p).toNatClampNeg - 48)))) 102 12 (nI (p + 1)))) := by
        unfold fX13_readsNumber_b10
        dsimp only
        rw [ml_dig ht h.1 h.2.1 (by omega), z_b_s, if_pos c, if_neg (show ¬ (1 : Int32) = 0 by decide), h.2.1, show nI p0 + (5 : Int32) = nI (p0 + 5) from n_add p0 5, if_neg (fun z => by
          have := (n_eq (a := p) (b := p0 + 5) (by omega) (by omega)).mp z
          omega), ml_h ht h (by omega), z_b_s, z_l_s, hv, nb, z_l_s, z_u_k (show (12 : Nat) ≠ 15 by decide), h.2.1, n_s1]
      rw [eq]
      have := ih (p + 1) (10 * v + ((sg p).toNatClampNeg - 48)) N _ (by omega) (ml_place (ml_15 h (nI (10 * v + ((sg p).toNatClampNeg - 48)))) (p + 1)) (by rw [z_u_k (by decide), z_u_at]) (by omega) (by omega)
      unfold z_lp
      rw [eb]
      exact this
    · have eq : q_acc sg (f + 1) p v = (v, p) := by
        rw [q_acc, if_neg c]
      rw [eq]
      exact ⟨fun d => absurd d c, fun d => ⟨J, stop p v N J h hp c (by omega), h, hv⟩⟩
/-- brackets -/
theorem ml_br (ht : m_tx K n sg) : ∀ (i : Nat) (st : q_K) (p N : Nat) (J : z_He), q_ct st + i = 6 → i < N → m_X K J p s M st → q_inv n (1, p, s, M, st, cx, nr, ru) → (∃ J' p' up, z_lp (fX13_readsFactor_b0 102 (z_Rm mu)) N J = some (.inr J') ∧ m_X K J' p' s M (up ++ st) ∧ p ≤ p' ∧ (∀ x, x ∈ up → x.1 = 14) ∧ q_to sg n (1, p, s, M, st, cx, nr, ru) (1, p', s, M, up ++ st, cx, nr, ru) ∧ ¬ sg p' = 91) ∨ ∃ J' c q, z_lp (fX13_readsFactor_b0 102 (z_Rm mu)) N J = some (.inl (0, J')) ∧ m_F K J' (u_flt c q) ∧ q_end sg n (1, p, s, M, st, cx, nr, ru) (.inl (u_flt c q)) := by
  have n240 := ht.2.1
  intro i
  induction i with
  | zero =>
    intro st p N J hc hN h hi
    obtain ⟨b1, b2, b3⟩ := q_inv_l hi
    obtain ⟨N, rfl⟩ : ∃ N', N = N' + 1 := ⟨N - 1, by omega⟩
    by_cases c : sg p = 91
    · obtain ⟨J', g1, g2⟩ := (ml_opens (mu := mu) h (by omega) (a := 14) (Or.inr (Or.inr rfl))).1 (by omega)
      refine Or.inr ⟨J', 5, p, ?_, g2, q_end_s (by rw [q_ph1, if_pos c, if_pos (by omega)])⟩
      have eb : fX13_readsFactor_b0 102 (z_Rm mu) J = some (.inr (.inl (0, J'))) := by
        unfold fX13_readsFactor_b0
        dsimp only
        rw [ml_h ht h (by omega), z_b_s, if_pos c, show fX13_opens 102 (14 : Int32) = fX13_opens 102 (nI 14) from rfl, g1, z_b_s, if_pos rfl]
      unfold z_lp
      rw [eb]
    · refine Or.inl ⟨J, p, [], ?_, h, Nat.le_refl p, fun x hx => (by cases hx), q_to_r, c⟩
      have eb : fX13_readsFactor_b0 102 (z_Rm mu) J = some (.inr (.inr J)) := by
        unfold fX13_readsFactor_b0
        dsimp only
        rw [ml_h ht h (by omega), z_b_s, if_neg c]
      unfold z_lp
      rw [eb]
  | succ i ih =>
    intro st p N J hc hN h hi
    obtain ⟨b1, b2, b3⟩ := q_inv_l hi
    obtain ⟨N, rfl⟩ : ∃ N', N = N' + 1 := ⟨N - 1, by omega⟩
    by_cases c : sg p = 91
    · obtain ⟨J', g1, g2⟩ := (ml_opens (mu := mu) h (by omega) (a := 14) (Or.inr (Or.inr rfl))).2 (by omega)
      have s1 : q_step sg n (1, p, s, M, st, cx, nr, ru) = .inl (1, p + 1, s, M, (14, 0) :: st, cx, nr, ru) := by
        rw [q_ph1, if_pos c, if_neg (by omega)]
      have eb : fX13_readsFactor_b0 102 (z_Rm mu) J = some (.inl J') := by
        unfold fX13_readsFactor_b0
        dsimp only
        rw [ml_h ht h (by omega), z_b_s, if_pos c, show fX13_opens 102 (14 : Int32) = fX13_opens 102 (nI 14) from rfl, g1, z_b_s, if_neg (show ¬ (1 : Int32) = 0 by decide)]
      have i1 := q_inv_step ht.1 _ _ hi s1
      have ez : z_lp (fX13_readsFactor_b0 102 (z_Rm mu)) (N + 1) J = z_lp (fX13_readsFactor_b0 102 (z_Rm mu)) N J' := by
        rw [z_lp, eb]
      rw [ez]
      rcases ih ((14, 0) :: st) (p + 1) N J' (show (if (14 : Nat) = 10 ∨ (14 : Nat) = 13 ∨ (14 : Nat) = 14 then 1 else 0) + q_ct st + i = 6 by rw [if_pos (by decide)]; omega) (by omega) g2 i1 with ⟨J2, p2, up, r1, r2, r3, r4, r5, r6⟩ | ⟨J2, d, q, r1, r2, r3⟩
      · refine Or.inl ⟨J2, p2, up ++ [(14, 0)], r1, ?_, by omega, fun x hx => ?_, ?_, r6⟩
        · rw [List.append_assoc]; exact r2
        · rcases List.mem_append.mp hx with hx | hx
          · exact r4 x hx
          · rw [List.mem_singleton.mp hx]
        · rw [List.append_assoc]; exact q_to_t (q_to_s s1) r5
      · exact Or.inr ⟨J2, d, q, r1, r2, q_to_e (q_to_s s1) r3⟩
    · refine Or.inl ⟨J, p, [], ?_, h, Nat.le_refl p, fun x hx => (by cases hx), q_to_r, c⟩
      have eb : fX13_readsFactor_b0 102 (z_Rm mu) J = some (.inr (.inr J)) := by
        unfold fX13_readsFactor_b0
        dsimp only
        rw [ml_h ht h (by omega), z_b_s, if_neg c]
      unfold z_lp
      rw [eb]
theorem ml_fac (ht : m_tx K n sg) (h : m_X K J p s M st) (hi : q_inv n (1, p, s, M, st, cx, nr, ru)) : mq_G K n sg (1, p, s, M, st, cx, nr, ru) (fX13_readsFactor 102 J (z_Rm mu)) (fun p' s' M' st' => p < p' ∧ q_to sg n (1, p, s, M, st, cx, nr, ru) (2, p', s', M', st', cx, nr, ru) ∧ ∃ up, st' = up ++ st ∧ ∀ x, x ∈ up → x.1 = 14) := by
  have n240 := ht.2.1
  have c6 := m_sk_ct h.2.2.2.2.2.2
  unfold fX13_readsFactor
  rw [z_g_t m_ob]
  rcases ml_br (mu := mu) ht (6 - q_ct st) st p 300 J (by omega) (by omega) h hi with ⟨J2, p2, up, r1, r2, r3, r4, r5, r6⟩ | ⟨J2, d, q, r1, r2, r3⟩
  · have i2 := q_inv_to ht.1 hi r5
    obtain ⟨b1, b2, b3⟩ := q_inv_l i2
    rw [r1, z_b_s, z_x_ir, ml_dig ht r2.1 r2.2.1 (by omega), z_b_s]
    by_cases cd : q_dg (sg p2) = true
    · have pn := q_dg_lt ht.1 cd
      obtain ⟨u1, u2, u3⟩ := q_num_b ht.1 cd
      rw [if_pos cd, if_neg (show ¬ (1 : Int32) = 0 by decide)]
      unfold fX13_readsNumber
      rw [z_g_t m_ob, r2.2.1, z_l_s, z_l_s]
      obtain ⟨k1, k2⟩ := ml_num0 (s := s) (M := M) (st := up ++ st) (mu := mu) (p0 := p2) ht (by omega) 5 p2 0 300 (z_u J2 102 15 0) rfl (ml_15 r2 0) (z_u_at _ _ _ _) (by omega) (by decide)
      by_cases cd2 : q_dg (sg (q_acc sg 5 p2 0).2) = true
      · obtain ⟨J3, e1, e2⟩ := k1 cd2
        obtain ⟨a1, a2⟩ := ml_wrong (c := 2) (q := (q_acc sg 5 p2 0).2) e2.1
        rw [e1, z_b_s, z_x_ir, e2.2.1, show fX13_wrongAt 102 (2 : Int32) = fX13_wrongAt 102 (nI 2) from rfl, a1, z_b_s, z_g_t (Or.inl rfl), z_b_s, if_pos rfl]
        exact Or.inr ⟨_, 2, _, rfl, a2, q_to_e r5 (q_end_s (by rw [q_ph1, if_neg r6, if_pos cd, if_pos cd2]))⟩
      · obtain ⟨J3, e1, e2, e3⟩ := k2 cd2
        obtain ⟨J4, f1, f2, -⟩ := ml_notes (mu := mu) e2 (show s < 260 by omega) (a := 0) (v := (q_acc sg 5 p2 0).1)
        rw [e1, z_b_s, z_x_il, z_b_s, if_neg (show ¬ (1 : Int32) = 0 by decide)]
        dsimp only
        rw [e3, show fX13_notes 102 (0 : Int32) = fX13_notes 102 (nI 0) from rfl, f1, z_b_s]
        exact Or.inl ⟨J4, _, _, _, _, rfl, f2, by omega, q_to_t r5 (q_to_s (by rw [q_ph1, if_neg r6, if_pos cd, if_neg cd2])), up, rfl, r4⟩
    · rw [if_neg cd, if_pos rfl, ml_h ht r2 (by omega), z_b_s, m_let_eq, z_b_s]
      by_cases cl : q_let (sg p2) = 9
      · obtain ⟨a1, a2⟩ := ml_wrong (c := 1) (q := p2) r2.1
        rw [if_pos cl, if_pos rfl, r2.2.1, show fX13_wrongAt 102 (1 : Int32) = fX13_wrongAt 102 (nI 1) from rfl, a1, z_b_s, z_g_t (Or.inl rfl)]
        exact Or.inr ⟨_, 1, p2, rfl, a2, q_to_e r5 (q_end_s (by rw [q_ph1, if_neg r6, if_neg cd, if_pos cl]))⟩
      · obtain ⟨k1, v, v1, v2⟩ := q_let_b cl
        have pn := q_lt ht.1 v2 (by omega)
        obtain ⟨J4, f1, f2, -⟩ := ml_notes (mu := mu) r2 (show s < 260 by omega) (a := 1) (v := q_let (sg p2))
        rw [if_neg cl, if_neg (n_m1 (by omega)), show fX13_notes 102 (1 : Int32) = fX13_notes 102 (nI 1) from rfl, f1, z_b_s, z_l_s, f2.2.1, n_s1]
        exact Or.inl ⟨_, _, _, _, _, rfl, ml_place f2 (p2 + 1), by omega, q_to_t r5 (q_to_s (by rw [q_ph1, if_neg r6, if_neg cd, if_neg cl])), up, rfl, r4⟩
  · rw [r1, z_b_s, z_x_il]
    exact Or.inr ⟨J2, d, q, rfl, r2, r3⟩
/-- which signs are said now -/
theorem ml_csb (h : m_X K J p s M st) (hl : st.length < 260) {fl : Int32} (hf : fl = 0 ∨ fl = 1) : fX13_closesSums_b0 102 fl (z_Rm mu) J = if (4 ≤ q_top st ∧ q_top st ≤ 6) ∨ ((q_top st = 2 ∨ q_top st = 3) ∧ fl = 1) then fX13_closesSums_j37_0 102 fl J (z_Rm mu) else some (.inr J) := by
  have t := ml_top (mu := mu) h hl
  have t14 : q_top st ≤ 14 := by
    cases st with
    | nil => exact Nat.zero_le _
    | cons x r => exact h.2.2.2.2.2.2.2.1
  unfold fX13_closesSums_b0
  dsimp only
  rw [t, z_b_s]
  by_cases c0 : st = []
  · have q0 : q_top st = 0 := by rw [c0]; rfl
    rw [if_pos c0, if_pos (show (-1 : Int32) < 4 by decide)]
    unfold fX13_closesSums_j17_0
    rw [if_neg (show ¬ ((4 ≤ q_top st ∧ q_top st ≤ 6) ∨ ((q_top st = 2 ∨ q_top st = 3) ∧ fl = 1)) by rw [q0]; omega)]
    by_cases cf : fl = 0
    · rw [if_pos cf]
    · rw [if_neg cf, t, z_b_s, if_pos c0, if_neg (show ¬ (-1 : Int32) = 2 by decide), z_b_s, if_neg (show ¬ (-1 : Int32) = 3 by decide)]
  · rw [if_neg c0]
    have e2 : nI (q_top st) = 2 ↔ q_top st = 2 := n_eq (b := 2) (by omega) (by decide)
    have e3 : nI (q_top st) = 3 ↔ q_top st = 3 := n_eq (b := 3) (by omega) (by decide)
    have l4 : nI (q_top st) < 4 ↔ q_top st < 4 := n_lt (b := 4) (by omega) (by decide)
    have l6 : nI (q_top st) ≤ 6 ↔ q_top st ≤ 6 := n_le (b := 6) (by omega) (by decide)
    have j17 : ¬ (4 ≤ q_top st ∧ q_top st ≤ 6) → fX13_closesSums_j17_0 102 fl J (z_Rm mu) = if (4 ≤ q_top st ∧ q_top st ≤ 6) ∨ ((q_top st = 2 ∨ q_top st = 3) ∧ fl = 1) then fX13_closesSums_j37_0 102 fl J (z_Rm mu) else some (.inr J) := by
      intro n46
      unfold fX13_closesSums_j17_0
      by_cases cf : fl = 0
      · rw [if_pos cf, if_neg]
        rintro (z | z)
        · exact n46 z
        · rw [cf] at z; exact absurd z.2 (by decide)
      · have f1 : fl = 1 := by
          rcases hf with z | z
          · exact absurd z cf
          · exact z
        rw [if_neg cf, t, z_b_s, if_neg c0]
        by_cases c2 : q_top st = 2
        · rw [if_pos (e2.mpr c2), if_pos (Or.inr ⟨Or.inl c2, f1⟩)]
        · rw [if_neg (fun z => c2 (e2.mp z)), z_b_s]
          by_cases c3 : q_top st = 3
          · rw [if_pos (e3.mpr c3), if_pos (Or.inr ⟨Or.inr c3, f1⟩)]
          · rw [if_neg (fun z => c3 (e3.mp z)), if_neg]
            rintro (z | z)
            · exact n46 z
            · omega
    by_cases c4 : q_top st < 4
    · rw [if_pos (l4.mpr c4)]
      exact j17 (by omega)
    · rw [if_neg (fun z => c4 (l4.mp z)), z_b_s]
      by_cases c6 : q_top st ≤ 6
      · rw [if_pos (l6.mpr c6), if_pos (Or.inl ⟨by omega, c6⟩)]
      · rw [if_neg (fun z => c6 (l6.mp z))]
        exact j17 (by omega)
theorem ml_cs (ht : m_tx K n sg) {base : q_K} (hb : ¬ (2 ≤ q_top base ∧ q_top base ≤ 6)) {fl : Int32} (hf : (fl = 1 ∧ q_op (sg p) < 4) ∨ (fl = 0 ∧ 4 ≤ q_op (sg p))) : ∀ (up : q_K) (J : z_He) (s : Nat) (M : q_M) (N : Nat), (∀ x, x ∈ up → (2 ≤ x.1 ∧ x.1 ≤ 6) ∨ x.1 = 14) → up.length < N → m_X K J p s M (up ++ base) → q_inv n (2, p, s, M, up ++ base, cx, nr, ru) → ∃ J' s' M' up', z_lp (fX13_closesSums_b0 102 fl (z_Rm mu)) N J = some J' ∧ m_X K J' p s' M' (up' ++ base) ∧ q_to sg n (2, p, s, M, up ++ base, cx, nr, ru) (2, p, s', M', up' ++ base, cx, nr, ru) ∧ (∀ x, x ∈ up' → x ∈ up) ∧ ¬ ((4 ≤ q_top (up' ++ base) ∧ q_top (up' ++ base) ≤ 6) ∨ ((q_top (up' ++ base) = 2 ∨ q_top (up' ++ base) = 3) ∧ q_op (sg p) < 4)) ∧ (q_op (sg p) < 4 → (up' = [] ∧ ∀ x, x ∈ up → ¬ x.1 = 14) ∨ ∃ y r, up' = y :: r ∧ y.1 = 14) := by
  have n240 := ht.2.1
  have cc : ∀ st : q_K, ((4 ≤ q_top st ∧ q_top st ≤ 6) ∨ ((q_top st = 2 ∨ q_top st = 3) ∧ fl = 1)) ↔ ((4 ≤ q_top st ∧ q_top st ≤ 6) ∨ ((q_top st = 2 ∨ q_top st = 3) ∧ q_op (sg p) < 4)) := by
    intro st
    rcases hf with ⟨f1, f2⟩ | ⟨f1, f2⟩
    · constructor
      · rintro (z | z)
        · exact Or.inl z
        · exact Or.inr ⟨z.1, f2⟩
      · rintro (z | z)
        · exact Or.inl z
        · exact Or.inr ⟨z.1, f1⟩
    · constructor
      · rintro (z | z)
        · exact Or.inl z
        · rw [f1] at z; exact absurd z.2 (by decide)
      · rintro (z | z)
        · exact Or.inl z
        · omega
  have f01 : fl = 0 ∨ fl = 1 := by
    rcases hf with ⟨f1, f2⟩ | ⟨f1, f2⟩
    · exact Or.inr f1
    · exact Or.inl f1
  intro up
  induction up with
  | nil =>
    intro J s M N hu hN h hi
    obtain ⟨b1, b2, b3⟩ := q_inv_l hi
    have no : ¬ ((4 ≤ q_top ([] ++ base) ∧ q_top ([] ++ base) ≤ 6) ∨ ((q_top ([] ++ base) = 2 ∨ q_top ([] ++ base) = 3) ∧ q_op (sg p) < 4)) := by
      rw [List.nil_append]
      omega
    refine ⟨J, s, M, [], ?_, h, q_to_r, fun x hx => hx, no, fun _ => Or.inl ⟨rfl, fun x hx => by cases hx⟩⟩
    obtain ⟨N, rfl⟩ : ∃ N', N = N' + 1 := ⟨N - 1, by omega⟩
    unfold z_lp
    rw [ml_csb h (by omega) f01, if_neg (fun z => no ((cc _).mp z))]
  | cons x r ih =>
    intro J s M N hu hN h hi
    obtain ⟨b1, b2, b3⟩ := q_inv_l hi
    obtain ⟨N, rfl⟩ : ∃ N', N = N' + 1 := ⟨N - 1, by omega⟩
    simp only [List.length_cons] at hN
    by_cases c : (4 ≤ q_top (x :: r ++ base) ∧ q_top (x :: r ++ base) ≤ 6) ∨ ((q_top (x :: r ++ base) = 2 ∨ q_top (x :: r ++ base) = 3) ∧ q_op (sg p) < 4)
    · have tx : q_top (x :: r ++ base) = x.1 := rfl
      rw [tx] at c
      have s1 : q_step sg n (2, p, s, M, x :: r ++ base, cx, nr, ru) = .inl (2, p, s + 1, q_up M s (x.1, 0), r ++ base, cx, nr, ru) := q_s_pop (st := x :: r ++ base) (by rw [tx]; exact c)
      have i1 := q_inv_step ht.1 _ _ hi s1
      obtain ⟨J1, f1, f2, -⟩ := ml_notes (mu := mu) h (show s < 260 by omega) (a := x.1) (v := 0)
      obtain ⟨g1, g2⟩ := ml_pop (st := r ++ base) f2 (show (if x.1 = 10 ∨ x.1 = 13 ∨ x.1 = 14 then 1 else 0) + q_ct (r ++ base) = q_ct (r ++ base) by rw [if_neg (by omega), Nat.zero_add])
      have eb : fX13_closesSums_b0 102 fl (z_Rm mu) J = some (.inl (z_u J1 102 18 (nI (r ++ base).length))) := by
        rw [ml_csb h (by omega) f01, if_pos ((cc _).mpr (by rw [tx]; exact c))]
        unfold fX13_closesSums_j37_0
        rw [ml_top h (by omega), z_b_s, if_neg (by simp), tx, show fX13_notes 102 (nI x.1) (0 : Int32) = fX13_notes 102 (nI x.1) (nI 0) from rfl, f1, z_b_s, g1, z_l_s]
      have ez : z_lp (fX13_closesSums_b0 102 fl (z_Rm mu)) (N + 1) J = z_lp (fX13_closesSums_b0 102 fl (z_Rm mu)) N (z_u J1 102 18 (nI (r ++ base).length)) := by
        rw [z_lp, eb]
      obtain ⟨J', s', M', up', k1, k2, k3, k4, k5, k6⟩ := ih _ (s + 1) _ N (fun y hy => hu y (List.mem_cons_of_mem x hy)) (by omega) g2 i1
      refine ⟨J', s', M', up', by rw [ez]; exact k1, k2, q_to_t (q_to_s s1) k3, fun y hy => List.mem_cons_of_mem x (k4 y hy), k5, fun q => ?_⟩
      rcases k6 q with ⟨z1, z2⟩ | z
      · refine Or.inl ⟨z1, fun y hy => ?_⟩
        rcases List.mem_cons.mp hy with e | e
        · rw [e]; omega
        · exact z2 y e
      · exact Or.inr z
    · refine ⟨J, s, M, x :: r, ?_, h, q_to_r, fun y hy => hy, c, fun q => Or.inr ⟨x, r, rfl, ?_⟩⟩
      · unfold z_lp
        rw [ml_csb h (by omega) f01, if_neg (fun z => c ((cc _).mp z))]
      · have tx : q_top (x :: r ++ base) = x.1 := rfl
        rw [tx] at c
        have := hu x List.mem_cons_self
        omega
theorem m_sk_el {V : Nat → Int32} {base : q_K} : ∀ {up : q_K}, m_sk V (up ++ base) → (∀ k, base.length ≤ k → k < up.length + base.length → ∃ x, x ∈ up ∧ V k = nI (1048576 * x.1 + x.2) ∧ x.1 ≤ 14 ∧ x.2 < 1000) ∧ ∀ x, x ∈ up → ∃ k, base.length ≤ k ∧ k < up.length + base.length ∧ V k = nI (1048576 * x.1 + x.2) ∧ x.1 ≤ 14 ∧ x.2 < 1000
  | [], _ => ⟨fun k k1 k2 => by simp at k2; omega, fun x hx => by cases hx⟩
  | y :: r, h => by
    have h : V (r ++ base).length = nI (1048576 * y.1 + y.2) ∧ y.1 ≤ 14 ∧ y.2 < 1000 ∧ q_ct (y :: (r ++ base)) ≤ 6 ∧ m_sk V (r ++ base) := h
    obtain ⟨h1, h2, h3, h4, h5⟩ := h
    rw [List.length_append] at h1
    obtain ⟨a1, a2⟩ := m_sk_el h5
    constructor
    · intro k k1 k2
      simp only [List.length_cons] at k2
      by_cases c : k = r.length + base.length
      · rw [c]; exact ⟨y, List.mem_cons_self, h1, h2, h3⟩
      · obtain ⟨x, x1, x2⟩ := a1 k k1 (by omega)
        exact ⟨x, List.mem_cons_of_mem y x1, x2⟩
    · intro x hx
      simp only [List.length_cons]
      rcases List.mem_cons.mp hx with e | e
      · rw [e]; exact ⟨r.length + base.length, by omega, by omega, h1, h2, h3⟩
      · obtain ⟨k, k1, k2, k3⟩ := a2 x e
        exact ⟨k, k1, by omega, k3⟩
theorem ml_ho {base up : q_K} (h : m_X K J p s M (up ++ base)) (hl : (up ++ base).length < 260) : ∃ v, fX13_hasOpenSum 102 (nI base.length) J (z_Rm mu) = some v ∧ ((v = 1 ∧ ∃ x, x ∈ up ∧ x.1 = 14) ∨ (v = 0 ∧ ∀ x, x ∈ up → ¬ x.1 = 14)) := by
  obtain ⟨h1, h2, h3, h4, h5, h6, h7⟩ := h
  obtain ⟨a1, a2⟩ := m_sk_el h7
  rw [List.length_append] at h5 hl
  have P14 : ∀ k, base.length ≤ k → k < up.length + base.length → (J 113 k / 1048576 = 14 → ∃ x, x ∈ up ∧ x.1 = 14) := by
    intro k k1 k2 e
    obtain ⟨x, x1, x2, x3, x4⟩ := a1 k k1 k2
    rw [x2, (n_pk x3 (by omega)).1] at e
    exact ⟨x, x1, (n_eq (a := x.1) (b := 14) (by omega) (by decide)).mp e⟩
  obtain ⟨y, e1, e2⟩ := lp_var (body := fX13_hasOpenSum_b2 102 J (z_Rm mu)) (fun t => ∃ k, t = nI k ∧ base.length ≤ k ∧ k ≤ up.length + base.length ∧ ∀ j, base.length ≤ j → j < k → ¬ J 113 j / 1048576 = 14) (fun (y : Int32 ⊕ Unit) => (y = .inl 1 ∧ ∃ x, x ∈ up ∧ x.1 = 14) ∨ (y = .inr () ∧ ∀ x, x ∈ up → ¬ x.1 = 14)) (fun t => up.length + base.length + 1 - t.toNatClampNeg) (fun t ht => by
    obtain ⟨k, rfl, k1, k2, k3⟩ := ht
    unfold fX13_hasOpenSum_b2
    dsimp only
    rw [h5]
    by_cases c : k < up.length + base.length
    · rw [if_neg (nI_ge c (by omega)), (r_m mu).2.2, z_g_t (n_ok (n := 260) rfl (show k < 260 by omega) (by decide)), nI_clamp (show k < 2 ^ 31 by omega)]
      by_cases c14 : J 113 k / 1048576 = 14
      · rw [if_pos c14]
        exact Or.inr ⟨_, rfl, Or.inl ⟨rfl, P14 k k1 c c14⟩⟩
      · rw [if_neg c14, z_l_s, n_s1]
        refine Or.inl ⟨_, rfl, ⟨k + 1, rfl, by omega, by omega, fun j j1 j2 => ?_⟩, ?_⟩
        · by_cases cj : j = k
          · rw [cj]; exact c14
          · exact k3 j j1 (by omega)
        · rw [nI_clamp (by omega)]
          omega
    · rw [if_pos (nI_le (by omega) (by omega))]
      refine Or.inr ⟨_, rfl, Or.inr ⟨rfl, fun x hx e => ?_⟩⟩
      obtain ⟨j, j1, j2, j3, j4, j5⟩ := a2 x hx
      refine k3 j j1 (by omega) ?_
      rw [j3, (n_pk j4 (by omega)).1, e]
      rfl) 300 (nI base.length) (by rw [nI_clamp (by omega)]; omega) ⟨base.length, rfl, Nat.le_refl _, by omega, fun j j1 j2 => by omega⟩
  unfold fX13_hasOpenSum
  rw [z_g_t m_ob, e1, z_b_s]
  rcases e2 with ⟨z1, z2⟩ | ⟨z1, z2⟩
  · rw [z1, z_x_il]; exact ⟨1, rfl, Or.inl ⟨rfl, z2⟩⟩
  · rw [z1, z_x_ir]; exact ⟨0, rfl, Or.inr ⟨rfl, z2⟩⟩
/-- an open bracket, another sign -/
theorem q_br_e {base : q_K} (h0 : q_op (sg p) = 0) (h93 : ¬ sg p = 93) : ∀ (up : q_K) (s : Nat) (M : q_M), (∀ x, x ∈ up → (2 ≤ x.1 ∧ x.1 ≤ 6) ∨ x.1 = 14) → (∃ x, x ∈ up ∧ x.1 = 14) → q_end sg n (2, p, s, M, up ++ base, cx, nr, ru) (.inl (u_flt 1 p)) := by
  intro up
  induction up with
  | nil => intro s M hu ⟨x, hx, _⟩; cases hx
  | cons x r ih =>
    intro s M hu he
    have tx : q_top (x :: r ++ base) = x.1 := rfl
    by_cases c : x.1 = 14
    · exact q_end_s (q_e_cl (st := x :: r ++ base) (by rw [tx]; exact c) h0 h93)
    · have b := hu x List.mem_cons_self
      have s1 : q_step sg n (2, p, s, M, x :: r ++ base, cx, nr, ru) = .inl (2, p, s + 1, q_up M s (x.1, 0), r ++ base, cx, nr, ru) := q_s_pop (st := x :: r ++ base) (by rw [tx]; omega)
      refine q_to_e (q_to_s s1) (ih (s + 1) _ (fun y hy => hu y (List.mem_cons_of_mem x hy)) ?_)
      obtain ⟨y, y1, y2⟩ := he
      rcases List.mem_cons.mp y1 with e | e
      · rw [e] at y2; exact absurd y2 c
      · exact ⟨y, e, y2⟩
end MC
