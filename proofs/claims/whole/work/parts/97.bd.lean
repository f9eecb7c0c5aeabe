/-! law: the model's leaps and conditions -/
section ME
variable {K J : z_He} {mu : Nat → Nat} {n p s : Nat} {M : q_M} {st : q_K} {sg : Nat → Int32} {cx nr : Nat} {ru : q_U}
theorem ml_land1 {x : Nat × Nat} (h : m_X K J p s M (x :: st)) (hx : x.1 = 11 ∨ x.1 = 12) (hp : x.2 < s) (hs : s < 260) (hM : M x.2 = (x.1, 0)) (hl : (x :: st).length < 260) {fl : Int32} : ∃ J', fX13_lands_j22_0 102 fl J (z_Rm mu) = some (.inl J') ∧ m_X K J' p s (q_up M x.2 (x.1, s)) st := by
  obtain ⟨h1, h2, h3, h4, h5, h6, h7⟩ := h
  have h5 : J 102 18 = nI (st.length + 1) := h5
  have hl : st.length + 1 < 260 := hl
  have e13 : J 113 st.length = nI (1048576 * x.1 + x.2) := h7.1
  have e12 : J 112 x.2 = nI (1048576 * x.1 + 0) := by rw [h6 x.2 hp, hM]
  have x1000 : x.2 < 1000 := h7.2.2.1
  unfold fX13_lands_j22_0
  rw [(r_m mu).2.2, (r_m mu).2.1, h5, nI_pred, z_g_t (n_ok (n := 260) rfl (show st.length < 260 by omega) (by decide)), nI_clamp (show st.length < 2 ^ 31 by omega), e13, (n_pk (a := x.1) (b := x.2) (by omega) (by omega)).2, z_l_s, z_g_t (n_ok (n := 260) rfl (show x.2 < 260 by omega) (by decide)), nI_clamp (show x.2 < 2 ^ 31 by omega), e12, (n_pk (a := x.1) (b := 0) (by omega) (by decide)).1, h4, show (1048576 : Int32) = nI 1048576 from rfl, n_mul, n_add, z_l_s, u_o (show (102 : Nat) ≠ 112 by decide), h5, nI_pred, z_l_s]
  refine ⟨_, rfl, fun b k q1 q2 => ?_, ?_, ?_, ?_, ?_, fun k hk => ?_, ?_⟩
  · rw [z_u_eq, if_neg (by omega), u_o (by omega)]; exact h1 b k q1 q2
  · rw [z_u_k (by decide), u_o (by decide)]; exact h2
  · rw [z_u_k (by decide), u_o (by decide), h3]
    show nI ((if x.1 = 10 ∨ x.1 = 13 ∨ x.1 = 14 then 1 else 0) + q_ct st) = _
    rw [if_neg (by omega), Nat.zero_add]
  · rw [z_u_k (by decide), u_o (by decide)]; exact h4
  · rw [z_u_at]
  · rw [u_o (by decide)]
    by_cases c : k = x.2
    · rw [c, z_u_at, q_up_at]
    · rw [z_u_k c, q_up_o c]; exact h6 k hk
  · rw [u_o (by decide), u_o (by decide)]; exact h7.2.2.2.2
theorem ml_landb (h : m_X K J p s M st) (hl : st.length < 260) {fl : Int32} (hf : fl = 0 ∨ fl = 1) : fX13_lands_b0 102 fl (z_Rm mu) J = if q_top st = 11 ∨ (fl = 1 ∧ q_top st = 12) then fX13_lands_j22_0 102 fl J (z_Rm mu) else some (.inr J) := by
  have t := ml_top (mu := mu) h hl
  have t14 : q_top st ≤ 14 := by
    cases st with
    | nil => exact Nat.zero_le _
    | cons x r => exact h.2.2.2.2.2.2.2.1
  have T : ∀ a : Nat, a < 100 → 0 < a → ((if st = [] then (-1 : Int32) else nI (q_top st)) = nI a ↔ q_top st = a) := by
    intro a ha a0
    by_cases c0 : st = []
    · rw [if_pos c0]
      constructor
      · intro z; exact absurd z.symm (n_m1 (by omega))
      · intro z
        rw [c0] at z
        have : q_top ([] : q_K) = 0 := rfl
        omega
    · rw [if_neg c0]
      exact n_eq (by omega) (by omega)
  have T11 := T 11 (by decide) (by decide)
  have T12 := T 12 (by decide) (by decide)
  unfold fX13_lands_b0
  dsimp only
  rw [t, z_b_s]
  by_cases c11 : q_top st = 11
  · rw [if_pos (show _ = (11 : Int32) from T11.mpr c11), if_pos (Or.inl c11)]
  · rw [if_neg (show ¬ _ = (11 : Int32) from fun z => c11 (T11.mp z))]
    by_cases cf : fl = 0
    · rw [if_pos cf, if_neg]
      rintro (z | z)
      · exact c11 z
      · rw [cf] at z; exact absurd z.1 (by decide)
    · have f1 : fl = 1 := by
        rcases hf with z | z
        · exact absurd z cf
        · exact z
      rw [if_neg cf, z_b_s]
      by_cases c12 : q_top st = 12
      · rw [if_pos (show _ = (12 : Int32) from T12.mpr c12), if_pos (Or.inr ⟨f1, c12⟩)]
      · rw [if_neg (show ¬ _ = (12 : Int32) from fun z => c12 (T12.mp z)), if_neg]
        rintro (z | z)
        · exact c11 z
        · exact c12 z.2
theorem ml_lands (ht : m_tx K n sg) {fl : Int32} (hf : (fl = 0 ∧ sg p = 38) ∨ (fl = 1 ∧ (sg p = 41 ∨ sg p = 124))) : ∀ (st : q_K) (J : z_He) (M : q_M) (N : Nat), st.length < N → q_cs st → m_X K J p s M st → q_inv n (6, p, s, M, st, cx, nr, ru) → ∃ J' M' st', z_lp (fX13_lands_b0 102 fl (z_Rm mu)) N J = some J' ∧ m_X K J' p s M' st' ∧ q_cs st' ∧ ¬ q_top st' = 11 ∧ (fl = 1 → ¬ q_top st' = 12) ∧ q_to sg n (6, p, s, M, st, cx, nr, ru) (6, p, s, M', st', cx, nr, ru) := by
  have n240 := ht.2.1
  have f01 : fl = 0 ∨ fl = 1 := by
    rcases hf with z | z
    · exact Or.inl z.1
    · exact Or.inr z.1
  intro st
  induction st with
  | nil => intro J M N hN hc; exact hc.elim
  | cons x r ih =>
    intro J M N hN hc h hi
    obtain ⟨b1, b2, b3⟩ := q_inv_l hi
    obtain ⟨N, rfl⟩ : ∃ N', N = N' + 1 := ⟨N - 1, by omega⟩
    have tx : q_top (x :: r) = x.1 := rfl
    by_cases c : x.1 = 11 ∨ (fl = 1 ∧ x.1 = 12)
    · have x12 : x.1 = 11 ∨ x.1 = 12 := by
        rcases c with z | z
        · exact Or.inl z
        · exact Or.inr z.2
      have lp : q_lp M s (x :: r) := hi.2.2.2.2.2.2.2
      unfold q_lp at lp
      rw [if_pos x12] at lp
      obtain ⟨J1, f1, f2⟩ := ml_land1 (mu := mu) (fl := fl) h x12 lp.1 (by omega) lp.2.1 (by omega)
      have s1 : q_step sg n (6, p, s, M, x :: r, cx, nr, ru) = .inl (6, p, s, q_up M x.2 (x.1, s), r, cx, nr, ru) := by
        rw [q_ph6]
        rcases hf with ⟨y1, y2⟩ | ⟨y1, y2 | y2⟩
        · rw [if_neg (by rw [y2]; decide), if_pos y2]
          refine if_pos ?_
          rcases c with z | z
          · exact z
          · rw [y1] at z; exact absurd z.1 (by decide)
        · rw [if_pos y2]
          exact if_pos x12
        · rw [if_neg (by rw [y2]; decide), if_neg (by rw [y2]; decide), if_pos y2]
          exact if_pos x12
      have i1 := q_inv_step ht.1 _ _ hi s1
      have ez : z_lp (fX13_lands_b0 102 fl (z_Rm mu)) (N + 1) J = z_lp (fX13_lands_b0 102 fl (z_Rm mu)) N J1 := by
        rw [z_lp, ml_landb h (by omega) f01, if_pos (by rw [tx]; exact c), f1]
      obtain ⟨J', M', st', k1, k2, k3, k4, k5, k6⟩ := ih J1 _ N (by simp at hN; omega) (q_cs_tl hc (by omega)) f2 i1
      exact ⟨J', M', st', by rw [ez]; exact k1, k2, k3, k4, k5, q_to_t (q_to_s s1) k6⟩
    · refine ⟨J, M, x :: r, ?_, h, hc, fun z => c (Or.inl z), fun f z => c (Or.inr ⟨f, z⟩), q_to_r⟩
      rw [z_lp, ml_landb h (by omega) f01, if_neg (by rw [tx]; exact c)]
theorem ml_land (ht : m_tx K n sg) {fl : Int32} (hf : (fl = 0 ∧ sg p = 38) ∨ (fl = 1 ∧ (sg p = 41 ∨ sg p = 124))) (hc : q_cs st) (h : m_X K J p s M st) (hi : q_inv n (6, p, s, M, st, cx, nr, ru)) : ∃ J' M' st', fX13_lands 102 fl J (z_Rm mu) = some J' ∧ m_X K J' p s M' st' ∧ q_cs st' ∧ ¬ q_top st' = 11 ∧ (fl = 1 → ¬ q_top st' = 12) ∧ q_to sg n (6, p, s, M, st, cx, nr, ru) (6, p, s, M', st', cx, nr, ru) := by
  have n240 := ht.2.1
  obtain ⟨b1, b2, b3⟩ := q_inv_l hi
  obtain ⟨J', M', st', k1, k⟩ := ml_lands (mu := mu) ht hf st J M 300 (by omega) hc h hi
  refine ⟨J', M', st', ?_, k⟩
  unfold fX13_lands
  rw [z_g_t m_ob, k1, z_b_s]
theorem ml_jump (h : m_X K J p s M st) (hl : st.length < 260) (hs : s < 260) {a : Nat} (ha : a = 11 ∨ a = 12) : ∃ J', fX13_jumps 102 (nI a) J (z_Rm mu) = some J' ∧ m_X K J' (p + 1) (s + 1) (q_up M s (a, 0)) ((a, s) :: st) := by
  have hc := h
  obtain ⟨h1, h2, h3, h4, h5, h6, h7⟩ := h
  have X1 : m_X K (z_u (z_u J 113 st.length (nI (1048576 * a + s))) 102 18 (nI (st.length + 1))) p s M ((a, s) :: st) := by
    refine ⟨fun b k q1 q2 => ?_, ?_, ?_, ?_, ?_, fun k hk => ?_, ?_⟩
    · rw [z_u_eq, if_neg (by omega), u_o (by omega)]; exact h1 b k q1 q2
    · rw [z_u_k (by decide), u_o (by decide)]; exact h2
    · rw [z_u_k (by decide), u_o (by decide)]
      show _ = nI ((if a = 10 ∨ a = 13 ∨ a = 14 then 1 else 0) + q_ct st)
      rw [if_neg (by omega), Nat.zero_add]
      exact h3
    · rw [z_u_k (by decide), u_o (by decide)]; exact h4
    · rw [z_u_at]; rfl
    · rw [u_o (by decide), u_o (by decide)]; exact h6 k hk
    · rw [u_o (by decide)]
      refine ⟨z_u_at _ _ _ _, by omega, (by show s < 1000; omega), ?_, m_sk_c h7 (fun k hk => z_u_k (by omega))⟩
      show (if a = 10 ∨ a = 13 ∨ a = 14 then 1 else 0) + q_ct st ≤ 6
      rw [if_neg (by omega), Nat.zero_add]
      exact m_sk_ct h7
  obtain ⟨J2, f1, f2, -⟩ := ml_notes (mu := mu) X1 hs (a := a) (v := 0)
  refine ⟨_, ?_, ml_place f2 (p + 1)⟩
  unfold fX13_jumps
  rw [z_g_t m_ob, (r_m mu).2.2, h5, z_g_t (n_ok (n := 260) rfl hl (by decide)), nI_clamp (show st.length < 2 ^ 31 by omega), h4, show (1048576 : Int32) = nI 1048576 from rfl, n_mul, n_add, z_l_s, u_o (show (102 : Nat) ≠ 113 by decide), h5, n_s1, z_l_s, show fX13_notes 102 (nI a) (0 : Int32) = fX13_notes 102 (nI a) (nI 0) from rfl, f1, z_b_s, f2.2.1, n_s1, z_l_s]
/-- behind the brackets -/
def m_ce (K : z_He) (n : Nat) (sg : Nat → Int32) (S0 : q_S) (nr : Nat) (ru : q_U) (p : Nat) (y : (Int32 × z_He) ⊕ z_He) : Prop := (∃ J' p' s' M' cx', y = .inl (1, J') ∧ p ≤ p' ∧ m_X K J' p' s' M' [] ∧ q_to sg n S0 (7, p', s', M', [], cx', nr, ru)) ∨ ∃ J' p' s' M' st' cx', y = .inr J' ∧ p ≤ p' ∧ q_cs st' ∧ ¬ sg p' = 41 ∧ m_X K J' p' s' M' st' ∧ q_to sg n S0 (6, p', s', M', st', cx', nr, ru)
theorem ml_close (ht : m_tx K n sg) {S0 : q_S} (hi0 : q_inv n S0) (h : m_X K J p s M st) (hc : q_cs st) (hto : q_to sg n S0 (6, p, s, M, st, cx, nr, ru)) : ∃ y, z_lp (fX13_readsCondition_b92 102 (z_Rm mu)) 300 J = some y ∧ m_ce K n sg S0 nr ru p y := by
  have n240 := ht.2.1
  refine lp_var (body := fX13_readsCondition_b92 102 (z_Rm mu)) (fun G => ∃ p' s' M' st' cx', p ≤ p' ∧ q_cs st' ∧ m_X K G p' s' M' st' ∧ q_to sg n S0 (6, p', s', M', st', cx', nr, ru)) (m_ce K n sg S0 nr ru p) (fun G => n + 1 - (G 102 12).toNatClampNeg) ?_ 300 J (by omega) ⟨p, s, M, st, cx, Nat.le_refl p, hc, h, hto⟩
  intro G hG
  obtain ⟨p', s', M', st', cx', w1, w2, w3, w4⟩ := hG
  have i1 := q_inv_to ht.1 hi0 w4
  obtain ⟨d1, d2, d3⟩ := q_inv_l i1
  have pl : (G 102 12).toNatClampNeg = p' := by rw [w3.2.1, nI_clamp (by omega)]
  rw [pl]
  unfold fX13_readsCondition_b92
  dsimp only
  rw [ml_h ht w3 (by omega), z_b_s]
  by_cases c41 : sg p' = 41
  · have pn := q_lt (v := 41) ht.1 c41 (by decide)
    obtain ⟨J2, M2, st2, k1, k2, k3, k4, k5, k6⟩ := ml_land (mu := mu) ht (fl := 1) (Or.inr ⟨rfl, Or.inl c41⟩) w2 w3 i1
    have to2 := q_to_t w4 k6
    have i2 := q_inv_to ht.1 hi0 to2
    obtain ⟨l1, l2, l3⟩ := q_inv_l i2
    have k5 := k5 rfl
    have tc := q_cs_top k3
    rw [if_pos c41, k1, z_b_s]
    cases st2 with
    | nil => exact k3.elim
    | cons x r =>
      have tx : q_top (x :: r) = x.1 := rfl
      rw [tx] at k4 k5 tc
      have l3 : r.length + 1 ≤ p' := l3
      obtain ⟨m1, m2, m3⟩ := ml_popo k2 (show (if x.1 = 10 ∨ x.1 = 13 ∨ x.1 = 14 then 1 else 0) + q_ct r = q_ct r + 1 by rw [if_pos (by omega), Nat.add_comm])
      have X4 := ml_place m3 (p' + 1)
      rw [m1, nI_pred, z_l_s, z_u_k (show (16 : Nat) ≠ 18 by decide), m2, nI_pred, z_l_s, m3.2.1, n_s1, z_l_s, X4.2.2.2.2.1]
      have s3 : ¬ (q_top (x :: r) = 11 ∨ q_top (x :: r) = 12) := by rw [tx]; omega
      by_cases c0 : r = []
      · subst c0
        rw [if_pos (show nI ([] : q_K).length = 0 from rfl)]
        refine Or.inr ⟨_, rfl, Or.inl ⟨_, p' + 1, s', M2, cx', rfl, by omega, X4, q_to_t to2 (q_to_s ?_)⟩⟩
        rw [q_ph6, if_pos c41, if_neg s3]
        exact if_pos rfl
      · have r0 : 0 < r.length := by
          cases r with
          | nil => exact absurd rfl c0
          | cons y z => simp
        have s4 : q_step sg n (6, p', s', M2, x :: r, cx', nr, ru) = .inl (4, p' + 1, s', M2, r, cx', nr, ru) := by
          rw [q_ph6, if_pos c41, if_neg s3]
          exact if_neg c0
        have i4 := q_inv_step ht.1 _ _ i2 s4
        have cr : q_cs r := by
          rcases k3 with z | z
          · exact absurd z.1 c0
          · exact z.2
        obtain ⟨J5, s5, M5, st5, e1, e2, e3, e4, e5⟩ := ml_end (mu := mu) ht cr X4 i4
        rw [if_neg (nI_ne0 r0 (by omega)), e1, z_b_s]
        have to5 := q_to_t to2 (q_to_t (q_to_s s4) e5)
        have i5 := q_inv_l (q_inv_to ht.1 hi0 to5)
        refine Or.inl ⟨_, rfl, ⟨p' + 1, s5, M5, st5, cx', by omega, e3, e2, to5⟩, ?_⟩
        rw [e2.2.1, nI_clamp (by omega)]
        omega
  · rw [if_neg c41]
    exact Or.inr ⟨_, rfl, Or.inr ⟨G, p', s', M', st', cx', rfl, w1, w2, c41, w3, w4⟩⟩
def m_de (K : z_He) (n : Nat) (sg : Nat → Int32) (S0 : q_S) (nr : Nat) (ru : q_U) (y : (Int32 × z_He) ⊕ z_He) : Prop := (∃ J' p' s' M' cx', y = .inl (1, J') ∧ m_X K J' p' s' M' [] ∧ q_to sg n S0 (7, p', s', M', [], cx', nr, ru)) ∨ (∃ J' c q, y = .inl (0, J') ∧ m_F K J' (u_flt c q) ∧ q_end sg n S0 (.inl (u_flt c q))) ∨ ∃ J' p' s' M' st', y = .inr J' ∧ m_X K J' p' s' M' st' ∧ q_end sg n S0 (.inl (u_flt 1 p'))
theorem ml_tests (ht : m_tx K n sg) {S0 : q_S} (hi0 : q_inv n S0) (h : m_X K J p s M st) (hc : q_cs st) (hto : q_to sg n S0 (8, p, s, M, st, cx, nr, ru)) : ∃ y, z_lp (fX13_readsCondition_b40 102 (z_Rm mu)) 300 J = some y ∧ m_de K n sg S0 nr ru y := by
  have n240 := ht.2.1
  refine lp_var (body := fX13_readsCondition_b40 102 (z_Rm mu)) (fun G => ∃ p' s' M' st' cx', q_cs st' ∧ m_X K G p' s' M' st' ∧ q_to sg n S0 (8, p', s', M', st', cx', nr, ru)) (m_de K n sg S0 nr ru) (fun G => n + 1 - (G 102 12).toNatClampNeg) ?_ 300 J (by omega) ⟨p, s, M, st, cx, hc, h, hto⟩
  intro G hG
  obtain ⟨p', s', M', st', cx', w2, w3, w4⟩ := hG
  have i1 := q_inv_to ht.1 hi0 w4
  obtain ⟨d1, d2, d3⟩ := q_inv_l i1
  have pl : (G 102 12).toNatClampNeg = p' := by rw [w3.2.1, nI_clamp (by omega)]
  have hh := ml_h (mu := mu) ht w3 (by omega)
  have c6 := m_sk_ct w3.2.2.2.2.2.2
  rw [pl]
  unfold fX13_readsCondition_b40
  dsimp only
  rw [hh, z_b_s]
  have br : ∀ a : Nat, (a = 10 ∨ a = 13) → a = (if sg p' = 33 then 10 else 13) → (sg p' = 33 ∨ sg p' = 40) → (∃ s', fX13_readsCondition_j75_40 102 102 (nI a) G (z_Rm mu) = some (.inl s') ∧ (∃ p'' s'' M' st' cx', q_cs st' ∧ m_X K s' p'' s'' M' st' ∧ q_to sg n S0 (8, p'', s'', M', st', cx', nr, ru)) ∧ n + 1 - (s' 102 12).toNatClampNeg < n + 1 - p') ∨ ∃ x, fX13_readsCondition_j75_40 102 102 (nI a) G (z_Rm mu) = some (.inr x) ∧ m_de K n sg S0 nr ru x := by
    intro a ha ea cs
    have pn : p' < n := by
      rcases cs with z | z
      · exact q_lt (v := 33) ht.1 z (by decide)
      · exact q_lt (v := 40) ht.1 z (by decide)
    unfold fX13_readsCondition_j75_40
    rw [z_g_t m_ob]
    obtain ⟨o1, o2⟩ := ml_opens (mu := mu) w3 (by omega) (a := a) (by omega)
    by_cases c : q_ct st' = 6
    · obtain ⟨J2, e1, e2⟩ := o1 c
      rw [e1, z_b_s, if_pos rfl]
      exact Or.inr ⟨_, rfl, Or.inr (Or.inl ⟨J2, 5, p', rfl, e2, q_to_e w4 (q_end_s (by rw [q_ph8, if_pos cs, if_pos c]))⟩)⟩
    · obtain ⟨J2, e1, e2⟩ := o2 (by omega)
      have s1 : q_step sg n (8, p', s', M', st', cx', nr, ru) = .inl (8, p' + 1, s', M', (a, 0) :: st', cx', nr, ru) := by
        rw [q_ph8, if_pos cs, if_neg c, ← ea]
      rw [e1, z_b_s, if_neg (show ¬ (1 : Int32) = 0 by decide)]
      refine Or.inl ⟨_, rfl, ⟨p' + 1, s', M', (a, 0) :: st', cx', Or.inr ⟨by dsimp only; omega, w2⟩, e2, q_to_t w4 (q_to_s s1)⟩, ?_⟩
      dsimp only
      rw [e2.2.1, nI_clamp (by omega)]
      omega
  by_cases c33 : sg p' = 33
  · rw [if_pos c33]
    unfold fX13_readsCondition_j58_40
    rw [hh, z_b_s, if_pos c33]
    exact br 10 (Or.inl rfl) (by rw [if_pos c33]) (Or.inl c33)
  rw [if_neg c33, z_b_s]
  by_cases c40 : sg p' = 40
  · rw [if_pos c40]
    unfold fX13_readsCondition_j58_40
    rw [hh, z_b_s, if_neg c33]
    exact br 13 (Or.inr rfl) (by rw [if_neg c33]) (Or.inr c40)
  rw [if_neg c40]
  have s1 : q_step sg n (8, p', s', M', st', cx', nr, ru) = .inl (1, p', s', M', st', 1, nr, ru) := by
    rw [q_ph8, if_neg (by rintro (q | q); exact c33 q; exact c40 q)]
  have i2 := q_inv_step ht.1 _ _ i1 s1
  have to1 := q_to_t w4 (q_to_s s1)
  rcases ml_cmp (mu := mu) ht w2 w3 i2 with ⟨J2, p2, s2, M2, st2, g1, g2, g3, g4, g5, cx2, g6⟩ | ⟨J2, c, q, g1, g2, g3⟩
  · have to2 := q_to_t to1 g6
    obtain ⟨y, y1, y2⟩ := ml_close (mu := mu) ht hi0 g2 g4 to2
    rw [g1, z_b_s, if_neg (show ¬ (1 : Int32) = 0 by decide)]
    dsimp only
    rw [y1, z_b_s]
    rcases y2 with ⟨J3, p3, s3, M3, cx3, z1, z2, z3, z4⟩ | ⟨J3, p3, s3, M3, st3, cx3, z1, z2, z3, z4, z5, z6⟩
    · rw [z1, z_x_il]
      exact Or.inr ⟨_, rfl, Or.inl ⟨J3, p3, s3, M3, cx3, rfl, z3, z4⟩⟩
    · rw [z1, z_x_ir]
      have i3 := q_inv_to ht.1 hi0 z6
      obtain ⟨l1, l2, l3⟩ := q_inv_l i3
      have h3 := ml_h (mu := mu) ht z5 (by omega)
      rw [h3, z_b_s]
      have go : ∀ (fl : Int32) (a : Nat), ((fl = 0 ∧ sg p3 = 38 ∧ a = 11) ∨ (fl = 1 ∧ sg p3 = 124 ∧ a = 12)) → (∃ s', fX13_readsCondition_j195_40 102 102 fl J3 (z_Rm mu) = some (.inl s') ∧ (∃ p'' s'' M' st' cx', q_cs st' ∧ m_X K s' p'' s'' M' st' ∧ q_to sg n S0 (8, p'', s'', M', st', cx', nr, ru)) ∧ n + 1 - (s' 102 12).toNatClampNeg < n + 1 - p') := by
        intro fl a ha
        have pn : p3 < n := by
          rcases ha with z | z
          · exact q_lt (v := 38) ht.1 z.2.1 (by decide)
          · exact q_lt (v := 124) ht.1 z.2.1 (by decide)
        obtain ⟨J4, M4, st4, k1, k2, k3, k4, k5, k6⟩ := ml_land (mu := mu) ht (fl := fl) (by
          rcases ha with z | z
          · exact Or.inl ⟨z.1, z.2.1⟩
          · exact Or.inr ⟨z.1, Or.inr z.2.1⟩) z3 z5 i3
        have to4 := q_to_t z6 k6
        have i4 := q_inv_to ht.1 hi0 to4
        obtain ⟨t1, t2, t3⟩ := q_inv_l i4
        obtain ⟨J5, e1, e2⟩ := ml_jump (mu := mu) k2 (by omega) (by omega) (a := a) (by omega)
        have s5 : q_step sg n (6, p3, s3, M4, st4, cx3, nr, ru) = .inl (8, p3 + 1, s3 + 1, q_up M4 s3 (a, 0), (a, s3) :: st4, cx3, nr, ru) := by
          rw [q_ph6]
          rcases ha with ⟨a1, a2, a3⟩ | ⟨a1, a2, a3⟩
          · rw [if_neg (by rw [a2]; decide), if_pos a2, if_neg k4, a3]
          · have := k5 a1
            rw [if_neg (by rw [a2]; decide), if_neg (by rw [a2]; decide), if_pos a2, if_neg (by omega), a3]
        have ej : fX13_readsCondition_j195_40 102 102 fl J3 (z_Rm mu) = some (.inl J5) := by
          unfold fX13_readsCondition_j195_40
          rw [z_g_t m_ob, k1, z_b_s, ml_h ht k2 (by omega), z_b_s]
          unfold fX13_readsCondition_j215_40
          rcases ha with ⟨a1, a2, a3⟩ | ⟨a1, a2, a3⟩
          · subst a3
            rw [if_pos a2, z_g_t m_ob, show fX13_jumps 102 (11 : Int32) = fX13_jumps 102 (nI 11) from rfl, e1, z_b_s]
          · subst a3
            rw [if_neg (by rw [a2]; decide), z_g_t m_ob, show fX13_jumps 102 (12 : Int32) = fX13_jumps 102 (nI 12) from rfl, e1, z_b_s]
        refine ⟨J5, ej, ⟨p3 + 1, s3 + 1, _, (a, s3) :: st4, cx3, Or.inr ⟨by dsimp only; omega, k3⟩, e2, q_to_t to4 (q_to_s s5)⟩, ?_⟩
        rw [e2.2.1, nI_clamp (by omega)]
        omega
      by_cases c38 : sg p3 = 38
      · rw [if_pos c38]
        unfold fX13_readsCondition_j180_40
        rw [h3, z_b_s, if_neg (by rw [c38]; decide)]
        exact Or.inl (go 0 11 (Or.inl ⟨rfl, c38, rfl⟩))
      rw [if_neg c38, z_b_s]
      by_cases c124 : sg p3 = 124
      · rw [if_pos c124]
        unfold fX13_readsCondition_j180_40
        rw [h3, z_b_s, if_pos c124]
        exact Or.inl (go 1 12 (Or.inr ⟨rfl, c124, rfl⟩))
      rw [if_neg c124]
      refine Or.inr ⟨_, rfl, Or.inr (Or.inr ⟨J3, p3, s3, M3, st3, rfl, z5, (q_at_of z6).2 (fun z => ?_)⟩)⟩
      rcases z with z | z | z
      · exact z4 z
      · exact c38 z
      · exact c124 z
  · rw [g1, z_b_s, if_pos rfl]
    exact Or.inr ⟨_, rfl, Or.inr (Or.inl ⟨J2, c, q, rfl, g2, q_to_e to1 g3⟩)⟩
end ME
