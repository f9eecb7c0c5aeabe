/-! law: the model's tape, steps and stack -/
def m_sk (V : Nat → Int32) : q_K → Prop
  | [] => True
  | x :: r => V r.length = nI (1048576 * x.1 + x.2) ∧ x.1 ≤ 14 ∧ x.2 < 1000 ∧ q_ct (x :: r) ≤ 6 ∧ m_sk V r
theorem m_sk_ct {V : Nat → Int32} : ∀ {st : q_K}, m_sk V st → q_ct st ≤ 6
  | [], _ => Nat.zero_le 6
  | _ :: _, h => h.2.2.2.1
def m_Y (K J : z_He) : Prop := ∀ b k, ¬ (b = 102 ∧ (k = 12 ∨ (14 ≤ k ∧ k ≤ 18))) → ¬ (b = 112 ∨ b = 113) → J b k = K b k
def m_X (K J : z_He) (p s : Nat) (M : q_M) (st : q_K) : Prop := m_Y K J ∧ J 102 12 = nI p ∧ J 102 16 = nI (q_ct st) ∧ J 102 17 = nI s ∧ J 102 18 = nI st.length ∧ (∀ k, k < s → J 112 k = nI (1048576 * (M k).1 + (M k).2)) ∧ m_sk (J 113) st
def m_tx (K : z_He) (n : Nat) (sg : Nat → Int32) : Prop := u_sg n sg ∧ n ≤ 240 ∧ K 102 13 = nI n ∧ ∀ p, p < n → K 111 p &&& 255 = sg p
def m_F (K J : z_He) (f : Int32) : Prop := m_Y K J ∧ J 102 14 = f
def mq_G (K : z_He) (n : Nat) (sg : Nat → Int32) (S0 : q_S) (res : Option (Int32 × z_He)) (T : Nat → Nat → q_M → q_K → Prop) : Prop := (∃ J' p' s' M' st', res = some (1, J') ∧ m_X K J' p' s' M' st' ∧ T p' s' M' st') ∨ ∃ J' c q, res = some (0, J') ∧ m_F K J' (u_flt c q) ∧ q_end sg n S0 (.inl (u_flt c q))
theorem m_sk_c {V V' : Nat → Int32} : ∀ {st : q_K}, m_sk V st → (∀ k, k < st.length → V' k = V k) → m_sk V' st
  | [], _, _ => trivial
  | x :: r, h, e => ⟨by rw [e r.length (by simp)]; exact h.1, h.2.1, h.2.2.1, h.2.2.2.1, m_sk_c h.2.2.2.2 (fun k hk => e k (by simp; omega))⟩
theorem n_pk {a b : Nat} (ha : a ≤ 14) (hb : b < 1048576) : nI (1048576 * a + b) / 1048576 = nI a ∧ z_rem (nI (1048576 * a + b)) 1048576 = nI b := by
  have v1 : (1048576 * a + b) / 1048576 = a := by omega
  have v2 : (1048576 * a + b) % 1048576 = b := by omega
  have vb : 1048576 * a + b < 2 ^ 31 := by omega
  constructor
  · have := pk_div (d := 1048576) vb (by decide) (by decide)
    rw [v1] at this
    exact this
  · have := n_rem (d := 1048576) vb (by decide) (by decide)
    rw [v2] at this
    exact this
theorem r_m (mu : Nat → Nat) : z_Rm mu 102 10 = 111 ∧ z_Rm mu 102 21 = 112 ∧ z_Rm mu 102 22 = 113 := ⟨rfl, rfl, rfl⟩
section MB
variable {K J : z_He} {mu : Nat → Nat} {n p s : Nat} {M : q_M} {st : q_K} {sg : Nat → Int32}
theorem ml_here (ht : m_tx K n sg) (hY : m_Y K J) (h : J 102 12 = nI p) (hp : p ≤ n + 5) : fX13_here 102 J (z_Rm mu) = some (sg p) := by
  obtain ⟨t1, t2, t3, t4⟩ := ht
  have e3 : J 102 13 = nI n := by rw [hY 102 13 (by omega) (by omega)]; exact t3
  unfold fX13_here
  rw [z_g_t m_ob, h, e3]
  by_cases c : p < n
  · rw [if_neg (nI_ge c (by omega)), (r_m mu).1, z_g_t (n_ok (n := 260) rfl (show p < 260 by omega) (by decide)), nI_clamp (show p < 2 ^ 31 by omega), hY 111 p (by omega) (by omega), t4 p c]
  · rw [if_pos (nI_le (by omega) (by omega)), t1.2 p (by omega)]
theorem ml_h (ht : m_tx K n sg) (h : m_X K J p s M st) (hp : p ≤ n + 5) : fX13_here 102 J (z_Rm mu) = some (sg p) := ml_here ht h.1 h.2.1 hp
theorem ml_dig (ht : m_tx K n sg) (hY : m_Y K J) (h : J 102 12 = nI p) (hp : p ≤ n + 5) : fX13_isDigit 102 J (z_Rm mu) = some (if q_dg (sg p) = true then 1 else 0) := by
  unfold fX13_isDigit q_dg
  rw [z_g_t m_ob, ml_here ht hY h hp, z_b_s]
  by_cases c1 : sg p < 48
  · rw [if_pos c1]; simp [c1]
  · rw [if_neg c1, z_b_s]
    by_cases c2 : (57 : Int32) < sg p
    · rw [if_pos c2]; simp [c2]
    · rw [if_neg c2]; simp [c1, c2]
theorem ml_wrong (hY : m_Y K J) {c q : Nat} : fX13_wrongAt 102 (nI c) (nI q) J = some (0, z_u J 102 14 (u_flt c q)) ∧ m_F K (z_u J 102 14 (u_flt c q)) (u_flt c q) := by
  constructor
  · unfold fX13_wrongAt u_flt
    rw [z_g_t m_ob, z_l_s]
  · exact ⟨fun b k q1 q2 => by rw [z_u_eq, if_neg (by omega)]; exact hY b k q1 q2, z_u_at _ _ _ _⟩
theorem ml_place (h : m_X K J p s M st) (v : Nat) : m_X K (z_u J 102 12 (nI v)) v s M st := by
  obtain ⟨h1, h2, h3, h4, h5, h6, h7⟩ := h
  refine ⟨fun b k q1 q2 => by rw [z_u_eq, if_neg (by omega)]; exact h1 b k q1 q2, z_u_at _ _ _ _, ?_, ?_, ?_, fun k hk => ?_, ?_⟩
  · rw [z_u_k (by decide)]; exact h3
  · rw [z_u_k (by decide)]; exact h4
  · rw [z_u_k (by decide)]; exact h5
  · rw [u_o (by decide)]; exact h6 k hk
  · rw [u_o (by decide)]; exact h7
theorem ml_notes (h : m_X K J p s M st) (hs : s < 260) {a v : Nat} : ∃ J', fX13_notes 102 (nI a) (nI v) J (z_Rm mu) = some J' ∧ m_X K J' p (s + 1) (q_up M s (a, v)) st ∧ J' 102 15 = J 102 15 := by
  obtain ⟨h1, h2, h3, h4, h5, h6, h7⟩ := h
  unfold fX13_notes
  rw [z_g_t m_ob, (r_m mu).2.1, h4, z_g_t (n_ok (n := 260) rfl hs (by decide)), nI_clamp (show s < 2 ^ 31 by omega), z_l_s, u_o (show (102 : Nat) ≠ 112 by decide), h4, n_s1, z_l_s, show (1048576 : Int32) = nI 1048576 from rfl, n_mul, n_add]
  refine ⟨_, rfl, ⟨fun b k q1 q2 => ?_, ?_, ?_, ?_, ?_, fun k hk => ?_, ?_⟩, ?_⟩
  · rw [z_u_eq, if_neg (by omega), u_o (by omega)]; exact h1 b k q1 q2
  · rw [z_u_k (by decide), u_o (by decide)]; exact h2
  · rw [z_u_k (by decide), u_o (by decide)]; exact h3
  · rw [z_u_at]
  · rw [z_u_k (by decide), u_o (by decide)]; exact h5
  · rw [u_o (by decide)]
    by_cases c : k = s
    · rw [c, z_u_at, q_up_at]
    · rw [z_u_k c, q_up_o c]; exact h6 k (by omega)
  · rw [u_o (by decide), u_o (by decide)]; exact h7
  · rw [z_u_k (by decide), u_o (by decide)]
theorem ml_top (h : m_X K J p s M st) (hl : st.length < 260) : fX13_waitTop 102 J (z_Rm mu) = some (if st = [] then -1 else nI (q_top st)) := by
  obtain ⟨h1, h2, h3, h4, h5, h6, h7⟩ := h
  unfold fX13_waitTop
  cases st with
  | nil =>
    have h5 : J 102 18 = 0 := h5
    rw [z_g_t m_ob, h5, if_pos rfl, if_pos rfl]
  | cons x r =>
    have h5 : J 102 18 = nI (r.length + 1) := h5
    have hl : r.length + 1 < 260 := hl
    rw [z_g_t m_ob, h5, if_neg (nI_ne0 (by omega) (by omega)), if_neg (by simp), nI_pred, (r_m mu).2.2, z_g_t (n_ok (n := 260) rfl (show r.length < 260 by omega) (by decide)), nI_clamp (show r.length < 2 ^ 31 by omega), h7.1, (n_pk h7.2.1 (by have := h7.2.2.1; omega)).1]
    rfl
/-- one less waits; o: how deep, then -/
theorem ml_pop {x : Nat × Nat} (h : m_X K J p s M (x :: st)) (ho : q_ct (x :: st) = q_ct st) : z_u J 102 18 (J 102 18 - 1) = z_u J 102 18 (nI st.length) ∧ m_X K (z_u J 102 18 (nI st.length)) p s M st := by
  obtain ⟨h1, h2, h3, h4, h5, h6, h7⟩ := h
  constructor
  · rw [h5, List.length_cons, nI_pred]
  · refine ⟨fun b k q1 q2 => by rw [z_u_eq, if_neg (by omega)]; exact h1 b k q1 q2, ?_, ?_, ?_, z_u_at _ _ _ _, fun k hk => ?_, ?_⟩
    · rw [z_u_k (by decide)]; exact h2
    · rw [z_u_k (by decide), ← ho]; exact h3
    · rw [z_u_k (by decide)]; exact h4
    · rw [u_o (by decide)]; exact h6 k hk
    · rw [u_o (by decide)]; exact h7.2.2.2.2
theorem ml_popo {x : Nat × Nat} (h : m_X K J p s M (x :: st)) (ho : q_ct (x :: st) = q_ct st + 1) : J 102 18 = nI (st.length + 1) ∧ J 102 16 = nI (q_ct st + 1) ∧ m_X K (z_u (z_u J 102 18 (nI st.length)) 102 16 (nI (q_ct st))) p s M st := by
  obtain ⟨h1, h2, h3, h4, h5, h6, h7⟩ := h
  refine ⟨h5, by rw [← ho]; exact h3, fun b k q1 q2 => by rw [z_u_eq, if_neg (by omega), z_u_eq, if_neg (by omega)]; exact h1 b k q1 q2, ?_, ?_, ?_, ?_, fun k hk => ?_, ?_⟩
  · rw [z_u_k (by decide), z_u_k (by decide)]; exact h2
  · rw [z_u_at]
  · rw [z_u_k (by decide), z_u_k (by decide)]; exact h4
  · rw [z_u_k (by decide), z_u_at]
  · rw [u_o (by decide), u_o (by decide)]; exact h6 k hk
  · rw [u_o (by decide), u_o (by decide)]; exact h7.2.2.2.2
theorem ml_opens (h : m_X K J p s M st) (hl : st.length < 260) {a : Nat} (ha : a = 10 ∨ a = 13 ∨ a = 14) : (q_ct st = 6 → ∃ J', fX13_opens 102 (nI a) J (z_Rm mu) = some (0, J') ∧ m_F K J' (u_flt 5 p)) ∧ (q_ct st < 6 → ∃ J', fX13_opens 102 (nI a) J (z_Rm mu) = some (1, J') ∧ m_X K J' (p + 1) s M ((a, 0) :: st)) := by
  have hc := h
  obtain ⟨h1, h2, h3, h4, h5, h6, h7⟩ := h
  constructor
  · intro c
    obtain ⟨a1, a2⟩ := ml_wrong (c := 5) (q := p) h1
    refine ⟨_, ?_, a2⟩
    unfold fX13_opens
    rw [z_g_t m_ob, h3, if_pos (show nI (q_ct st) = 6 by rw [c]; rfl), h2, show fX13_wrongAt 102 (5 : Int32) = fX13_wrongAt 102 (nI 5) from rfl, a1, z_b_s, z_g_t (Or.inl rfl)]
  · intro c
    unfold fX13_opens
    rw [z_g_t m_ob, h3, if_neg (show ¬ nI (q_ct st) = 6 from fun z => by
      have := (n_eq (a := q_ct st) (b := 6) (by omega) (by decide)).mp z
      omega), z_l_s, n_s1, (r_m mu).2.2, z_u_k (show (18 : Nat) ≠ 16 by decide), h5, z_g_t (n_ok (n := 260) rfl hl (by decide)), nI_clamp (show st.length < 2 ^ 31 by omega), z_l_s, u_o (show (102 : Nat) ≠ 113 by decide), z_u_k (show (18 : Nat) ≠ 16 by decide), h5, n_s1, z_l_s, z_u_k (show (12 : Nat) ≠ 18 by decide), u_o (show (102 : Nat) ≠ 113 by decide), z_u_k (show (12 : Nat) ≠ 16 by decide), h2, n_s1, z_l_s, show (1048576 : Int32) = nI 1048576 from rfl, n_mul]
    refine ⟨_, rfl, fun b k q1 q2 => ?_, ?_, ?_, ?_, ?_, fun k hk => ?_, ?_⟩
    · rw [z_u_eq, if_neg (by omega), z_u_eq, if_neg (by omega), u_o (by omega), z_u_eq, if_neg (by omega)]; exact h1 b k q1 q2
    · rw [z_u_at]
    · rw [z_u_k (by decide), z_u_k (by decide), u_o (by decide), z_u_at]
      show nI (q_ct st + 1) = nI ((if a = 10 ∨ a = 13 ∨ a = 14 then 1 else 0) + q_ct st)
      rw [if_pos ha, Nat.add_comm]
    · rw [z_u_k (by decide), z_u_k (by decide), u_o (by decide), z_u_k (by decide)]; exact h4
    · rw [z_u_k (by decide), z_u_at]; rfl
    · rw [u_o (by decide), u_o (by decide), u_o (by decide), u_o (by decide)]; exact h6 k hk
    · rw [u_o (by decide), u_o (by decide)]
      refine ⟨z_u_at _ _ _ _, by omega, (by show (0 : Nat) < 1000; decide), ?_, m_sk_c h7 (fun k hk => ?_)⟩
      · show (if a = 10 ∨ a = 13 ∨ a = 14 then 1 else 0) + q_ct st ≤ 6
        rw [if_pos ha]
        omega
      rw [z_u_k (by omega), u_o (by decide)]
/-- a sum's sign waits -/
theorem ml_wait (h : m_X K J p s M st) {a : Nat} (ha : 2 ≤ a ∧ a ≤ 6) : m_X K (z_u (z_u (z_u J 113 st.length (nI (1048576 * a))) 102 18 (nI (st.length + 1))) 102 12 (nI (p + 1))) (p + 1) s M ((a, 0) :: st) := by
  obtain ⟨h1, h2, h3, h4, h5, h6, h7⟩ := h
  refine ⟨fun b k q1 q2 => ?_, ?_, ?_, ?_, ?_, fun k hk => ?_, ?_⟩
  · rw [z_u_eq, if_neg (by omega), z_u_eq, if_neg (by omega), u_o (by omega)]; exact h1 b k q1 q2
  · rw [z_u_at]
  · rw [z_u_k (by decide), z_u_k (by decide), u_o (by decide)]
    show _ = nI ((if a = 10 ∨ a = 13 ∨ a = 14 then 1 else 0) + q_ct st)
    rw [if_neg (by omega), Nat.zero_add]
    exact h3
  · rw [z_u_k (by decide), z_u_k (by decide), u_o (by decide)]; exact h4
  · rw [z_u_k (by decide), z_u_at]; rfl
  · rw [u_o (by decide), u_o (by decide), u_o (by decide)]; exact h6 k hk
  · rw [u_o (by decide), u_o (by decide)]
    refine ⟨z_u_at _ _ _ _, by omega, (by show (0 : Nat) < 1000; decide), ?_, m_sk_c h7 (fun k hk => z_u_k (by omega))⟩
    show (if a = 10 ∨ a = 13 ∨ a = 14 then 1 else 0) + q_ct st ≤ 6
    rw [if_neg (by omega), Nat.zero_add]
    exact m_sk_ct h7
theorem q_inv_l {ph cx nr : Nat} {ru : q_U} (h : q_inv n (ph, p, s, M, st, cx, nr, ru)) : s + q_pd st ≤ p ∧ p ≤ n ∧ st.length ≤ p := ⟨(q_inv_b h).1, (q_inv_b h).2, h.2.1⟩
end MB
