/-! roll: the model's reader -/
def mr_fr (I J : z_He) : Prop := ∀ b k, ¬ (b = 102 ∧ (k = 12 ∨ k = 13 ∨ k = 14 ∨ k = 17 ∨ k = 19 ∨ k = 40 ∨ k = 41)) → ¬ (125 ≤ b ∧ b ≤ 130) → J b k = I b k
def mr_X (I : z_He) (n : Nat) (J : z_He) (p m : Nat) (F : u_F) (d : Nat) (fr ab : Nat → Nat) : Prop := mr_fr I J ∧ J 102 12 = nI p ∧ J 102 13 = nI n ∧ J 102 40 = nI m ∧ J 102 41 = nI d ∧ mr_A J m F ∧ ∀ j, j < d → J 129 j = nI (fr j) ∧ J 130 j = nI (ab j)
def mr_tx (I : z_He) (n : Nat) (sg : Nat → Int32) : Prop := u_sg n sg ∧ n ≤ 60 ∧ ∀ p, p < n → I 111 p &&& 255 = sg p
def mr_Fl (I J : z_He) (f : Int32) : Prop := mr_fr I J ∧ J 102 14 = f
section MB
variable {I J : z_He} {mu : Nat → Nat} {n p m d : Nat} {F : u_F} {sg : Nat → Int32} {fr ab : Nat → Nat}
theorem mr_here (ht : mr_tx I n sg) (h : mr_X I n J p m F d fr ab) (hp : p < 2 ^ 31) : fX13_here 102 J (z_Rm mu) = some (sg p) := by
  obtain ⟨t1, t2, t3⟩ := ht
  obtain ⟨h1, h2, h3, -⟩ := h
  unfold fX13_here
  rw [z_g_t (show z_ob 102 13 from rfl), h2, h3]
  by_cases c : p < n
  · rw [if_neg (nI_ge c (by omega)), show z_Rm mu 102 10 = 111 from rfl, z_g_t (n_ok (n := 260) rfl (show p < 260 by omega) (by decide)), nI_clamp (show p < 2 ^ 31 by omega), h1 111 p (by omega) (by omega), t3 p c]
  · rw [if_pos (nI_le (by omega) (by omega)), t1.2 p (by omega)]
theorem mr_go (h : mr_X I n J p m F d fr ab) : mr_X I n (z_u J 102 12 (nI (p + 1))) (p + 1) m F d fr ab := by
  obtain ⟨h1, h2, h3, h4, h5, h6, h7⟩ := h
  refine ⟨fun b k q1 q2 => ?_, z_u_at _ _ _ _, by rw [z_u_k (by decide)]; exact h3, by rw [z_u_k (by decide)]; exact h4, by rw [z_u_k (by decide)]; exact h5, mr_A_of h6 (fun b b1 b2 => u_o (by omega)), fun j hj => ?_⟩
  · rw [z_u_eq, if_neg (by omega)]; exact h1 b k q1 q2
  · rw [u_o (by decide), u_o (by decide)]; exact h7 j hj
theorem mr_flt (h : mr_fr I J) {c q : Nat} : fX13_wrongAt 102 (nI c) (nI q) J = some (0, z_u J 102 14 (u_flt c q)) ∧ mr_Fl I (z_u J 102 14 (u_flt c q)) (u_flt c q) := by
  constructor
  · unfold fX13_wrongAt u_flt
    rw [z_g_t (show z_ob 102 13 from rfl), z_l_s]
  · refine ⟨fun b k q1 q2 => ?_, z_u_at _ _ _ _⟩
    rw [z_u_eq, if_neg (by omega)]
    exact h b k q1 q2
theorem mr_w {J' : z_He} {m' : Nat} {F' : u_F} (h : mr_X I n J p m F d fr ab) (hb : ∀ b, ¬ (125 ≤ b ∧ b ≤ 128) → J' b = J b) (hA : mr_A J' m' F') : mr_X I n (z_u J' 102 40 (nI m')) p m' F' d fr ab := by
  obtain ⟨h1, h2, h3, h4, h5, h6, h7⟩ := h
  refine ⟨fun b k q1 q2 => ?_, by rw [z_u_k (by decide), hb 102 (by omega)]; exact h2, by rw [z_u_k (by decide), hb 102 (by omega)]; exact h3, z_u_at _ _ _ _, by rw [z_u_k (by decide), hb 102 (by omega)]; exact h5, mr_A_of hA (fun b b1 b2 => u_o (by omega)), fun j hj => ?_⟩
  · rw [z_u_eq, if_neg (by omega), hb b (by omega)]; exact h1 b k q1 q2
  · rw [u_o (by decide), u_o (by decide), hb 129 (by omega), hb 130 (by omega)]; exact h7 j hj
theorem mr_inT (x : Int32) : n_in x 50 57 = if u_isT x = true then 1 else 0 := by
  have := c_isT x
  unfold fX6_isTimes at this
  unfold n_in
  by_cases c : x < 50
  · rw [if_pos c] at this ⊢
    exact Option.some.inj this
  · rw [if_neg c] at this ⊢
    by_cases c2 : (57 : Int32) < x
    · rw [if_pos c2] at this ⊢
      exact Option.some.inj this
    · rw [if_neg c2] at this ⊢
      exact Option.some.inj this
theorem mr_inN {x : Int32} (h : ¬ x = 46) : n_in x 97 103 = if u_isN x = true then 1 else 0 := by
  unfold n_in u_isN
  by_cases c : x < 97
  · rw [if_pos c]; simp [c, h]
  · rw [if_neg c]
    by_cases c2 : (103 : Int32) < x
    · rw [if_pos c2]; simp [c2, h]
    · rw [if_neg c2]; simp [c, c2]
/-- the sign of a hold, of a breath -/
theorem mr_mh (hm : 0 < m) (m60 : m ≤ 60) (h : mr_X I n J p m F d fr ab) : mr_X I n (z_u (z_u J 126 (m - 1) 1) 102 12 (nI (p + 1))) (p + 1) m (u_mh F m) d fr ab := by
  obtain ⟨h1, h2, h3, h4, h5, h6, h7⟩ := h
  refine mr_go ⟨fun b k q1 q2 => ?_, by rw [u_o (by decide)]; exact h2, by rw [u_o (by decide)]; exact h3, by rw [u_o (by decide)]; exact h4, by rw [u_o (by decide)]; exact h5, fun k hk => ?_, fun j hj => ?_⟩
  · rw [u_o (by omega)]; exact h1 b k q1 q2
  · obtain ⟨a1, a2, a3, a4⟩ := h6 k hk
    unfold u_mh
    by_cases c : k = m - 1
    · subst c
      rw [u_up_at, u_o (by decide), z_u_at, u_o (by decide), u_o (by decide)]
      exact ⟨a1, rfl, a3, a4⟩
    · rw [u_up_o c, u_o (by decide), z_u_k c, u_o (by decide), u_o (by decide)]
      exact ⟨a1, a2, a3, a4⟩
  · rw [u_o (by decide), u_o (by decide)]; exact h7 j hj
theorem mr_mb (hm : 0 < m) (m60 : m ≤ 60) (h : mr_X I n J p m F d fr ab) : mr_X I n (z_u (z_u J 127 (m - 1) 1) 102 12 (nI (p + 1))) (p + 1) m (u_mb F m) d fr ab := by
  obtain ⟨h1, h2, h3, h4, h5, h6, h7⟩ := h
  refine mr_go ⟨fun b k q1 q2 => ?_, by rw [u_o (by decide)]; exact h2, by rw [u_o (by decide)]; exact h3, by rw [u_o (by decide)]; exact h4, by rw [u_o (by decide)]; exact h5, fun k hk => ?_, fun j hj => ?_⟩
  · rw [u_o (by omega)]; exact h1 b k q1 q2
  · obtain ⟨a1, a2, a3, a4⟩ := h6 k hk
    unfold u_mb
    by_cases c : k = m - 1
    · subst c
      rw [u_up_at, u_o (by decide), u_o (by decide), z_u_at, u_o (by decide)]
      exact ⟨a1, a2, rfl, a4⟩
    · rw [u_up_o c, u_o (by decide), u_o (by decide), z_u_k c, u_o (by decide)]
      exact ⟨a1, a2, a3, a4⟩
  · rw [u_o (by decide), u_o (by decide)]; exact h7 j hj
theorem mr_j232 (ht : mr_tx I n sg) (h : mr_X I n J p m F d fr ab) (hp : p < 2 ^ 31) (hm : 0 < m) (m60 : m ≤ 60) : ∃ J', fX13_readsNote_j232 102 J (z_Rm mu) = some (1, J') ∧ mr_X I n J' (u_p2 sg p) m (u_F2 sg p m F) d fr ab := by
  unfold fX13_readsNote_j232
  rw [mr_here ht h hp, z_b_s]
  unfold u_p2 u_F2
  by_cases c : sg p = 44
  · rw [if_pos c, if_pos c, if_pos c, h.2.2.2.1, show nI m - (1 : Int32) = nI (m - 1) from n_sub (b := 1) (by omega), show z_Rm mu 102 36 = 127 from rfl, z_g_t (n_ok (n := 60) rfl (show m - 1 < 60 by omega) (by decide)), nI_clamp (show m - 1 < 2 ^ 31 by omega), z_l_s, u_o (show (102 : Nat) ≠ 127 by decide), h.2.1, n_s1, z_l_s]
    exact ⟨_, rfl, mr_mb hm m60 h⟩
  · rw [if_neg c, if_neg c, if_neg c]
    exact ⟨J, rfl, h⟩
theorem mr_j81 {t p0 : Nat} {x : Int32} (hx : u_isN x = true) (ht : mr_tx I n sg) (h : mr_X I n J p m F d fr ab) (hp : p + 1 < 2 ^ 31) (t1 : 1 ≤ t) (t9 : t ≤ 9) (m60 : m ≤ 60) : (60 < m + t → ∃ J', fX13_readsNote_j81 102 (nI p0) x (nI t) J (z_Rm mu) = some (0, J') ∧ mr_Fl I J' (u_flt 6 p0)) ∧ (¬ 60 < m + t → ∃ J', fX13_readsNote_j81 102 (nI p0) x (nI t) J (z_Rm mu) = some (1, J') ∧ mr_X I n J' (u_p2 sg (u_p1 sg p)) (m + t) (u_F2 sg (u_p1 sg p) (m + t) (u_F1 sg p (m + t) (u_add F m (u_val x) t))) d fr ab) := by
  unfold fX13_readsNote_j81
  rw [h.2.2.2.1, n_add]
  refine ⟨fun c => ?_, fun c => ?_⟩
  · obtain ⟨a1, a2⟩ := mr_flt h.1 (c := 6) (q := p0)
    rw [if_neg (show ¬ nI (m + t) ≤ (60 : Int32) from nI_ge (a := 60) c (by omega)), show (6 : Int32) = nI 6 from rfl, a1, z_b_s, z_g_t (Or.inl rfl)]
    exact ⟨_, rfl, a2⟩
  · obtain ⟨J1, a1, a2, a3⟩ := mr_note (mu := mu) hx rfl t9 (by omega) h.2.2.2.1 h.2.2.2.2.2.1
    have h1 := mr_w h a3 a2
    rw [if_pos (show nI (m + t) ≤ (60 : Int32) from nI_le (b := 60) (by omega) (by decide)), a1, z_b_s, a3 102 (by omega), h.2.2.2.1, n_add, z_l_s, mr_here ht h1 (by omega), z_b_s, h1.2.2.2.1, show nI (m + t) - (1 : Int32) = nI (m + t - 1) from n_sub (b := 1) (by omega)]
    unfold u_p1 u_F1
    by_cases e : sg p = 94
    · rw [if_pos e, if_pos e, if_pos e, show z_Rm mu 102 35 = 126 from rfl, z_g_t (n_ok (n := 60) rfl (show m + t - 1 < 60 by omega) (by decide)), nI_clamp (show m + t - 1 < 2 ^ 31 by omega), z_l_s, u_o (show (102 : Nat) ≠ 126 by decide), h1.2.1, n_s1, z_l_s]
      exact mr_j232 ht (mr_mh (by omega) (by omega) h1) hp (by omega) (by omega)
    · rw [if_neg e, if_neg e, if_neg e]
      exact mr_j232 ht h1 (by omega) (by omega) (by omega)
theorem mr_snd (ht : mr_tx I n sg) (h : mr_X I n J p m F d fr ab) (hp : p ≤ n) (m60 : m ≤ 60) : (u_isN (sg p) = false → ∃ J', fX13_readsNote 102 J (z_Rm mu) = some (0, J') ∧ mr_Fl I J' (u_flt 1 p)) ∧ (u_isN (sg p) = true → 60 < m + u_tm (sg (p + 1)) → ∃ J', fX13_readsNote 102 J (z_Rm mu) = some (0, J') ∧ mr_Fl I J' (u_flt 6 p)) ∧ (u_isN (sg p) = true → ¬ 60 < m + u_tm (sg (p + 1)) → ∃ J', fX13_readsNote 102 J (z_Rm mu) = some (1, J') ∧ mr_X I n J' (u_p2 sg (u_p1 sg (u_tp (sg (p + 1)) (p + 1)))) (m + u_tm (sg (p + 1))) (u_F2 sg (u_p1 sg (u_tp (sg (p + 1)) (p + 1))) (m + u_tm (sg (p + 1))) (u_F1 sg (u_tp (sg (p + 1)) (p + 1)) (m + u_tm (sg (p + 1))) (u_add F m (u_val (sg p)) (u_tm (sg (p + 1)))))) d fr ab) := by
  have n60 := ht.2.1
  have main : u_isN (sg p) = true → fX13_readsNote 102 J (z_Rm mu) = fX13_readsNote_j37 102 (nI p) (sg p) J (z_Rm mu) := by
    intro hN
    unfold fX13_readsNote
    rw [z_g_t (show z_ob 102 13 from rfl), h.2.1, z_l_s, mr_here ht h (by omega), z_b_s]
    by_cases c : sg p = 46
    · rw [if_pos c]
    · rw [if_neg c, fX13_in_eq, z_b_s, mr_inN c, if_pos hN, if_neg (show ¬ (1 : Int32) = 0 by decide)]
  have tb := u_tm_b (sg (p + 1))
  have j37 : u_isN (sg p) = true → ∃ J1, fX13_readsNote_j37 102 (nI p) (sg p) J (z_Rm mu) = fX13_readsNote_j81 102 (nI p) (sg p) (nI (u_tm (sg (p + 1)))) J1 (z_Rm mu) ∧ mr_X I n J1 (u_tp (sg (p + 1)) (p + 1)) m F d fr ab := by
    intro hN
    have h1 := mr_go h
    unfold fX13_readsNote_j37
    rw [h.2.1, n_s1, z_l_s, mr_here ht h1 (by omega), z_b_s, fX13_in_eq, z_b_s, mr_inT]
    by_cases c : u_isT (sg (p + 1)) = true
    · obtain ⟨x, x1, x2, e⟩ := u_isT_ok c
      have et : sg (p + 1) - (48 : Int32) = nI (u_tm (sg (p + 1))) := by
        unfold u_tm
        rw [if_pos c, e, nI_clamp (by omega)]
        exact n_sub (b := 48) (by omega)
      rw [if_pos c, if_neg (show ¬ (1 : Int32) = 0 by decide), z_b_s, et, z_l_s, h1.2.1, n_s1, z_l_s, show u_tp (sg (p + 1)) (p + 1) = p + 1 + 1 from if_pos c]
      exact ⟨_, rfl, mr_go h1⟩
    · rw [if_neg c, if_pos rfl, show u_tm (sg (p + 1)) = 1 from if_neg c, show u_tp (sg (p + 1)) (p + 1) = p + 1 from if_neg c]
      exact ⟨_, rfl, h1⟩
  have tp : u_tp (sg (p + 1)) (p + 1) ≤ p + 2 := by unfold u_tp; split <;> omega
  refine ⟨fun hN => ?_, fun hN hm => ?_, fun hN hm => ?_⟩
  · have c : ¬ sg p = 46 := fun e => by rw [e] at hN; revert hN; decide
    obtain ⟨a1, a2⟩ := mr_flt h.1 (c := 1) (q := p)
    unfold fX13_readsNote
    rw [z_g_t (show z_ob 102 13 from rfl), h.2.1, z_l_s, mr_here ht h (by omega), z_b_s, if_neg c, fX13_in_eq, z_b_s, mr_inN c, hN, if_neg (show ¬ false = true by decide), if_pos rfl, show (1 : Int32) = nI 1 from rfl, a1, z_b_s, z_g_t (Or.inl rfl)]
    exact ⟨_, rfl, a2⟩
  · obtain ⟨J1, e1, e2⟩ := j37 hN
    rw [main hN, e1]
    exact (mr_j81 hN ht e2 (by omega) tb.1 tb.2 m60).1 hm
  · obtain ⟨J1, e1, e2⟩ := j37 hN
    rw [main hN, e1]
    exact (mr_j81 hN ht e2 (by omega) tb.1 tb.2 m60).2 hm
end MB
