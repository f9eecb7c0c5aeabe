/-! roll: the class's beats -/
def u_C (A : Nat) (J : z_He) (m : Nat) (F : u_F) : Prop := J A 3 = nI m ∧ (∀ k, k < m → J (A + 1) k = nI (F k).1 ∧ J (A + 2) k = nI ((F k).2.1 + 2 * (F k).2.2.1 + 4 * (F k).2.2.2)) ∧ ∀ k, k ≤ m → J (A + 3) k = nI (u_hs F k)
def u_ok (m : Nat) (F : u_F) : Prop := m ≤ 60 ∧ ∀ k, k < m → (F k).1 ≤ 7 ∧ (F k).2.1 ≤ 1 ∧ (F k).2.2.1 ≤ 1 ∧ (F k).2.2.2 ≤ 1 ∧ ((F k).2.2.2 = 0 → k ≠ 0 ∧ (F k).1 = (F (k - 1)).1)
theorem u_hs_congr {F G : u_F} : ∀ {k : Nat}, (∀ j, j < k → F j = G j) → u_hs F k = u_hs G k
  | 0, _ => rfl
  | k + 1, h => by
    unfold u_hs
    rw [u_hs_congr (fun j hj => h j (by omega)), h k (by omega)]
theorem u_C_congr {A m : Nat} {J : z_He} {F G : u_F} (h : u_C A J m F) (e : ∀ k, k < m → F k = G k) : u_C A J m G := by
  obtain ⟨h1, h2, h3⟩ := h
  refine ⟨h1, fun k hk => by rw [← e k hk]; exact h2 k hk, fun k hk => ?_⟩
  rw [h3 k hk, u_hs_congr (fun j hj => e j (by omega))]
theorem u_ok_congr {m : Nat} {F G : u_F} (h : u_ok m F) (e : ∀ k, k < m → F k = G k) : u_ok m G := by
  refine ⟨h.1, fun k hk => ?_⟩
  have := h.2 k hk
  rw [e k hk] at this
  obtain ⟨a1, a2, a3, a4, a5⟩ := this
  refine ⟨a1, a2, a3, a4, fun z => ⟨(a5 z).1, ?_⟩⟩
  rw [← e (k - 1) (by have := (a5 z).1; omega)]
  exact (a5 z).2
theorem n_mk : ∀ h, h < 2 → ∀ b, b < 2 → ∀ g, g < 2 → nI (h + 2 * b + 4 * g) &&& 1 = nI h ∧ nI (h + 2 * b + 4 * g) ||| 1 = nI (1 + 2 * b + 4 * g) ∧ nI (h + 2 * b + 4 * g) ||| 2 = nI (h + 2 * 1 + 4 * g) := by decide +kernel
theorem u_hs_le {m : Nat} {F : u_F} (h : u_ok m F) : ∀ k, k ≤ m → u_hs F k ≤ k
  | 0, _ => Nat.le_refl 0
  | k + 1, hk => by
    have := u_hs_le h k (by omega)
    have := (h.2 k (by omega)).2.1
    unfold u_hs
    omega
/-- the heap while a roll is read -/
def u_Y (A : Nat) (I J : z_He) : Prop := ∀ b k, ¬ (b = 1 ∧ (k = 2 ∨ k = 4)) → ¬ (A ≤ b ∧ b ≤ A + 3) → J b k = I b k
section UA
variable {I J : z_He} {mu : Nat → Nat} {m v : Nat} {F : u_F}
theorem c_add (hP : r_P mu) {q : u_Q} (hm : m < 60) (h : u_C (mu 8) J m F) (hq : q.2.1 ≤ 1 ∧ q.2.2.1 ≤ 1 ∧ q.2.2.2 ≤ 1) : ∃ J', fX5_add (mu 8) (nI q.1) (nI (q.2.1 + 2 * q.2.2.1 + 4 * q.2.2.2)) J (z_Rm mu) = some J' ∧ u_C (mu 8) J' (m + 1) (u_up F m q) ∧ ∀ b, ¬ (mu 8 ≤ b ∧ b ≤ mu 8 + 3) → J' b = J b := by
  obtain ⟨o1, o2, o3, o4, l1, l2, l3⟩ := o_roll hP (show 8 < 9 by decide)
  obtain ⟨h1, h2, h3⟩ := h
  have mk := (n_mk q.2.1 (by omega) q.2.2.1 (by omega) q.2.2.2 (by omega)).1
  unfold fX5_add
  rw [z_g_t o1, h1, if_pos (show nI m < (60 : Int32) from nI_lt (b := 60) hm (by decide)), o2, o3, o4, z_g_t (n_ok l1 hm (by decide)), nI_clamp (show m < 2 ^ 31 by omega), z_l_s, u_o (show mu 8 ≠ mu 8 + 1 by omega), h1, z_g_t (n_ok l2 hm (by decide)), nI_clamp (show m < 2 ^ 31 by omega), z_l_s, u_o (show mu 8 ≠ mu 8 + 2 by omega), u_o (show mu 8 ≠ mu 8 + 1 by omega), h1, z_g_t (n_ok l3 (show m < 61 by omega) (by decide)), n_s1, z_g_t (n_ok l3 (show m + 1 < 61 by omega) (by decide)), nI_clamp (show m < 2 ^ 31 by omega), nI_clamp (show m + 1 < 2 ^ 31 by omega), z_l_s, u_o (show mu 8 + 3 ≠ mu 8 + 2 by omega), u_o (show mu 8 + 3 ≠ mu 8 + 1 by omega), h3 m (Nat.le_refl m), mk, n_add, z_l_s, u_o (show mu 8 ≠ mu 8 + 3 by omega), u_o (show mu 8 ≠ mu 8 + 2 by omega), u_o (show mu 8 ≠ mu 8 + 1 by omega), h1, n_s1]
  refine ⟨_, rfl, ⟨?_, fun k hk => ⟨?_, ?_⟩, fun k hk => ?_⟩, fun b hb => ?_⟩
  · rw [z_u_at]
  · rw [u_o (by omega), u_o (by omega), u_o (by omega)]
    by_cases c : k = m
    · rw [c, z_u_at, u_up_at]
    · rw [z_u_k c, u_up_o c]; exact (h2 k (by omega)).1
  · rw [u_o (by omega), u_o (by omega)]
    by_cases c : k = m
    · rw [c, z_u_at, u_up_at]
    · rw [z_u_k c, u_up_o c, u_o (by omega)]; exact (h2 k (by omega)).2
  · rw [u_o (by omega)]
    by_cases c : k = m + 1
    · rw [c, z_u_at]
      show _ = nI (u_hs (u_up F m q) m + (u_up F m q m).2.1)
      rw [u_up_at, u_hs_congr (F := u_up F m q) (G := F) (fun j hj => u_up_o (by omega))]
    · rw [z_u_k c, u_o (by omega), u_o (by omega), h3 k (by omega), u_hs_congr (F := u_up F m q) (G := F) (fun j hj => u_up_o (by omega))]
  · rw [u_o (by omega), u_o (by omega), u_o (by omega), u_o (by omega)]
theorem c_addS (hP : r_P mu) {t : Nat} (ht : 1 ≤ t) (hm : m + t ≤ 60) (h : u_C (mu 8) J m F) : ∃ J', fX5_addSound (mu 8) (nI v) (nI t) J (z_Rm mu) = some J' ∧ u_C (mu 8) J' (m + t) (u_add F m v t) ∧ ∀ b, ¬ (mu 8 ≤ b ∧ b ≤ mu 8 + 3) → J' b = J b := by
  have o1 := (o_roll hP (show 8 < 9 by decide)).1
  obtain ⟨J', e1, e2, e3⟩ := lp_inv (body := fX5_addSound_b2 (mu 8) (nI v) (nI t) (z_Rm mu)) (fun j q => q.1 = nI j ∧ u_C (mu 8) q.2 (m + j) (u_add F m v j) ∧ ∀ b, ¬ (mu 8 ≤ b ∧ b ≤ mu 8 + 3) → q.2 b = J b) (fun J' => u_C (mu 8) J' (m + t) (u_add F m v t) ∧ ∀ b, ¬ (mu 8 ≤ b ∧ b ≤ mu 8 + 3) → J' b = J b) (n := t) (fun j q hj hp => by
    obtain ⟨p, G⟩ := q
    obtain ⟨p1, p2, p3⟩ := hp
    dsimp only at p1 p2 p3
    subst p1
    have key : ∀ mk g, mk = nI (0 + 2 * 0 + 4 * g) → g = (if j = 0 then 1 else 0) → ∃ s', fX5_addSound_j18_2 (mu 8) (nI v) (nI t) (nI j) (mu 8) (nI v) mk G (z_Rm mu) = some (.inl s') ∧ s'.1 = nI (j + 1) ∧ u_C (mu 8) s'.2 (m + (j + 1)) (u_add F m v (j + 1)) ∧ ∀ b, ¬ (mu 8 ≤ b ∧ b ≤ mu 8 + 3) → s'.2 b = J b := by
      intro mk g hmk hg
      have g1 : g ≤ 1 := by rw [hg]; split <;> omega
      obtain ⟨G2, a1, a2, a3⟩ := c_add hP (q := (v, 0, 0, g)) (show m + j < 60 by omega) p2 ⟨by dsimp only; omega, by dsimp only; omega, g1⟩
      dsimp only at a1
      rw [← hmk] at a1
      unfold fX5_addSound_j18_2
      rw [z_g_t o1, a1, z_b_s, z_l_s, n_s1]
      refine ⟨_, rfl, rfl, u_C_congr a2 (fun k hk => ?_), fun b hb => by dsimp only; rw [a3 b hb]; exact p3 b hb⟩
      unfold u_add
      by_cases c : k = m + j
      · rw [c, u_up_at, if_pos (by omega), hg]
        congr 3
        by_cases j0 : j = 0
        · rw [if_pos j0, if_pos (by omega)]
        · rw [if_neg j0, if_neg (by omega)]
      · rw [u_up_o c]
        by_cases c2 : m ≤ k ∧ k < m + j
        · rw [if_pos c2, if_pos (show m ≤ k ∧ k < m + (j + 1) by omega)]
        · rw [if_neg c2, if_neg (show ¬ (m ≤ k ∧ k < m + (j + 1)) by omega)]
    unfold fX5_addSound_b2
    dsimp only
    rw [if_neg (nI_ge hj (by omega))]
    by_cases j0 : j = 0
    · rw [if_pos (by rw [j0]; rfl)]
      exact key 4 1 rfl (by rw [if_pos j0])
    · rw [if_neg (nI_ne0 (by omega) (by omega))]
      exact key 0 0 rfl (by rw [if_neg j0])) (fun q hp => by
    obtain ⟨p, G⟩ := q
    obtain ⟨p1, p2, p3⟩ := hp
    dsimp only at p1 p2 p3
    subst p1
    refine ⟨G, ?_, p2, p3⟩
    unfold fX5_addSound_b2
    dsimp only
    rw [if_pos (nI_le (Nat.le_refl t) (by omega))]) 300 ((0 : Int32), J) (by omega) ⟨rfl, u_C_congr h (fun k hk => by unfold u_add; rw [if_neg (by omega)]), fun _ _ => rfl⟩
  refine ⟨J', ?_, e2, e3⟩
  unfold fX5_addSound
  rw [z_g_t o1, e1, z_b_s]
theorem c_mark (hP : r_P mu) (hm : 0 < m) (hok : u_ok m F) (h : u_C (mu 8) J m F) : (∃ J', fX5_markLast (mu 8) 1 J (z_Rm mu) = some J' ∧ u_C (mu 8) J' m (u_mh F m) ∧ ∀ b, ¬ (mu 8 ≤ b ∧ b ≤ mu 8 + 3) → J' b = J b) ∧ (∃ J', fX5_markLast (mu 8) 2 J (z_Rm mu) = some J' ∧ u_C (mu 8) J' m (u_mb F m) ∧ ∀ b, ¬ (mu 8 ≤ b ∧ b ≤ mu 8 + 3) → J' b = J b) := by
  obtain ⟨o1, o2, o3, o4, l1, l2, l3⟩ := o_roll hP (show 8 < 9 by decide)
  obtain ⟨h1, h2, h3⟩ := h
  have m60 := hok.1
  obtain ⟨k1, k2, k3, k4, -⟩ := hok.2 (m - 1) (by omega)
  have s1 : nI m - (1 : Int32) = nI (m - 1) := n_sub (b := 1) (by omega)
  obtain ⟨-, w1, w2⟩ := n_mk (F (m - 1)).2.1 (by omega) (F (m - 1)).2.2.1 (by omega) (F (m - 1)).2.2.2 (by omega)
  have x1 := (n_mk 1 (by decide) (F (m - 1)).2.2.1 (by omega) (F (m - 1)).2.2.2 (by omega)).1
  have x2 := (n_mk (F (m - 1)).2.1 (by omega) 1 (by decide) (F (m - 1)).2.2.2 (by omega)).1
  have gen : ∀ (mk : Int32) (q : u_Q), nI ((F (m - 1)).2.1 + 2 * (F (m - 1)).2.2.1 + 4 * (F (m - 1)).2.2.2) ||| mk = nI (q.2.1 + 2 * q.2.2.1 + 4 * q.2.2.2) → q.1 = (F (m - 1)).1 → nI (q.2.1 + 2 * q.2.2.1 + 4 * q.2.2.2) &&& 1 = nI q.2.1 → ∃ J', fX5_markLast (mu 8) mk J (z_Rm mu) = some J' ∧ u_C (mu 8) J' m (u_up F (m - 1) q) ∧ ∀ b, ¬ (mu 8 ≤ b ∧ b ≤ mu 8 + 3) → J' b = J b := by
    intro mk q e1 e2 e3
    unfold fX5_markLast
    rw [z_g_t o1, h1, if_neg (nI_nle hm (by omega)), s1, o3, o4, z_g_t (n_ok l2 (show m - 1 < 60 by omega) (by decide)), nI_clamp (show m - 1 < 2 ^ 31 by omega), (h2 (m - 1) (by omega)).2, e1, z_l_s, u_o (show mu 8 ≠ mu 8 + 2 by omega), h1, s1, z_g_t (n_ok l3 (show m - 1 < 61 by omega) (by decide)), z_g_t (n_ok l2 (show m - 1 < 60 by omega) (by decide)), z_g_t (n_ok l3 (show m < 61 by omega) (by decide)), nI_clamp (show m - 1 < 2 ^ 31 by omega), nI_clamp (show m < 2 ^ 31 by omega), z_u_at, e3, u_o (show mu 8 + 3 ≠ mu 8 + 2 by omega), h3 (m - 1) (by omega), n_add, z_l_s]
    refine ⟨_, rfl, ⟨?_, fun k hk => ⟨?_, ?_⟩, fun k hk => ?_⟩, fun b hb => ?_⟩
    · rw [u_o (by omega), u_o (by omega)]; exact h1
    · rw [u_o (by omega), u_o (by omega), (h2 k hk).1]
      by_cases c : k = m - 1
      · rw [c, u_up_at, e2]
      · rw [u_up_o c]
    · rw [u_o (by omega)]
      by_cases c : k = m - 1
      · rw [c, z_u_at, u_up_at]
      · rw [z_u_k c, u_up_o c]; exact (h2 k hk).2
    · by_cases c : k = m
      · subst c
        rw [z_u_at]
        have : u_hs (u_up F (k - 1) q) k = u_hs F (k - 1) + q.2.1 := by
          have e : k = k - 1 + 1 := by omega
          rw [e]
          show u_hs (u_up F (k - 1 + 1 - 1) q) (k - 1) + (u_up F (k - 1 + 1 - 1) q (k - 1)).2.1 = _
          rw [show k - 1 + 1 - 1 = k - 1 by omega, u_up_at, u_hs_congr (F := u_up F (k - 1) q) (G := F) (fun j hj => u_up_o (by omega))]
        rw [this]
      · rw [z_u_k c, u_o (by omega), h3 k hk, u_hs_congr (F := u_up F (m - 1) q) (G := F) (fun j hj => u_up_o (by omega))]
    · rw [u_o (by omega), u_o (by omega)]
  exact ⟨gen 1 ((F (m - 1)).1, 1, (F (m - 1)).2.2.1, (F (m - 1)).2.2.2) w1 rfl x1, gen 2 ((F (m - 1)).1, (F (m - 1)).2.1, 1, (F (m - 1)).2.2.2) w2 rfl x2⟩
theorem c_rep (hP : r_P mu) {a t : Nat} (ha : a < m) (ht : 1 ≤ t) (ht9 : t ≤ 9) (hm : a + (m - a) * t ≤ 60) (hok : ∀ k, k < m → (F k).2.1 ≤ 1 ∧ (F k).2.2.1 ≤ 1 ∧ (F k).2.2.2 ≤ 1) (h : u_C (mu 8) J m F) : ∃ J', fX5_repeat (mu 8) (nI a) (nI t) J (z_Rm mu) = some J' ∧ u_C (mu 8) J' (a + (m - a) * t) (u_rep F a m ((m - a) * (t - 1))) ∧ ∀ b, ¬ (mu 8 ≤ b ∧ b ≤ mu 8 + 3) → J' b = J b := by
  obtain ⟨o1, o2, o3, o4, l1, l2, l3⟩ := o_roll hP (show 8 < 9 by decide)
  have mt : m + (m - a) * (t - 1) = a + (m - a) * t := by
    obtain ⟨t', rfl⟩ : ∃ t', t = t' + 1 := ⟨t - 1, by omega⟩
    rw [show t' + 1 - 1 = t' by omega, Nat.mul_add, Nat.mul_one]
    omega
  have s1 : nI m - nI a = nI (m - a) := n_sub (by omega)
  have s2 : nI (m - a) * (nI t - 1) = nI ((m - a) * (t - 1)) := by
    rw [show nI t - 1 = nI (t - 1) from n_sub (b := 1) ht, n_mul]
  have rok : ∀ c k, k < m + c → (u_rep F a m c k).2.1 ≤ 1 ∧ (u_rep F a m c k).2.2.1 ≤ 1 ∧ (u_rep F a m c k).2.2.2 ≤ 1 := by
    intro c
    induction c with
    | zero => intro k hk; exact hok k (by omega)
    | succ c ih =>
      intro k hk
      show (u_up (u_rep F a m c) (m + c) (u_rep F a m c (a + c)) k).2.1 ≤ 1 ∧ (u_up (u_rep F a m c) (m + c) (u_rep F a m c (a + c)) k).2.2.1 ≤ 1 ∧ (u_up (u_rep F a m c) (m + c) (u_rep F a m c (a + c)) k).2.2.2 ≤ 1
      by_cases e : k = m + c
      · rw [e, u_up_at]; exact ih (a + c) (by omega)
      · rw [u_up_o e]; exact ih k (by omega)
  obtain ⟨J', e1, e2, e3⟩ := lp_inv (body := fX5_repeat_b10 (mu 8) (nI a) (nI t) (nI (m - a)) (z_Rm mu)) (fun c q => q.1 = nI c ∧ u_C (mu 8) q.2 (m + c) (u_rep F a m c) ∧ ∀ b, ¬ (mu 8 ≤ b ∧ b ≤ mu 8 + 3) → q.2 b = J b) (fun J' => u_C (mu 8) J' (a + (m - a) * t) (u_rep F a m ((m - a) * (t - 1))) ∧ ∀ b, ¬ (mu 8 ≤ b ∧ b ≤ mu 8 + 3) → J' b = J b) (n := (m - a) * (t - 1)) (fun c q hc hp => by
    obtain ⟨p, G⟩ := q
    obtain ⟨p1, p2, p3⟩ := hp
    dsimp only at p1 p2 p3
    subst p1
    obtain ⟨G2, a1, a2, a3⟩ := c_add hP (q := u_rep F a m c (a + c)) (show m + c < 60 by omega) p2 (rok c (a + c) (by omega))
    refine ⟨(nI (c + 1), G2), ?_, rfl, a2, fun b hb => by dsimp only; rw [a3 b hb]; exact p3 b hb⟩
    unfold fX5_repeat_b10
    dsimp only
    rw [s2, if_neg (nI_ge hc (by omega)), n_add, c_has o1 p2.1 (by omega) (show a + c < 2 ^ 31 by omega), z_b_s, if_pos (show a + c < m + c by omega), if_neg n_10.mp, o2, o3, z_g_t (n_ok l1 (show a + c < 60 by omega) (by decide)), z_g_t (n_ok l2 (show a + c < 60 by omega) (by decide)), nI_clamp (show a + c < 2 ^ 31 by omega), (p2.2.1 (a + c) (by omega)).1, (p2.2.1 (a + c) (by omega)).2, a1, z_b_s, z_l_s, n_s1]) (fun q hp => by
    obtain ⟨p, G⟩ := q
    obtain ⟨p1, p2, p3⟩ := hp
    dsimp only at p1 p2 p3
    subst p1
    rw [mt] at p2
    refine ⟨G, ?_, p2, p3⟩
    unfold fX5_repeat_b10
    dsimp only
    rw [s2, if_pos (nI_le (Nat.le_refl _) (by omega))]) 300 ((0 : Int32), J) (by omega) ⟨rfl, h, fun _ _ => rfl⟩
  refine ⟨J', ?_, e2, e3⟩
  unfold fX5_repeat
  rw [z_g_t o1, h.1, s1, z_l_s, e1, z_b_s]
end UA
