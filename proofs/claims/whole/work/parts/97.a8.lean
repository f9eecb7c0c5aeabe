/-! roll: the model's beats -/
def mr_A (J : z_He) (m : Nat) (F : u_F) : Prop := ∀ k, k < m → J 125 k = nI (F k).1 ∧ J 126 k = nI (F k).2.1 ∧ J 127 k = nI (F k).2.2.1 ∧ J 128 k = nI (F k).2.2.2
theorem mr_A_congr {J : z_He} {m : Nat} {F G : u_F} (h : mr_A J m F) (e : ∀ k, k < m → F k = G k) : mr_A J m G := fun k hk => by rw [← e k hk]; exact h k hk
theorem mr_A_of {J J' : z_He} {m : Nat} {F : u_F} (h : mr_A J m F) (e : ∀ b, 125 ≤ b → b ≤ 128 → J' b = J b) : mr_A J' m F := fun k hk => by
  rw [e 125 (by decide) (by decide), e 126 (by decide) (by decide), e 127 (by decide) (by decide), e 128 (by decide) (by decide)]
  exact h k hk
def mr_set (J : z_He) (k : Nat) (q : u_Q) : z_He := z_u (z_u (z_u (z_u J 125 k (nI q.1)) 128 k (nI q.2.2.2)) 126 k (nI q.2.1)) 127 k (nI q.2.2.1)
theorem mr_A_set {J : z_He} {m : Nat} {F : u_F} {q : u_Q} (h : mr_A J m F) : mr_A (mr_set J m q) (m + 1) (u_up F m q) := by
  intro k hk
  unfold mr_set
  by_cases c : k = m
  · subst c
    rw [u_up_at]
    refine ⟨?_, ?_, ?_, ?_⟩
    · rw [u_o (by decide), u_o (by decide), u_o (by decide), z_u_at]
    · rw [u_o (by decide), z_u_at]
    · rw [z_u_at]
    · rw [u_o (by decide), u_o (by decide), z_u_at]
  · obtain ⟨a1, a2, a3, a4⟩ := h k (by omega)
    rw [u_up_o c]
    refine ⟨?_, ?_, ?_, ?_⟩
    · rw [u_o (by decide), u_o (by decide), u_o (by decide), z_u_k c, a1]
    · rw [u_o (by decide), z_u_k c, u_o (by decide), u_o (by decide), a2]
    · rw [z_u_k c, u_o (by decide), u_o (by decide), u_o (by decide), a3]
    · rw [u_o (by decide), u_o (by decide), z_u_k c, u_o (by decide), a4]
theorem mr_set_fr {J : z_He} {m b : Nat} {q : u_Q} (h : ¬ (125 ≤ b ∧ b ≤ 128)) : mr_set J m q b = J b := by
  unfold mr_set
  rw [u_o (by omega), u_o (by omega), u_o (by omega), u_o (by omega)]
section MA
variable {J : z_He} {mu : Nat → Nat} {m : Nat} {F : u_F}
theorem mr_note {v t : Nat} {x : Int32} (hx : u_isN x = true) (hv : v = u_val x) (t9 : t ≤ 9) (hm : m + t ≤ 60) (h40 : J 102 40 = nI m) (h : mr_A J m F) : ∃ J', z_lp (fX13_readsNote_b103 102 x (nI t) (z_Rm mu)) 300 ((0 : Int32), J) = some J' ∧ mr_A J' (m + t) (u_add F m v t) ∧ ∀ b, ¬ (125 ≤ b ∧ b ≤ 128) → J' b = J b := by
  refine lp_inv (fun j q => q.1 = nI j ∧ mr_A q.2 (m + j) (u_add F m v j) ∧ ∀ b, ¬ (125 ≤ b ∧ b ≤ 128) → q.2 b = J b) (fun J' => mr_A J' (m + t) (u_add F m v t) ∧ ∀ b, ¬ (125 ≤ b ∧ b ≤ 128) → J' b = J b) (n := t) (fun j q hj hp => ?_) (fun q hp => ?_) 300 ((0 : Int32), J) (by omega) ⟨rfl, mr_A_congr h (fun k hk => by unfold u_add; rw [if_neg (by omega)]), fun _ _ => rfl⟩
  · obtain ⟨p, G⟩ := q
    obtain ⟨p1, p2, p3⟩ := hp
    dsimp only at p1 p2 p3
    subst p1
    have g40 : G 102 40 = nI m := by rw [p3 102 (by omega)]; exact h40
    refine ⟨(nI (j + 1), mr_set G (m + j) (v, 0, 0, if j = 0 then 1 else 0)), ?_, rfl, mr_A_congr (mr_A_set p2) (fun k hk => ?_), fun b hb => by dsimp only; rw [mr_set_fr hb]; exact p3 b hb⟩
    · have k1 : fX13_readsNote_j136_103 102 x (nI t) (nI j) 125 (nI (m + j)) (nI v) G (z_Rm mu) = some (.inl (nI (j + 1), mr_set G (m + j) (v, 0, 0, if j = 0 then 1 else 0))) := by
        unfold fX13_readsNote_j136_103
        rw [z_g_t (n_ok (n := 60) rfl (show m + j < 60 by omega) (by decide)), nI_clamp (show m + j < 2 ^ 31 by omega), z_l_s, u_o (show (102 : Nat) ≠ 125 by decide), g40, n_add]
        have k2 : ∀ y : Nat, fX13_readsNote_j158_103 102 x (nI t) (nI j) (z_Rm mu 102 37) (nI (m + j)) (nI y) (z_u G 125 (m + j) (nI v)) (z_Rm mu) = some (.inl (nI (j + 1), mr_set G (m + j) (v, 0, 0, y))) := by
          intro y
          unfold fX13_readsNote_j158_103
          rw [show z_Rm mu 102 37 = 128 from rfl, show z_Rm mu 102 35 = 126 from rfl, show z_Rm mu 102 36 = 127 from rfl, z_g_t (n_ok (n := 60) rfl (show m + j < 60 by omega) (by decide)), nI_clamp (show m + j < 2 ^ 31 by omega), z_l_s, u_o (show (102 : Nat) ≠ 128 by decide), u_o (show (102 : Nat) ≠ 125 by decide), g40, n_add, z_g_t (n_ok (n := 60) rfl (show m + j < 60 by omega) (by decide)), nI_clamp (show m + j < 2 ^ 31 by omega), z_l_s, u_o (show (102 : Nat) ≠ 126 by decide), u_o (show (102 : Nat) ≠ 128 by decide), u_o (show (102 : Nat) ≠ 125 by decide), g40, n_add, z_g_t (n_ok (n := 60) rfl (show m + j < 60 by omega) (by decide)), nI_clamp (show m + j < 2 ^ 31 by omega), z_l_s, z_l_s, n_s1]
          rfl
        by_cases j0 : j = 0
        · rw [if_pos (show nI j = 0 by rw [j0]; rfl), if_pos j0]
          exact k2 1
        · rw [if_neg (nI_ne0 (by omega) (by omega)), if_neg j0]
          exact k2 0
      unfold fX13_readsNote_b103
      dsimp only
      rw [if_neg (nI_ge hj (by omega)), show z_Rm mu 102 34 = 125 from rfl, g40, n_add]
      by_cases c : x = 46
      · rw [if_pos c]
        rw [show v = 0 by rw [hv]; exact if_pos c] at k1 ⊢
        exact k1
      · rw [if_neg c]
        rcases u_isN_ok hx with e | ⟨w, w1, w2, e⟩
        · exact absurd e c
        · have ev : x - 97 + 1 = nI v := by
            rw [hv, u_val, if_neg c, e, nI_clamp (by omega), show nI w - (97 : Int32) = nI (w - 97) from n_sub (b := 97) w1, n_s1, show w - 97 + 1 = w - 96 by omega]
          rw [ev]
          exact k1
    · unfold u_add
      by_cases c : k = m + j
      · rw [c, u_up_at, if_pos (show m ≤ m + j ∧ m + j < m + (j + 1) by omega)]
        congr 3
        by_cases j0 : j = 0
        · rw [if_pos j0, if_pos (by omega)]
        · rw [if_neg j0, if_neg (by omega)]
      · rw [u_up_o c]
        by_cases c2 : m ≤ k ∧ k < m + j
        · rw [if_pos c2, if_pos (show m ≤ k ∧ k < m + (j + 1) by omega)]
        · rw [if_neg c2, if_neg (show ¬ (m ≤ k ∧ k < m + (j + 1)) by omega)]
  · obtain ⟨p, G⟩ := q
    obtain ⟨p1, p2, p3⟩ := hp
    dsimp only at p1 p2 p3
    subst p1
    refine ⟨G, ?_, p2, p3⟩
    unfold fX13_readsNote_b103
    dsimp only
    rw [if_pos (nI_le (Nat.le_refl t) (by omega))]
theorem mr_rep {a t : Nat} (ha : a < m) (t1 : 1 ≤ t) (t9 : t ≤ 9) (hm : a + (m - a) * t ≤ 60) (h : mr_A J m F) : ∃ J', z_lp (fX13_endsRound_b129 102 (nI t) (nI a) (nI (m - a)) (z_Rm mu)) 300 (nI (m - a), J) = some J' ∧ mr_A J' (a + (m - a) * t) (u_rep F a m ((m - a) * (t - 1))) ∧ ∀ b, ¬ (125 ≤ b ∧ b ≤ 128) → J' b = J b := by
  have mt : m + (m - a) * (t - 1) = a + (m - a) * t := by
    obtain ⟨t', rfl⟩ : ∃ t', t = t' + 1 := ⟨t - 1, by omega⟩
    rw [show t' + 1 - 1 = t' by omega, Nat.mul_add, Nat.mul_one]
    omega
  refine lp_inv (fun c q => q.1 = nI (m - a + c) ∧ mr_A q.2 (m + c) (u_rep F a m c) ∧ ∀ b, ¬ (125 ≤ b ∧ b ≤ 128) → q.2 b = J b) (fun J' => mr_A J' (a + (m - a) * t) (u_rep F a m ((m - a) * (t - 1))) ∧ ∀ b, ¬ (125 ≤ b ∧ b ≤ 128) → J' b = J b) (n := (m - a) * (t - 1)) (fun c q hc hp => ?_) (fun q hp => ?_) 300 (nI (m - a), J) (by omega) ⟨rfl, h, fun _ _ => rfl⟩
  · obtain ⟨p, G⟩ := q
    obtain ⟨p1, p2, p3⟩ := hp
    dsimp only at p1 p2 p3
    subst p1
    obtain ⟨q1, q2, q3, q4⟩ := p2 (a + c) (by omega)
    refine ⟨(nI (m - a + (c + 1)), mr_set G (m + c) (u_rep F a m c (a + c))), ?_, rfl, mr_A_set p2, fun b hb => by dsimp only; rw [mr_set_fr hb]; exact p3 b hb⟩
    unfold fX13_endsRound_b129
    dsimp only
    have i1 : nI a + nI (m - a + c) = nI (m + c) := by rw [n_add, show a + (m - a + c) = m + c by omega]
    have i2 : nI (m + c) - nI (m - a) = nI (a + c) := by rw [n_sub (by omega), show m + c - (m - a) = a + c by omega]
    have hi : a + c < 60 := by omega
    have lo : m + c < 60 := by omega
    rw [n_mul, if_neg (nI_ge (show m - a + c < (m - a) * t by omega) (by omega)), i1, i2, show z_Rm mu 102 34 = 125 from rfl, show z_Rm mu 102 35 = 126 from rfl, show z_Rm mu 102 36 = 127 from rfl, show z_Rm mu 102 37 = 128 from rfl, z_g_t (n_ok (n := 60) rfl hi (by decide)), z_g_t (n_ok (n := 60) rfl lo (by decide)), z_l_s, z_g_t (n_ok (n := 60) rfl hi (by decide)), z_g_t (n_ok (n := 60) rfl lo (by decide)), z_l_s, z_g_t (n_ok (n := 60) rfl hi (by decide)), z_g_t (n_ok (n := 60) rfl lo (by decide)), z_l_s, z_g_t (n_ok (n := 60) rfl hi (by decide)), z_g_t (n_ok (n := 60) rfl lo (by decide)), z_l_s, z_l_s, n_s1, nI_clamp (show a + c < 2 ^ 31 by omega), nI_clamp (show m + c < 2 ^ 31 by omega), q1, u_o (show (128 : Nat) ≠ 125 by decide), q4, u_o (show (126 : Nat) ≠ 128 by decide), u_o (show (126 : Nat) ≠ 125 by decide), q2, u_o (show (127 : Nat) ≠ 126 by decide), u_o (show (127 : Nat) ≠ 128 by decide), u_o (show (127 : Nat) ≠ 125 by decide), q3]
    rfl
  · obtain ⟨p, G⟩ := q
    obtain ⟨p1, p2, p3⟩ := hp
    dsimp only at p1 p2 p3
    subst p1
    rw [mt] at p2
    refine ⟨G, ?_, p2, p3⟩
    unfold fX13_endsRound_b129
    dsimp only
    rw [n_mul, if_pos (nI_le (show (m - a) * t ≤ m - a + (m - a) * (t - 1) by omega) (by omega))]
end MA
