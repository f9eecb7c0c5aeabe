/-! roll: the class reads a roll -/
theorem u_flt_neg : ∀ c, c < 7 → ∀ q, q < 63 → 1 ≤ c → u_flt c q < 0 ∧ ¬ u_flt c q = 0 := by decide +kernel
def u_F0 : u_F := fun _ => (0, 0, 0, 0)
def u_s0 : u_St := (false, 0, 0, u_F0, 0, (fun _ => 0), (fun _ => 0))
theorem R_57 {mu : Nat → Nat} {a : Nat} : z_v (z_Rm mu) 57 1 a = z_Rm (x_up mu 11 a) := by
  funext b j
  rw [z_v_eq]
  unfold z_Rm x_up
  by_cases c : b = 57 ∧ j = 1
  · rw [if_pos c, if_neg (by omega), if_neg (by omega), if_neg (by omega), if_neg (by omega), if_pos c, if_pos rfl]
  · rw [if_neg c]
    by_cases c1 : b = 4 ∧ j < 8
    · rw [if_pos c1, if_pos c1, if_neg (by omega)]
    · rw [if_neg c1, if_neg c1, if_neg (show ¬ (8 : Nat) = 11 by decide), if_neg (show ¬ (9 : Nat) = 11 by decide), if_neg (show ¬ (10 : Nat) = 11 by decide), if_neg c, if_neg c, if_neg (show ¬ (12 : Nat) = 11 by decide)]
theorem r_P11 {mu : Nat → Nat} (h : r_P mu) (a : Nat) : r_P (x_up mu 11 a) := by
  obtain ⟨h1, h2, h3⟩ := h
  refine ⟨fun j hj => ?_, fun i j hi hj => ?_, ?_⟩
  · rw [x_up_o (by omega)]; exact h1 j hj
  · rw [x_up_o (by omega), x_up_o (by omega)]; exact h2 i j hi hj
  · rw [x_up_o (by omega), x_up_o (by omega)]; exact h3
section URR
variable {I : z_He} {mu : Nat → Nat} {n N : Nat} {sg : Nat → Int32}
theorem c_rolls (hP : r_P mu) (hn : 1 ≤ n) (h60 : n ≤ 60) (hs : u_sg n sg) (hN : I 1 1 = nI N) (hnN : n ≤ N) (N31 : N < 2 ^ 31) (htx : ∀ p, p < n → I 2 p = sg p) (h0 : I (mu 8 + 3) 0 = 0) : ∃ v J', fX6_readRoll 57 (nI n) (mu 8) I (z_Rm mu) = some (v, J', z_Rm (x_up mu 11 (mu 8))) ∧ (∀ b k, ¬ (b = 1 ∧ (k = 2 ∨ k = 3 ∨ k = 4)) → ¬ (mu 8 ≤ b ∧ b ≤ mu 8 + 3) → J' b k = I b k) ∧ J' (mu 8 + 3) 0 = 0 ∧ ((∃ m F, v = nI m ∧ 0 < m ∧ u_C (mu 8) J' m F ∧ u_ok m F ∧ u_end sg n u_s0 (.inr (m, F))) ∨ ∃ c q, v = u_flt c q ∧ 1 ≤ c ∧ c ≤ 6 ∧ q ≤ 62 ∧ u_end sg n u_s0 (.inl (u_flt c q))) := by
  have hm := p_le hP (show 8 < 9 by decide)
  have hP1 := r_P11 hP (mu 8)
  have hX : (x_up mu 11 (mu 8)) 11 = (x_up mu 11 (mu 8)) 8 := by rw [x_up_at, x_up_o (by decide)]
  have e8 : (x_up mu 11 (mu 8)) 8 = mu 8 := x_up_o (by decide)
  have o1 := (o_roll hP (show 8 < 9 by decide)).1
  unfold fX6_readRoll
  rw [z_g_t (show z_ob 57 6 from rfl), z_g_t o1, z_l_s, R_57]
  have ht : ∀ K : z_He, K 1 3 = nI n → (∀ p, K 2 p = I 2 p) → u_tx K n sg := fun K k1 k2 => ⟨hs, h60, k1, fun p hp => by rw [k2]; exact htx p hp⟩
  generalize hmu : x_up mu 11 (mu 8) = nu at hP1 hX e8 ⊢
  rw [(o57 hX).1, (o57 hX).2, e8, z_g_t o1]
  unfold fX5_clear fX10_open
  rw [z_g_t o1, z_l_s, z_b_s, z_g_t (show z_ob 1 10 from rfl), z_g_t (show z_ob 1 10 from rfl), z_l_s, z_l_s, z_l_s, z_b_s, z_u_k (show (1 : Nat) ≠ 2 by decide), u_o (show 1 ≠ mu 8 by omega), hN]
  have mn : z_min (nI n) (nI N) = nI n := by
    unfold z_min
    rw [if_neg (nI_nlt hnN N31)]
  rw [mn]
  generalize hK : z_u (z_u (z_u (z_u I (mu 8) 3 0) 1 2 0) 1 3 (nI n)) 1 4 0 = K
  have k1 : ∀ b k, ¬ (b = 1 ∧ (k = 2 ∨ k = 3 ∨ k = 4)) → ¬ (mu 8 ≤ b ∧ b ≤ mu 8 + 3) → K b k = I b k := fun b k q1 q2 => by
    rw [← hK, z_u_eq, if_neg (by omega), z_u_eq, if_neg (by omega), z_u_eq, if_neg (by omega), z_u_eq, if_neg (by omega)]
  have k13 : K 1 3 = nI n := by rw [← hK, z_u_k (by decide), z_u_at]
  have tx := ht K k13 (fun p => k1 2 p (by omega) (by omega))
  have X0 : u_X K (nu 8) K 0 0 u_F0 := by
    rw [e8]
    refine ⟨fun _ _ _ _ => rfl, ?_, ?_, ?_, fun k hk => by omega, fun k hk => ?_⟩
    · rw [← hK, z_u_k (by decide), z_u_k (by decide), z_u_at]; rfl
    · rw [← hK, z_u_at]
    · rw [← hK, u_o (by omega), u_o (by omega), u_o (by omega), z_u_at]; rfl
    · have : k = 0 := by omega
      subst this
      rw [← hK, u_o (by omega), u_o (by omega), u_o (by omega), u_o (by omega), h0]
      rfl
  have fin : ∀ (J : z_He) (v x : Int32), u_Y (mu 8) K J → J (mu 8) 3 = x → v = (if J 1 4 = 0 then x else J 1 4) → fX6_readRoll_j37 57 (mu 8) J (z_Rm nu) = some (v, J, z_Rm nu) ∧ ∀ b k, ¬ (b = 1 ∧ (k = 2 ∨ k = 3 ∨ k = 4)) → ¬ (mu 8 ≤ b ∧ b ≤ mu 8 + 3) → J b k = I b k := by
    intro J v x y1 y2 y3
    constructor
    · unfold fX6_readRoll_j37 fX5_length fX10_answer
      rw [(o57 hX).1, (o57 hX).2, e8, z_g_t o1, z_g_t o1, z_b_s, z_g_t (show z_ob 1 10 from rfl), z_g_t (show z_ob 1 10 from rfl), y2, y3]
      by_cases c : J 1 4 = 0
      · rw [if_pos c, if_pos c, z_b_s]
      · rw [if_neg c, if_neg c, z_b_s]
    · intro b k q1 q2
      rw [y1 b k (by omega) q2]
      exact k1 b k q1 q2
  have flt : ∀ (J : z_He) (c q : Nat), u_Fl K (nu 8) J (u_flt c q) → 1 ≤ c → c ≤ 6 → q ≤ 62 → fX6_readRoll_j37 57 (mu 8) J (z_Rm nu) = some (u_flt c q, J, z_Rm nu) ∧ ∀ b k, ¬ (b = 1 ∧ (k = 2 ∨ k = 3 ∨ k = 4)) → ¬ (mu 8 ≤ b ∧ b ≤ mu 8 + 3) → J b k = I b k := by
    intro J c q f1 c1 c6 q62
    rw [e8] at f1
    exact fin J _ _ f1.1 rfl (by rw [f1.2.1, if_neg (u_flt_neg c (by omega) q (by omega) c1).2])
  rcases k_all hP1 hX tx K 0 0 u_F0 (fun _ => 0) (fun _ => 0) X0 ⟨by decide, fun k hk => by omega⟩ ⟨by decide, fun j hj => by omega⟩ (by omega) with ⟨J2, p2, m2, F2, fr2, ab2, g1, g2, g3, g4, g5, g6, g7, g8, g9, g10⟩ | ⟨J2, c, q, g1, g2, g3, g4, g5, g6⟩
  · rw [show z_fxC 12 0 57 (0 : Int32) K (z_Rm nu) = z_fxC 12 0 57 (nI 0) K (z_Rm nu) from rfl, g1, z_b_s, if_neg (show ¬ (1 : Int32) = 0 by decide)]
    unfold fX10_passes
    dsimp only
    rw [z_g_t (show z_ob 1 10 from rfl), c_sg hP1 tx g5 (by omega), z_b_s]
    by_cases c : p2 < n
    · have cm : ¬ sg p2 = -1 := by
        obtain ⟨w, w1, w2⟩ := hs.1 p2 c
        rw [w2]
        exact n_m1 (by omega)
      obtain ⟨a1, a2⟩ := c_flt hP1 g5 (c := 1) (q := p2)
      rw [if_neg cm, g5.2.1, show fX10_fails 1 (1 : Int32) = fX10_fails 1 (nI 1) from rfl, a1, z_b_s, z_g_t (Or.inl rfl), z_b_s]
      obtain ⟨f1, f2⟩ := flt _ 1 p2 a2 (by decide) (by decide) (by omega)
      exact ⟨_, _, f1, f2, by rw [← e8]; exact a2.2.2, Or.inr ⟨1, p2, rfl, by decide, by decide, by omega, u_to_e g8 (u_to_e (u_sG (by omega) (Or.inl c)) (u_e1 g10.1 g10.2))⟩⟩
    · have a2 := (c_pass g5 hP1).2
      rw [if_pos (hs.2 p2 (by omega)), z_l_s, g5.2.1, n_s1, z_b_s]
      rw [e8] at a2
      obtain ⟨x1, x2, x3, x4⟩ := a2
      obtain ⟨f1, f2⟩ := fin _ (nI m2) (nI m2) x1 x4.1 (by rw [x3, if_pos rfl])
      exact ⟨_, _, f1, f2, x4.2.2 0 (Nat.zero_le _), Or.inl ⟨m2, F2, rfl, g4, x4, g6, u_to_e g8 (u_eR c)⟩⟩
  · rw [show z_fxC 12 0 57 (0 : Int32) K (z_Rm nu) = z_fxC 12 0 57 (nI 0) K (z_Rm nu) from rfl, g1, z_b_s, if_pos rfl]
    obtain ⟨f1, f2⟩ := flt J2 c q g2 g3 g4 g5
    exact ⟨_, _, f1, f2, by rw [← e8]; exact g2.2.2, Or.inr ⟨c, q, rfl, g3, g4, g5, g6⟩⟩
end URR
