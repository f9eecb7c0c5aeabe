/-! roll: the model's main loop and the copy -/
section MD
variable {I J : z_He} {mu : Nat → Nat} {n : Nat} {sg : Nat → Int32}
def mr_P2 (I : z_He) (n : Nat) (sg : Nat → Int32) (s : Int32 × z_He) : Prop := (s.1 = 0 ∧ ∃ f, mr_Fl I s.2 f ∧ u_end sg n u_s0 (.inl f)) ∨ (s.1 = 1 ∧ ∃ p m F d fr ab, mr_X I n s.2 p m F d fr ab ∧ u_ok m F ∧ u_E m d F ab ∧ 0 < m ∧ p ≤ n ∧ ¬ (sg p = 41 ∧ 0 < d) ∧ u_to sg n u_s0 (true, p, m, F, d, fr, ab))
def mr_Q2 (I : z_He) (n : Nat) (sg : Nat → Int32) (s : Int32 × z_He) : Prop := (s.1 = 0 ∧ ∃ f, mr_Fl I s.2 f ∧ u_end sg n u_s0 (.inl f)) ∨ (s.1 = 1 ∧ ∃ m F, mr_fr I s.2 ∧ s.2 102 40 = nI m ∧ mr_A s.2 m F ∧ u_ok m F ∧ 0 < m ∧ u_end sg n u_s0 (.inr (m, F)))
theorem mr_main {y : Int32} (ht : mr_tx I n sg) {s : Int32 × z_He} (h : mr_P2 I n sg s) : ∃ x, z_lp (fX13_roll_b50 102 y (z_Rm mu)) 300 s = some x ∧ mr_Q2 I n sg x := by
  refine lp_var (mr_P2 I n sg) (mr_Q2 I n sg) (fun s => if s.1 = 0 then 0 else 61 - (s.2 102 12).toNatClampNeg) ?_ 300 s (by split <;> omega) h
  intro s hs
  obtain ⟨a, G⟩ := s
  have n60 := ht.2.1
  rcases hs with ⟨s1, f, s2, s3⟩ | ⟨s1, p, m, F, d, fr, ab, s2, s3, s4, s5, s6, s7, s8⟩
  · dsimp only at s1 s2
    subst s1
    refine Or.inr ⟨(0, G), ?_, Or.inl ⟨rfl, f, s2, s3⟩⟩
    unfold fX13_roll_b50
    dsimp only
    rw [if_pos rfl]
  · dsimp only at s1 s2
    subst s1
    have go : u_to sg n u_s0 (false, p, m, F, d, fr, ab) → (∃ s', fX13_roll_j72_50 102 y G (z_Rm mu) = some (.inl s') ∧ mr_P2 I n sg s' ∧ (if s'.1 = 0 then 0 else 61 - (s'.2 102 12).toNatClampNeg) < 61 - p) := by
      intro to
      unfold fX13_roll_j72_50
      rcases mr_item (mu := mu) ht s2 s3 (u_E_D s4) s6 to with ⟨J', f, g1, g2, g3⟩ | ⟨J', p', m', F', d', fr', ab', g1, g2, g3, g4, g5, g6, g7, g8, g9⟩
      · rw [g1, z_b_s]
        refine ⟨_, rfl, Or.inl ⟨rfl, f, g2, g3⟩, ?_⟩
        dsimp only
        rw [if_pos rfl]
        omega
      · rw [g1, z_b_s]
        refine ⟨_, rfl, Or.inr ⟨rfl, p', m', F', d', fr', ab', g2, g3, g4, g5, g7, g8, g9⟩, ?_⟩
        dsimp only
        rw [if_neg (show ¬ (1 : Int32) = 0 by decide), g2.2.1, nI_clamp (by omega)]
        omega
    unfold fX13_roll_b50
    dsimp only
    rw [if_neg (show ¬ (1 : Int32) = 0 by decide), s2.2.1, s2.2.2.1, s2.2.2.2.2.1, nI_clamp (show p < 2 ^ 31 by omega)]
    by_cases c : p < n
    · rw [if_pos (nI_lt c (by omega)), if_neg (show ¬ (1 : Int32) = 0 by decide)]
      exact Or.inl (go (u_to_t s8 (u_sG s7 (Or.inl c))))
    · rw [if_neg (nI_nlt (by omega) (by omega))]
      by_cases cd : 0 < d
      · rw [if_neg (show ¬ nI d ≤ 0 from nI_nle cd (by have := s4.1; omega)), if_neg (show ¬ (1 : Int32) = 0 by decide)]
        exact Or.inl (go (u_to_t s8 (u_sG s7 (Or.inr cd))))
      · have : d = 0 := by omega
        subst this
        rw [if_pos (show nI 0 ≤ (0 : Int32) by decide)]
        exact Or.inr ⟨_, rfl, Or.inr ⟨rfl, m, F, s2.1, s2.2.2.2.1, s2.2.2.2.2.2.1, s3, s5, u_to_e s8 (u_eR c)⟩⟩
theorem mr_copy {i m : Nat} {F : u_F} (hi : i < 8) (hm : m ≤ 60) (h40 : J 102 40 = nI m) (hA : mr_A J m F) : ∃ J', z_lp (fX13_roll_b107 102 (nI i) (z_Rm mu)) 300 ((0 : Int32), J) = some J' ∧ (∀ k, k < m → J' 106 (60 * i + k) = nI (F k).1 ∧ J' 107 (60 * i + k) = nI (F k).2.1 ∧ J' 108 (60 * i + k) = nI (F k).2.2.1 ∧ J' 109 (60 * i + k) = nI (F k).2.2.2) ∧ ∀ b k, ¬ (106 ≤ b ∧ b ≤ 109 ∧ 60 * i ≤ k ∧ k < 60 * i + m) → J' b k = J b k := by
  refine lp_inv (fun j (q : Int32 × z_He) => q.1 = nI j ∧ (∀ k, k < j → q.2 106 (60 * i + k) = nI (F k).1 ∧ q.2 107 (60 * i + k) = nI (F k).2.1 ∧ q.2 108 (60 * i + k) = nI (F k).2.2.1 ∧ q.2 109 (60 * i + k) = nI (F k).2.2.2) ∧ ∀ b k, ¬ (106 ≤ b ∧ b ≤ 109 ∧ 60 * i ≤ k ∧ k < 60 * i + m) → q.2 b k = J b k) (fun (J' : z_He) => (∀ k, k < m → J' 106 (60 * i + k) = nI (F k).1 ∧ J' 107 (60 * i + k) = nI (F k).2.1 ∧ J' 108 (60 * i + k) = nI (F k).2.2.1 ∧ J' 109 (60 * i + k) = nI (F k).2.2.2) ∧ ∀ b k, ¬ (106 ≤ b ∧ b ≤ 109 ∧ 60 * i ≤ k ∧ k < 60 * i + m) → J' b k = J b k) (n := m) (fun j q hj hp => ?_) (fun q hp => ?_) 300 ((0 : Int32), J) (by omega) ⟨rfl, fun k hk => by omega, fun _ _ _ => rfl⟩
  · obtain ⟨p, G⟩ := q
    obtain ⟨p1, p2, p3⟩ := hp
    dsimp only at p1 p2 p3
    subst p1
    obtain ⟨a1, a2, a3, a4⟩ := hA j hj
    have e : (60 : Int32) * nI i + nI j = nI (60 * i + j) := by rw [show (60 : Int32) = nI 60 from rfl, n_mul, n_add]
    refine ⟨(nI (j + 1), z_u (z_u (z_u (z_u G 106 (60 * i + j) (nI (F j).1)) 107 (60 * i + j) (nI (F j).2.1)) 108 (60 * i + j) (nI (F j).2.2.1)) 109 (60 * i + j) (nI (F j).2.2.2)), ?_, rfl, fun k hk => ?_, fun b k hb => ?_⟩
    · unfold fX13_roll_b107
      dsimp only
      have lj : j < 60 := by omega
      have li : 60 * i + j < 480 := by omega
      rw [p3 102 40 (by omega), h40, if_neg (nI_ge hj (by omega)), e, show z_Rm mu 102 34 = 125 from rfl, show z_Rm mu 102 35 = 126 from rfl, show z_Rm mu 102 36 = 127 from rfl, show z_Rm mu 102 37 = 128 from rfl, show z_Rm mu 102 5 = 106 from rfl, show z_Rm mu 102 6 = 107 from rfl, show z_Rm mu 102 7 = 108 from rfl, show z_Rm mu 102 8 = 109 from rfl, z_g_t (n_ok (n := 60) rfl lj (by decide)), z_g_t (n_ok (n := 480) rfl li (by decide)), z_l_s, z_g_t (n_ok (n := 60) rfl lj (by decide)), z_g_t (n_ok (n := 480) rfl li (by decide)), z_l_s, z_g_t (n_ok (n := 60) rfl lj (by decide)), z_g_t (n_ok (n := 480) rfl li (by decide)), z_l_s, z_g_t (n_ok (n := 60) rfl lj (by decide)), z_g_t (n_ok (n := 480) rfl li (by decide)), z_l_s, z_l_s, n_s1, nI_clamp (show j < 2 ^ 31 by omega), nI_clamp (show 60 * i + j < 2 ^ 31 by omega), p3 125 j (by omega), a1, u_o (show (126 : Nat) ≠ 106 by decide), p3 126 j (by omega), a2, u_o (show (127 : Nat) ≠ 107 by decide), u_o (show (127 : Nat) ≠ 106 by decide), p3 127 j (by omega), a3, u_o (show (128 : Nat) ≠ 108 by decide), u_o (show (128 : Nat) ≠ 107 by decide), u_o (show (128 : Nat) ≠ 106 by decide), p3 128 j (by omega), a4]
    · dsimp only
      by_cases c : k = j
      · subst c
        refine ⟨?_, ?_, ?_, ?_⟩
        · rw [u_o (by decide), u_o (by decide), u_o (by decide), z_u_at]
        · rw [u_o (by decide), u_o (by decide), z_u_at]
        · rw [u_o (by decide), z_u_at]
        · rw [z_u_at]
      · obtain ⟨b1, b2, b3, b4⟩ := p2 k (by omega)
        have c' : 60 * i + k ≠ 60 * i + j := by omega
        refine ⟨?_, ?_, ?_, ?_⟩
        · rw [u_o (by decide), u_o (by decide), u_o (by decide), z_u_k c', b1]
        · rw [u_o (by decide), u_o (by decide), z_u_k c', u_o (by decide), b2]
        · rw [u_o (by decide), z_u_k c', u_o (by decide), u_o (by decide), b3]
        · rw [z_u_k c', u_o (by decide), u_o (by decide), u_o (by decide), b4]
    · dsimp only
      rw [z_u_eq, if_neg (by omega), z_u_eq, if_neg (by omega), z_u_eq, if_neg (by omega), z_u_eq, if_neg (by omega)]
      exact p3 b k hb
  · obtain ⟨p, G⟩ := q
    obtain ⟨p1, p2, p3⟩ := hp
    dsimp only at p1 p2 p3
    subst p1
    refine ⟨G, ?_, p2, p3⟩
    unfold fX13_roll_b107
    dsimp only
    rw [p3 102 40 (by omega), h40, if_pos (nI_le (Nat.le_refl m) (by omega))]
/-- the model's call, the text being there -/
theorem mr_roll {i N : Nat} (hi : i < 8) (n1 : 1 ≤ n) (ht : mr_tx I n sg) (h11 : I 102 11 = nI N) (hN : n ≤ N) (N31 : N < 2 ^ 31) : ∃ v J', fX13_roll 102 (nI i) (nI n) I (z_Rm mu) = some (v, J') ∧ ((u_end sg n u_s0 (.inl v) ∧ J' 102 11 = 0 ∧ ∀ b k, ¬ (b = 102 ∧ (k = 11 ∨ k = 12 ∨ k = 13 ∨ k = 14 ∨ k = 17 ∨ k = 19 ∨ k = 40 ∨ k = 41)) → ¬ (125 ≤ b ∧ b ≤ 130) → J' b k = I b k) ∨ ∃ m F, u_end sg n u_s0 (.inr (m, F)) ∧ v = nI m ∧ u_ok m F ∧ 0 < m ∧ J' 102 11 = 0 ∧ J' 110 i = nI m ∧ (∀ k, k < m → J' 106 (60 * i + k) = nI (F k).1 ∧ J' 107 (60 * i + k) = nI (F k).2.1 ∧ J' 108 (60 * i + k) = nI (F k).2.2.1 ∧ J' 109 (60 * i + k) = nI (F k).2.2.2) ∧ (∀ f j, f < 10 → j < 8 → J' 103 (8 * f + j) = if j = i then w_beg (fun f => I 103 (8 * f + i)) f else I 103 (8 * f + j)) ∧ J' 103 80 = I 103 80 ∧ J' 103 81 = I 103 81 ∧ ∀ b k, ¬ (b = 102 ∧ (k = 11 ∨ k = 12 ∨ k = 13 ∨ k = 14 ∨ k = 17 ∨ k = 19 ∨ k = 40 ∨ k = 41)) → ¬ (125 ≤ b ∧ b ≤ 130) → ¬ b = 103 → ¬ (b = 110 ∧ k = i) → ¬ (106 ≤ b ∧ b ≤ 109 ∧ 60 * i ≤ k ∧ k < 60 * i + m) → J' b k = I b k) := by
  have n60 := ht.2.1
  unfold fX13_roll
  rw [z_g_t (show z_ob 102 13 from rfl), fX13_in_eq, z_b_s, n_in7' hi, if_neg (show ¬ (1 : Int32) = 0 by decide), fX13_in_eq, z_b_s, show n_in (nI n) 1 60 = 1 from n_in_1 (show ¬ nI n < nI 1 from nI_nlt n1 (by omega)) (show ¬ nI 60 < nI n from nI_nlt n60 (by decide)), if_neg (show ¬ (1 : Int32) = 0 by decide), h11, if_pos (nI_le hN N31)]
  unfold fX13_beginsText
  rw [z_g_t (show z_ob 102 13 from rfl), z_l_s, z_l_s, z_l_s, z_l_s, z_b_s, z_l_s, z_l_s]
  generalize hK : z_u (z_u (z_u (z_u (z_u (z_u I 102 12 0) 102 13 (nI n)) 102 17 0) 102 19 0) 102 40 0) 102 41 0 = K
  have x0 : mr_X I n K 0 0 u_F0 0 (fun _ => 0) (fun _ => 0) := by
    refine ⟨fun b k q1 q2 => ?_, ?_, ?_, ?_, ?_, fun k hk => by omega, fun j hj => by omega⟩
    · rw [← hK, z_u_eq, if_neg (by omega), z_u_eq, if_neg (by omega), z_u_eq, if_neg (by omega), z_u_eq, if_neg (by omega), z_u_eq, if_neg (by omega), z_u_eq, if_neg (by omega)]
    · rw [← hK, z_u_k (by decide), z_u_k (by decide), z_u_k (by decide), z_u_k (by decide), z_u_k (by decide), z_u_at]; rfl
    · rw [← hK, z_u_k (by decide), z_u_k (by decide), z_u_k (by decide), z_u_k (by decide), z_u_at]
    · rw [← hK, z_u_k (by decide), z_u_at]; rfl
    · rw [← hK, z_u_at]; rfl
  obtain ⟨s, e1, e2⟩ : ∃ s, fX13_readsItem 102 K (z_Rm mu) = some s ∧ mr_P2 I n sg s := by
    rcases mr_item (mu := mu) (S := u_s0) ht x0 ⟨by decide, fun k hk => by omega⟩ ⟨by decide, fun j hj => by omega⟩ (by omega) u_to_r with ⟨J', f, g1, g2, g3⟩ | ⟨J', p', m', F', d', fr', ab', g1, g2, g3, g4, g5, g6, g7, g8, g9⟩
    · exact ⟨_, g1, Or.inl ⟨rfl, f, g2, g3⟩⟩
    · exact ⟨_, g1, Or.inr ⟨rfl, p', m', F', d', fr', ab', g2, g3, g4, g5, g7, g8, g9⟩⟩
  obtain ⟨x, e3, e4⟩ := mr_main (mu := mu) (y := nI i) ht e2
  rw [e1, z_b_s, e3, z_b_s]
  unfold fX13_roll_j80
  rw [z_l_s]
  obtain ⟨y, G⟩ := x
  rcases e4 with ⟨s1, f, s2, s3⟩ | ⟨s1, m, F, s2, s3, s4, s5, s6, s7⟩
  · dsimp only at s1 s2 ⊢
    subst s1
    rw [if_pos rfl, z_u_k (by decide), s2.2]
    refine ⟨_, _, rfl, Or.inl ⟨s3, z_u_at _ _ _ _, fun b k q1 q2 => ?_⟩⟩
    rw [z_u_eq, if_neg (by omega)]
    exact s2.1 b k (by omega) q2
  · dsimp only at s1 s2 s3 s4 ⊢
    subst s1
    rw [if_neg (show ¬ (1 : Int32) = 0 by decide), show z_Rm mu 102 9 = 110 from rfl, z_g_t (n_ok (n := 8) rfl hi (by decide)), nI_clamp (show i < 2 ^ 31 by omega), z_l_s, z_u_k (show (40 : Nat) ≠ 11 by decide), s3]
    obtain ⟨H, c1, c2, c3⟩ := mr_copy (mu := mu) (J := z_u (z_u G 102 11 0) 110 i (nI m)) (F := F) hi s5.1 (by rw [u_o (by decide), z_u_k (by decide)]; exact s3) (mr_A_of s4 (fun b b1 b2 => by rw [u_o (by omega), u_o (by omega)]))
    rw [c1, z_b_s, m_beg hi, z_b_s]
    have m60 := s5.1
    have fr : ∀ b k, ¬ (b = 102 ∧ (k = 11 ∨ k = 12 ∨ k = 13 ∨ k = 14 ∨ k = 17 ∨ k = 19 ∨ k = 40 ∨ k = 41)) → ¬ (125 ≤ b ∧ b ≤ 130) → ¬ (b = 110 ∧ k = i) → ¬ (106 ≤ b ∧ b ≤ 109 ∧ 60 * i ≤ k ∧ k < 60 * i + m) → H b k = I b k := fun b k q1 q2 q4 q5 => by
      rw [c3 b k q5, z_u_eq, if_neg (by omega), z_u_eq, if_neg (by omega)]
      exact s2 b k (by omega) q2
    have h103 : ∀ k, H 103 k = I 103 k := fun k => fr 103 k (by omega) (by omega) (by omega) (by omega)
    refine ⟨_, _, rfl, Or.inr ⟨m, F, s7, ?_, s5, s6, ?_, ?_, fun k hk => ?_, fun f j hf hj => ?_, ?_, ?_, fun b k q1 q2 q3 q4 q5 => ?_⟩⟩
    · dsimp only
      rw [if_neg (by decide), c3 102 40 (by omega), u_o (by decide), z_u_k (by decide), s3]
    · rw [if_neg (by decide), c3 102 11 (by omega), u_o (by decide), z_u_at]
    · rw [if_neg (by decide), c3 110 i (by omega), z_u_at]
    · rw [if_neg (by decide), if_neg (by decide), if_neg (by decide), if_neg (by decide)]
      exact c2 k hk
    · rw [if_pos rfl]
      simp only [h103]
      unfold w_beg
      by_cases cj : j = i
      · subst cj
        rw [if_pos rfl]
        have f10 : f = 0 ∨ f = 1 ∨ f = 2 ∨ f = 3 ∨ f = 4 ∨ f = 5 ∨ f = 6 ∨ f = 7 ∨ f = 8 ∨ f = 9 := by omega
        by_cases d1 : f = 5 ∨ f = 6 ∨ f = 8 ∨ f = 9
        · rw [if_pos d1, if_pos (by omega)]
        · rw [if_neg d1, if_neg (by omega)]
          by_cases d2 : f = 7
          · rw [if_pos d2, if_pos (by omega), show 8 * 4 + j = 32 + j by omega]
          · rw [if_neg d2, if_neg (by omega)]
      · rw [if_neg cj, if_neg (by omega), if_neg (by omega)]
    · rw [if_pos rfl, if_neg (by omega), if_neg (by omega)]
      exact h103 80
    · rw [if_pos rfl, if_neg (by omega), if_neg (by omega)]
      exact h103 81
    · rw [if_neg q3]
      exact fr b k q1 q2 q4 q5
end MD
