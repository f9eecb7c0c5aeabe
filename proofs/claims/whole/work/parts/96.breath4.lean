/-! breaths: the model, the call -/
/-- a heap with the roll in it -/
def x_H (I H : z_He) : Prop := H 106 = I 106 ∧ H 109 = I 109 ∧ H 110 = I 110
section XN
variable {I H : z_He} {mu : Nat → Nat} {i r n K : Nat}
theorem m_ends (h : r_Roll I i r n) (hi : i < 8) (hH : x_H I H) {k : Nat} (hk : k < n) : fX13_endsSound 102 (nI i) (nI k) H (z_Rm mu) = some (if ((b_v I i k != 0) && (decide (k + 1 = n) || (b_g I i (k + 1) == 1))) = true then 1 else 0) := by
  obtain ⟨h6, h9, h10⟩ := hH
  have n60 := h.1
  obtain ⟨v7, -, e6, -⟩ := b_at h hk
  unfold fX13_endsSound
  rw [z_g_t m_ob, n_l60, z_l_s, show z_Rm mu 102 5 = 106 from rfl, show z_Rm mu 102 9 = 110 from rfl, show z_Rm mu 102 8 = 109 from rfl, z_g_t (k_480 (show z_len 1 106 = 480 from rfl) hi (show k < 60 by omega)), nI_clamp (show 60 * i + k < 2 ^ 31 by omega), h6, e6, z_g_t (k_110 hi), nI_clamp (show i < 2 ^ 31 by omega), h10, h.2.2.1, n_s1, n_s1]
  by_cases cv : b_v I i k = 0
  · rw [if_pos (by rw [cv]; decide)]
    simp [cv]
  · rw [if_neg (nI_nle (by omega) (by omega))]
    by_cases ck : k + 1 = n
    · rw [if_pos (by rw [ck])]
      simp [cv, ck]
    · rw [if_neg (n_ne (by omega) (by omega) ck), z_g_t (n_ok (n := 480) (show z_len 1 109 = 480 from rfl) (show 60 * i + k + 1 < 480 by omega) (by decide)), nI_clamp (show 60 * i + k + 1 < 2 ^ 31 by omega), h9]
      obtain ⟨-, -, -, -, -, g1, -, -, e9, -⟩ := b_at h (show k + 1 < n by omega)
      rw [show 60 * i + k + 1 = 60 * i + (k + 1) by omega, e9]
      have : b_g I i (k + 1) = 0 ∨ b_g I i (k + 1) = 1 := by omega
      rcases this with q | q
      · rw [q, if_neg (show ¬ nI 0 = 1 by decide)]
        simp [ck]
      · rw [q, if_pos (show nI 1 = 1 from rfl)]
        simp [cv]
theorem m_sung (h : r_Roll I i r n) (hi : i < 8) (hH : x_H I H) {p q : Nat} (hpq : p ≤ q) (hq : q ≤ n) : fX13_sungBetween 102 (nI i) (nI p) (nI q) H (z_Rm mu) = some (nI (x_c I i q - x_c I i p)) := by
  obtain ⟨h6, h9, h10⟩ := hH
  have n60 := h.1
  unfold fX13_sungBetween
  rw [z_g_t m_ob]
  have lp := z_lp_tr (body := fX13_sungBetween_b6 102 (nI i) (nI q) H (z_Rm mu)) (fun j => (nI (x_c I i (p + j) - x_c I i p), nI (p + j))) (n := q - p) (x := nI (x_c I i q - x_c I i p)) (fun j hj => ?_) ?_ 300 (by omega)
  · have lp' : z_lp (fX13_sungBetween_b6 102 (nI i) (nI q) H (z_Rm mu)) 300 ((0 : Int32), nI p) = some (nI (x_c I i q - x_c I i p)) := by
      rw [← lp, show p + 0 = p from rfl, Nat.sub_self]
      rfl
    rw [lp', z_b_s]
  · obtain ⟨v7, -, e6, -⟩ := b_at h (show p + j < n by omega)
    have cm := x_c_mono (I := I) (i := i) (show p ≤ p + j by omega)
    have ck : x_c I i (p + (j + 1)) = if (b_v I i (p + j) != 0) = true then x_c I i (p + j) + 1 else x_c I i (p + j) := rfl
    unfold fX13_sungBetween_b6
    dsimp only
    rw [if_neg (nI_ge (show p + j < q by omega) (by omega)), n_l60, show z_Rm mu 102 5 = 106 from rfl, z_g_t (k_480 (show z_len 1 106 = 480 from rfl) hi (show p + j < 60 by omega)), nI_clamp (show 60 * i + (p + j) < 2 ^ 31 by omega), h6, e6, ck]
    simp only [z_l_s, n_s1]
    by_cases cv : b_v I i (p + j) = 0
    · rw [if_pos (by rw [cv]; decide), if_neg (by simp [cv])]
      rfl
    · rw [if_neg (nI_nle (by omega) (by omega)), if_pos (by simp [cv]), show x_c I i (p + j) + 1 - x_c I i p = x_c I i (p + j) - x_c I i p + 1 by omega]
      rfl
  · unfold fX13_sungBetween_b6
    dsimp only
    rw [if_pos (nI_le (show q ≤ p + (q - p) by omega) (by omega)), show p + (q - p) = q by omega]
theorem x_f_le (tab : Nat → Nat) (c p : Nat) : x_fd (x_okm I i n K) x_vm (x_im I i n K p) tab p c ≤ 1000000 := by
  have h1 := (x_fd_min (ok := x_okm I i n K) (val := x_vm) (ini := x_im I i n K p) (p := p) (tab := tab) c).1
  have h2 : x_im I i n K p ≤ 1000000 := by
    unfold x_im
    split
    · exact Nat.le_refl _
    · exact Nat.zero_le _
  omega
theorem m_laysB (h : r_Roll I i r n) (hi : i < 8) (hK : K ≤ 20) (hH : x_H I H) : ∃ H2, fX13_laysBreaths 102 (nI i) (nI K) H (z_Rm mu) = some H2 ∧ (∀ b, b ≠ 134 → H2 b = H b) ∧ ∀ q, q ≤ n → H2 134 q = nI (x_f I i n K q) := by
  have n60 := h.1
  have c60 := x_c_le (I := I) (i := i) n
  have tb : ∀ d q, d ≤ n + 1 → n + 1 ≤ q + d → q ≤ n → x_tab n (x_im I i n K) (x_okm I i n K) x_vm d q ≤ 1000000 := by
    intro d
    induction d with
    | zero => intro q h1 h2 h3; omega
    | succ d ih =>
      intro q h1 h2 h3
      show x_up (x_tab n (x_im I i n K) (x_okm I i n K) x_vm d) (n - d) (x_fd (x_okm I i n K) x_vm (x_im I i n K (n - d)) (x_tab n (x_im I i n K) (x_okm I i n K) x_vm d) (n - d) d) q ≤ 1000000
      by_cases c : q = n - d
      · rw [c, x_up_at]
        exact x_f_le _ _ _
      · rw [x_up_o c]
        exact ih q (by omega) (by omega) h3
  have ok134 : ∀ q, q ≤ n → z_ok 1 134 (nI q) := fun q hq => n_ok (n := 61) rfl (by omega) (by decide)
  obtain ⟨H2, e1, e2, e3⟩ := lp_inv (body := fX13_laysBreaths_b7 102 (nI i) (nI K) (z_Rm mu)) (fun d q => q.1 = nI (n + 1 - d) - 1 ∧ (∀ b, b ≠ 134 → q.2 b = H b) ∧ ∀ t, n + 1 - d ≤ t → t ≤ n → q.2 134 t = nI (x_tab n (x_im I i n K) (x_okm I i n K) x_vm d t)) (fun H2 => (∀ b, b ≠ 134 → H2 b = H b) ∧ ∀ q, q ≤ n → H2 134 q = nI (x_f I i n K q)) (n := n + 1) (fun d q hd hp => by
    obtain ⟨p0, G⟩ := q
    obtain ⟨p1, p2, p3⟩ := hp
    dsimp only at p1 p2 p3
    subst p1
    have s1 : nI (n + 1 - d) - (1 : Int32) = nI (n - d) := by
      rw [show n - d = n + 1 - d - 1 by omega]
      exact n_sub (b := 1) (by omega)
    have hG : x_H I G := ⟨by rw [p2 106 (by decide)]; exact hH.1, by rw [p2 109 (by decide)]; exact hH.2.1, by rw [p2 110 (by decide)]; exact hH.2.2⟩
    have g110 : G 110 i = nI n := by rw [p2 110 (by decide), hH.2.2]; exact h.2.2.1
    have et : ∀ t, x_tab n (x_im I i n K) (x_okm I i n K) x_vm (d + 1) t = x_up (x_tab n (x_im I i n K) (x_okm I i n K) x_vm d) (n - d) (x_fd (x_okm I i n K) x_vm (x_im I i n K (n - d)) (x_tab n (x_im I i n K) (x_okm I i n K) x_vm d) (n - d) d) t := fun _ => rfl
    -- the inner loop
    obtain ⟨G2, g1, g2, g3⟩ := lp_inv (body := fX13_laysBreaths_b45 102 (nI i) (nI K) (nI (n - d)) (z_Rm mu)) (fun j q => q.1 = nI (n - d + 1 + j) ∧ (∀ b, b ≠ 134 → q.2 b = H b) ∧ q.2 134 (n - d) = nI (x_fd (x_okm I i n K) x_vm (x_im I i n K (n - d)) (x_tab n (x_im I i n K) (x_okm I i n K) x_vm d) (n - d) j) ∧ ∀ t, n - d < t → t ≤ n → q.2 134 t = nI (x_tab n (x_im I i n K) (x_okm I i n K) x_vm d t)) (fun G2 => (∀ b, b ≠ 134 → G2 b = H b) ∧ ∀ t, n - d ≤ t → t ≤ n → G2 134 t = nI (x_tab n (x_im I i n K) (x_okm I i n K) x_vm (d + 1) t)) (n := d) (fun j q hj hq => by
      obtain ⟨p0, G⟩ := q
      obtain ⟨p1, q2, q3, q4⟩ := hq
      dsimp only at p1 q2 q3 q4
      subst p1
      have hG : x_H I G := ⟨by rw [q2 106 (by decide)]; exact hH.1, by rw [q2 109 (by decide)]; exact hH.2.1, by rw [q2 110 (by decide)]; exact hH.2.2⟩
      have g110 : G 110 i = nI n := by rw [q2 110 (by decide), hH.2.2]; exact h.2.2.1
      have s2 : nI (n - d + 1 + j) - (1 : Int32) = nI (n - d + j) := by
        rw [show n - d + j = n - d + 1 + j - 1 by omega]
        exact n_sub (b := 1) (by omega)
      have en := m_ends (mu := mu) h hi hG (show n - d + j < n by omega)
      have su := m_sung (mu := mu) h hi hG (show n - d ≤ n - d + 1 + j by omega) (show n - d + 1 + j ≤ n by omega)
      have cc := x_c_le (I := I) (i := i) (n - d + 1 + j)
      have ef : x_fd (x_okm I i n K) x_vm (x_im I i n K (n - d)) (x_tab n (x_im I i n K) (x_okm I i n K) x_vm d) (n - d) (j + 1) = if x_okm I i n K (n - d) (n - d + 1 + j) = true then min (x_fd (x_okm I i n K) x_vm (x_im I i n K (n - d)) (x_tab n (x_im I i n K) (x_okm I i n K) x_vm d) (n - d) j) (x_vm (x_tab n (x_im I i n K) (x_okm I i n K) x_vm d) (n - d + 1 + j)) else x_fd (x_okm I i n K) x_vm (x_im I i n K (n - d)) (x_tab n (x_im I i n K) (x_okm I i n K) x_vm d) (n - d) j := rfl
      have eo : x_okm I i n K (n - d) (n - d + 1 + j) = (((b_v I i (n - d + j) != 0) && (decide (n - d + j + 1 = n) || (b_g I i (n - d + j + 1) == 1))) && decide (x_c I i (n - d + 1 + j) - x_c I i (n - d) ≤ K)) := by
        unfold x_okm
        rw [show n - d + 1 + j - 1 = n - d + j by omega, show n - d + 1 + j = n - d + j + 1 by omega]
      have b1 := x_f_le (I := I) (i := i) (n := n) (K := K) (x_tab n (x_im I i n K) (x_okm I i n K) x_vm d) j (n - d)
      have b2 := tb d (n - d + 1 + j) (by omega) (by omega) (by omega)
      rw [ef]
      have hb : fX13_laysBreaths_b45 102 (nI i) (nI K) (nI (n - d)) (z_Rm mu) (nI (n - d + 1 + j), G) = _ := rfl
      conv at hb =>
        rhs
        unfold fX13_laysBreaths_b45
      dsimp only at hb
      rw [show z_Rm mu 102 9 = 110 from rfl, show z_Rm mu 102 56 = 134 from rfl, z_g_t (k_110 hi), nI_clamp (show i < 2 ^ 31 by omega), g110, if_neg (nI_nlt (show n - d + 1 + j ≤ n by omega) (by omega)), s2, en, z_b_s, su, z_b_s, n_s1, z_g_t (ok134 _ (show n - d ≤ n by omega)), z_g_t (ok134 _ (show n - d + 1 + j ≤ n by omega)), nI_clamp (show n - d < 2 ^ 31 by omega), nI_clamp (show n - d + 1 + j < 2 ^ 31 by omega), q3, q4 (n - d + 1 + j) (by omega) (by omega), n_s1, (n_mn (show x_fd (x_okm I i n K) x_vm (x_im I i n K (n - d)) (x_tab n (x_im I i n K) (x_okm I i n K) x_vm d) (n - d) j < 2 ^ 31 by omega) (show x_tab n (x_im I i n K) (x_okm I i n K) x_vm d (n - d + 1 + j) + 1 < 2 ^ 31 by omega)).2, z_b_s] at hb
      simp only [z_l_s] at hb
      by_cases ce : ((b_v I i (n - d + j) != 0) && (decide (n - d + j + 1 = n) || (b_g I i (n - d + j + 1) == 1))) = true
      · rw [if_pos ce, if_neg (by decide)] at hb
        by_cases cs : x_c I i (n - d + 1 + j) - x_c I i (n - d) ≤ K
        · rw [if_pos (nI_le cs (by omega))] at hb
          rw [eo, ce, if_pos (by simpa using cs)]
          refine ⟨_, hb, rfl, fun b hb2 => ?_, ?_, fun t h1 h2 => ?_⟩
          · dsimp only
            rw [u_o hb2]
            exact q2 b hb2
          · dsimp only
            rw [z_u_at]
            rfl
          · dsimp only
            rw [z_u_k (by omega)]
            exact q4 t h1 h2
        · rw [if_neg (nI_ge (by omega) (by omega))] at hb
          rw [eo, if_neg (by simp; omega)]
          exact ⟨_, hb, rfl, q2, q3, q4⟩
      · rw [if_neg ce, if_pos rfl] at hb
        have ce' : ((b_v I i (n - d + j) != 0) && (decide (n - d + j + 1 = n) || (b_g I i (n - d + j + 1) == 1))) = false := by simpa using ce
        rw [eo, ce', if_neg (by simp)]
        exact ⟨_, hb, rfl, q2, q3, q4⟩) (fun q hq => by
      obtain ⟨p0, G⟩ := q
      obtain ⟨p1, q2, q3, q4⟩ := hq
      dsimp only at p1 q2 q3 q4
      subst p1
      have g110 : G 110 i = nI n := by rw [q2 110 (by decide), hH.2.2]; exact h.2.2.1
      refine ⟨G, ?_, q2, fun t h1 h2 => ?_⟩
      · unfold fX13_laysBreaths_b45
        dsimp only
        rw [show z_Rm mu 102 9 = 110 from rfl, z_g_t (k_110 hi), nI_clamp (show i < 2 ^ 31 by omega), g110, if_pos (nI_lt (show n < n - d + 1 + d by omega) (by omega))]
      · rw [et]
        by_cases c : t = n - d
        · rw [c, x_up_at]
          exact q3
        · rw [x_up_o c]
          exact q4 t (by omega) h2) 300 (nI (n - d + 1), z_u G 134 (n - d) (nI (x_im I i n K (n - d)))) (by omega) ⟨rfl, fun b hb => by dsimp only; rw [u_o hb]; exact p2 b hb, by dsimp only; rw [z_u_at]; rfl, fun t h1 h2 => by dsimp only; rw [z_u_k (by omega)]; exact p3 t (by omega) h2⟩
    have su := m_sung (mu := mu) h hi hG (show n - d ≤ n by omega) (Nat.le_refl n)
    have hb : fX13_laysBreaths_b7 102 (nI i) (nI K) (z_Rm mu) (nI (n + 1 - d) - 1, G) = some (.inl (nI (n + 1 - (d + 1)) - 1, G2)) := by
      unfold fX13_laysBreaths_b7
      dsimp only
      rw [s1, if_neg (nI_pos (by omega)), show z_Rm mu 102 9 = 110 from rfl, show z_Rm mu 102 56 = 134 from rfl, z_g_t (k_110 hi), nI_clamp (show i < 2 ^ 31 by omega), g110, su, z_b_s]
      have fin : ∀ v, v = nI (x_im I i n K (n - d)) → fX13_laysBreaths_j39_7 102 (nI i) (nI K) (nI (n - d)) 134 (nI (n - d)) v G (z_Rm mu) = some (.inl (nI (n + 1 - (d + 1)) - 1, G2)) := by
        intro v hv
        unfold fX13_laysBreaths_j39_7
        rw [z_g_t (ok134 _ (show n - d ≤ n by omega)), nI_clamp (show n - d < 2 ^ 31 by omega), hv, z_l_s, z_l_s, n_s1, g1, z_b_s, z_l_s, show n + 1 - (d + 1) = n - d by omega, Int32.sub_eq_add_neg]
      by_cases ck : K < x_c I i n - x_c I i (n - d)
      · rw [if_pos (nI_lt ck (by omega))]
        exact fin _ (by unfold x_im; rw [if_pos ck]; rfl)
      · rw [if_neg (nI_nlt (by omega) (by omega))]
        exact fin _ (by unfold x_im; rw [if_neg ck]; rfl)
    exact ⟨_, hb, rfl, g2, fun t h1 h2 => g3 t (by omega) h2⟩) (fun q hp => by
    obtain ⟨p0, G⟩ := q
    obtain ⟨p1, p2, p3⟩ := hp
    dsimp only at p1 p2 p3
    subst p1
    refine ⟨G, ?_, p2, fun q hq => p3 q (by omega) hq⟩
    unfold fX13_laysBreaths_b7
    dsimp only
    rw [Nat.sub_self, if_pos (show nI 0 - 1 < 0 by decide)]) 300 (nI n, H) (by omega) ⟨by dsimp only; rw [Nat.sub_zero, nI_pred], fun _ _ => rfl, fun t h1 h2 => by omega⟩
  refine ⟨H2, ?_, e2, e3⟩
  unfold fX13_laysBreaths
  rw [z_g_t m_ob, show z_Rm mu 102 9 = 110 from rfl, z_g_t (k_110 hi), nI_clamp (show i < 2 ^ 31 by omega), hH.2.2, h.2.2.1, z_l_s, e1, z_b_s]
end XN
