/-! leads, groups -/
/-- i hears j, both told -/
def g_e (I : z_He) (i j : Nat) : Bool := (j != i) && (I 103 i == 1) && h_r I i j
/-- who comes to hear whom by others below m -/
def g_W (e : Nat → Nat → Bool) : Nat → Nat → Nat → Bool
  | 0 => e
  | m + 1 => fun i k => g_W e m i k || (g_W e m i m && g_W e m m k)
theorem g_W_m {e : Nat → Nat → Bool} {m k : Nat} : g_W e (m + 1) m k = g_W e m m k := by
  show (g_W e m m k || (g_W e m m m && g_W e m m k)) = g_W e m m k
  cases g_W e m m k <;> cases g_W e m m m <;> rfl
theorem g_W_c {e : Nat → Nat → Bool} : ∀ m b i k, b < m → g_W e m i b = true → g_W e m b k = true → g_W e m i k = true
  | 0, b, _, _, h, _, _ => absurd h (Nat.not_lt_zero b)
  | m + 1, b, i, k, h, h1, h2 => by
    have ih := fun b i k h h1 h2 => g_W_c (e := e) m b i k h h1 h2
    have u : ∀ i k, g_W e (m + 1) i k = (g_W e m i k || (g_W e m i m && g_W e m m k)) := fun _ _ => rfl
    rw [u] at h1 h2 ⊢
    simp only [Bool.or_eq_true, Bool.and_eq_true] at h1 h2 ⊢
    by_cases c : b = m
    · subst c
      have a1 : g_W e b i b = true := by rcases h1 with q | q; exact q; exact q.1
      have a2 : g_W e b b k = true := by rcases h2 with q | q; exact q; exact q.2
      exact Or.inr ⟨a1, a2⟩
    · have hb : b < m := by omega
      rcases h1 with q1 | ⟨q1, q1'⟩
      · rcases h2 with q2 | ⟨q2, q2'⟩
        · exact Or.inl (ih b i k hb q1 q2)
        · exact Or.inr ⟨ih b i m hb q1 q2, q2'⟩
      · rcases h2 with q2 | ⟨q2, q2'⟩
        · exact Or.inr ⟨q1, ih b m k hb q1' q2⟩
        · exact Or.inr ⟨q1, q2'⟩
theorem g_W_0 {e : Nat → Nat → Bool} : ∀ m i k, e i k = true → g_W e m i k = true
  | 0, _, _, h => h
  | m + 1, i, k, h => by
    show (g_W e m i k || (g_W e m i m && g_W e m m k)) = true
    rw [g_W_0 m i k h]
    rfl
theorem g_W_s {e : Nat → Nat → Bool} {P : Nat → Nat → Prop} (h0 : ∀ i k, e i k = true → P i k) (ht : ∀ i b k, P i b → P b k → P i k) : ∀ m i k, g_W e m i k = true → P i k
  | 0, i, k, h => h0 i k h
  | m + 1, i, k, h => by
    have u : g_W e (m + 1) i k = (g_W e m i k || (g_W e m i m && g_W e m m k)) := rfl
    rw [u] at h
    simp only [Bool.or_eq_true, Bool.and_eq_true] at h
    rcases h with q | ⟨q1, q2⟩
    · exact g_W_s h0 ht m i k q
    · exact ht i m k (g_W_s h0 ht m i m q1) (g_W_s h0 ht m m k q2)
/-! the class listens -/
def g_J (I J : z_He) (Wm : Nat → Nat → Bool) : Prop := (∀ b, b ≠ 92 → b ≠ 93 → J b = I b) ∧ J 92 1 = nI (n_set (fun i => I 103 i == 1) 8) ∧ ∀ i, i < 8 → J 93 i = nI (n_set (Wm i) 8)
theorem c_listen {I : z_He} {mu len : Nat → Nat} (h : RelL I mu len) : ∃ J, fX1_listen 92 62 (I 3 4) I (z_Rm mu) = some J ∧ g_J I J (g_W (g_e I) 8) := by
  have hC : I 3 4 = I 102 3 := by
    obtain ⟨⟨n, -, q1, q2⟩, -⟩ := h.2.2.2.1
    rw [q1, q2]
  have ok : ∀ k, k < 8 → z_ok 1 93 (nI k) := fun k hk => n_ok (n := 8) rfl hk (by decide)
  have tb := (t_bits h).trans m_toldSet
  obtain ⟨J1, e1, e2⟩ := lp_inv (body := fX1_listen_b10 92 62 (I 3 4) (z_Rm mu)) (fun k s => s.1 = nI k ∧ (∀ b, b ≠ 92 → b ≠ 93 → s.2 b = I b) ∧ s.2 92 1 = nI (n_set (fun i => I 103 i == 1) 8) ∧ ∀ i, i < k → s.2 93 i = nI (n_set (g_e I i) 8)) (fun J => g_J I J (g_e I)) (n := 8) (fun k s hk hp => by
    obtain ⟨p, J⟩ := s
    obtain ⟨p1, p2, p3, p4⟩ := hp
    dsimp only at p1 p2 p3 p4
    subst p1
    have w1 : r_W J 62 103 := f_W h.1 (fun i hi => p2 _ (by omega) (by omega)) (p2 _ (by decide) (by decide)) (by rw [p2 62 (by decide) (by decide)]) (by rw [p2 62 (by decide) (by decide)])
    have v1 : r_V J 103 len := f_V h.2.1 (p2 _ (by decide) (by decide))
    have hr : ∀ i j, h_r J i j = h_r I i j := fun i j => by
      unfold h_r
      rw [p2 103 (by decide) (by decide), p2 102 (by decide) (by decide)]
    have t0 : J (62 + 2 + k) 0 = I 103 k := by
      rw [p2 _ (by omega) (by omega), h.1.1 0 k (by decide) hk, show 8 * 0 + k = k by omega]
    have hh : fX9_heardBits 62 (nI k) (I 3 4) J (z_Rm mu) = some (nI (n_set (fun j => (j != k) && h_r I k j) 8)) := by
      have e4 : I 3 4 = J 3 4 := by rw [p2 3 (by decide) (by decide)]
      rw [e4, c_heard c62 w1 v1 (by rw [p2 3 (by decide) (by decide), p2 102 (by decide) (by decide)]; exact hC) hk]
      congr 2
      apply n_set_congr
      intro j hj
      rw [hr]
    have fin : ∀ v, v = nI (n_set (g_e I k) 8) → ∃ s', fX1_listen_j39_10 92 62 (I 3 4) (nI k) 93 (nI k) v J (z_Rm mu) = some (.inl s') ∧ s'.1 = nI (k + 1) ∧ (∀ b, b ≠ 92 → b ≠ 93 → s'.2 b = I b) ∧ s'.2 92 1 = nI (n_set (fun i => I 103 i == 1) 8) ∧ ∀ i, i < k + 1 → s'.2 93 i = nI (n_set (g_e I i) 8) := by
      intro v hv
      unfold fX1_listen_j39_10
      rw [z_g_t (ok k hk), nI_clamp (show k < 2 ^ 31 by omega), z_l_s, z_l_s, n_s1]
      refine ⟨_, rfl, rfl, fun b h1 h2 => by dsimp only; rw [u_o h2]; exact p2 b h1 h2, by dsimp only; rw [u_o (by decide)]; exact p3, fun i hi => ?_⟩
      dsimp only
      by_cases c : i = k
      · subst c; rw [z_u_at, hv]
      · rw [z_u_k c]; exact p4 i (by omega)
    unfold fX1_listen_b10
    dsimp only
    rw [if_neg (n_8 hk), c_told c62 hk, z_b_s, hh, z_b_s, t0, show z_Rm mu 92 0 = 93 from rfl]
    unfold n_b
    rcases (h.2.1.1 k hk).1 with q | q
    · rw [q, if_pos rfl, if_pos rfl]
      refine fin 0 ?_
      have : n_set (g_e I k) 8 = n_set (fun _ => false) 8 := n_set_congr (fun j hj => by unfold g_e; rw [q]; simp)
      rw [this]
      decide
    · rw [q, if_neg (by decide)]
      exact fin _ (by rw [← heard_told q]; rfl)) (fun s hp => by
    obtain ⟨p, J⟩ := s
    obtain ⟨p1, p2, p3, p4⟩ := hp
    dsimp only at p1 p2 p3 p4
    subst p1
    refine ⟨J, ?_, p2, p3, p4⟩
    unfold fX1_listen_b10
    dsimp only
    rw [if_pos n_88]) 300 ((0 : Int32), z_u I 92 1 (nI (n_set (fun i => I 103 i == 1) 8))) (by decide) ⟨rfl, fun b h1 h2 => u_o h1, by dsimp only; rw [z_u_at], fun i hi => absurd hi (Nat.not_lt_zero i)⟩
  obtain ⟨J2, f1, f2⟩ := lp_inv (body := fX1_listen_b48 92 62 (z_Rm mu)) (fun m s => s.1 = nI m ∧ g_J I s.2 (g_W (g_e I) m)) (fun J => g_J I J (g_W (g_e I) 8)) (n := 8) (fun m s hm hp => by
    obtain ⟨p, J⟩ := s
    obtain ⟨p1, p2⟩ := hp
    dsimp only at p1 p2
    subst p1
    obtain ⟨K, g1, g2⟩ := lp_inv (body := fX1_listen_b57 92 62 (nI m) (z_Rm mu)) (fun k s => s.1 = nI k ∧ (∀ b, b ≠ 92 → b ≠ 93 → s.2 b = I b) ∧ s.2 92 1 = nI (n_set (fun i => I 103 i == 1) 8) ∧ ∀ i, i < 8 → s.2 93 i = nI (n_set (g_W (g_e I) (if i < k then m + 1 else m) i) 8)) (fun J => g_J I J (g_W (g_e I) (m + 1))) (n := 8) (fun k s hk hp => by
      obtain ⟨p, J⟩ := s
      obtain ⟨p1, q2, q3, q4⟩ := hp
      dsimp only at p1 q2 q3 q4
      subst p1
      have rk : J 93 k = nI (n_set (g_W (g_e I) m k) 8) := by
        rw [q4 k hk, if_neg (by omega)]
      have rm : J 93 m = nI (n_set (g_W (g_e I) m m) 8) := by
        rw [q4 m hm]
        by_cases c : m < k
        · rw [if_pos c]
          congr 1
          exact n_set_congr (fun j hj => g_W_m)
        · rw [if_neg c]
      have u : ∀ j, g_W (g_e I) (m + 1) k j = (g_W (g_e I) m k j || (g_W (g_e I) m k m && g_W (g_e I) m m j)) := fun _ => rfl
      have hb : fX1_listen_b57 92 62 (nI m) (z_Rm mu) (nI k, J) = _ := rfl
      conv at hb =>
        rhs
        unfold fX1_listen_b57
      dsimp only at hb
      rw [if_neg (n_8 hk), show z_Rm mu 92 0 = 93 from rfl, z_g_t (ok k hk)] at hb
      simp only [nI_clamp (show k < 2 ^ 31 by omega), nI_clamp (show m < 2 ^ 31 by omega), z_g_t (ok m hm), rk, rm, n_setk hm, z_l_s, n_s1, n_set_or] at hb
      by_cases c : g_W (g_e I) m k m = true
      · rw [if_pos c, if_neg (by decide)] at hb
        refine ⟨_, hb, rfl, fun b h1 h2 => by dsimp only; rw [u_o h2]; exact q2 b h1 h2, by dsimp only; rw [u_o (by decide)]; exact q3, fun i hi => ?_⟩
        dsimp only
        by_cases ci : i = k
        · subst ci
          rw [z_u_at, if_pos (by omega)]
          congr 1
          apply n_set_congr
          intro j hj
          rw [u, c, Bool.true_and]
        · rw [z_u_k ci, q4 i hi]
          by_cases cik : i < k
          · rw [if_pos cik, if_pos (by omega)]
          · rw [if_neg cik, if_neg (by omega)]
      · rw [if_neg c, if_pos rfl] at hb
        refine ⟨_, hb, rfl, q2, q3, fun i hi => ?_⟩
        dsimp only
        rw [q4 i hi]
        by_cases ci : i = k
        · subst ci
          rw [if_neg (by omega), if_pos (by omega)]
          congr 1
          apply n_set_congr
          intro j hj
          have c' : g_W (g_e I) m i m = false := by simpa using c
          rw [u, c', Bool.false_and, Bool.or_false]
        · by_cases cik : i < k
          · rw [if_pos cik, if_pos (by omega)]
          · rw [if_neg cik, if_neg (by omega)]) (fun s hp => by
      obtain ⟨p, J⟩ := s
      obtain ⟨p1, q2, q3, q4⟩ := hp
      dsimp only at p1 q2 q3 q4
      subst p1
      refine ⟨J, ?_, q2, q3, fun i hi => by rw [q4 i hi, if_pos hi]⟩
      unfold fX1_listen_b57
      dsimp only
      rw [if_pos n_88]) 300 ((0 : Int32), J) (by decide) ⟨rfl, p2.1, p2.2.1, fun i hi => by dsimp only; rw [if_neg (Nat.not_lt_zero i)]; exact p2.2.2 i hi⟩
    refine ⟨(nI (m + 1), K), ?_, rfl, g2⟩
    unfold fX1_listen_b48
    dsimp only
    rw [if_neg (n_8 hm), g1, z_b_s, z_l_s, n_s1]) (fun s hp => by
    obtain ⟨p, J⟩ := s
    obtain ⟨p1, p2⟩ := hp
    dsimp only at p1 p2
    subst p1
    refine ⟨J, ?_, p2⟩
    unfold fX1_listen_b48
    dsimp only
    rw [if_pos n_88]) 300 ((0 : Int32), J1) (by decide) ⟨rfl, e2⟩
  refine ⟨J2, ?_, f2⟩
  unfold fX1_listen
  rw [z_g_t (show z_ob 92 1 from rfl), z_g_t o_62, tb, z_b_s, z_l_s, e1, z_b_s, f1, z_b_s]
theorem c_follow {I J : z_He} {mu : Nat → Nat} {Wm : Nat → Nat → Bool} {i : Nat} (h : g_J I J Wm) (hi : i < 8) : fX1_followersOf 92 (nI i) J (z_Rm mu) = some (nI (n_set (fun j => (j != i) && Wm j i) 8)) := by
  unfold fX1_followersOf
  rw [z_g_t (show z_ob 92 1 from rfl)]
  refine (z_lp_b 8 (nI (n_set (fun j => (j != i) && Wm j i) 8)) (fun k => (nI (n_set (fun j => (j != i) && Wm j i) k), nI k)) rfl ?_ ?_ (by decide)).trans rfl
  · intro k hk
    unfold fX1_followersOf_b4
    dsimp only
    rw [if_neg (n_8 hk), show z_Rm mu 92 0 = 93 from rfl, z_g_t (n_ok (n := 8) (show z_len 1 93 = 8 from rfl) hk (by decide)), nI_clamp (show k < 2 ^ 31 by omega), h.2.2 k hk, n_setk hi]
    simp only [z_l_s, n_s1, n_shl (show k < 31 by omega), n_or]
    show _ = some (Sum.inl (nI (if ((k != i) && Wm k i) = true then _ else _), _))
    by_cases c : k = i
    · subst c
      rw [if_pos rfl]
      simp
    · rw [if_neg (n_ne (by omega) (by omega) c)]
      by_cases c2 : Wm k i = true
      · rw [if_pos c2, if_neg (by decide)]
        simp [c, c2]
      · rw [if_neg c2, if_pos rfl]
        simp [c2]
  · unfold fX1_followersOf_b4
    dsimp only
    rw [if_pos n_88]
theorem c_group {I J : z_He} {mu : Nat → Nat} {Wm : Nat → Nat → Bool} {i : Nat} (h : g_J I J Wm) (hi : i < 8) : fX1_groupOf 92 (nI i) J (z_Rm mu) = some (nI (n_set (fun j => ((((j != i) && Wm j i) && Wm i j) || (j == i)) && (I 103 j == 1)) 8)) := by
  unfold fX1_groupOf
  rw [z_g_t (show z_ob 92 1 from rfl), fX12_isSinger_eq, z_b_s, n_in7' hi, if_neg (by decide), c_follow h hi, z_b_s, show z_Rm mu 92 0 = 93 from rfl, z_g_t (n_ok (n := 8) (show z_len 1 93 = 8 from rfl) hi (by decide)), nI_clamp (show i < 2 ^ 31 by omega), h.2.2 i hi, h.2.1, n_set_one hi, n_set_and, n_set_or, n_set_and]
/-! the model's followers -/
theorem n_cnt_mono {p q : Nat → Bool} : ∀ {n : Nat}, (∀ j, j < n → p j = true → q j = true) → n_cnt p n ≤ n_cnt q n ∧ ((∃ j, j < n ∧ q j = true ∧ p j = false) → n_cnt p n < n_cnt q n)
  | 0, _ => ⟨Nat.le_refl _, fun ⟨j, hj, _⟩ => absurd hj (Nat.not_lt_zero j)⟩
  | n + 1, h => by
    obtain ⟨h1, h2⟩ := n_cnt_mono (n := n) (fun j hj => h j (by omega))
    have hn := h n (by omega)
    unfold n_cnt
    constructor
    · by_cases c : p n = true
      · rw [if_pos c, if_pos (hn c)]; omega
      · rw [if_neg c]
        split <;> omega
    · rintro ⟨j, hj, q1, q2⟩
      by_cases c : j = n
      · subst c
        rw [if_pos q1, if_neg (by rw [q2]; decide)]
        omega
      · have := h2 ⟨j, by omega, q1, q2⟩
        by_cases c2 : p n = true
        · rw [if_pos c2, if_pos (hn c2)]; omega
        · rw [if_neg c2]
          split <;> omega
theorem m_follow {J : z_He} {mu len : Nat → Nat} {i : Nat} (hV : r_V J 103 len) (hi : i < 8) : ∃ F : Nat → Bool, fX13_followersOf 102 (nI i) J (z_Rm mu) = some (nI (n_set F 8)) ∧ F i = true ∧ (∀ j b, j < 8 → b < 8 → g_e J j b = true → F b = true → F j = true) ∧ ∀ P : Nat → Prop, P i → (∀ j b, j < 8 → b < 8 → g_e J j b = true → P b → P j) → ∀ j, j < 8 → F j = true → P j := by
  have inner : ∀ (G : Nat → Bool), z_lp (fX13_followersOf_b16 102 (nI (n_set G 8)) J (z_Rm mu)) 300 (nI (n_set G 8), (0 : Int32)) = some (nI (n_set (fun j => G j || n_any (fun k => g_e J j k && G k) 8) 8)) := by
    intro G
    have h0 : nI (n_set G 8) = nI (n_set (fun j => G j || (decide (j < 0) && n_any (fun k => g_e J j k && G k) 8)) 8) := congrArg nI (n_set_congr (fun j hj => by simp))
    have h8 : nI (n_set (fun j => G j || n_any (fun k => g_e J j k && G k) 8) 8) = nI (n_set (fun j => G j || (decide (j < 8) && n_any (fun k => g_e J j k && G k) 8)) 8) := congrArg nI (n_set_congr (fun j hj => by simp [hj]))
    have ep : (nI (n_set G 8), (0 : Int32)) = (nI (n_set (fun j => G j || (decide (j < 0) && n_any (fun k => g_e J j k && G k) 8)) 8), nI 0) := by
      rw [← h0]
      rfl
    have lp := z_lp_tr (body := fX13_followersOf_b16 102 (nI (n_set G 8)) J (z_Rm mu)) (fun k => (nI (n_set (fun j => G j || (decide (j < k) && n_any (fun k => g_e J j k && G k) 8)) 8), nI k)) (n := 8) (x := nI (n_set (fun j => G j || (decide (j < 8) && n_any (fun k => g_e J j k && G k) 8)) 8)) (fun k hk => ?_) ?_ 300 (by decide)
    · rw [ep, h8]
      exact lp
    · have hh : fX13_heardBy 102 (nI k) J (z_Rm mu) = some (nI (n_set (g_e J k) 8)) := m_heard hV hk
      unfold fX13_followersOf_b16
      dsimp only
      rw [if_neg (n_8 hk), hh, z_b_s, n_set_and, n_set_one hk, n_set_or]
      simp only [z_l_s, n_s1]
      by_cases c : n_any (fun q => g_e J k q && G q) 8 = true
      · have ne : ¬ nI (n_set (fun q => g_e J k q && G q) 8) = 0 := by
          intro q
          obtain ⟨t, ht, e⟩ := n_any_iff.mp c
          rw [n_set_0.mp q t ht] at e
          cases e
        rw [if_neg ne]
        congr 4
        apply n_set_congr
        intro j hj
        by_cases cj : j = k
        · subst cj
          simp [c]
        · have : (decide (j < k + 1)) = decide (j < k) := by
            by_cases q : j < k
            · simp [q]; omega
            · simp [q]; omega
          rw [this]
          simp [cj]
      · have ze : nI (n_set (fun q => g_e J k q && G q) 8) = 0 := n_set_0.mpr (fun t ht => by
          by_cases e : (g_e J k t && G t) = true
          · exact absurd (n_any_iff.mpr ⟨t, ht, e⟩) c
          · simpa using e)
        rw [if_pos ze]
        congr 4
        apply n_set_congr
        intro j hj
        by_cases cj : j = k
        · subst cj
          have c' : n_any (fun q => g_e J j q && G q) 8 = false := by simpa using c
          simp [c']
        · have : (decide (j < k + 1)) = decide (j < k) := by
            by_cases q : j < k
            · simp [q]; omega
            · simp [q]; omega
          rw [this]
    · unfold fX13_followersOf_b16
      dsimp only
      rw [if_pos n_88]
  have key : ∀ (d : Nat) (G H : Nat → Bool) (N : Nat), 8 ≤ n_cnt G 8 + d → d + 2 < N → ¬ nI (n_set G 8) = nI (n_set H 8) → G i = true → (∀ P : Nat → Prop, P i → (∀ j b, j < 8 → b < 8 → g_e J j b = true → P b → P j) → ∀ j, j < 8 → G j = true → P j) → ∃ F : Nat → Bool, z_lp (fX13_followersOf_b6 102 J (z_Rm mu)) N (nI (n_set G 8), nI (n_set H 8)) = some (nI (n_set F 8)) ∧ F i = true ∧ (∀ j b, j < 8 → b < 8 → g_e J j b = true → F b = true → F j = true) ∧ ∀ P : Nat → Prop, P i → (∀ j b, j < 8 → b < 8 → g_e J j b = true → P b → P j) → ∀ j, j < 8 → F j = true → P j := by
    intro d
    induction d with
    | zero =>
      intro G H N hc hN hne hGi hmin
      obtain ⟨N, rfl⟩ : ∃ q, N = q + 2 := ⟨N - 2, by omega⟩
      have same : ∀ j, j < 8 → (G j || n_any (fun k => g_e J j k && G k) 8) = G j := by
        intro j hj
        by_cases cj : G j = true
        · simp [cj]
        · have m := (n_cnt_mono (p := G) (q := fun _ => true) (n := 8) (fun _ _ _ => rfl)).2 ⟨j, hj, rfl, by simpa using cj⟩
          have : n_cnt (fun _ => true) 8 = 8 := by decide
          omega
      refine ⟨G, ?_, hGi, fun j b hj hb e1 e2 => ?_, hmin⟩
      · unfold z_lp fX13_followersOf_b6
        dsimp only
        rw [if_neg hne, inner G, z_b_s, n_set_congr same]
        dsimp only
        unfold z_lp
        dsimp only
        rw [if_pos rfl]
      · have := same j hj
        rw [← this]
        rw [n_any_iff.mpr ⟨b, hb, by rw [e1, e2]; rfl⟩]
        simp
    | succ d ih =>
      intro G H N hc hN hne hGi hmin
      by_cases sm : ∀ j, j < 8 → (G j || n_any (fun k => g_e J j k && G k) 8) = G j
      · obtain ⟨N, rfl⟩ : ∃ q, N = q + 2 := ⟨N - 2, by omega⟩
        refine ⟨G, ?_, hGi, fun j b hj hb e1 e2 => ?_, hmin⟩
        · unfold z_lp fX13_followersOf_b6
          dsimp only
          rw [if_neg hne, inner G, z_b_s, n_set_congr sm]
          dsimp only
          unfold z_lp
          dsimp only
          rw [if_pos rfl]
        · have := sm j hj
          rw [← this]
          rw [n_any_iff.mpr ⟨b, hb, by rw [e1, e2]; rfl⟩]
          simp
      · obtain ⟨N, rfl⟩ : ∃ q, N = q + 1 := ⟨N - 1, by omega⟩
        have hex : ∃ j, j < 8 ∧ (G j || n_any (fun k => g_e J j k && G k) 8) = true ∧ G j = false := by
          apply Classical.byContradiction
          intro hno
          apply sm
          intro j hj
          by_cases cj : G j = true
          · simp [cj]
          · have cj' : G j = false := by simpa using cj
            by_cases cz : (G j || n_any (fun k => g_e J j k && G k) 8) = true
            · exact absurd ⟨j, hj, cz, cj'⟩ hno
            · rw [cj']
              have cz' : (G j || n_any (fun k => g_e J j k && G k) 8) = false := by simpa using cz
              rw [cj'] at cz'
              exact cz'
        have lt := (n_cnt_mono (p := G) (q := fun j => G j || n_any (fun k => g_e J j k && G k) 8) (n := 8) (fun j hj e => by simp [e])).2 hex
        have ne2 : ¬ nI (n_set (fun j => G j || n_any (fun k => g_e J j k && G k) 8) 8) = nI (n_set G 8) := fun q => by
          obtain ⟨j, hj, a1, a2⟩ := hex
          have := n_set_inj.mp q j hj
          rw [a1, a2] at this
          cases this
        obtain ⟨F, k1, k2⟩ := ih (fun j => G j || n_any (fun k => g_e J j k && G k) 8) G N (by omega) (by omega) ne2 (by simp [hGi]) (fun P p1 p2 j hj e => by
          rw [Bool.or_eq_true] at e
          rcases e with e | e
          · exact hmin P p1 p2 j hj e
          · obtain ⟨t, ht, e2⟩ := n_any_iff.mp e
            rw [Bool.and_eq_true] at e2
            exact p2 j t hj ht e2.1 (hmin P p1 p2 t ht e2.2))
        refine ⟨F, ?_, k2⟩
        unfold z_lp
        have hb : fX13_followersOf_b6 102 J (z_Rm mu) (nI (n_set G 8), nI (n_set H 8)) = some (.inl (nI (n_set (fun j => G j || n_any (fun k => g_e J j k && G k) 8) 8), nI (n_set G 8))) := by
          unfold fX13_followersOf_b6
          dsimp only
          rw [if_neg hne, inner G, z_b_s]
        rw [hb]
        exact k1
  have h0 : nI (n_set (fun _ => false) 8) = 0 := by decide
  obtain ⟨F, k1, k2⟩ := key 8 (fun k => k == i) (fun _ => false) 300 (by omega) (by decide) (fun q => by
    have := n_set_inj.mp q i hi
    simp at this) (by simp) (fun P p1 p2 j hj e => by
    have : j = i := by simpa using e
    rw [this]
    exact p1)
  refine ⟨F, ?_, k2⟩
  unfold fX13_followersOf
  rw [z_g_t m_ob, z_l_s, n_set_one hi, ← h0, k1, z_b_s]
/-- both sides agree on who comes to hear i -/
theorem g_both {J : z_He} {mu len : Nat → Nat} {i : Nat} (hV : r_V J 103 len) (hi : i < 8) : ∃ F : Nat → Bool, fX13_followersOf 102 (nI i) J (z_Rm mu) = some (nI (n_set F 8)) ∧ ∀ j, j < 8 → F j = ((j == i) || g_W (g_e J) 8 j i) := by
  obtain ⟨F, f1, f2, f3, f4⟩ := m_follow (mu := mu) hV hi
  have g8 : ∀ j b, g_e J j b = true → b < 8 ∨ ¬ b < 8 := fun _ _ _ => Nat.lt_or_ge _ _ |>.imp id Nat.not_lt.mpr
  refine ⟨F, f1, fun j hj => ?_⟩
  have a1 : F j = true → ((j == i) || g_W (g_e J) 8 j i) = true := by
    intro e
    refine f4 (fun j => ((j == i) || g_W (g_e J) 8 j i) = true) (by simp) (fun j b hj hb e1 e2 => ?_) j hj e
    have w1 := g_W_0 8 j b e1
    simp only [Bool.or_eq_true, beq_iff_eq] at e2 ⊢
    rcases e2 with rfl | e2
    · exact Or.inr w1
    · exact Or.inr (g_W_c 8 b j i hb w1 e2)
  have a2 : ((j == i) || g_W (g_e J) 8 j i) = true → F j = true := by
    intro e
    simp only [Bool.or_eq_true, beq_iff_eq] at e
    rcases e with rfl | e
    · exact f2
    · have := g_W_s (e := fun x y => g_e J x y && decide (x < 8) && decide (y < 8)) (P := fun x y => F y = true → F x = true) (fun x y exy hy => by
        simp only [Bool.and_eq_true, decide_eq_true_eq] at exy
        exact f3 x y exy.1.2 exy.2 exy.1.1 hy) (fun x b y p q hy => p (q hy)) 8 j i
      refine this ?_ f2
      have key : ∀ m, m ≤ 8 → ∀ x y, x < 8 → y < 8 → g_W (g_e J) m x y = g_W (fun x y => g_e J x y && decide (x < 8) && decide (y < 8)) m x y := by
        intro m
        induction m with
        | zero =>
          intro _ x y hx hy
          show g_e J x y = (g_e J x y && decide (x < 8) && decide (y < 8))
          simp [hx, hy]
        | succ m ih =>
          intro hm x y hx hy
          show (g_W (g_e J) m x y || (g_W (g_e J) m x m && g_W (g_e J) m m y)) = _
          rw [ih (by omega) x y hx hy, ih (by omega) x m hx (by omega), ih (by omega) m y (by omega) hy]
          rfl
      rw [← key 8 (Nat.le_refl 8) j i hj hi]
      exact e
  by_cases c : F j = true
  · rw [c, a1 c]
  · have c' : F j = false := by simpa using c
    rw [c']
    by_cases d : ((j == i) || g_W (g_e J) 8 j i) = true
    · exact absurd (a2 d) c
    · exact (by simpa using d : ((j == i) || g_W (g_e J) 8 j i) = false).symm
theorem g_e_eq {I J : z_He} (h1 : J 103 = I 103) (h2 : J 102 = I 102) : g_e J = g_e I := by
  funext i j
  unfold g_e h_r
  rw [h1, h2]
theorem rel_g {I J : z_He} {mu : Nat → Nat} {Wm : Nat → Nat → Bool} (h : Rel I mu) (hJ : g_J I J Wm) : Rel J mu := by
  have hP : r_P mu := by
    obtain ⟨len, q⟩ := h
    exact q.2.2.2.2.2.1
  refine rel_frame h (fun b k hk => ?_)
  have n1 : b ≠ 92 := by rintro rfl; exact k_no hP (by omega) hk
  have n2 : b ≠ 93 := by rintro rfl; exact k_no hP (by omega) hk
  rw [hJ.1 b n1 n2]
theorem call_leads : Call_leads := by
  intro x I mu h
  rcases t_both h x with ⟨e1, e2⟩ | ⟨i, hi, rfl, h0, e1, e2⟩
  · refine ⟨-1, I, ?_, ?_, h⟩
    · unfold fX12_leads
      rw [z_g_t o_0, r_05, z_g_t o_62, e1, z_b_s, if_pos rfl]
    · unfold fX13_leads
      rw [z_g_t m_ob, e2, z_b_s, if_pos rfl]
  have hR := h
  obtain ⟨len, h⟩ := h
  obtain ⟨J, j1, j2⟩ := c_listen h
  have jm : J 103 = I 103 := j2.1 103 (by decide) (by decide)
  have jo : J 102 = I 102 := j2.1 102 (by decide) (by decide)
  have hV : r_V J 103 len := f_V h.2.1 jm
  obtain ⟨F, f1, f2⟩ := g_both (mu := mu) hV hi
  rw [g_e_eq jm jo] at f2
  refine ⟨nI (n_set (fun j => (j != i) && g_W (g_e I) 8 j i) 8), J, ?_, ?_, rel_g hR j2⟩
  · unfold fX12_leads
    rw [z_g_t o_0, r_05, z_g_t o_62, e1, z_b_s, if_neg n_10.mp, r_01, z_g_t o_3, show z_Rm mu 0 9 = 92 from rfl, z_g_t (show z_ob 92 1 from rfl), j1, z_b_s, c_follow j2 hi, z_b_s]
  · unfold fX13_leads
    rw [z_g_t m_ob, m_told hi, jm, h0, if_pos rfl, z_b_s, if_neg n_10.mp, f1, z_b_s, n_set_one hi, n_set_andn]
    congr 2
    apply n_set_congr
    intro j hj
    show (F j && !(j == i)) = ((j != i) && g_W (g_e I) 8 j i)
    rw [f2 j hj]
    by_cases c : j = i
    · subst c; simp
    · have c2 : (j == i) = false := by simpa using c
      have c3 : (j != i) = true := by simpa using c
      rw [c2, c3]
      cases g_W (g_e I) 8 j i <;> rfl
/-- one's group -/
def g_G (I : z_He) (i j : Nat) : Bool := (I 103 i == 1) && (I 103 j == 1) && ((j == i) || (g_W (g_e I) 8 j i && g_W (g_e I) 8 i j))
theorem g_G_sym {I : z_He} {i j : Nat} : g_G I i j = g_G I j i := by
  unfold g_G
  by_cases c : j = i
  · subst c; rfl
  · have c2 : ¬ i = j := fun q => c q.symm
    have e1 : (j == i) = false := by simpa using c
    have e2 : (i == j) = false := by simpa using c2
    rw [e1, e2]
    cases (I 103 i == 1) <;> cases (I 103 j == 1) <;> cases g_W (g_e I) 8 j i <;> cases g_W (g_e I) 8 i j <;> rfl
theorem g_G_tr {I : z_He} {i j k : Nat} (hj : j < 8) (h1 : g_G I i j = true) (h2 : g_G I j k = true) : g_G I i k = true := by
  unfold g_G at h1 h2 ⊢
  simp only [Bool.and_eq_true, Bool.or_eq_true, beq_iff_eq] at h1 h2 ⊢
  obtain ⟨⟨a1, a2⟩, a3⟩ := h1
  obtain ⟨⟨b1, b2⟩, b3⟩ := h2
  refine ⟨⟨a1, b2⟩, ?_⟩
  rcases a3 with rfl | ⟨a3, a4⟩
  · exact b3
  · rcases b3 with rfl | ⟨b3, b4⟩
    · exact Or.inr ⟨a3, a4⟩
    · exact Or.inr ⟨g_W_c 8 j k i hj b3 a3, g_W_c 8 j i k hj a4 b4⟩
theorem c_groupG {I J : z_He} {mu : Nat → Nat} {i : Nat} (h : g_J I J (g_W (g_e I) 8)) (hi : i < 8) (h0 : I 103 i = 1) : fX1_groupOf 92 (nI i) J (z_Rm mu) = some (nI (n_set (g_G I i) 8)) := by
  rw [c_group h hi]
  congr 2
  apply n_set_congr
  intro j hj
  unfold g_G
  rw [h0]
  by_cases c : j = i
  · subst c; simp
  · have c2 : (j == i) = false := by simpa using c
    have c3 : (j != i) = true := by simpa using c
    rw [c2, c3]
    cases g_W (g_e I) 8 j i <;> cases g_W (g_e I) 8 i j <;> simp
theorem m_groupG {J : z_He} {mu len : Nat → Nat} {i : Nat} (hV : r_V J 103 len) (hi : i < 8) (h0 : J 103 i = 1) : fX13_groupOf 102 (nI i) J (z_Rm mu) = some (nI (n_set (g_G J i) 8)) := by
  obtain ⟨F, f1, f2⟩ := g_both (mu := mu) hV hi
  unfold fX13_groupOf
  rw [z_g_t m_ob]
  refine (z_lp_b 8 (nI (n_set (g_G J i) 8)) (fun k => (nI (n_set (g_G J i) k), nI k)) rfl ?_ ?_ (by decide)).trans rfl
  · intro k hk
    obtain ⟨H, k1, k2⟩ := g_both (mu := mu) hV hk
    unfold fX13_groupOf_b4
    dsimp only
    rw [if_neg (n_8 hk), m_told hk, z_b_s, f1, z_b_s, n_sethas hk, z_b_s, k1, z_b_s, n_sethas hi, z_b_s, f2 k hk, k2 i hi]
    simp only [z_l_s, n_s1, n_shl (show k < 31 by omega), n_or]
    show _ = some (Sum.inl (nI (if g_G J i k = true then _ else _), _))
    unfold g_G
    rw [h0]
    rcases (hV.1 k hk).1 with q | q
    · rw [q, if_neg (show ¬ (0 : Int32) = 1 by decide), if_pos rfl]
      simp
    · rw [q, if_pos rfl, if_neg (by decide)]
      by_cases c : k = i
      · subst c; simp
      · have c2 : ¬ i = k := fun z => c z.symm
        cases e1 : g_W (g_e J) 8 k i <;> cases e2 : g_W (g_e J) 8 i k <;> simp [c, c2]
  · unfold fX13_groupOf_b4
    dsimp only
    rw [if_pos n_88]
theorem t_loD_iff {p : Nat → Bool} : ∀ {n q : Nat}, t_loD p n = some q ↔ q < n ∧ p q = true ∧ ∀ j, j < q → p j = false
  | 0, q => by simp [t_loD]
  | n + 1, q => by
    unfold t_loD
    cases e : t_loD p n with
    | some r =>
      have h := t_loD_iff.mp e
      constructor
      · intro z
        cases z
        exact ⟨by omega, h.2.1, h.2.2⟩
      · rintro ⟨z1, z2, z3⟩
        have : r = q := by
          apply Classical.byContradiction
          intro ne
          rcases Nat.lt_or_gt_of_ne ne with l | l
          · rw [z3 r l] at h; cases h.2.1
          · rw [h.2.2 q l] at z2; cases z2
        subst this
        rfl
    | none =>
      have h := t_loD_none.mp e
      dsimp only
      by_cases c : p n = true
      · rw [if_pos c]
        constructor
        · intro z
          cases z
          exact ⟨by omega, c, fun j hj => h j hj⟩
        · rintro ⟨z1, z2, z3⟩
          by_cases qn : q = n
          · subst qn; rfl
          · rw [h q (by omega)] at z2; cases z2
      · rw [if_neg c]
        constructor
        · intro z; cases z
        · rintro ⟨z1, z2, z3⟩
          by_cases qn : q = n
          · subst qn; exact absurd z2 c
          · rw [h q (by omega)] at z2; cases z2
/-- i is the lowest of his group -/
def q_lo (I : z_He) (k : Nat) : Bool := (I 103 k == 1) && !(n_any (fun j => g_G I j k) k)
theorem call_groups : Call_groups := by
  intro x I mu h
  by_cases x100 : x = 100
  · have hR := h
    obtain ⟨len, h⟩ := h
    obtain ⟨J, j1, j2⟩ := c_listen h
    have jm : J 103 = I 103 := j2.1 103 (by decide) (by decide)
    have jo : J 102 = I 102 := j2.1 102 (by decide) (by decide)
    have hV : r_V J 103 len := f_V h.2.1 jm
    have eG : g_G J = g_G I := by
      funext i j
      unfold g_G
      rw [g_e_eq jm jo, jm]
    have refl : ∀ k, I 103 k = 1 → g_G I k k = true := fun k hk => by unfold g_G; rw [hk]; simp
    refine ⟨nI (n_cnt (q_lo I) 8), J, ?_, ?_, rel_g hR j2⟩
    · unfold fX12_groups fX12_groups_j19
      rw [z_g_t o_0, if_pos x100, r_01, z_g_t o_3, show z_Rm mu 0 9 = 92 from rfl, z_g_t (show z_ob 92 1 from rfl), r_05, j1, z_b_s, if_pos x100]
      refine (z_lp_b 8 (nI (n_cnt (q_lo I) 8)) (fun k => (nI (n_cnt (q_lo I) k), nI k)) rfl ?_ ?_ (by decide)).trans rfl
      · intro k hk
        have t0 : J (62 + 2 + k) 0 = I 103 k := by
          rw [j2.1 _ (by omega) (by omega), h.1.1 0 k (by decide) hk, show 8 * 0 + k = k by omega]
        unfold fX12_groups_b56
        dsimp only
        rw [if_neg (n_8 hk), r_05, z_g_t o_62, c_told c62 hk, z_b_s, t0, show z_Rm mu 0 9 = 92 from rfl, z_g_t (show z_ob 92 1 from rfl)]
        show _ = some (Sum.inl (nI (if q_lo I k = true then _ else _), _))
        unfold n_b
        rcases (h.2.1.1 k hk).1 with q | q
        · rw [q, if_pos rfl, if_pos rfl, z_l_s, n_s1]
          have : q_lo I k = false := by unfold q_lo; rw [q]; rfl
          rw [this]
          rfl
        · rw [q, if_neg (by decide), c_groupG j2 hk q, z_b_s, n_low_c, z_b_s]
          simp only [z_l_s, n_s1]
          have iff : t_loD (g_G I k) 8 = some k ↔ q_lo I k = true := by
            rw [t_loD_iff]
            unfold q_lo
            rw [q]
            constructor
            · rintro ⟨-, -, z⟩
              have : n_any (fun j => g_G I j k) k = false := by
                by_cases c : n_any (fun j => g_G I j k) k = true
                · obtain ⟨t, ht, e⟩ := n_any_iff.mp c
                  rw [g_G_sym, z t ht] at e
                  cases e
                · simpa using c
              rw [this]
              rfl
            · intro z
              refine ⟨hk, refl k q, fun j hj => ?_⟩
              by_cases c : g_G I k j = true
              · rw [g_G_sym] at c
                have := (n_any_iff (p := fun j => g_G I j k)).mpr ⟨j, hj, c⟩
                simp [this] at z
              · simpa using c
          by_cases c : q_lo I k = true
          · rw [iff.mpr c]
            show (if nI k = nI k then _ else _) = _
            rw [if_pos rfl, if_pos c]
          · rw [if_neg c]
            have ne : ¬ t_nm (t_loD (g_G I k) 8) (-1) = nI k := by
              cases e : t_loD (g_G I k) 8 with
              | none => exact fun z => n_m1 (show k < 2 ^ 31 by omega) z.symm
              | some r =>
                have r8 := t_loD_lt e
                intro z
                have : r = k := (n_eq (by omega) (by omega)).mp z
                rw [this] at e
                exact c (iff.mp e)
            rw [if_neg ne]
      · unfold fX12_groups_b56
        dsimp only
        rw [if_pos n_88]
    · unfold fX13_groups
      rw [z_g_t m_ob, if_pos x100, m_toldSet, z_b_s, jm]
      refine (z_lp_b 8 (nI (n_cnt (q_lo I) 8)) (fun k => (nI (n_set (fun t => (I 103 t == 1) && !(n_any (fun j => g_G I j t) k)) 8), nI (n_cnt (q_lo I) k), nI k)) ?_ ?_ ?_ (by decide)).trans rfl
      · congr 2
        apply n_set_congr
        intro j hj
        simp [n_any]
      · intro k hk
        unfold fX13_groups_b34
        dsimp only
        rw [if_neg (n_8 hk), n_sethas hk, z_b_s]
        have ek : ((I 103 k == 1) && !(n_any (fun j => g_G I j k) k)) = q_lo I k := rfl
        rw [ek]
        show _ = some (Sum.inl (_, nI (if q_lo I k = true then _ else _), _))
        have un : ∀ t, n_any (fun j => g_G I j t) (k + 1) = (n_any (fun j => g_G I j t) k || g_G I k t) := fun _ => rfl
        by_cases c : q_lo I k = true
        · have q : I 103 k = 1 := by unfold q_lo at c; simp at c; exact c.1
          rw [if_pos c, if_neg (by decide), if_pos c, m_groupG hV hk (by rw [jm]; exact q), z_b_s, eG, n_set_andn]
          simp only [z_l_s, n_s1]
          congr 4
          apply n_set_congr
          intro t ht
          rw [un]
          cases (I 103 t == 1) <;> cases n_any (fun j => g_G I j t) k <;> cases g_G I k t <;> rfl
        · rw [if_neg c, if_pos rfl, if_neg c]
          simp only [z_l_s, n_s1]
          congr 4
          apply n_set_congr
          intro t ht
          rw [un]
          by_cases g : g_G I k t = true
          · have tk : I 103 k = 1 := by unfold g_G at g; simp at g; exact g.1.1
            have na : n_any (fun j => g_G I j k) k = true := by
              unfold q_lo at c
              rw [tk] at c
              simpa using c
            obtain ⟨j, hj, e⟩ := n_any_iff.mp na
            have := (n_any_iff (p := fun j => g_G I j t)).mpr ⟨j, hj, g_G_tr hk e g⟩
            rw [this]
            simp
          · have g' : g_G I k t = false := by simpa using g
            rw [g', Bool.or_false]
      · unfold fX13_groups_b34
        dsimp only
        rw [if_pos n_88]
  · rcases t_both h x with ⟨e1, e2⟩ | ⟨i, hi, rfl, h0, e1, e2⟩
    · refine ⟨-1, I, ?_, ?_, h⟩
      · unfold fX12_groups
        rw [z_g_t o_0, if_neg x100, r_05, z_g_t o_62, e1, z_b_s, if_pos rfl]
      · unfold fX13_groups
        rw [z_g_t m_ob, if_neg x100, e2, z_b_s, if_pos rfl]
    have hR := h
    obtain ⟨len, h⟩ := h
    obtain ⟨J, j1, j2⟩ := c_listen h
    have jm : J 103 = I 103 := j2.1 103 (by decide) (by decide)
    have jo : J 102 = I 102 := j2.1 102 (by decide) (by decide)
    have hV : r_V J 103 len := f_V h.2.1 jm
    have eG : g_G J = g_G I := by
      funext i j
      unfold g_G
      rw [g_e_eq jm jo, jm]
    refine ⟨nI (n_set (g_G I i) 8), J, ?_, ?_, rel_g hR j2⟩
    · unfold fX12_groups fX12_groups_j19
      rw [z_g_t o_0, if_neg x100, r_05, z_g_t o_62, e1, z_b_s, if_neg n_10.mp, r_01, z_g_t o_3, show z_Rm mu 0 9 = 92 from rfl, z_g_t (show z_ob 92 1 from rfl), j1, z_b_s, if_neg x100, c_groupG j2 hi h0, z_b_s]
    · unfold fX13_groups
      rw [z_g_t m_ob, if_neg x100, m_told hi, jm, h0, if_pos rfl, z_b_s, if_neg n_10.mp, m_groupG hV hi (by rw [jm]; exact h0), z_b_s, eG]
