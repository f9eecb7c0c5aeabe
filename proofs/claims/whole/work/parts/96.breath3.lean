/-! breaths: the class's and the model's loops, the call -/
def x_J (I J : z_He) (s : x_T) : Prop := (∀ b, b ≠ 97 → b ≠ 98 → b ≠ 99 → J b = I b) ∧ J 97 3 = nI s.1 ∧ ∀ t, t < s.1 → J 98 t = nI (s.2.1 t) ∧ J 99 t = nI (s.2.2 t)
section XC
variable {I J : z_He} {mu : Nat → Nat} {i n K : Nat} {s : x_T}
theorem x_J_roll (hP : r_P mu) (hi : i < 8) (h : r_Roll I i (mu i) n) (hJ : ∀ b, b < 97 ∨ 102 ≤ b → J b = I b) : r_Roll J i (mu i) n := by
  have hm := p_le hP (show i < 9 by omega)
  exact f_R h (fun b h1 h2 => hJ b (by omega)) (fun b h1 h2 => hJ b (by omega))
theorem c_lsg (hP : r_P mu) (hi : i < 8) (h : r_Roll I i (mu i) n) {k : Nat} (j1 : ∀ b, b ≠ 97 → b ≠ 98 → b ≠ 99 → J b = I b) (j2 : J 97 3 = nI s.1) (j3 : ∀ t, t < s.1 → J 98 t = nI (s.2.1 t)) (j4 : ∀ t, t < s.1 → ¬ (t + 1 = s.1 ∧ b_v I i k ≠ 0) → J 99 t = nI (s.2.2 t)) (hk : k < n) (hs : s.1 ≤ k + 1) : ∃ J', fX0_list_j52_7 97 (mu i) (nI k) J (z_Rm mu) = some (.inl (nI (k + 1), J')) ∧ x_J I J' (x_sg (b_v I i k) k s) := by
  have n60 := h.1
  have hr := x_J_roll hP hi h (J := J) (fun b hb => j1 b (by omega) (by omega) (by omega))
  obtain ⟨v7, -, v2, -⟩ := b_at h hk
  have nt : fX5_noteAt (mu i) (nI k) J (z_Rm mu) = some (nI (b_v I i k)) := by
    obtain ⟨⟨v, hv, w1, w2⟩, -⟩ := hr.2.2.2.2 k hk
    rw [c_noteAt hP (show i < 9 by omega) hr.2.1 hr.1 (show k < 2 ^ 31 by omega), if_pos hk, w1, ← w2, j1 106 (by decide) (by decide) (by decide), v2]
  unfold fX0_list_j52_7 x_sg
  rw [j2, nt, z_b_s, n_s1, show z_Rm mu 97 0 = 98 from rfl, show z_Rm mu 97 1 = 99 from rfl]
  by_cases c0 : 0 < s.1
  · have s1 : nI s.1 - (1 : Int32) = nI (s.1 - 1) := n_sub (b := 1) (by omega)
    rw [if_neg (nI_nle c0 (by omega))]
    by_cases cv : b_v I i k = 0
    · rw [if_pos (by rw [cv]; rfl), if_neg (fun q => q.2 cv), z_l_s]
      exact ⟨J, rfl, j1, j2, fun t ht => ⟨j3 t ht, j4 t ht (fun q => q.2 cv)⟩⟩
    · rw [if_neg (nI_ne0 (by omega) (by omega)), if_pos ⟨c0, cv⟩, s1, z_g_t (n_ok (n := 60) (show z_len 1 98 = 60 from rfl) (show s.1 - 1 < 60 by omega) (by decide)), nI_clamp (show s.1 - 1 < 2 ^ 31 by omega), z_l_s, u_o (show (97 : Nat) ≠ 98 by decide), j2, s1, z_g_t (n_ok (n := 60) (show z_len 1 99 = 60 from rfl) (show s.1 - 1 < 60 by omega) (by decide)), nI_clamp (show s.1 - 1 < 2 ^ 31 by omega), z_l_s, z_l_s, j3 (s.1 - 1) (by omega), n_s1]
      refine ⟨_, rfl, fun b h1 h2 h3 => by rw [u_o h3, u_o h2]; exact j1 b h1 h2 h3, by rw [u_o (by decide), u_o (by decide)]; exact j2, fun t ht => ⟨?_, ?_⟩⟩
      · dsimp only
        rw [u_o (by decide)]
        by_cases ct : t = s.1 - 1
        · rw [ct, z_u_at, x_up_at]
        · rw [z_u_k ct, x_up_o ct]; exact j3 t ht
      · dsimp only
        by_cases ct : t = s.1 - 1
        · rw [ct, z_u_at, x_up_at]
        · rw [z_u_k ct, x_up_o ct, u_o (by decide)]; exact j4 t ht (fun q => ct (by omega))
  · have s0 : s.1 = 0 := by omega
    rw [if_pos (by rw [s0]; decide), if_neg (fun q => c0 q.1), z_l_s]
    exact ⟨J, rfl, j1, j2, fun t ht => absurd ht (by omega)⟩
theorem c_list (hP : r_P mu) (hi : i < 8) (h : r_Roll I i (mu i) n) : ∃ J, fX0_list 97 (mu i) I (z_Rm mu) = some J ∧ x_J I J (x_l I i n) := by
  have hr9 := o_roll hP (show i < 9 by omega)
  have n60 := h.1
  obtain ⟨J, e1, e2⟩ := lp_inv (body := fX0_list_b7 97 (mu i) (z_Rm mu)) (fun k q => q.1 = nI k ∧ x_J I q.2 (x_l I i k)) (fun J => x_J I J (x_l I i n)) (n := n) (fun k q hk hp => by
    obtain ⟨p, J⟩ := q
    obtain ⟨p1, p2⟩ := hp
    dsimp only at p1 p2
    subst p1
    have inv := x_l_inv h k (by omega)
    have hr := x_J_roll hP hi h (J := J) (fun b hb => p2.1 b (by omega) (by omega) (by omega))
    have bs : fX5_beginsSound (mu i) (nI k) J (z_Rm mu) = some (if b_s I i k = true then 1 else 0) := by
      rw [c_bsound hP hi hr (show k < 2 ^ 31 by omega)]
      have e : b_snd J n i k = b_s I i k := by
        rw [← b_snd_s h hk]
        unfold b_snd
        rw [p2.1 106 (by decide) (by decide) (by decide), p2.1 109 (by decide) (by decide) (by decide)]
      rw [e]
    have ul : x_l I i (k + 1) = x_sg (b_v I i k) k (x_bg (b_s I i k) (x_l I i k)) := rfl
    rw [ul]
    generalize x_l I i k = s at p2 inv
    have sk := inv.1
    have hb : fX0_list_b7 97 (mu i) (z_Rm mu) (nI k, J) = _ := rfl
    conv at hb =>
      rhs
      unfold fX0_list_b7 fX5_length
    dsimp only at hb
    rw [z_g_t hr9.1, hr.2.1, z_b_s, if_neg (nI_ge hk (by omega)), bs, z_b_s] at hb
    unfold x_bg
    by_cases cb : b_s I i k = true
    · rw [if_pos cb, if_neg (by decide), p2.2.1, if_neg (show ¬ (60 : Int32) ≤ nI s.1 from nI_ge (b := 60) (by omega) (by decide)), show z_Rm mu 97 0 = 98 from rfl, z_g_t (n_ok (n := 60) (show z_len 1 98 = 60 from rfl) (show s.1 < 60 by omega) (by decide)), nI_clamp (show s.1 < 2 ^ 31 by omega), z_l_s, z_l_s, u_o (show (97 : Nat) ≠ 98 by decide), p2.2.1, n_s1] at hb
      rw [if_pos cb]
      have cv : b_v I i k ≠ 0 := by
        unfold b_s at cb
        simp at cb
        exact cb.2
      obtain ⟨J', g1, g2⟩ := c_lsg (J := z_u (z_u J 98 s.1 0) 97 3 (nI (s.1 + 1))) (s := (s.1 + 1, x_up s.2.1 s.1 0, s.2.2)) hP hi h (fun b h1 h2 h3 => by rw [u_o h1, u_o h2]; exact p2.1 b h1 h2 h3) (by rw [z_u_at]) (fun t ht => by
        dsimp only at ht ⊢
        rw [u_o (by decide)]
        by_cases ct : t = s.1
        · rw [ct, z_u_at, x_up_at]; rfl
        · rw [z_u_k ct, x_up_o ct]; exact (p2.2.2 t (by omega)).1) (fun t ht hn => by
        dsimp only at ht hn ⊢
        rw [u_o (by decide), u_o (by decide)]
        have ct : t ≠ s.1 := fun q => hn ⟨by omega, cv⟩
        exact (p2.2.2 t (by omega)).2) hk (by dsimp only; omega)
      exact ⟨_, by rw [hb]; exact g1, rfl, g2⟩
    · rw [if_neg cb, if_pos rfl] at hb
      rw [if_neg cb]
      obtain ⟨J', g1, g2⟩ := c_lsg hP hi h p2.1 p2.2.1 (fun t ht => (p2.2.2 t ht).1) (fun t ht _ => (p2.2.2 t ht).2) hk (by omega)
      exact ⟨_, by rw [hb]; exact g1, rfl, g2⟩) (fun q hp => by
    obtain ⟨p, J⟩ := q
    obtain ⟨p1, p2⟩ := hp
    dsimp only at p1 p2
    subst p1
    have hr := x_J_roll hP hi h (J := J) (fun b hb => p2.1 b (by omega) (by omega) (by omega))
    refine ⟨J, ?_, p2⟩
    unfold fX0_list_b7 fX5_length
    dsimp only
    rw [z_g_t hr9.1, hr.2.1, z_b_s, if_pos (nI_le (Nat.le_refl n) (by omega))]) 300 ((0 : Int32), z_u I 97 3 0) (by omega) ⟨rfl, fun b h1 _ _ => u_o h1, by dsimp only; rw [z_u_at]; rfl, fun t ht => absurd ht (Nat.not_lt_zero t)⟩
  refine ⟨J, ?_, e2⟩
  unfold fX0_list
  rw [z_g_t (show z_ob 97 0 from rfl), z_g_t hr9.1, z_l_s, e1, z_b_s]
/-- the class's numbers, from the last sound on -/
theorem c_few (hJ : x_J I J s) (inv : x_inv I i n s) (n60 : n ≤ 60) (hK : K ≤ 20) {J2 : z_He} {a : Nat} {tab : Nat → Nat} (ha : a < s.1) (h2 : ∀ b, b ≠ 100 → J2 b = J b) (ht : ∀ q, a < q → q < s.1 → J2 100 q = nI (tab q) ∧ tab q ≤ 1000) : fX0_fewestFrom 97 (nI a) (nI K) J2 (z_Rm mu) = some (nI (x_fd (x_okc I i K s.2.2) (x_vc s.1) 1000 tab a (s.1 - a))) := by
  obtain ⟨j1, j2, j3⟩ := hJ
  have sn := inv.1
  have cb : ∀ q, x_c I i (x_P s.2.2 q) ≤ 1000000 ∨ True := fun _ => Or.inr trivial
  have lp := z_lp_tr (body := fX0_fewestFrom_b12 97 (nI a) (nI K) J2 (z_Rm mu)) (fun j => (nI (x_fd (x_okc I i K s.2.2) (x_vc s.1) 1000 tab a j), nI (x_c I i (x_P s.2.2 (a + j)) - x_c I i (x_P s.2.2 a)), nI (a + 1 + j))) (n := s.1 - a) (x := nI (x_fd (x_okc I i K s.2.2) (x_vc s.1) 1000 tab a (s.1 - a))) (fun j hj => ?_) ?_ 300 (by omega)
  · have lp' : z_lp (fX0_fewestFrom_b12 97 (nI a) (nI K) J2 (z_Rm mu)) 300 ((1000 : Int32), (0 : Int32), nI (a + 1)) = some (nI (x_fd (x_okc I i K s.2.2) (x_vc s.1) 1000 tab a (s.1 - a))) := by
      rw [← lp, show a + 0 = a from rfl, Nat.sub_self]
      rfl
    have mn := (x_fd_min (ok := x_okc I i K s.2.2) (val := x_vc s.1) (ini := 1000) (p := a) (tab := tab) (s.1 - a)).1
    unfold fX0_fewestFrom fX0_fewestFrom_j78
    rw [z_g_t (show z_ob 97 0 from rfl), z_l_s, n_s1, lp', z_b_s]
    have := (n_mn (show x_fd (x_okc I i K s.2.2) (x_vc s.1) 1000 tab a (s.1 - a) < 2 ^ 31 by omega) (show 1000 < 2 ^ 31 by decide)).1
    rw [Nat.min_eq_left mn] at this
    exact congrArg some this
  · have e1 : J2 97 3 = nI s.1 := by rw [h2 97 (by decide)]; exact j2
    have e2 : J2 98 (a + j) = nI (s.2.1 (a + j)) := by rw [h2 98 (by decide)]; exact (j3 (a + j) (by omega)).1
    have cp := x_c_P inv (show a + j < s.1 by omega)
    have cm := x_c_mono (I := I) (i := i) (x_P_le inv (show a ≤ a + j by omega) (show a + j ≤ s.1 by omega))
    have c60 := x_c_le (I := I) (i := i) (x_P s.2.2 (a + j + 1))
    have p60 := x_P_n inv (show a + j + 1 ≤ s.1 by omega)
    have mn := (x_fd_min (ok := x_okc I i K s.2.2) (val := x_vc s.1) (ini := 1000) (p := a) (tab := tab) j).1
    have s1 : nI (a + 1 + j) - (1 : Int32) = nI (a + j) := by
      rw [show a + j = a + 1 + j - 1 by omega]
      exact n_sub (b := 1) (by omega)
    have es : x_c I i (x_P s.2.2 (a + j)) - x_c I i (x_P s.2.2 a) + s.2.1 (a + j) = x_c I i (x_P s.2.2 (a + (j + 1))) - x_c I i (x_P s.2.2 a) := by
      rw [show a + (j + 1) = a + j + 1 by omega, cp]
      omega
    unfold fX0_fewestFrom_b12 fX0_fewestFrom_j68_12
    dsimp only
    rw [e1, if_neg (nI_nlt (show a + 1 + j ≤ s.1 by omega) (by omega)), if_neg (nI_pos (by omega)), s1, show z_Rm mu 97 0 = 98 from rfl, show z_Rm mu 97 2 = 100 from rfl, z_g_t (n_ok (n := 60) (show z_len 1 98 = 60 from rfl) (show a + j < 60 by omega) (by decide)), nI_clamp (show a + j < 2 ^ 31 by omega), e2, n_add, es]
    simp only [z_l_s, n_s1]
    have ef : x_fd (x_okc I i K s.2.2) (x_vc s.1) 1000 tab a (j + 1) = if x_okc I i K s.2.2 a (a + 1 + j) = true then min (x_fd (x_okc I i K s.2.2) (x_vc s.1) 1000 tab a j) (x_vc s.1 tab (a + 1 + j)) else x_fd (x_okc I i K s.2.2) (x_vc s.1) 1000 tab a j := rfl
    rw [ef]
    have eo : (x_okc I i K s.2.2 a (a + 1 + j) = true) ↔ x_c I i (x_P s.2.2 (a + (j + 1))) - x_c I i (x_P s.2.2 a) ≤ K := by
      unfold x_okc
      rw [show a + 1 + j = a + (j + 1) by omega, decide_eq_true_eq]
    rw [show a + j + 1 = a + (j + 1) by omega] at c60 p60
    by_cases co : x_c I i (x_P s.2.2 (a + (j + 1))) - x_c I i (x_P s.2.2 a) ≤ K
    · rw [if_neg (nI_nlt co (by omega)), if_pos (eo.mpr co)]
      unfold x_vc
      by_cases cS : a + 1 + j = s.1
      · rw [if_pos (by rw [cS]), if_pos cS]
        have := (n_mn (a := x_fd (x_okc I i K s.2.2) (fun t q => if q = s.1 then 0 else 1 + t q) 1000 tab a j) (b := 0) (by have : x_fd (x_okc I i K s.2.2) (fun t q => if q = s.1 then 0 else 1 + t q) 1000 tab a j ≤ 1000 := mn; omega) (by decide)).1
        rw [show a + 1 + (j + 1) = a + 1 + j + 1 by omega]
        exact congrArg (fun z => some (Sum.inl (z, nI (x_c I i (x_P s.2.2 (a + (j + 1))) - x_c I i (x_P s.2.2 a)), nI (a + 1 + j + 1)))) this
      · have hq := ht (a + 1 + j) (by omega) (by omega)
        rw [if_neg (n_ne (by omega) (by omega) cS), if_neg cS, z_g_t (n_ok (n := 60) (show z_len 1 100 = 60 from rfl) (show a + 1 + j < 60 by omega) (by decide)), nI_clamp (show a + 1 + j < 2 ^ 31 by omega), hq.1]
        have e3 : (1 : Int32) + nI (tab (a + 1 + j)) = nI (1 + tab (a + 1 + j)) := n_add 1 _
        have := (n_mn (a := x_fd (x_okc I i K s.2.2) (fun t q => if q = s.1 then 0 else 1 + t q) 1000 tab a j) (b := 1 + tab (a + 1 + j)) (by have : x_fd (x_okc I i K s.2.2) (fun t q => if q = s.1 then 0 else 1 + t q) 1000 tab a j ≤ 1000 := mn; omega) (by omega)).1
        rw [e3, show a + 1 + (j + 1) = a + 1 + j + 1 by omega]
        exact congrArg (fun z => some (Sum.inl (z, nI (x_c I i (x_P s.2.2 (a + (j + 1))) - x_c I i (x_P s.2.2 a)), nI (a + 1 + j + 1)))) this
    · rw [if_pos (nI_lt (by omega) (by omega)), if_neg (fun q => co (eo.mp q)), show a + 1 + (j + 1) = a + 1 + j + 1 by omega]
  · have e1 : J2 97 3 = nI s.1 := by rw [h2 97 (by decide)]; exact j2
    unfold fX0_fewestFrom_b12
    dsimp only
    rw [e1, if_pos (nI_lt (show s.1 < a + 1 + (s.1 - a) by omega) (by omega))]
/-- the class's table -/
theorem c_plan (hJ : x_J I J s) (inv : x_inv I i n s) (n60 : n ≤ 60) (hK : K ≤ 20) : ∃ J2, z_lp (fX0_plan_b12 97 (mu i) (nI K) (z_Rm mu)) 300 (nI s.1 - 1, J) = some J2 ∧ (∀ b, b ≠ 100 → J2 b = J b) ∧ ∀ q, q < s.1 → J2 100 q = nI (x_A I i K s q) := by
  have sn := inv.1
  have t1000 : ∀ d q, d ≤ s.1 + 1 → s.1 + 1 ≤ q + d → q ≤ s.1 → x_tab s.1 (fun _ => 1000) (x_okc I i K s.2.2) (x_vc s.1) d q ≤ 1000 := by
    intro d
    induction d with
    | zero => intro q h1 h2 h3; omega
    | succ d ih =>
      intro q h1 h2 h3
      show x_up (x_tab s.1 (fun _ => 1000) (x_okc I i K s.2.2) (x_vc s.1) d) (s.1 - d) (x_fd (x_okc I i K s.2.2) (x_vc s.1) 1000 (x_tab s.1 (fun _ => 1000) (x_okc I i K s.2.2) (x_vc s.1) d) (s.1 - d) d) q ≤ 1000
      by_cases c : q = s.1 - d
      · rw [c, x_up_at]
        exact (x_fd_min d).1
      · rw [x_up_o c]
        exact ih q (by omega) (by omega) h3
  obtain ⟨J2, e1, e2, e3⟩ := lp_inv (body := fX0_plan_b12 97 (mu i) (nI K) (z_Rm mu)) (fun d q => q.1 = nI (s.1 - d) - 1 ∧ (∀ b, b ≠ 100 → q.2 b = J b) ∧ ∀ t, s.1 - d ≤ t → t < s.1 → q.2 100 t = nI (x_tab s.1 (fun _ => 1000) (x_okc I i K s.2.2) (x_vc s.1) (d + 1) t)) (fun J2 => (∀ b, b ≠ 100 → J2 b = J b) ∧ ∀ q, q < s.1 → J2 100 q = nI (x_A I i K s q)) (n := s.1) (fun d q hd hp => by
    obtain ⟨p, J2⟩ := q
    obtain ⟨p1, p2, p3⟩ := hp
    dsimp only at p1 p2 p3
    subst p1
    have s1 : nI (s.1 - d) - (1 : Int32) = nI (s.1 - (d + 1)) := by
      rw [show s.1 - (d + 1) = s.1 - d - 1 by omega]
      exact n_sub (b := 1) (by omega)
    have fw := c_few (mu := mu) (tab := x_tab s.1 (fun _ => 1000) (x_okc I i K s.2.2) (x_vc s.1) (d + 1)) hJ inv n60 hK (show s.1 - (d + 1) < s.1 by omega) p2 (fun q h1 h2 => ⟨p3 q (by omega) h2, t1000 (d + 1) q (by omega) (by omega) (by omega)⟩)
    rw [show s.1 - (s.1 - (d + 1)) = d + 1 by omega] at fw
    have et : ∀ t, x_tab s.1 (fun _ => 1000) (x_okc I i K s.2.2) (x_vc s.1) (d + 1 + 1) t = x_up (x_tab s.1 (fun _ => 1000) (x_okc I i K s.2.2) (x_vc s.1) (d + 1)) (s.1 - (d + 1)) (x_fd (x_okc I i K s.2.2) (x_vc s.1) 1000 (x_tab s.1 (fun _ => 1000) (x_okc I i K s.2.2) (x_vc s.1) (d + 1)) (s.1 - (d + 1)) (d + 1)) t := fun _ => rfl
    refine ⟨(nI (s.1 - (d + 1)) - 1, z_u J2 100 (s.1 - (d + 1)) (nI (x_fd (x_okc I i K s.2.2) (x_vc s.1) 1000 (x_tab s.1 (fun _ => 1000) (x_okc I i K s.2.2) (x_vc s.1) (d + 1)) (s.1 - (d + 1)) (d + 1)))), ?_, rfl, fun b hb => ?_, fun t h1 h2 => ?_⟩
    · unfold fX0_plan_b12
      dsimp only
      rw [s1, if_neg (nI_pos (by omega)), fw, z_b_s, show z_Rm mu 97 2 = 100 from rfl, z_g_t (n_ok (n := 60) (show z_len 1 100 = 60 from rfl) (show s.1 - (d + 1) < 60 by omega) (by decide)), nI_clamp (show s.1 - (d + 1) < 2 ^ 31 by omega), z_l_s, z_l_s, Int32.sub_eq_add_neg]
    · dsimp only
      rw [u_o hb]
      exact p2 b hb
    · dsimp only
      rw [et]
      by_cases c : t = s.1 - (d + 1)
      · rw [c, z_u_at, x_up_at]
      · rw [z_u_k c, x_up_o c]
        exact p3 t (by omega) h2) (fun q hp => by
    obtain ⟨p, J2⟩ := q
    obtain ⟨p1, p2, p3⟩ := hp
    dsimp only at p1 p2 p3
    subst p1
    refine ⟨J2, ?_, p2, fun q hq => ?_⟩
    · unfold fX0_plan_b12
      dsimp only
      rw [Nat.sub_self, if_pos (show nI 0 - 1 < 0 by decide)]
    · rw [p3 q (by omega) hq]
      unfold x_A x_ct
      rw [if_pos hq]) 300 (nI s.1 - 1, J) (by omega) ⟨by dsimp only; rw [Nat.sub_zero], fun _ _ => rfl, fun t h1 h2 => by omega⟩
  exact ⟨J2, e1, e2, e3⟩
/-- the class's choice -/
theorem c_choose (inv : x_inv I i n s) (n60 : n ≤ 60) (h0 : x_A I i K s 0 < 1000) {J3 : z_He} (j2 : J3 97 3 = nI s.1) (jc : J3 97 5 = 0) (je : ∀ t, t < s.1 → J3 99 t = nI (s.2.2 t)) (jn : ∀ t, t < s.1 → J3 100 t = nI (x_A I i K s t)) : ∃ J4, fX0_choose 97 J3 (z_Rm mu) = some J4 ∧ (∀ b, b ≠ 97 → b ≠ 101 → J4 b = J3 b) ∧ J4 97 5 = nI (x_A I i K s 0) ∧ ∀ m, 1 ≤ m → m < s.1 → x_A I i K s m < x_A I i K s (m - 1) → J4 101 (x_A I i K s 0 - x_A I i K s (m - 1)) = nI (s.2.2 (m - 1)) := by
  have st := x_step inv n60 h0
  have sn := inv.1
  have a0 := (st 0 (by omega)).1
  have mono : ∀ d a, a + d ≤ s.1 → x_A I i K s (a + d) ≤ x_A I i K s a := by
    intro d
    induction d with
    | zero => intro a _; exact Nat.le_refl _
    | succ d ih =>
      intro a h
      have := ih a (by omega)
      have q := ((st (a + d + 1) (by omega)).2 (by omega)).1
      rw [show a + d + 1 - 1 = a + d by omega] at q
      rw [show a + (d + 1) = a + d + 1 by omega]
      omega
  by_cases s0 : s.1 = 0
  · refine ⟨J3, ?_, fun _ _ _ => rfl, ?_, fun m h1 h2 => by omega⟩
    · have hb : fX0_choose_b2 97 (z_Rm mu) ((1 : Int32), J3) = some (.inr J3) := by
        unfold fX0_choose_b2
        dsimp only
        rw [j2, s0, if_pos (show nI 0 ≤ 1 by decide)]
      unfold fX0_choose
      rw [z_g_t (show z_ob 97 0 from rfl)]
      unfold z_lp
      rw [hb, z_b_s]
    · rw [jc]
      unfold x_A
      rw [if_neg (by omega)]
      rfl
  obtain ⟨J4, e1, e2, e3, e4⟩ := lp_inv (body := fX0_choose_b2 97 (z_Rm mu)) (fun d q => q.1 = nI (d + 1) ∧ (∀ b, b ≠ 97 → b ≠ 101 → q.2 b = J3 b) ∧ q.2 97 3 = nI s.1 ∧ q.2 97 5 = nI (x_A I i K s 0 - x_A I i K s d) ∧ ∀ m, 1 ≤ m → m < d + 1 → x_A I i K s m < x_A I i K s (m - 1) → q.2 101 (x_A I i K s 0 - x_A I i K s (m - 1)) = nI (s.2.2 (m - 1))) (fun J4 => (∀ b, b ≠ 97 → b ≠ 101 → J4 b = J3 b) ∧ J4 97 5 = nI (x_A I i K s 0 - x_A I i K s (s.1 - 1)) ∧ ∀ m, 1 ≤ m → m < s.1 → x_A I i K s m < x_A I i K s (m - 1) → J4 101 (x_A I i K s 0 - x_A I i K s (m - 1)) = nI (s.2.2 (m - 1))) (n := s.1 - 1) (fun d q hd hp => by
    obtain ⟨p, J4⟩ := q
    obtain ⟨p1, p2, p3, p4, p5⟩ := hp
    dsimp only at p1 p2 p3 p4 p5
    subst p1
    have md := mono d 0 (by omega)
    rw [Nat.zero_add] at md
    have bd := st (d + 1) (by omega)
    have bd2 := (st d (by omega)).1
    have dr := bd.2 (by omega)
    rw [show d + 1 - 1 = d by omega] at dr
    have s1 : nI (d + 1) - (1 : Int32) = nI d := nI_pred d
    have hb : fX0_choose_b2 97 (z_Rm mu) (nI (d + 1), J4) = _ := rfl
    conv at hb =>
      rhs
      unfold fX0_choose_b2
    dsimp only at hb
    rw [p3, if_neg (nI_ge (show d + 1 < s.1 by omega) (by omega)), s1, show z_Rm mu 97 2 = 100 from rfl, show z_Rm mu 97 1 = 99 from rfl, show z_Rm mu 97 4 = 101 from rfl, z_g_t (n_ok (n := 60) (show z_len 1 100 = 60 from rfl) (show d + 1 < 60 by omega) (by decide)), z_g_t (n_ok (n := 60) (show z_len 1 100 = 60 from rfl) (show d < 60 by omega) (by decide)), z_g_t (n_ok (n := 60) (show z_len 1 99 = 60 from rfl) (show d < 60 by omega) (by decide)), nI_clamp (show d + 1 < 2 ^ 31 by omega), nI_clamp (show d < 2 ^ 31 by omega), p2 100 (by decide) (by decide), jn (d + 1) (by omega), jn d (by omega), z_l_s, z_l_s, n_s1] at hb
    by_cases c : x_A I i K s (d + 1) < x_A I i K s d
    · rw [if_neg (nI_ge c (by omega)), p4, if_neg (show ¬ (60 : Int32) ≤ nI (x_A I i K s 0 - x_A I i K s d) from nI_ge (b := 60) (by omega) (by decide)), z_g_t (n_ok (n := 60) (show z_len 1 101 = 60 from rfl) (show x_A I i K s 0 - x_A I i K s d < 60 by omega) (by decide)), nI_clamp (show x_A I i K s 0 - x_A I i K s d < 2 ^ 31 by omega), p2 99 (by decide) (by decide), je d (by omega), z_l_s, z_l_s, u_o (show (97 : Nat) ≠ 101 by decide), p4, n_s1] at hb
      refine ⟨_, hb, rfl, fun b h1 h2 => ?_, ?_, ?_, fun m h1 h2 h3 => ?_⟩
      · dsimp only
        rw [u_o h1, u_o h2]
        exact p2 b h1 h2
      · dsimp only
        rw [z_u_k (by decide), u_o (by decide)]
        exact p3
      · dsimp only
        rw [z_u_at]
        congr 1
        omega
      · dsimp only
        rw [u_o (by decide)]
        by_cases cm : m = d + 1
        · rw [cm, show d + 1 - 1 = d by omega, z_u_at]
        · have hm := mono (d - m) m (by omega)
          rw [show m + (d - m) = d by omega] at hm
          have ml := ((st m (by omega)).2 (by omega)).1
          have m0 := mono (m - 1) 0 (by omega)
          rw [Nat.zero_add] at m0
          rw [z_u_k (by omega)]
          exact p5 m h1 (by omega) h3
    · rw [if_pos (nI_le (by omega) (by omega))] at hb
      refine ⟨_, hb, rfl, p2, p3, ?_, fun m h1 h2 h3 => ?_⟩
      · dsimp only
        rw [p4]
        congr 1
        omega
      · dsimp only
        by_cases cm : m = d + 1
        · rw [cm, show d + 1 - 1 = d by omega] at h3
          exact absurd h3 c
        · exact p5 m h1 (by omega) h3) (fun q hp => by
    obtain ⟨p, J4⟩ := q
    obtain ⟨p1, p2, p3, p4, p5⟩ := hp
    dsimp only at p1 p2 p3 p4 p5
    subst p1
    refine ⟨J4, ?_, p2, p4, fun m h1 h2 h3 => p5 m h1 (by omega) h3⟩
    unfold fX0_choose_b2
    dsimp only
    rw [p3, if_pos (nI_le (by omega) (by omega))]) 300 ((1 : Int32), J3) (by omega) ⟨rfl, fun _ _ _ => rfl, j2, by dsimp only; rw [jc, Nat.sub_self]; rfl, fun m h1 h2 => by omega⟩
  have al : x_A I i K s (s.1 - 1) = 0 := by
    have q := (x_A_min (I := I) (i := i) (K := K) (show s.1 - 1 < s.1 by omega))
    have b1 := (st (s.1 - 1) (by omega)).1
    rcases q.2.2 with z | ⟨c, c1, c2, c3, c4⟩
    · omega
    · rw [if_pos (by omega)] at c4
      exact c4
  rw [al, Nat.sub_zero] at e3
  refine ⟨J4, ?_, e2, e3, e4⟩
  unfold fX0_choose
  rw [z_g_t (show z_ob 97 0 from rfl), e1, z_b_s]
end XC
