/-! the law's rules: silences and worth, holdsAny and byLaw -/
def l_tst (cd : l_C) (fa : Nat → Int32) (h t : Nat) : Int32 := match l_ev cd fa t (t - h) h 0 (fun _ => 0) 0 with
  | some q => q.2
  | none => 0
def l_val (cd : l_C) (fa : Nat → Int32) (f h : Nat) : Int32 := match l_ev cd fa h (h - f) f 0 (fun _ => 0) 0 with
  | some q => q.1
  | none => 0
theorem c_reck {mu : Nat → Nat} {A : Nat} {cd : l_C} {md : Nat → Nat} {f t e s : Nat} {fa : Nat → Int32} {I : z_He} (hA : A = 41 ∨ A = 49) (hty : l_ty cd md f t e) (hft : f ≤ t) (hts : t ≤ s) (hs : s ≤ 240) (he : e = 1 ∨ e = 100) (hat : l_at I A s cd) (hfa : ∀ j, j < 8 → I 61 j = fa j) :
    ∃ q I', fX3_reckon A (nI f) (nI t) 61 I (z_Rm mu) = some (q, I') ∧ l_fr A I I' ∧ ((l_ev cd fa t (t - f) f 0 (fun _ => 0) 0 = none ∧ q = 0) ∨ ∃ w b', l_ev cd fa t (t - f) f 0 (fun _ => 0) 0 = some (w, b') ∧ q = 1 ∧ (e = 1 → I' (A + 7) 0 = w) ∧ (e = 100 → I' A 10 = b') ∧ (b' = 0 ∨ b' = 1)) := by
  have o1 := (l_o (mu := mu) hA).1
  have fr : l_fr A I (z_u (z_u I A 9 0) A 10 0) := l_fr_t (l_fr_u (Or.inl rfl)) (l_fr_u (Or.inr rfl))
  have d0 : l_dep (md f) = 0 := by rw [hty.1]; rfl
  obtain ⟨r, I', q1, q2, q3⟩ := c_ev (mu := mu) (fa := fa) hA hty hts hs he (t - f) f (z_u (z_u I A 9 0) A 10 0) (fun _ => 0) 0 0 300 (Nat.le_refl f) hft (Nat.le_refl _) (by omega) (by omega) (l_at_fr hA hat fr) (fun j hj => by rw [fr 61 j (by omega) (by omega)]; exact hfa j hj) (by rw [z_u_k (by decide), z_u_at, d0]; rfl) (fun j hj => by omega) (fun q => by rw [hty.1] at q; omega) (Or.inl rfl)
  rw [d0] at q3
  have hR : fX3_reckon A (nI f) (nI t) 61 I (z_Rm mu) = z_x r (fun q33 => some q33) (fun q32 => some ((1 : Int32), q32)) := by
    have q1' : z_lp (fX3_reckon_b16 A 61 (nI t) (z_Rm mu)) 300 (nI f, (0 : Int32), z_u (z_u I A 9 0) A 10 0) = some r := q1
    unfold fX3_reckon
    rw [z_g_t o1, z_g_t (show z_ar 61 from rfl), z_l_s, z_l_s, q1', z_b_s]
  rcases q3 with ⟨e1, rfl⟩ | ⟨w, b', e1, rfl, e3⟩
  · exact ⟨0, I', hR, l_fr_t fr q2, Or.inl ⟨e1, rfl⟩⟩
  · exact ⟨1, I', hR, l_fr_t fr q2, Or.inr ⟨w, b', e1, rfl, e3⟩⟩
theorem m_reck {mu : Nat → Nat} {A : Nat} {cd : l_C} {md : Nat → Nat} {f t e s : Nat} {fa : Nat → Int32} {I : z_He} (hA : A = 41 ∨ A = 49) (hty : l_ty cd md f t e) (hft : f ≤ t) (hts : t ≤ s) (hs : s ≤ 240) (he : e = 1 ∨ e = 100) (hat : l_at I A s cd) (hfa : ∀ j, j < 8 → I 124 j = fa j) :
    ∃ I', l_fm I I' ∧ fX13_comesTo 102 (nI f) (nI t) I (z_Rm mu) = some (if e = 1 then l_val cd fa f t else l_tst cd fa f t, I') ∧ (l_tst cd fa f t = 0 ∨ l_tst cd fa f t = 1) := by
  have d0 : l_dep (md f) = 0 := by rw [hty.1]; rfl
  have d1 : l_dm (md f) = 0 := by rw [hty.1]; rfl
  obtain ⟨r, I', q1, q2, q3⟩ := m_ev (mu := mu) (fa := fa) hA hty hts hs he (t - f) f I (fun _ => 0) 0 300 (Nat.le_refl f) hft (Nat.le_refl _) (by omega) hat hfa (fun j hj => by omega) (fun q => by rw [hty.1] at q; omega) (Or.inl rfl)
  rw [d0] at q3
  rw [d1] at q1
  have e0 : (260 : Int32) * (nI f / 260) = 0 := by
    have := pk_div (a := f) (d := 260) (by omega) (by decide) (by decide)
    rw [show (260 : Int32) = nI 260 from rfl, this, n_mul, show f / 260 = 0 by omega]
    rfl
  have hR : fX13_comesTo 102 (nI f) (nI t) I (z_Rm mu) = z_x r (fun q35 => some q35) (fun q34 => some (q34 123 0, q34)) := by
    have q1' : z_lp (fX13_comesTo_b16 102 (nI t) 0 (z_Rm mu)) 300 ((0 : Int32), nI f, I) = some r := q1
    unfold fX13_comesTo
    rw [z_g_t m_ob, e0, z_l_s, q1', z_b_s, show z_Rm mu 102 32 = 123 from rfl]
    cases r with
    | inl q => rfl
    | inr q =>
      dsimp only [z_x]
      rw [z_g_t (show z_ok 1 123 0 from n_ok (k := 0) (n := 260) rfl (by decide) (by decide))]
      rfl
  refine ⟨I', q2, ?_, ?_⟩
  · rw [hR]
    unfold l_val l_tst
    rcases q3 with ⟨e1, rfl⟩ | ⟨w, b', e1, rfl, e3, e4, -⟩
    · rw [e1]
      show some (0, I') = _
      split <;> rfl
    · rw [e1]
      show some (I' 123 0, I') = _
      rcases he with rfl | rfl
      · rw [if_pos rfl, e3 rfl]
      · rw [if_neg (by decide), e4 rfl]
  · unfold l_tst
    rcases q3 with ⟨e1, -⟩ | ⟨w, b', e1, -, -, -, e5⟩
    · rw [e1]; exact Or.inl rfl
    · rw [e1]; exact e5
theorem c_tst {mu : Nat → Nat} {A : Nat} {cd : l_C} {md : Nat → Nat} {f t s : Nat} {fa : Nat → Int32} {I : z_He} (hA : A = 41 ∨ A = 49) (hty : l_ty cd md f t 100) (hft : f ≤ t) (hts : t ≤ s) (hs : s ≤ 240) (hat : l_at I A s cd) (hfa : ∀ j, j < 8 → I 61 j = fa j) :
    ∃ q I', fX3_reckon A (nI f) (nI t) 61 I (z_Rm mu) = some (q, I') ∧ l_fr A I I' ∧ ((q = 0 ∧ l_tst cd fa f t = 0) ∨ (q = 1 ∧ I' A 10 = l_tst cd fa f t ∧ (l_tst cd fa f t = 0 ∨ l_tst cd fa f t = 1))) := by
  obtain ⟨q, I', h1, h2, h3⟩ := c_reck (mu := mu) (fa := fa) hA hty hft hts hs (Or.inr rfl) hat hfa
  refine ⟨q, I', h1, h2, ?_⟩
  unfold l_tst
  rcases h3 with ⟨e1, e2⟩ | ⟨w, b', e1, e2, -, e4, e5⟩
  · rw [e1]; exact Or.inl ⟨e2, rfl⟩
  · rw [e1]; exact Or.inr ⟨e2, e4 rfl, e5⟩
theorem c_val {mu : Nat → Nat} {A : Nat} {cd : l_C} {md : Nat → Nat} {f t s : Nat} {fa : Nat → Int32} {I : z_He} (hA : A = 41 ∨ A = 49) (hty : l_ty cd md f t 1) (hft : f ≤ t) (hts : t ≤ s) (hs : s ≤ 240) (hat : l_at I A s cd) (hfa : ∀ j, j < 8 → I 61 j = fa j) :
    ∃ q I', fX3_reckon A (nI f) (nI t) 61 I (z_Rm mu) = some (q, I') ∧ l_fr A I I' ∧ ((q = 0 ∧ l_val cd fa f t = 0) ∨ (q = 1 ∧ I' (A + 7) 0 = l_val cd fa f t)) := by
  obtain ⟨q, I', h1, h2, h3⟩ := c_reck (mu := mu) (fa := fa) hA hty hft hts hs (Or.inl rfl) hat hfa
  refine ⟨q, I', h1, h2, ?_⟩
  unfold l_val
  rcases h3 with ⟨e1, e2⟩ | ⟨w, b', e1, e2, e3, -, -⟩
  · rw [e1]; exact Or.inl ⟨e2, rfl⟩
  · rw [e1]; exact Or.inr ⟨e2, e3 rfl⟩
/-- the first place from r on, m places, that p holds of -/
def l_fd (p : Nat → Bool) : Nat → Nat → Option Nat
  | 0, _ => none
  | m + 1, r => if p r = true then some r else l_fd p m (r + 1)
theorem l_fd_lt {p : Nat → Bool} : ∀ {m r q : Nat}, l_fd p m r = some q → q < r + m
  | 0, _, _, h => by cases h
  | m + 1, r, q, h => by
    unfold l_fd at h
    by_cases c : p r = true
    · rw [if_pos c] at h
      cases h
      omega
    · rw [if_neg c] at h
      have := l_fd_lt h
      omega
/-- n rules in their cells -/
def l_rs (I : z_He) (A s n : Nat) (cd : l_C) (K F H T : Nat → Nat) : Prop := n ≤ 16 ∧ s ≤ 240 ∧ l_at I A s cd ∧ I A 7 = nI n ∧ I 102 20 = nI n ∧ ∀ r, r < n → l_rule I A cd s r (K r) (F r) (H r) (T r)
theorem l_rs_of {I : z_He} {A : Nat} (h : r_L I A) : ∃ s n cd K F H T, l_rs I A s n cd K F H T := by
  obtain ⟨n, s, cd, h1, h2, h3, h4, h5, h6, h7⟩ := h
  refine ⟨s, n, cd, fun r => (I (A + 3) r).toNatClampNeg, fun r => (I (A + 4) r).toNatClampNeg, fun r => (I (A + 5) r).toNatClampNeg, fun r => (I (A + 6) r).toNatClampNeg, h1, h2, ⟨h3, h6⟩, h4, h5, fun r hr => ?_⟩
  obtain ⟨kd, f, h, t, g⟩ := h7 r hr
  obtain ⟨g1, g2, g3, g4, g5, g6, g7, g8, g9⟩ := g
  dsimp only
  rw [g5, g6, g7, g8, nI_clamp (by omega), nI_clamp (by omega), nI_clamp (by omega), nI_clamp (by omega)]
  exact ⟨g1, g2, g3, g4, g5, g6, g7, g8, g9⟩
def l_same (A : Nat) (I J : z_He) : Prop := (∀ b, A < b → b ≤ A + 6 → J b = I b) ∧ J A 2 = I A 2 ∧ J A 7 = I A 7 ∧ J 102 20 = I 102 20 ∧ ∀ b, 118 ≤ b → b ≤ 122 → J b = I b
theorem l_rs_same {I J : z_He} {A s n : Nat} {cd : l_C} {K F H T : Nat → Nat} (h : l_rs I A s n cd K F H T) (hs : l_same A I J) : l_rs J A s n cd K F H T := by
  obtain ⟨s1, s2, s3, s4, s5⟩ := hs
  unfold l_rs l_at l_code l_rule at h ⊢
  rw [s2, s3, s4, s1 (A + 1) (by omega) (by omega), s1 (A + 2) (by omega) (by omega), s1 (A + 3) (by omega) (by omega), s1 (A + 4) (by omega) (by omega), s1 (A + 5) (by omega) (by omega), s1 (A + 6) (by omega) (by omega), s5 118 (by omega) (by omega), s5 119 (by omega) (by omega), s5 120 (by omega) (by omega), s5 121 (by omega) (by omega), s5 122 (by omega) (by omega)]
  exact h
theorem l_same_fr {I J : z_He} {A : Nat} (hA : A = 41 ∨ A = 49) (h : l_fr A I J) : l_same A I J := by
  refine ⟨fun b h1 h2 => funext fun k => h b k (by omega) (by omega), h A 2 (by omega) (by omega), h A 7 (by omega) (by omega), h 102 20 (by omega) (by omega), fun b h1 h2 => funext fun k => h b k (by omega) (by omega)⟩
theorem l_same_fm {I J : z_He} {A : Nat} (hA : A = 41 ∨ A = 49) (h : l_fm I J) : l_same A I J := by
  refine ⟨fun b h1 h2 => h b (by omega), by rw [h A (by omega)], by rw [h A (by omega)], by rw [h 102 (by omega)], fun b h1 h2 => h b (by omega)⟩
def l_p (cd : l_C) (fa : Nat → Int32) (K H T : Nat → Nat) (kd : Nat) (r : Nat) : Bool := K r == kd && l_tst cd fa (H r) (T r) == 1
section LR
variable {mu : Nat → Nat} {A s n : Nat} {cd : l_C} {K F H T : Nat → Nat} {fa : Nat → Int32}
theorem c_sil (hA : A = 41 ∨ A = 49) : ∀ (m r N : Nat) (J : z_He), r + m = n → m < N → l_rs J A s n cd K F H T → (∀ j, j < 8 → J 61 j = fa j) → ∃ res J', z_lp (fX3_silences_b2 A 61 (z_Rm mu)) N (nI r, J) = some res ∧ l_fr A J J' ∧ ((l_fd (l_p cd fa K H T 4) m r = none ∧ res = .inr J') ∨ ∃ q, l_fd (l_p cd fa K H T 4) m r = some q ∧ res = .inl (1, J')) := by
  obtain ⟨o1, -, -, o4, -, o6, o7, -, -, -, p3, -, p5, p6, -⟩ := l_o (mu := mu) hA
  intro m
  induction m with
  | zero =>
    intro r N J hr hN hJ hfa
    obtain ⟨N, rfl⟩ : ∃ q, N = q + 1 := ⟨N - 1, by omega⟩
    have hn := hJ.1
    refine ⟨.inr J, J, ?_, l_fr_r, Or.inl ⟨rfl, rfl⟩⟩
    unfold z_lp fX3_silences_b2
    dsimp only
    rw [hJ.2.2.2.1, if_pos (nI_le (show n ≤ r by omega) (by omega))]
  | succ m ih =>
    intro r N J hr hN hJ hfa
    obtain ⟨N, rfl⟩ : ∃ q, N = q + 1 := ⟨N - 1, by omega⟩
    obtain ⟨hn, hs, hat, h7, h20, hru⟩ := hJ
    obtain ⟨r1, r2, r3, r4, r5, r6, r7, r8, r9, -, -, -, -, md, hty⟩ := hru r (by omega)
    obtain ⟨q, I', e1, e2, e3⟩ := c_tst (mu := mu) (fa := fa) hA hty (by omega) r4 hs hat hfa
    have fd : l_fd (l_p cd fa K H T 4) (m + 1) r = if l_p cd fa K H T 4 r = true then some r else l_fd (l_p cd fa K H T 4) m (r + 1) := rfl
    have on : ∀ J', l_fr A J J' → fX3_silences_b2 A 61 (z_Rm mu) (nI r, J) = some (.inl (nI (r + 1), J')) → ¬ l_p cd fa K H T 4 r = true → ∃ res J', z_lp (fX3_silences_b2 A 61 (z_Rm mu)) (N + 1) (nI r, J) = some res ∧ l_fr A J J' ∧ ((l_fd (l_p cd fa K H T 4) (m + 1) r = none ∧ res = .inr J') ∨ ∃ q, l_fd (l_p cd fa K H T 4) (m + 1) r = some q ∧ res = .inl (1, J')) := by
      intro J' f1 f2 f3
      obtain ⟨res, J2, g1, g2, g3⟩ := ih (r + 1) N J' (by omega) (by omega) (l_rs_same ⟨hn, hs, hat, h7, h20, hru⟩ (l_same_fr hA f1)) (fun j hj => by rw [f1 61 j (by omega) (by omega)]; exact hfa j hj)
      refine ⟨res, J2, ?_, l_fr_t f1 g2, ?_⟩
      · unfold z_lp
        rw [f2]
        exact g1
      · rw [fd, if_neg f3]
        exact g3
    have hb : fX3_silences_b2 A 61 (z_Rm mu) (nI r, J) = _ := rfl
    conv at hb =>
      rhs
      unfold fX3_silences_b2
    dsimp only at hb
    rw [h7, if_neg (nI_ge (show r < n by omega) (by omega)), o4, o6, o7, z_g_t (n_ok p3 (show r < 16 by omega) (by decide)), z_g_t (n_ok p5 (show r < 16 by omega) (by decide)), z_g_t (n_ok p6 (show r < 16 by omega) (by decide)), nI_clamp (show r < 2 ^ 31 by omega), r5, r7, r8, e1, z_b_s, n_s1, z_l_s, z_l_s] at hb
    dsimp only at hb
    by_cases k4 : K r = 4
    · rw [if_pos (by rw [k4]; rfl)] at hb
      rcases e3 with ⟨rfl, e4⟩ | ⟨rfl, e4, e5⟩
      · rw [if_pos rfl] at hb
        exact on I' e2 hb (by unfold l_p; rw [e4, k4]; decide)
      · rw [if_neg (by decide)] at hb
        rcases e5 with e5 | e5
        · rw [if_pos (e4.trans e5)] at hb
          exact on I' e2 hb (by unfold l_p; rw [e5, k4]; decide)
        · rw [if_neg (by rw [e4, e5]; decide)] at hb
          refine ⟨.inl (1, I'), I', ?_, e2, Or.inr ⟨r, ?_, rfl⟩⟩
          · unfold z_lp
            rw [hb]
          · rw [fd, if_pos]
            unfold l_p
            rw [e5, k4]
            decide
    · rw [if_neg (show ¬ nI (K r) = 4 from n_ne (by omega) (by decide) k4)] at hb
      exact on J l_fr_r hb (by unfold l_p; simp [k4])
theorem c_wor (hA : A = 41 ∨ A = 49) {kd : Nat} (hkd : kd ≤ 4) : ∀ (m r N : Nat) (J : z_He), r + m = n → m < N → l_rs J A s n cd K F H T → (∀ j, j < 8 → J 61 j = fa j) → ∃ res J', z_lp (fX3_worth_b2 A 61 (nI kd) (z_Rm mu)) N (nI r, J) = some res ∧ l_fr A J J' ∧ ((l_fd (l_p cd fa K H T kd) m r = none ∧ res = .inl (0, J')) ∨ ∃ q, l_fd (l_p cd fa K H T kd) m r = some q ∧ K q = kd ∧ res = .inr (nI q, J')) := by
  obtain ⟨o1, -, -, o4, -, o6, o7, -, -, -, p3, -, p5, p6, -⟩ := l_o (mu := mu) hA
  intro m
  induction m with
  | zero =>
    intro r N J hr hN hJ hfa
    obtain ⟨N, rfl⟩ : ∃ q, N = q + 1 := ⟨N - 1, by omega⟩
    have hn := hJ.1
    refine ⟨.inl (0, J), J, ?_, l_fr_r, Or.inl ⟨rfl, rfl⟩⟩
    unfold z_lp fX3_worth_b2
    dsimp only
    rw [hJ.2.2.2.1, if_pos (nI_le (show n ≤ r by omega) (by omega))]
  | succ m ih =>
    intro r N J hr hN hJ hfa
    obtain ⟨N, rfl⟩ : ∃ q, N = q + 1 := ⟨N - 1, by omega⟩
    obtain ⟨hn, hs, hat, h7, h20, hru⟩ := hJ
    obtain ⟨r1, r2, r3, r4, r5, r6, r7, r8, r9, -, -, -, -, md, hty⟩ := hru r (by omega)
    obtain ⟨q, I', e1, e2, e3⟩ := c_tst (mu := mu) (fa := fa) hA hty (by omega) r4 hs hat hfa
    have fd : l_fd (l_p cd fa K H T kd) (m + 1) r = if l_p cd fa K H T kd r = true then some r else l_fd (l_p cd fa K H T kd) m (r + 1) := rfl
    have on : ∀ J', l_fr A J J' → fX3_worth_b2 A 61 (nI kd) (z_Rm mu) (nI r, J) = some (.inl (nI (r + 1), J')) → ¬ l_p cd fa K H T kd r = true → ∃ res J', z_lp (fX3_worth_b2 A 61 (nI kd) (z_Rm mu)) (N + 1) (nI r, J) = some res ∧ l_fr A J J' ∧ ((l_fd (l_p cd fa K H T kd) (m + 1) r = none ∧ res = .inl (0, J')) ∨ ∃ q, l_fd (l_p cd fa K H T kd) (m + 1) r = some q ∧ K q = kd ∧ res = .inr (nI q, J')) := by
      intro J' f1 f2 f3
      obtain ⟨res, J2, g1, g2, g3⟩ := ih (r + 1) N J' (by omega) (by omega) (l_rs_same ⟨hn, hs, hat, h7, h20, hru⟩ (l_same_fr hA f1)) (fun j hj => by rw [f1 61 j (by omega) (by omega)]; exact hfa j hj)
      refine ⟨res, J2, ?_, l_fr_t f1 g2, ?_⟩
      · unfold z_lp
        rw [f2]
        exact g1
      · rw [fd, if_neg f3]
        exact g3
    have hb : fX3_worth_b2 A 61 (nI kd) (z_Rm mu) (nI r, J) = _ := rfl
    conv at hb =>
      rhs
      unfold fX3_worth_b2
    dsimp only at hb
    rw [h7, if_neg (nI_ge (show r < n by omega) (by omega)), o4, o6, o7, z_g_t (n_ok p3 (show r < 16 by omega) (by decide)), z_g_t (n_ok p5 (show r < 16 by omega) (by decide)), z_g_t (n_ok p6 (show r < 16 by omega) (by decide)), nI_clamp (show r < 2 ^ 31 by omega), r5, r7, r8, e1, z_b_s, n_s1, z_l_s, z_l_s] at hb
    dsimp only at hb
    by_cases k4 : K r = kd
    · rw [if_pos (by rw [k4])] at hb
      rcases e3 with ⟨rfl, e4⟩ | ⟨rfl, e4, e5⟩
      · rw [if_pos rfl] at hb
        exact on I' e2 hb (by unfold l_p; rw [e4]; simp)
      · rw [if_neg (by decide)] at hb
        rcases e5 with e5 | e5
        · rw [if_pos (e4.trans e5)] at hb
          exact on I' e2 hb (by unfold l_p; rw [e5]; simp)
        · rw [if_neg (by rw [e4, e5]; decide)] at hb
          refine ⟨.inr (nI r, I'), I', ?_, e2, Or.inr ⟨r, ?_, k4, rfl⟩⟩
          · unfold z_lp
            rw [hb]
          · rw [fd, if_pos]
            unfold l_p
            rw [e5, k4]
            simp
    · rw [if_neg (show ¬ nI (K r) = nI kd from n_ne (by omega) (by omega) k4)] at hb
      exact on J l_fr_r hb (by unfold l_p; simp [k4])
theorem l_kind_ne {a b : Nat} (ha : a ≤ 4) (hb : b ≤ 4) (h : a ≠ b) : ¬ nI (l_kind a) = nI (l_kind b) := by
  have : ∀ a, a ≤ 4 → ∀ b, b ≤ 4 → a ≠ b → ¬ nI (l_kind a) = nI (l_kind b) := by decide +kernel
  exact this a ha b hb h
theorem m_hol (hA : A = 41 ∨ A = 49) : ∀ (m r N : Nat) (J : z_He), r + m = n → m < N → l_rs J A s n cd K F H T → (∀ j, j < 8 → J 124 j = fa j) → ∃ res J', z_lp (fX13_holdsAny_b2 102 (nI (l_kind 4)) (z_Rm mu)) N (nI r, J) = some res ∧ l_fm J J' ∧ ((l_fd (l_p cd fa K H T 4) m r = none ∧ res = .inr J') ∨ ∃ q, l_fd (l_p cd fa K H T 4) m r = some q ∧ res = .inl (1, J')) := by
  intro m
  induction m with
  | zero =>
    intro r N J hr hN hJ hfa
    obtain ⟨N, rfl⟩ : ∃ q, N = q + 1 := ⟨N - 1, by omega⟩
    have hn := hJ.1
    refine ⟨.inr J, J, ?_, fun _ _ => rfl, Or.inl ⟨rfl, rfl⟩⟩
    unfold z_lp fX13_holdsAny_b2
    dsimp only
    rw [hJ.2.2.2.2.1, if_pos (nI_le (show n ≤ r by omega) (by omega))]
  | succ m ih =>
    intro r N J hr hN hJ hfa
    obtain ⟨N, rfl⟩ : ∃ q, N = q + 1 := ⟨N - 1, by omega⟩
    obtain ⟨hn, hs, hat, h7, h20, hru⟩ := hJ
    obtain ⟨r1, r2, r3, r4, -, -, -, -, r9, r10, r11, r12, -, md, hty⟩ := hru r (by omega)
    obtain ⟨I', e2, e1, e5⟩ := m_reck (mu := mu) (fa := fa) hA hty (by omega) r4 hs (Or.inr rfl) hat hfa
    rw [if_neg (by decide)] at e1
    have fd : l_fd (l_p cd fa K H T 4) (m + 1) r = if l_p cd fa K H T 4 r = true then some r else l_fd (l_p cd fa K H T 4) m (r + 1) := rfl
    have on : ∀ J', l_fm J J' → fX13_holdsAny_b2 102 (nI (l_kind 4)) (z_Rm mu) (nI r, J) = some (.inl (nI (r + 1), J')) → ¬ l_p cd fa K H T 4 r = true → ∃ res J', z_lp (fX13_holdsAny_b2 102 (nI (l_kind 4)) (z_Rm mu)) (N + 1) (nI r, J) = some res ∧ l_fm J J' ∧ ((l_fd (l_p cd fa K H T 4) (m + 1) r = none ∧ res = .inr J') ∨ ∃ q, l_fd (l_p cd fa K H T 4) (m + 1) r = some q ∧ res = .inl (1, J')) := by
      intro J' f1 f2 f3
      obtain ⟨res, J2, g1, g2, g3⟩ := ih (r + 1) N J' (by omega) (by omega) (l_rs_same ⟨hn, hs, hat, h7, h20, hru⟩ (l_same_fm hA f1)) (fun j hj => by rw [f1 124 (by omega)]; exact hfa j hj)
      refine ⟨res, J2, ?_, fun b hb => (g2 b hb).trans (f1 b hb), ?_⟩
      · unfold z_lp
        rw [f2]
        exact g1
      · rw [fd, if_neg f3]
        exact g3
    have hb : fX13_holdsAny_b2 102 (nI (l_kind 4)) (z_Rm mu) (nI r, J) = _ := rfl
    conv at hb =>
      rhs
      unfold fX13_holdsAny_b2
    dsimp only at hb
    rw [h20, if_neg (nI_ge (show r < n by omega) (by omega)), show z_Rm mu 102 28 = 119 from rfl, show z_Rm mu 102 30 = 121 from rfl, show z_Rm mu 102 31 = 122 from rfl, z_g_t (n_ok (n := 16) rfl (show r < 16 by omega) (by decide)), z_g_t (n_ok (n := 16) rfl (show r < 16 by omega) (by decide)), z_g_t (n_ok (n := 16) rfl (show r < 16 by omega) (by decide)), nI_clamp (show r < 2 ^ 31 by omega), r9, r11, r12, e1, z_b_s, n_s1, z_l_s, z_l_s] at hb
    dsimp only at hb
    by_cases k4 : K r = 4
    · rw [if_pos (by rw [k4])] at hb
      rcases e5 with e5 | e5
      · rw [e5, if_neg (by decide)] at hb
        exact on I' e2 hb (by unfold l_p; rw [e5, k4]; decide)
      · rw [e5, if_pos rfl] at hb
        refine ⟨.inl (1, I'), I', ?_, e2, Or.inr ⟨r, ?_, rfl⟩⟩
        · unfold z_lp
          rw [hb]
        · rw [fd, if_pos]
          unfold l_p
          rw [e5, k4]
          decide
    · rw [if_neg (l_kind_ne r1 (by decide) k4)] at hb
      exact on J (fun _ _ => rfl) hb (by unfold l_p; simp [k4])
theorem m_byl (hA : A = 41 ∨ A = 49) {kd : Nat} {hi : Int32} (hkd : kd ≤ 4) : ∀ (m r N : Nat) (J : z_He), r + m = n → m < N → l_rs J A s n cd K F H T → (∀ j, j < 8 → J 124 j = fa j) → ∃ res J', z_lp (fX13_byLaw_b2 102 (nI (l_kind kd)) hi (z_Rm mu)) N (nI r, J) = some res ∧ l_fm J J' ∧ ((l_fd (l_p cd fa K H T kd) m r = none ∧ res = .inl (0, J')) ∨ ∃ q, l_fd (l_p cd fa K H T kd) m r = some q ∧ K q = kd ∧ res = .inr (nI q, J')) := by
  intro m
  induction m with
  | zero =>
    intro r N J hr hN hJ hfa
    obtain ⟨N, rfl⟩ : ∃ q, N = q + 1 := ⟨N - 1, by omega⟩
    have hn := hJ.1
    refine ⟨.inl (0, J), J, ?_, fun _ _ => rfl, Or.inl ⟨rfl, rfl⟩⟩
    unfold z_lp fX13_byLaw_b2
    dsimp only
    rw [hJ.2.2.2.2.1, if_pos (nI_le (show n ≤ r by omega) (by omega))]
  | succ m ih =>
    intro r N J hr hN hJ hfa
    obtain ⟨N, rfl⟩ : ∃ q, N = q + 1 := ⟨N - 1, by omega⟩
    obtain ⟨hn, hs, hat, h7, h20, hru⟩ := hJ
    obtain ⟨r1, r2, r3, r4, -, -, -, -, r9, r10, r11, r12, -, md, hty⟩ := hru r (by omega)
    obtain ⟨I', e2, e1, e5⟩ := m_reck (mu := mu) (fa := fa) hA hty (by omega) r4 hs (Or.inr rfl) hat hfa
    rw [if_neg (by decide)] at e1
    have fd : l_fd (l_p cd fa K H T kd) (m + 1) r = if l_p cd fa K H T kd r = true then some r else l_fd (l_p cd fa K H T kd) m (r + 1) := rfl
    have on : ∀ J', l_fm J J' → fX13_byLaw_b2 102 (nI (l_kind kd)) hi (z_Rm mu) (nI r, J) = some (.inl (nI (r + 1), J')) → ¬ l_p cd fa K H T kd r = true → ∃ res J', z_lp (fX13_byLaw_b2 102 (nI (l_kind kd)) hi (z_Rm mu)) (N + 1) (nI r, J) = some res ∧ l_fm J J' ∧ ((l_fd (l_p cd fa K H T kd) (m + 1) r = none ∧ res = .inl (0, J')) ∨ ∃ q, l_fd (l_p cd fa K H T kd) (m + 1) r = some q ∧ K q = kd ∧ res = .inr (nI q, J')) := by
      intro J' f1 f2 f3
      obtain ⟨res, J2, g1, g2, g3⟩ := ih (r + 1) N J' (by omega) (by omega) (l_rs_same ⟨hn, hs, hat, h7, h20, hru⟩ (l_same_fm hA f1)) (fun j hj => by rw [f1 124 (by omega)]; exact hfa j hj)
      refine ⟨res, J2, ?_, fun b hb => (g2 b hb).trans (f1 b hb), ?_⟩
      · unfold z_lp
        rw [f2]
        exact g1
      · rw [fd, if_neg f3]
        exact g3
    have hb : fX13_byLaw_b2 102 (nI (l_kind kd)) hi (z_Rm mu) (nI r, J) = _ := rfl
    conv at hb =>
      rhs
      unfold fX13_byLaw_b2
    dsimp only at hb
    rw [h20, if_neg (nI_ge (show r < n by omega) (by omega)), show z_Rm mu 102 28 = 119 from rfl, show z_Rm mu 102 30 = 121 from rfl, show z_Rm mu 102 31 = 122 from rfl, z_g_t (n_ok (n := 16) rfl (show r < 16 by omega) (by decide)), z_g_t (n_ok (n := 16) rfl (show r < 16 by omega) (by decide)), z_g_t (n_ok (n := 16) rfl (show r < 16 by omega) (by decide)), nI_clamp (show r < 2 ^ 31 by omega), r9, r11, r12, e1, z_b_s, n_s1, z_l_s, z_l_s] at hb
    dsimp only at hb
    by_cases k4 : K r = kd
    · rw [if_pos (by rw [k4])] at hb
      rcases e5 with e5 | e5
      · rw [e5, if_neg (by decide)] at hb
        exact on I' e2 hb (by unfold l_p; rw [e5]; simp)
      · rw [e5, if_pos rfl] at hb
        refine ⟨.inr (nI r, I'), I', ?_, e2, Or.inr ⟨r, ?_, k4, rfl⟩⟩
        · unfold z_lp
          rw [hb]
        · rw [fd, if_pos]
          unfold l_p
          rw [e5, k4]
          simp
    · rw [if_neg (l_kind_ne r1 hkd k4)] at hb
      exact on J (fun _ _ => rfl) hb (by unfold l_p; simp [k4])
end LR
def l_hi (kd : Nat) : Nat := match kd with
  | 0 => 60
  | 1 => 60
  | 2 => 20
  | _ => 10
def l_clamp (v : Int32) (hi : Nat) : Int32 := z_max 0 (z_min v (nI hi))
theorem l_clamp_m {v : Int32} {hi : Nat} (hh : hi ≤ 60) {α : Type} {J : α} : (if 0 ≤ v then (if v ≤ nI hi then some (v, J) else some (nI hi, J)) else some ((0 : Int32), J)) = some (l_clamp v hi, J) := by
  unfold l_clamp z_max z_min
  have hhi := nI_toInt (show hi < 2 ^ 31 by omega)
  by_cases c0 : 0 ≤ v
  · rw [if_pos c0]
    have c0' : (0 : Int) ≤ v.toInt := Int32.le_iff_toInt_le.mp c0
    by_cases c1 : v ≤ nI hi
    · have c1' := Int32.le_iff_toInt_le.mp c1
      rw [if_pos c1, if_neg (show ¬ nI hi < v by rw [Int32.lt_iff_toInt_lt]; omega)]
      by_cases c2 : (0 : Int32) < v
      · rw [if_pos c2]
      · rw [if_neg c2]
        have : v = 0 := by
          rw [← Int32.toInt_inj]
          rw [Int32.lt_iff_toInt_lt] at c2
          have e0 : (0 : Int32).toInt = 0 := rfl
          omega
        rw [this]
    · have c1' : ¬ v.toInt ≤ (nI hi).toInt := fun q => c1 (Int32.le_iff_toInt_le.mpr q)
      rw [if_neg c1, if_pos (show nI hi < v by rw [Int32.lt_iff_toInt_lt]; omega)]
      by_cases c2 : (0 : Int32) < nI hi
      · rw [if_pos c2]
      · rw [if_neg c2]
        have : hi = 0 := by
          rw [Int32.lt_iff_toInt_lt, hhi] at c2
          have e0 : (0 : Int32).toInt = 0 := rfl
          omega
        rw [this]; rfl
  · rw [if_neg c0]
    have c0' : ¬ (0 : Int32).toInt ≤ v.toInt := fun q => c0 (Int32.le_iff_toInt_le.mpr q)
    have e0 : (0 : Int32).toInt = 0 := rfl
    rw [if_neg (show ¬ nI hi < v by rw [Int32.lt_iff_toInt_lt]; omega), if_neg (show ¬ (0 : Int32) < v by rw [Int32.lt_iff_toInt_lt]; omega)]
theorem l_clamp_w {v : Int32} {hi : Nat} (hh : hi ≤ 60) : ∃ w, w ≤ 60 ∧ l_clamp v hi = nI w := by
  unfold l_clamp z_max z_min
  by_cases c : nI hi < v
  · rw [if_pos c]
    by_cases c2 : (0 : Int32) < nI hi
    · rw [if_pos c2]; exact ⟨hi, hh, rfl⟩
    · rw [if_neg c2]; exact ⟨0, by decide, rfl⟩
  · rw [if_neg c]
    by_cases c2 : (0 : Int32) < v
    · rw [if_pos c2]
      obtain ⟨i, h1, h2⟩ := n_of (x := v) (b := hi) (by omega) (fun q => by rw [Int32.lt_iff_toInt_lt] at q c2; omega) c
      exact ⟨i, by omega, h2⟩
    · rw [if_neg c2]; exact ⟨0, by decide, rfl⟩
theorem c_hi {kd : Nat} (h : kd ≤ 3) : fX3_highestOf (nI kd) = some (nI (l_hi kd)) := by
  have : ∀ kd, kd ≤ 3 → fX3_highestOf (nI kd) = some (nI (l_hi kd)) := by decide +kernel
  exact this kd h
theorem l_hi60 (kd : Nat) : l_hi kd ≤ 60 := by
  unfold l_hi
  split <;> decide
/-- what the law says, for class and model -/
theorem law_both {I : z_He} {A : Nat} (hA : A = 41 ∨ A = 49) (h : r_L I A) : ∃ (X : (Nat → Int32) → Int32) (W : Nat → (Nat → Int32) → Int32), (∀ fa, X fa = 0 ∨ X fa = 1) ∧ (∀ kd fa, ∃ w, w ≤ 60 ∧ W kd fa = nI w) ∧
    (∀ mu J fa, l_same A I J → (∀ j, j < 8 → J 61 j = fa j) → ∃ J', fX3_silences A 61 J (z_Rm mu) = some (X fa, J') ∧ l_fr A J J') ∧
    (∀ mu J fa kd, kd ≤ 3 → l_same A I J → (∀ j, j < 8 → J 61 j = fa j) → ∃ J', fX3_worth A (nI kd) 61 J (z_Rm mu) = some (W kd fa, J') ∧ l_fr A J J') ∧
    (∀ mu J fa, l_same A I J → (∀ j, j < 8 → J 124 j = fa j) → ∃ J', fX13_holdsAny 102 120 J (z_Rm mu) = some (X fa, J') ∧ l_fm J J') ∧
    (∀ mu J fa kd, kd ≤ 3 → l_same A I J → (∀ j, j < 8 → J 124 j = fa j) → ∃ J', fX13_byLaw 102 (nI (l_kind kd)) (nI (l_hi kd)) J (z_Rm mu) = some (W kd fa, J') ∧ l_fm J J') := by
  obtain ⟨s, n, cd, K, F, H, T, hrs⟩ := l_rs_of h
  refine ⟨fun fa => if (l_fd (l_p cd fa K H T 4) n 0).isSome = true then 1 else 0, fun kd fa => match l_fd (l_p cd fa K H T kd) n 0 with
    | none => 0
    | some q => l_clamp (l_val cd fa (F q) (H q)) (l_hi kd), ?_, ?_, ?_, ?_, ?_, ?_⟩
  · intro fa
    dsimp only
    split
    · exact Or.inr rfl
    · exact Or.inl rfl
  · intro kd fa
    dsimp only
    split
    · exact ⟨0, by decide, rfl⟩
    · exact l_clamp_w (l_hi60 kd)
  · intro mu J fa hJ hfa
    obtain ⟨o1, -⟩ := l_o (mu := mu) hA
    have hn := hrs.1
    obtain ⟨res, J', e1, e2, e3⟩ := c_sil (mu := mu) (fa := fa) hA n 0 300 J (by omega) (by omega) (l_rs_same hrs hJ) hfa
    refine ⟨J', ?_, e2⟩
    unfold fX3_silences
    rw [z_g_t o1, z_g_t (show z_ar 61 from rfl), show ((0 : Int32), J) = (nI 0, J) from rfl, e1, z_b_s]
    rcases e3 with ⟨g1, rfl⟩ | ⟨q, g1, rfl⟩
    · dsimp only
      rw [g1]
      rfl
    · dsimp only
      rw [g1]
      rfl
  · intro mu J fa kd hkd hJ hfa
    obtain ⟨o1, -, -, -, o5, o6, -, o8, -, -, -, p4, p5, -, p7⟩ := l_o (mu := mu) hA
    have hn := hrs.1
    have hrJ := l_rs_same hrs hJ
    obtain ⟨res, J', e1, e2, e3⟩ := c_wor (mu := mu) (fa := fa) (kd := kd) hA (by omega) n 0 300 J (by omega) (by omega) hrJ hfa
    unfold fX3_worth
    rw [z_g_t o1, z_g_t (show z_ar 61 from rfl), show ((0 : Int32), J) = (nI 0, J) from rfl, e1, z_b_s]
    rcases e3 with ⟨g1, rfl⟩ | ⟨q, g1, g2, rfl⟩
    · refine ⟨J', ?_, e2⟩
      dsimp only
      rw [g1]
      rfl
    · have hq := l_fd_lt g1
      have hrJ' := l_rs_same hrJ (l_same_fr hA e2)
      obtain ⟨r1, r2, r3, r4, r5, r6, r7, r8, r9, -, -, -, hv, -⟩ := hrJ'.2.2.2.2.2 q (by omega)
      obtain ⟨md, hty, -⟩ := hv (by omega)
      obtain ⟨z, I', f1, f2, f3⟩ := c_val (mu := mu) (fa := fa) hA hty r2 (by omega) hrs.2.1 hrJ'.2.2.1 (fun j hj => by rw [e2 61 j (by omega) (by omega)]; exact hfa j hj)
      refine ⟨I', ?_, l_fr_t e2 f2⟩
      dsimp only
      rw [g1]
      dsimp only [z_x]
      unfold fX3_worth_j77
      rw [o5, o6, o8, z_g_t (n_ok p4 (show q < 16 by omega) (by decide)), z_g_t (n_ok p5 (show q < 16 by omega) (by decide)), nI_clamp (show q < 2 ^ 31 by omega), r6, r7, f1, z_b_s, z_g_t (show z_ok 1 (A + 7) 0 from n_ok (k := 0) p7 (by decide) (by decide)), c_hi hkd, z_b_s, z_b_s]
      dsimp only
      rcases f3 with ⟨rfl, f4⟩ | ⟨rfl, f4⟩
      · rw [if_pos rfl, f4]; rfl
      · rw [if_neg (by decide), show (0 : Int32).toNatClampNeg = 0 from rfl, f4]; rfl
  · intro mu J fa hJ hfa
    have hn := hrs.1
    obtain ⟨res, J', e1, e2, e3⟩ := m_hol (mu := mu) (fa := fa) hA n 0 300 J (by omega) (by omega) (l_rs_same hrs hJ) hfa
    refine ⟨J', ?_, e2⟩
    unfold fX13_holdsAny
    rw [z_g_t m_ob, show ((0 : Int32), J) = (nI 0, J) from rfl, show (120 : Int32) = nI (l_kind 4) from rfl, e1, z_b_s]
    rcases e3 with ⟨g1, rfl⟩ | ⟨q, g1, rfl⟩
    · dsimp only
      rw [g1]
      rfl
    · dsimp only
      rw [g1]
      rfl
  · intro mu J fa kd hkd hJ hfa
    have hn := hrs.1
    have hrJ := l_rs_same hrs hJ
    obtain ⟨res, J', e1, e2, e3⟩ := m_byl (mu := mu) (fa := fa) (kd := kd) (hi := nI (l_hi kd)) hA (by omega) n 0 300 J (by omega) (by omega) hrJ hfa
    unfold fX13_byLaw
    rw [z_g_t m_ob, show ((0 : Int32), J) = (nI 0, J) from rfl, e1, z_b_s]
    rcases e3 with ⟨g1, rfl⟩ | ⟨q, g1, g2, rfl⟩
    · refine ⟨J', ?_, e2⟩
      dsimp only
      rw [g1]
      rfl
    · have hq := l_fd_lt g1
      have hrJ' := l_rs_same hrJ (l_same_fm hA e2)
      obtain ⟨r1, r2, r3, r4, -, -, -, -, r9, r10, r11, -, hv, -⟩ := hrJ'.2.2.2.2.2 q (by omega)
      obtain ⟨md, hty, -⟩ := hv (by omega)
      obtain ⟨I', f2, f1, -⟩ := m_reck (mu := mu) (fa := fa) hA hty r2 (by omega) hrs.2.1 (Or.inl rfl) hrJ'.2.2.1 (fun j hj => by rw [e2 124 (by omega)]; exact hfa j hj)
      refine ⟨I', ?_, fun b hb => (f2 b hb).trans (e2 b hb)⟩
      dsimp only
      rw [g1]
      dsimp only [z_x]
      rw [show z_Rm mu 102 29 = 120 from rfl, show z_Rm mu 102 30 = 121 from rfl, z_g_t (n_ok (n := 16) rfl (show q < 16 by omega) (by decide)), z_g_t (n_ok (n := 16) rfl (show q < 16 by omega) (by decide)), nI_clamp (show q < 2 ^ 31 by omega), r10, r11, f1, z_b_s, if_pos rfl]
      exact l_clamp_m (l_hi60 kd)
