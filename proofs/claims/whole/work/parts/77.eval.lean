/-! the law's steps: a plain reckoning, the class's, the model's -/
abbrev z_He : Type := Nat → Nat → Int32
def l_ar (op : Nat) (x y : Int32) : Int32 := if op = 2 then x + y else if op = 3 then x - y else if op = 4 then x * y else if op = 5 then x / y else z_rem x y
def l_cm (op : Nat) (x y : Int32) : Int32 := if op = 7 then (if y ≤ x then 0 else 1) else if op = 8 then (if x ≤ y then 0 else 1) else (if x = y then 1 else 0)
theorem l_cm01 (op : Nat) (x y : Int32) : l_cm op x y = 0 ∨ l_cm op x y = 1 := by
  unfold l_cm
  split
  · split
    · exact Or.inl rfl
    · exact Or.inr rfl
  · split
    · split
      · exact Or.inl rfl
      · exact Or.inr rfl
    · split
      · exact Or.inr rfl
      · exact Or.inl rfl
def l_dep (m : Nat) : Nat := if m = 100 then 0 else m
def l_ev (cd : l_C) (fa : Nat → Int32) (t : Nat) : Nat → Nat → Nat → (Nat → Int32) → Int32 → Option (Int32 × Int32)
  | 0, _, _, v, b => some (v 0, b)
  | n + 1, k, d, v, b =>
    if t ≤ k then some (v 0, b)
    else if (cd k).1 ≤ 1 then l_ev cd fa t n (k + 1) (d + 1) (upd v d (if (cd k).1 = 0 then nI (cd k).2.1 else fa (cd k).2.1)) b
    else if (cd k).1 ≤ 6 then (if ((cd k).1 = 5 ∨ (cd k).1 = 6) ∧ v (d - 1) = 0 then none else l_ev cd fa t n (k + 1) (d - 1) (upd v (d - 2) (l_ar (cd k).1 (v (d - 2)) (v (d - 1)))) b)
    else if (cd k).1 ≤ 9 then l_ev cd fa t n (k + 1) 0 v (l_cm (cd k).1 (v 0) (v 1))
    else if (cd k).1 = 10 then l_ev cd fa t n (k + 1) 0 v (1 - b)
    else if b = (if (cd k).1 = 12 then 1 else 0) then l_ev cd fa t n (cd k).2.2.1 0 v b
    else l_ev cd fa t n (k + 1) 0 v b
theorem l_ev_t {cd : l_C} {fa : Nat → Int32} {t n k d : Nat} {v : Nat → Int32} {b : Int32} (h : t ≤ k) : l_ev cd fa t n k d v b = some (v 0, b) := by
  cases n with
  | zero => rfl
  | succ n => unfold l_ev; rw [if_pos h]
/-- enough fuel is enough -/
theorem l_ev_n {cd : l_C} {md : Nat → Nat} {fa : Nat → Int32} {f t e : Nat} (hty : l_ty cd md f t e) : ∀ (n m k d : Nat) (v : Nat → Int32) (b : Int32), f ≤ k → t - k ≤ n → t - k ≤ m → l_ev cd fa t n k d v b = l_ev cd fa t m k d v b := by
  intro n
  induction n with
  | zero =>
    intro m k d v b hf h1 h2
    rw [l_ev_t (by omega), l_ev_t (by omega)]
  | succ n ih =>
    intro m k d v b hf h1 h2
    by_cases hk : t ≤ k
    · rw [l_ev_t hk, l_ev_t hk]
    obtain ⟨m, rfl⟩ : ∃ q, m = q + 1 := ⟨m - 1, by omega⟩
    have T := hty.2.2 k hf (by omega)
    unfold l_ev
    rw [if_neg hk, if_neg hk]
    by_cases c1 : (cd k).1 ≤ 1
    · rw [if_pos c1, if_pos c1]
      exact ih m _ _ _ _ (by omega) (by omega) (by omega)
    rw [if_neg c1, if_neg c1]
    by_cases c2 : (cd k).1 ≤ 6
    · rw [if_pos c2, if_pos c2]
      by_cases c3 : ((cd k).1 = 5 ∨ (cd k).1 = 6) ∧ v (d - 1) = 0
      · rw [if_pos c3, if_pos c3]
      · rw [if_neg c3, if_neg c3]
        exact ih m _ _ _ _ (by omega) (by omega) (by omega)
    rw [if_neg c2, if_neg c2]
    by_cases c3 : (cd k).1 ≤ 9
    · rw [if_pos c3, if_pos c3]
      exact ih m _ _ _ _ (by omega) (by omega) (by omega)
    rw [if_neg c3, if_neg c3]
    by_cases c4 : (cd k).1 = 10
    · rw [if_pos c4, if_pos c4]
      exact ih m _ _ _ _ (by omega) (by omega) (by omega)
    rw [if_neg c4, if_neg c4]
    have tc : k < (cd k).2.2.1 := by omega
    by_cases c5 : b = (if (cd k).1 = 12 then 1 else 0)
    · rw [if_pos c5, if_pos c5]
      exact ih m _ _ _ _ (by omega) (by omega) (by omega)
    · rw [if_neg c5, if_neg c5]
      exact ih m _ _ _ _ (by omega) (by omega) (by omega)
/-! the class -/
theorem l_o {mu : Nat → Nat} {A : Nat} (hA : A = 41 ∨ A = 49) : z_ob A 3 ∧ z_Rm mu A 0 = A + 1 ∧ z_Rm mu A 1 = A + 2 ∧ z_Rm mu A 3 = A + 3 ∧ z_Rm mu A 4 = A + 4 ∧ z_Rm mu A 5 = A + 5 ∧ z_Rm mu A 6 = A + 6 ∧ z_Rm mu A 8 = A + 7 ∧ z_len 1 (A + 1) = 240 ∧ z_len 1 (A + 2) = 240 ∧ z_len 1 (A + 3) = 16 ∧ z_len 1 (A + 4) = 16 ∧ z_len 1 (A + 5) = 16 ∧ z_len 1 (A + 6) = 16 ∧ z_len 1 (A + 7) = 32 := by
  rcases hA with rfl | rfl
  · exact ⟨rfl, rfl, rfl, rfl, rfl, rfl, rfl, rfl, rfl, rfl, rfl, rfl, rfl, rfl, rfl⟩
  · exact ⟨rfl, rfl, rfl, rfl, rfl, rfl, rfl, rfl, rfl, rfl, rfl, rfl, rfl, rfl, rfl⟩
def l_fr (A : Nat) (I I' : z_He) : Prop := ∀ b k, b ≠ A + 7 → ¬ (b = A ∧ (k = 9 ∨ k = 10)) → I' b k = I b k
theorem l_fr_r {A : Nat} {I : z_He} : l_fr A I I := fun _ _ _ _ => rfl
theorem l_fr_t {A : Nat} {I J K : z_He} (h1 : l_fr A I J) (h2 : l_fr A J K) : l_fr A I K := fun b k p q => (h2 b k p q).trans (h1 b k p q)
theorem l_fr_u {A k : Nat} {I : z_He} {v : Int32} (h : k = 9 ∨ k = 10) : l_fr A I (z_u I A k v) := by
  intro b j p q
  rw [z_u_eq, if_neg]
  rintro ⟨rfl, rfl⟩
  exact q ⟨rfl, h⟩
theorem l_fr_v {A k : Nat} {I : z_He} {v : Int32} : l_fr A I (z_u I (A + 7) k v) := by
  intro b j p q
  rw [z_u_eq, if_neg]
  rintro ⟨rfl, rfl⟩
  exact p rfl
theorem c_push {mu : Nat → Nat} {A d : Nat} {I : z_He} {x : Int32} (hA : A = 41 ∨ A = 49) (hd : d < 32) (h : I A 9 = nI d) : fX3_push A x I (z_Rm mu) = some (z_u (z_u I (A + 7) d x) A 9 (nI (d + 1))) := by
  obtain ⟨o1, -, -, -, -, -, -, o8, -, -, -, -, -, -, p7⟩ := l_o (mu := mu) hA
  unfold fX3_push
  rw [z_g_t o1, h, if_neg (show ¬ (32 : Int32) ≤ nI d from nI_ge hd (by decide)), o8, z_g_t (n_ok p7 hd (by decide)), nI_clamp (by omega), z_l_s, z_l_s, u_o (by omega), h, n_s1]
theorem c_comb {mu : Nat → Nat} {A d op : Nat} {I : z_He} (hA : A = 41 ∨ A = 49) (hd : d < 32) (hd2 : 2 ≤ d) (h : I A 9 = nI d) (h1 : 2 ≤ op) (h2 : op ≤ 6) : fX3_combine A (nI (l_op op)) I (z_Rm mu) = if (op = 5 ∨ op = 6) ∧ I (A + 7) (d - 1) = 0 then some (0, I) else some (1, z_u (z_u I (A + 7) (d - 2) (l_ar op (I (A + 7) (d - 2)) (I (A + 7) (d - 1)))) A 9 (nI (d - 1))) := by
  obtain ⟨o1, -, -, -, -, -, -, o8, -, -, -, -, -, -, p7⟩ := l_o (mu := mu) hA
  have e2 : nI d - (2 : Int32) = nI (d - 2) := n_sub (b := 2) hd2
  have e1 : nI d - (1 : Int32) = nI (d - 1) := n_sub (b := 1) (by omega)
  have g1 : ¬ nI d < (2 : Int32) := nI_nlt (b := 2) hd2 (by omega)
  have g2 : nI d ≤ (32 : Int32) := nI_le (b := 32) (by omega) (by decide)
  have key : ∀ (y : Int32) (v : Int32), ¬ y = 60 → ¬ y = 62 → ¬ y = 61 → fX3_combine_j238 A y (z_u I (A + 7) (d - 2) v) (z_Rm mu) = some (1, z_u (z_u I (A + 7) (d - 2) v) A 9 (nI (d - 1))) := by
    intro y v y1 y2 y3
    unfold fX3_combine_j238 fX3_combine_j266
    rw [if_neg y1, if_neg y2, if_neg y3, z_g_t o1, z_l_s, u_o (by omega), h, e1]
  unfold fX3_combine
  rw [z_g_t o1, h, if_neg g1, if_pos g2, o8, e2, e1, z_g_t (n_ok p7 (show d - 2 < 32 by omega) (by decide)), nI_clamp (show d - 2 < 2 ^ 31 by omega), z_l_s, z_g_t (n_ok p7 (show d - 1 < 32 by omega) (by decide)), nI_clamp (show d - 1 < 2 ^ 31 by omega), z_l_s]
  have hop : op = 2 ∨ op = 3 ∨ op = 4 ∨ op = 5 ∨ op = 6 := by omega
  rcases hop with rfl | rfl | rfl | rfl | rfl
  · rw [if_neg (show ¬ nI (l_op 2) = 42 by decide), if_pos (show nI (l_op 2) = 43 from rfl), z_l_s, key _ _ (by decide) (by decide) (by decide), if_neg (by omega)]
    rfl
  · rw [if_neg (show ¬ nI (l_op 3) = 42 by decide), if_neg (show ¬ nI (l_op 3) = 43 by decide), if_pos (show nI (l_op 3) = 45 from rfl), z_l_s, key _ _ (by decide) (by decide) (by decide), if_neg (by omega)]
    rfl
  · rw [if_pos (show nI (l_op 4) = 42 from rfl), z_l_s, key _ _ (by decide) (by decide) (by decide), if_neg (by omega)]
    rfl
  · rw [if_neg (show ¬ nI (l_op 5) = 42 by decide), if_neg (show ¬ nI (l_op 5) = 43 by decide), if_neg (show ¬ nI (l_op 5) = 45 by decide), if_neg (show ¬ nI (l_op 5) = 60 by decide), if_neg (show ¬ nI (l_op 5) = 61 by decide), if_neg (show ¬ nI (l_op 5) = 62 by decide)]
    by_cases c : I (A + 7) (d - 1) = 0
    · rw [if_pos c, if_pos ⟨Or.inl rfl, c⟩]
    · rw [if_neg c, if_pos (show nI (l_op 5) = 47 from rfl), z_g_t c, if_neg (fun q => c q.2)]
      unfold fX3_combine_j237
      rw [z_g_t (n_ok p7 (show d - 2 < 32 by omega) (by decide)), nI_clamp (show d - 2 < 2 ^ 31 by omega), z_l_s, key _ _ (by decide) (by decide) (by decide)]
      rfl
  · rw [if_neg (show ¬ nI (l_op 6) = 42 by decide), if_neg (show ¬ nI (l_op 6) = 43 by decide), if_neg (show ¬ nI (l_op 6) = 45 by decide), if_neg (show ¬ nI (l_op 6) = 60 by decide), if_neg (show ¬ nI (l_op 6) = 61 by decide), if_neg (show ¬ nI (l_op 6) = 62 by decide)]
    by_cases c : I (A + 7) (d - 1) = 0
    · rw [if_pos c, if_pos ⟨Or.inr rfl, c⟩]
    · rw [if_neg c, if_neg (show ¬ nI (l_op 6) = 47 by decide), z_g_t c, if_neg (fun q => c q.2)]
      unfold fX3_combine_j237
      rw [z_g_t (n_ok p7 (show d - 2 < 32 by omega) (by decide)), nI_clamp (show d - 2 < 2 ^ 31 by omega), z_l_s, key _ _ (by decide) (by decide) (by decide)]
      rfl
theorem c_comp {mu : Nat → Nat} {A op : Nat} {I : z_He} (hA : A = 41 ∨ A = 49) (h : I A 9 = nI 2) (h1 : 7 ≤ op) (h2 : op ≤ 9) : fX3_combine A (nI (l_op op)) I (z_Rm mu) = some (1, z_u (z_u I A 10 (l_cm op (I (A + 7) 0) (I (A + 7) 1))) A 9 0) := by
  obtain ⟨o1, -, -, -, -, -, -, o8, -, -, -, -, -, -, p7⟩ := l_o (mu := mu) hA
  have key : ∀ (y : Int32) (v : Int32), (y = 60 ∨ y = 62 ∨ y = 61) → fX3_combine_j238 A y (z_u I A 10 v) (z_Rm mu) = some (1, z_u (z_u I A 10 v) A 9 0) := by
    intro y v hy
    unfold fX3_combine_j238 fX3_combine_j261 fX3_combine_j266
    rw [z_g_t o1, z_l_s, z_u_k (show (9 : Nat) ≠ 10 by decide), h, show nI 2 - (2 : Int32) = 0 from rfl]
    rcases hy with rfl | rfl | rfl
    · rw [if_pos rfl]
    · rw [if_neg (by decide), if_pos rfl]
    · rw [if_neg (by decide), if_neg (by decide), if_pos rfl]
  unfold fX3_combine
  rw [z_g_t o1, h, if_neg (show ¬ nI 2 < 2 by decide), if_pos (show nI 2 ≤ 32 by decide), o8, show nI 2 - (2 : Int32) = nI 0 from rfl, show nI 2 - (1 : Int32) = nI 1 from rfl, z_g_t (n_ok p7 (show 0 < 32 by decide) (by decide)), nI_clamp (show 0 < 2 ^ 31 by decide), z_l_s, z_g_t (n_ok p7 (show 1 < 32 by decide) (by decide)), nI_clamp (show 1 < 2 ^ 31 by decide), z_l_s]
  have hop : op = 7 ∨ op = 8 ∨ op = 9 := by omega
  rcases hop with rfl | rfl | rfl
  · rw [if_neg (show ¬ nI (l_op 7) = 42 by decide), if_neg (show ¬ nI (l_op 7) = 43 by decide), if_neg (show ¬ nI (l_op 7) = 45 by decide), if_pos (show nI (l_op 7) = 60 from rfl), show l_cm 7 (I (A + 7) 0) (I (A + 7) 1) = (if I (A + 7) 1 ≤ I (A + 7) 0 then 0 else 1) from rfl]
    unfold fX3_combine_j115
    by_cases c : I (A + 7) 1 ≤ I (A + 7) 0
    · rw [if_pos c, if_pos c, z_g_t o1, z_g_t (Or.inl rfl), z_l_s, key (nI (l_op 7)) _ (Or.inl rfl)]
    · rw [if_neg c, if_neg c, z_g_t o1, z_g_t (Or.inr rfl), z_l_s, key (nI (l_op 7)) _ (Or.inl rfl)]
  · rw [if_neg (show ¬ nI (l_op 8) = 42 by decide), if_neg (show ¬ nI (l_op 8) = 43 by decide), if_neg (show ¬ nI (l_op 8) = 45 by decide), if_neg (show ¬ nI (l_op 8) = 60 by decide), if_neg (show ¬ nI (l_op 8) = 61 by decide), if_pos (show nI (l_op 8) = 62 from rfl), show l_cm 8 (I (A + 7) 0) (I (A + 7) 1) = (if I (A + 7) 0 ≤ I (A + 7) 1 then 0 else 1) from rfl]
    unfold fX3_combine_j132
    by_cases c : I (A + 7) 0 ≤ I (A + 7) 1
    · rw [if_pos c, if_pos c, z_g_t o1, z_g_t (Or.inl rfl), z_l_s, key (nI (l_op 8)) _ (Or.inr (Or.inl rfl))]
    · rw [if_neg c, if_neg c, z_g_t o1, z_g_t (Or.inr rfl), z_l_s, key (nI (l_op 8)) _ (Or.inr (Or.inl rfl))]
  · rw [if_neg (show ¬ nI (l_op 9) = 42 by decide), if_neg (show ¬ nI (l_op 9) = 43 by decide), if_neg (show ¬ nI (l_op 9) = 45 by decide), if_neg (show ¬ nI (l_op 9) = 60 by decide), if_pos (show nI (l_op 9) = 61 from rfl), show l_cm 9 (I (A + 7) 0) (I (A + 7) 1) = (if I (A + 7) 0 = I (A + 7) 1 then 1 else 0) from rfl]
    unfold fX3_combine_j149
    by_cases c : I (A + 7) 0 = I (A + 7) 1
    · rw [if_pos c, if_pos c, z_g_t o1, z_g_t (Or.inr rfl), z_l_s, key (nI (l_op 9)) _ (Or.inr (Or.inr rfl))]
    · rw [if_neg c, if_neg c, z_g_t o1, z_g_t (Or.inl rfl), z_l_s, key (nI (l_op 9)) _ (Or.inr (Or.inr rfl))]
/-- the law's code lies there, in both forms -/
def l_at (I : z_He) (A s : Nat) (cd : l_C) : Prop := I A 2 = nI s ∧ ∀ k, k < s → l_code I A cd k
theorem l_at_fr {I J : z_He} {A s : Nat} {cd : l_C} (hA : A = 41 ∨ A = 49) (h : l_at I A s cd) (hf : l_fr A I J) : l_at J A s cd := by
  refine ⟨by rw [hf A 2 (by omega) (by omega)]; exact h.1, fun k hk => ?_⟩
  have := h.2 k hk
  unfold l_code at this ⊢
  rw [hf (A + 1) k (by omega) (by omega), hf (A + 2) k (by omega) (by omega), hf 118 k (by omega) (by omega)]
  exact this
theorem c_j209 {A c : Nat} {z2 y7 : Int32} {I : z_He} {R : Nat → Nat → Nat} : fX3_reckon_j209_16 A 61 z2 (nI c) y7 I R = some (.inl (y7, nI (c + 1), I)) := by
  unfold fX3_reckon_j209_16
  rw [z_l_s, n_s1]
theorem c_ev {mu : Nat → Nat} {A : Nat} {cd : l_C} {md : Nat → Nat} {f t e s : Nat} {fa : Nat → Int32} (hA : A = 41 ∨ A = 49) (hty : l_ty cd md f t e) (hts : t ≤ s) (hs : s ≤ 240) (he : e = 1 ∨ e = 100) : ∀ (n k : Nat) (I : z_He) (v : Nat → Int32) (b : Int32) (c N : Nat), f ≤ k → k ≤ t → t - k ≤ n → n < N → c + n ≤ 240 → l_at I A s cd → (∀ j, j < 8 → I 61 j = fa j) → I A 9 = nI (l_dep (md k)) → (∀ j, j < l_dep (md k) → I (A + 7) j = v j) → (md k = 100 → I A 10 = b) → (b = 0 ∨ b = 1) →
    ∃ r I', z_lp (fX3_reckon_b16 A 61 (nI t) (z_Rm mu)) N (nI k, nI c, I) = some r ∧ l_fr A I I' ∧ ((l_ev cd fa t n k (l_dep (md k)) v b = none ∧ r = .inl (0, I')) ∨ ∃ w b', l_ev cd fa t n k (l_dep (md k)) v b = some (w, b') ∧ r = .inr I' ∧ (e = 1 → I' (A + 7) 0 = w) ∧ (e = 100 → I' A 10 = b') ∧ (b' = 0 ∨ b' = 1)) := by
  obtain ⟨o1, o2, o3, -, -, -, -, -, p1, p2, -⟩ := l_o (mu := mu) hA
  have hex : ∀ (n : Nat) (I : z_He) (v : Nat → Int32) (b : Int32) (c N : Nat), 0 < N → c ≤ 240 → (∀ j, j < l_dep (md t) → I (A + 7) j = v j) → (md t = 100 → I A 10 = b) → (b = 0 ∨ b = 1) → ∃ r I', z_lp (fX3_reckon_b16 A 61 (nI t) (z_Rm mu)) N (nI t, nI c, I) = some r ∧ l_fr A I I' ∧ ((l_ev cd fa t n t (l_dep (md t)) v b = none ∧ r = .inl (0, I')) ∨ ∃ w b', l_ev cd fa t n t (l_dep (md t)) v b = some (w, b') ∧ r = .inr I' ∧ (e = 1 → I' (A + 7) 0 = w) ∧ (e = 100 → I' A 10 = b') ∧ (b' = 0 ∨ b' = 1)) := by
    intro n I v b c N hN hc h1 h2 h3
    refine ⟨.inr I, I, ?_, l_fr_r, Or.inr ⟨v 0, b, l_ev_t (Nat.le_refl t), rfl, fun e1 => ?_, fun e1 => ?_, h3⟩⟩
    · obtain ⟨N, rfl⟩ : ∃ q, N = q + 1 := ⟨N - 1, by omega⟩
      have hb : fX3_reckon_b16 A 61 (nI t) (z_Rm mu) (nI t, nI c, I) = some (.inr (.inr I)) := by
        unfold fX3_reckon_b16
        dsimp only
        by_cases c1 : (240 : Int32) ≤ nI c
        · rw [if_pos c1]
        · rw [if_neg c1, if_neg (nI_pos (by omega)), if_pos (nI_le (Nat.le_refl t) (by omega))]
      unfold z_lp
      rw [hb]
    · refine h1 0 ?_
      rw [hty.2.1, e1]
      decide
    · exact h2 (by rw [hty.2.1, e1])
  intro n
  induction n with
  | zero =>
    intro k I v b c N hf hk hn hN hc hat hfa h9 hv hb hb1
    have : k = t := by omega
    subst this
    exact hex 0 I v b c N (by omega) (by omega) hv hb hb1
  | succ n ih =>
    intro k I v b c N hf hk hn hN hc hat hfa h9 hv hb hb1
    by_cases hkt : k = t
    · subst hkt
      exact hex (n + 1) I v b c N (by omega) (by omega) hv hb hb1
    have hlt : k < t := by omega
    obtain ⟨N, rfl⟩ : ∃ q, N = q + 1 := ⟨N - 1, by omega⟩
    have T := hty.2.2 k hf hlt
    obtain ⟨k1, k2, k3, k4, k5, -⟩ := hat.2 k (by omega)
    have go : ∀ (k' : Nat) (J : z_He) (v' : Nat → Int32) (b' : Int32), fX3_reckon_b16 A 61 (nI t) (z_Rm mu) (nI k, nI c, I) = some (.inl (nI k', nI (c + 1), J)) → l_fr A I J → k < k' → k' ≤ t → J A 9 = nI (l_dep (md k')) → (∀ j, j < l_dep (md k') → J (A + 7) j = v' j) → (md k' = 100 → J A 10 = b') → (b' = 0 ∨ b' = 1) → l_ev cd fa t (n + 1) k (l_dep (md k)) v b = l_ev cd fa t n k' (l_dep (md k')) v' b' → ∃ r I', z_lp (fX3_reckon_b16 A 61 (nI t) (z_Rm mu)) (N + 1) (nI k, nI c, I) = some r ∧ l_fr A I I' ∧ ((l_ev cd fa t (n + 1) k (l_dep (md k)) v b = none ∧ r = .inl (0, I')) ∨ ∃ w b', l_ev cd fa t (n + 1) k (l_dep (md k)) v b = some (w, b') ∧ r = .inr I' ∧ (e = 1 → I' (A + 7) 0 = w) ∧ (e = 100 → I' A 10 = b') ∧ (b' = 0 ∨ b' = 1)) := by
      intro k' J v' b' e1 e2 e3 e4 e5 e6 e7 e8 e9
      obtain ⟨r, I', q1, q2, q3⟩ := ih k' J v' b' (c + 1) N (by omega) e4 (by omega) (by omega) (by omega) (l_at_fr hA hat e2) (fun j hj => by rw [e2 61 j (by omega) (by omega)]; exact hfa j hj) e5 e6 e7 e8
      refine ⟨r, I', ?_, l_fr_t e2 q2, ?_⟩
      · unfold z_lp
        rw [e1]
        exact q1
      · rw [e9]
        exact q3
    have hl0 : ¬ t ≤ k := by omega
    have hbody : fX3_reckon_b16 A 61 (nI t) (z_Rm mu) (nI k, nI c, I) = _ := rfl
    conv at hbody =>
      rhs
      unfold fX3_reckon_b16
    dsimp only at hbody
    rw [if_neg (show ¬ (240 : Int32) ≤ nI c from nI_ge (b := 240) (by omega) (by decide)), if_neg (nI_pos (show k < 2 ^ 31 by omega)), if_neg (nI_ge hlt (show t < 2 ^ 31 by omega)), hat.1, if_neg (nI_ge (show k < s by omega) (show s < 2 ^ 31 by omega)), o2, o3, z_g_t (n_ok p2 (show k < 240 by omega) (by decide)), z_l_s, z_l_s, z_g_t (n_ok p1 (show k < 240 by omega) (by decide)), nI_clamp (show k < 2 ^ 31 by omega), n_s1, k4, k5] at hbody
    rcases T with ⟨t1, t2, t3⟩ | ⟨t1, t2, t3, t4, t5⟩ | ⟨t1, t2, t3, t4⟩ | ⟨t1, t2, t3⟩ | ⟨t1, t2, t3, t4, t5, t6, t7, t8, t9⟩
    · -- a number, a letter
      have d1 : l_dep (md k) = md k := if_neg (by omega)
      have d2 : l_dep (md (k + 1)) = md k + 1 := by rw [t3]; exact if_neg (by omega)
      rw [if_pos t1] at hbody
      have fin : ∀ x, x = (if (cd k).1 = 0 then nI (cd k).2.1 else fa (cd k).2.1) → fX3_reckon_b16 A 61 (nI t) (z_Rm mu) (nI k, nI c, I) = some (.inl (nI (k + 1), nI (c + 1), z_u (z_u I (A + 7) (md k) x) A 9 (nI (md k + 1)))) → _ := fun x hx hh => go (k + 1) (z_u (z_u I (A + 7) (md k) x) A 9 (nI (md k + 1))) (upd v (md k) x) b hh (l_fr_t l_fr_v (l_fr_u (Or.inl rfl))) (by omega) (by omega) (by rw [z_u_at, d2]) (fun j hj => by
          rw [u_o (by omega)]
          rw [d2] at hj
          by_cases q : j = md k
          · subst q; rw [z_u_at, pk_us]
          · rw [z_u_k q, pk_un q]; exact hv j (by omega)) (fun q => by omega) hb1 (by
          conv =>
            lhs
            unfold l_ev
          rw [if_neg hl0, if_pos t1, ← hx, d2, d1])
      by_cases c0 : (cd k).1 = 0
      · refine fin _ rfl ?_
        rw [hbody, c0, if_pos (show nI (l_op 0) = 0 from rfl), c_push hA (show md k < 32 by omega) (by rw [h9, d1]), z_b_s, if_pos rfl]
        exact c_j209
      · have c1 : (cd k).1 = 1 := by omega
        refine fin _ rfl ?_
        have l8 := k3 c1
        rw [hbody, c1, if_neg (show ¬ nI (l_op 1) = 0 by decide), if_pos (show nI (l_op 1) = 1 from rfl), if_neg (nI_pos (show (cd k).2.1 < 2 ^ 31 by omega)), if_neg (show ¬ Int32.ofNat (z_len 1 61) ≤ nI (cd k).2.1 from nI_ge (b := 8) l8 (by decide)), z_g_t (n_ok (n := 8) rfl l8 (by decide)), nI_clamp (show (cd k).2.1 < 2 ^ 31 by omega), hfa _ l8]
        unfold fX3_reckon_j130_16
        rw [z_g_t o1, c_push hA (show md k < 32 by omega) (by rw [h9, d1]), z_b_s, if_neg (by decide)]
        exact c_j209
    · -- a sign of a sum
      have d1 : l_dep (md k) = md k := if_neg (by omega)
      have d2 : l_dep (md (k + 1)) = md k - 1 := by rw [show md (k + 1) = md k - 1 by omega]; exact if_neg (by omega)
      have ne : ∀ m, m ≤ 4 → ¬ nI (l_op (cd k).1) = nI m := by
        have : ∀ o, o ≤ 6 → 2 ≤ o → ∀ m, m ≤ 4 → ¬ nI (l_op o) = nI m := by decide +kernel
        exact this _ t2 t1
      rw [if_neg (show ¬ nI (l_op (cd k).1) = 0 from ne 0 (by decide)), if_neg (show ¬ nI (l_op (cd k).1) = 1 from ne 1 (by decide)), if_neg (show ¬ nI (l_op (cd k).1) = 2 from ne 2 (by decide)), if_neg (show ¬ nI (l_op (cd k).1) = 3 from ne 3 (by decide)), if_neg (show ¬ nI (l_op (cd k).1) = 4 from ne 4 (by decide)), c_comb hA (show md k < 32 by omega) t4 (by rw [h9, d1]) t1 t2] at hbody
      have x1 : I (A + 7) (md k - 1) = v (md k - 1) := hv _ (by omega)
      have x2 : I (A + 7) (md k - 2) = v (md k - 2) := hv _ (by omega)
      rw [x1, x2] at hbody
      have hl : l_ev cd fa t (n + 1) k (l_dep (md k)) v b = if ((cd k).1 = 5 ∨ (cd k).1 = 6) ∧ v (md k - 1) = 0 then none else l_ev cd fa t n (k + 1) (md k - 1) (upd v (md k - 2) (l_ar (cd k).1 (v (md k - 2)) (v (md k - 1)))) b := by
        conv =>
          lhs
          unfold l_ev
        rw [if_neg hl0, if_neg (by omega), if_pos t2, d1]
      by_cases z : ((cd k).1 = 5 ∨ (cd k).1 = 6) ∧ v (md k - 1) = 0
      · rw [if_pos z, z_b_s] at hbody
        dsimp only at hbody
        rw [if_pos rfl] at hbody
        rw [if_pos z] at hl
        refine ⟨.inl (0, I), I, ?_, l_fr_r, Or.inl ⟨hl, rfl⟩⟩
        unfold z_lp
        rw [hbody]
      · rw [if_neg z, z_b_s] at hbody
        dsimp only at hbody
        rw [if_neg (by decide), c_j209] at hbody
        rw [if_neg z] at hl
        refine go (k + 1) _ (upd v (md k - 2) (l_ar (cd k).1 (v (md k - 2)) (v (md k - 1)))) b hbody (l_fr_t l_fr_v (l_fr_u (Or.inl rfl))) (by omega) (by omega) (by rw [z_u_at, d2]) (fun j hj => ?_) (fun q => by omega) hb1 (by rw [hl, d2])
        rw [u_o (by omega)]
        rw [d2] at hj
        by_cases q : j = md k - 2
        · subst q; rw [z_u_at, pk_us]
        · rw [z_u_k q, pk_un q]; exact hv j (by omega)
    · -- a comparison
      have d1 : l_dep (md k) = 2 := by rw [t3]; rfl
      have d2 : l_dep (md (k + 1)) = 0 := by rw [t4]; rfl
      have ne : ∀ m, m ≤ 4 → ¬ nI (l_op (cd k).1) = nI m := by
        have : ∀ o, o ≤ 9 → 7 ≤ o → ∀ m, m ≤ 4 → ¬ nI (l_op o) = nI m := by decide +kernel
        exact this _ t2 t1
      rw [d1] at h9 hv
      rw [if_neg (show ¬ nI (l_op (cd k).1) = 0 from ne 0 (by decide)), if_neg (show ¬ nI (l_op (cd k).1) = 1 from ne 1 (by decide)), if_neg (show ¬ nI (l_op (cd k).1) = 2 from ne 2 (by decide)), if_neg (show ¬ nI (l_op (cd k).1) = 3 from ne 3 (by decide)), if_neg (show ¬ nI (l_op (cd k).1) = 4 from ne 4 (by decide)), c_comp hA h9 t1 t2, hv 0 (by decide), hv 1 (by decide), z_b_s] at hbody
      dsimp only at hbody
      rw [if_neg (by decide), c_j209] at hbody
      refine go (k + 1) _ v (l_cm (cd k).1 (v 0) (v 1)) hbody (l_fr_t (l_fr_u (Or.inr rfl)) (l_fr_u (Or.inl rfl))) (by omega) (by omega) (by rw [z_u_at, d2]; rfl) (fun j hj => by omega) (fun _ => by rw [z_u_k (by decide), z_u_at]) (l_cm01 _ _ _) ?_
      conv =>
        lhs
        unfold l_ev
      rw [if_neg hl0, if_neg (by omega), if_neg (by omega), if_pos t2, d2]
    · -- not
      have d1 : l_dep (md k) = 0 := by rw [t2]; rfl
      have d2 : l_dep (md (k + 1)) = 0 := by rw [t3]; rfl
      have hl : l_ev cd fa t (n + 1) k (l_dep (md k)) v b = l_ev cd fa t n (k + 1) 0 v (1 - b) := by
        conv =>
          lhs
          unfold l_ev
        rw [if_neg hl0, if_neg (by omega), if_neg (by omega), if_neg (by omega), if_pos t1]
      rw [t1, if_neg (show ¬ nI (l_op 10) = 0 by decide), if_neg (show ¬ nI (l_op 10) = 1 by decide), if_pos (show nI (l_op 10) = 2 from rfl), hb t2] at hbody
      unfold fX3_reckon_j149_16 at hbody
      rw [z_g_t o1, z_g_t o1, z_g_t (Or.inr rfl), z_g_t (Or.inl rfl), z_l_s, z_l_s] at hbody
      have hb2 : fX3_reckon_b16 A 61 (nI t) (z_Rm mu) (nI k, nI c, I) = some (.inl (nI (k + 1), nI (c + 1), z_u I A 10 (1 - b))) := by
        rw [hbody]
        rcases hb1 with rfl | rfl
        · rw [if_pos rfl]; exact c_j209
        · rw [if_neg (by decide)]; exact c_j209
      refine go (k + 1) _ v (1 - b) hb2 (l_fr_u (Or.inr rfl)) (by omega) (by omega) (by rw [z_u_k (by decide), h9, d1, d2]) (fun j hj => by omega) (fun _ => by rw [z_u_at]) ?_ (by rw [hl, d2])
      rcases hb1 with rfl | rfl
      · exact Or.inr rfl
      · exact Or.inl rfl
    · -- a leap
      have d1 : l_dep (md k) = 0 := by rw [t2]; rfl
      have d2 : l_dep (md (k + 1)) = 0 := by rw [t3]; rfl
      have d3 : l_dep (md (cd k).2.2.1) = 0 := by rw [t7]; rfl
      have hl : l_ev cd fa t (n + 1) k (l_dep (md k)) v b = if b = (if (cd k).1 = 12 then 1 else 0) then l_ev cd fa t n (cd k).2.2.1 0 v b else l_ev cd fa t n (k + 1) 0 v b := by
        conv =>
          lhs
          unfold l_ev
        rw [if_neg hl0, if_neg (by omega), if_neg (by omega), if_neg (by omega), if_neg (by omega)]
      rw [if_neg (show ¬ (cd k).1 ≤ 1 by omega), if_pos (show 11 ≤ (cd k).1 by omega)] at hbody
      have hb2 : fX3_reckon_b16 A 61 (nI t) (z_Rm mu) (nI k, nI c, I) = some (.inl (nI (if b = (if (cd k).1 = 12 then 1 else 0) then (cd k).2.2.1 else k + 1), nI (c + 1), I)) := by
        rw [hbody]
        rcases t1 with c1 | c1
        · rw [c1, if_neg (show ¬ nI (l_op 11) = 0 by decide), if_neg (show ¬ nI (l_op 11) = 1 by decide), if_neg (show ¬ nI (l_op 11) = 2 by decide), if_neg (show ¬ nI (l_op 11) = 3 by decide), if_pos (show nI (l_op 11) = 4 from rfl), hb t2, if_neg (show ¬ (11 : Nat) = 12 by decide)]
          rcases hb1 with rfl | rfl
          · rw [if_pos rfl, if_pos rfl]; exact c_j209
          · rw [if_neg (by decide), if_neg (by decide)]; exact c_j209
        · rw [c1, if_neg (show ¬ nI (l_op 12) = 0 by decide), if_neg (show ¬ nI (l_op 12) = 1 by decide), if_neg (show ¬ nI (l_op 12) = 2 by decide), if_pos (show nI (l_op 12) = 3 from rfl), hb t2, if_pos (show (12 : Nat) = 12 from rfl)]
          rcases hb1 with rfl | rfl
          · rw [if_pos rfl, if_neg (by decide)]; exact c_j209
          · rw [if_neg (by decide), if_pos rfl]; exact c_j209
      by_cases q : b = (if (cd k).1 = 12 then 1 else 0)
      · rw [if_pos q] at hl hb2
        exact go _ I v b hb2 l_fr_r (by omega) t6 (by rw [h9, d1, d3]) (fun j hj => by omega) (fun _ => hb t2) hb1 (by rw [hl, d3])
      · rw [if_neg q] at hl hb2
        exact go _ I v b hb2 l_fr_r (by omega) (by omega) (by rw [h9, d1, d2]) (fun j hj => by omega) (fun q => by omega) hb1 (by rw [hl, d2])
