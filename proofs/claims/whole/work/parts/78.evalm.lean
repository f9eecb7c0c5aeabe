/-! the model's reckoning of the law's steps -/
theorem n_rem {a d : Nat} (ha : a < 2 ^ 31) (h0 : 0 < d) (hd : d < 2 ^ 31) : z_rem (nI a) (nI d) = nI (a % d) := pk_rem ha h0 hd
def l_dm (m : Nat) : Nat := if m = 100 then 1 else m
def l_fm (I I' : z_He) : Prop := ∀ b, b ≠ 123 → I' b = I b
theorem l_fm_u {I : z_He} {k : Nat} {v : Int32} : l_fm I (z_u I 123 k v) := fun _ h => z_u_a h
theorem l_at_fm {I J : z_He} {A s : Nat} {cd : l_C} (hA : A = 41 ∨ A = 49) (h : l_at I A s cd) (hf : l_fm I J) : l_at J A s cd := by
  refine ⟨by rw [hf A (by omega)]; exact h.1, fun k hk => ?_⟩
  have := h.2 k hk
  unfold l_code at this ⊢
  rw [hf (A + 1) (by omega), hf (A + 2) (by omega), hf 118 (by omega)]
  exact this
theorem m_ar {op : Nat} {x y : Int32} (h1 : 2 ≤ op) (h2 : op ≤ 6) (h : ¬ ((op = 5 ∨ op = 6) ∧ y = 0)) : fX13_reckon (nI op) x y = some (l_ar op x y) := by
  unfold fX13_reckon l_ar
  have hop : op = 2 ∨ op = 3 ∨ op = 4 ∨ op = 5 ∨ op = 6 := by omega
  rcases hop with rfl | rfl | rfl | rfl | rfl
  · rfl
  · rfl
  · rfl
  · have : ¬ y = 0 := fun q => h ⟨Or.inl rfl, q⟩
    rw [if_neg (show ¬ nI 5 = 2 by decide), if_neg (show ¬ nI 5 = 3 by decide), if_neg (show ¬ nI 5 = 4 by decide), if_pos (show nI 5 = 5 from rfl), z_g_t this]
    rfl
  · have : ¬ y = 0 := fun q => h ⟨Or.inr rfl, q⟩
    rw [if_neg (show ¬ nI 6 = 2 by decide), if_neg (show ¬ nI 6 = 3 by decide), if_neg (show ¬ nI 6 = 4 by decide), if_neg (show ¬ nI 6 = 5 by decide), if_pos (show nI 6 = 6 from rfl), z_g_t this]
    rfl
theorem m_cm {op : Nat} {x y : Int32} (h1 : 7 ≤ op) (h2 : op ≤ 9) : fX13_reckon (nI op) x y = some (l_cm op x y) := by
  unfold fX13_reckon
  have hop : op = 7 ∨ op = 8 ∨ op = 9 := by omega
  rcases hop with rfl | rfl | rfl
  · rw [if_neg (show ¬ nI 7 = 2 by decide), if_neg (show ¬ nI 7 = 3 by decide), if_neg (show ¬ nI 7 = 4 by decide), if_neg (show ¬ nI 7 = 5 by decide), if_neg (show ¬ nI 7 = 6 by decide), if_pos (show nI 7 = 7 from rfl), show l_cm 7 x y = (if y ≤ x then 0 else 1) from rfl]
    split <;> rfl
  · rw [if_neg (show ¬ nI 8 = 2 by decide), if_neg (show ¬ nI 8 = 3 by decide), if_neg (show ¬ nI 8 = 4 by decide), if_neg (show ¬ nI 8 = 5 by decide), if_neg (show ¬ nI 8 = 6 by decide), if_neg (show ¬ nI 8 = 7 by decide), if_pos (show nI 8 = 8 from rfl), show l_cm 8 x y = (if x ≤ y then 0 else 1) from rfl]
    split <;> rfl
  · rw [if_neg (show ¬ nI 9 = 2 by decide), if_neg (show ¬ nI 9 = 3 by decide), if_neg (show ¬ nI 9 = 4 by decide), if_neg (show ¬ nI 9 = 5 by decide), if_neg (show ¬ nI 9 = 6 by decide), if_neg (show ¬ nI 9 = 7 by decide), if_neg (show ¬ nI 9 = 8 by decide), show l_cm 9 x y = (if x = y then 1 else 0) from rfl]
    split <;> rfl
theorem m_ev {mu : Nat → Nat} {A : Nat} {cd : l_C} {md : Nat → Nat} {f t e s : Nat} {fa : Nat → Int32} (hA : A = 41 ∨ A = 49) (hty : l_ty cd md f t e) (hts : t ≤ s) (hs : s ≤ 240) (he : e = 1 ∨ e = 100) : ∀ (n k : Nat) (I : z_He) (v : Nat → Int32) (b : Int32) (N : Nat), f ≤ k → k ≤ t → t - k ≤ n → n < N → l_at I A s cd → (∀ j, j < 8 → I 124 j = fa j) → (∀ j, j < l_dep (md k) → I 123 j = v j) → (md k = 100 → I 123 0 = b) → (b = 0 ∨ b = 1) →
    ∃ r I', z_lp (fX13_comesTo_b16 102 (nI t) 0 (z_Rm mu)) N (nI (l_dm (md k)), nI k, I) = some r ∧ l_fm I I' ∧ ((l_ev cd fa t n k (l_dep (md k)) v b = none ∧ r = .inl (0, I')) ∨ ∃ w b', l_ev cd fa t n k (l_dep (md k)) v b = some (w, b') ∧ r = .inr I' ∧ (e = 1 → I' 123 0 = w) ∧ (e = 100 → I' 123 0 = b') ∧ (b' = 0 ∨ b' = 1)) := by
  have hex : ∀ (n : Nat) (I : z_He) (v : Nat → Int32) (b : Int32) (N : Nat), 0 < N → (∀ j, j < l_dep (md t) → I 123 j = v j) → (md t = 100 → I 123 0 = b) → (b = 0 ∨ b = 1) → ∃ r I', z_lp (fX13_comesTo_b16 102 (nI t) 0 (z_Rm mu)) N (nI (l_dm (md t)), nI t, I) = some r ∧ l_fm I I' ∧ ((l_ev cd fa t n t (l_dep (md t)) v b = none ∧ r = .inl (0, I')) ∨ ∃ w b', l_ev cd fa t n t (l_dep (md t)) v b = some (w, b') ∧ r = .inr I' ∧ (e = 1 → I' 123 0 = w) ∧ (e = 100 → I' 123 0 = b') ∧ (b' = 0 ∨ b' = 1)) := by
    intro n I v b N hN h1 h2 h3
    refine ⟨.inr I, I, ?_, fun _ _ => rfl, Or.inr ⟨v 0, b, l_ev_t (Nat.le_refl t), rfl, fun e1 => ?_, fun e1 => ?_, h3⟩⟩
    · obtain ⟨N, rfl⟩ : ∃ q, N = q + 1 := ⟨N - 1, by omega⟩
      have hb : fX13_comesTo_b16 102 (nI t) 0 (z_Rm mu) (nI (l_dm (md t)), nI t, I) = some (.inr (.inr I)) := by
        unfold fX13_comesTo_b16
        dsimp only
        rw [if_pos (nI_le (Nat.le_refl t) (by omega))]
      unfold z_lp
      rw [hb]
    · refine h1 0 ?_
      rw [hty.2.1, e1]
      decide
    · exact h2 (by rw [hty.2.1, e1])
  intro n
  induction n with
  | zero =>
    intro k I v b N hf hk hn hN hat hfa hv hb hb1
    have : k = t := by omega
    subst this
    exact hex 0 I v b N (by omega) hv hb hb1
  | succ n ih =>
    intro k I v b N hf hk hn hN hat hfa hv hb hb1
    by_cases hkt : k = t
    · subst hkt
      exact hex (n + 1) I v b N (by omega) hv hb hb1
    have hlt : k < t := by omega
    obtain ⟨N, rfl⟩ : ∃ q, N = q + 1 := ⟨N - 1, by omega⟩
    have T := hty.2.2 k hf hlt
    obtain ⟨k1, k2, k3, -, -, k6⟩ := hat.2 k (by omega)
    have go : ∀ (k' : Nat) (J : z_He) (v' : Nat → Int32) (b' : Int32), fX13_comesTo_b16 102 (nI t) 0 (z_Rm mu) (nI (l_dm (md k)), nI k, I) = some (.inl (nI (l_dm (md k')), nI k', J)) → l_fm I J → k < k' → k' ≤ t → (∀ j, j < l_dep (md k') → J 123 j = v' j) → (md k' = 100 → J 123 0 = b') → (b' = 0 ∨ b' = 1) → l_ev cd fa t (n + 1) k (l_dep (md k)) v b = l_ev cd fa t n k' (l_dep (md k')) v' b' → ∃ r I', z_lp (fX13_comesTo_b16 102 (nI t) 0 (z_Rm mu)) (N + 1) (nI (l_dm (md k)), nI k, I) = some r ∧ l_fm I I' ∧ ((l_ev cd fa t (n + 1) k (l_dep (md k)) v b = none ∧ r = .inl (0, I')) ∨ ∃ w b', l_ev cd fa t (n + 1) k (l_dep (md k)) v b = some (w, b') ∧ r = .inr I' ∧ (e = 1 → I' 123 0 = w) ∧ (e = 100 → I' 123 0 = b') ∧ (b' = 0 ∨ b' = 1)) := by
      intro k' J v' b' e1 e2 e3 e4 e6 e7 e8 e9
      obtain ⟨r, I', q1, q2, q3⟩ := ih k' J v' b' N (by omega) e4 (by omega) (by omega) (l_at_fm hA hat e2) (fun j hj => by rw [e2 124 (by decide)]; exact hfa j hj) e6 e7 e8
      refine ⟨r, I', ?_, fun b hb => (q2 b hb).trans (e2 b hb), ?_⟩
      · unfold z_lp
        rw [e1]
        exact q1
      · rw [e9]
        exact q3
    have hl0 : ¬ t ≤ k := by omega
    obtain ⟨arg, harg⟩ : ∃ a, a = (if (cd k).1 ≤ 1 then (cd k).2.1 else if 11 ≤ (cd k).1 then (cd k).2.2.2 else 0) := ⟨_, rfl⟩
    have ha : arg < 1048576 := by
      rw [harg]
      split
      · have : (cd k).1 = 0 ∨ (cd k).1 = 1 := by omega
        rcases this with q | q
        · have := k2 q; omega
        · have := k3 q; omega
      · split <;> omega
    have v1 : (1048576 * (cd k).1 + arg) / 1048576 = (cd k).1 := by omega
    have v2 : (1048576 * (cd k).1 + arg) % 1048576 = arg := by omega
    have vb : 1048576 * (cd k).1 + arg < 2 ^ 31 := by omega
    have w1 : nI (1048576 * (cd k).1 + arg) / 1048576 = nI (cd k).1 := by
      have := pk_div (d := 1048576) vb (by decide) (by decide)
      rw [v1] at this
      exact this
    have w2 : z_rem (nI (1048576 * (cd k).1 + arg)) 1048576 = nI arg := by
      have := n_rem (d := 1048576) vb (by decide) (by decide)
      rw [v2] at this
      exact this
    have op13 : (cd k).1 < 2 ^ 31 := by omega
    have ne : ∀ m, m < 2 ^ 31 → (cd k).1 ≠ m → ¬ nI (cd k).1 = nI m := fun m hm h => n_ne op13 hm h
    have hbody : fX13_comesTo_b16 102 (nI t) 0 (z_Rm mu) (nI (l_dm (md k)), nI k, I) = _ := rfl
    conv at hbody =>
      rhs
      unfold fX13_comesTo_b16
    dsimp only at hbody
    rw [if_neg (nI_ge hlt (show t < 2 ^ 31 by omega)), show z_Rm mu 102 27 = 118 from rfl, show z_Rm mu 102 32 = 123 from rfl, z_g_t (n_ok (n := 260) rfl (show k < 260 by omega) (by decide)), nI_clamp (show k < 2 ^ 31 by omega), k6, ← harg, w1, w2, z_l_s, z_l_s, z_l_s, n_s1] at hbody
    have ok : ∀ m, m < 260 → z_ok 1 123 (nI m) := fun m hm => n_ok (n := 260) rfl hm (by decide)
    rcases T with ⟨t1, t2, t3⟩ | ⟨t1, t2, t3, t4, t5⟩ | ⟨t1, t2, t3, t4⟩ | ⟨t1, t2, t3⟩ | ⟨t1, t2, t3, t4, t5, t6, t7, t8, t9⟩
    · have d1 : l_dep (md k) = md k := if_neg (by omega)
      have d2 : l_dep (md (k + 1)) = md k + 1 := by rw [t3]; exact if_neg (by omega)
      have f1 : l_dm (md k) = md k := if_neg (by omega)
      have f2 : l_dm (md (k + 1)) = md k + 1 := by rw [t3]; exact if_neg (by omega)
      rw [if_pos t1] at harg
      have fin : ∀ x, x = (if (cd k).1 = 0 then nI (cd k).2.1 else fa (cd k).2.1) → fX13_comesTo_b16 102 (nI t) 0 (z_Rm mu) (nI (l_dm (md k)), nI k, I) = some (.inl (nI (md k + 1), nI (k + 1), z_u I 123 (md k) x)) → _ := fun x hx hh => go (k + 1) (z_u I 123 (md k) x) (upd v (md k) x) b (by rw [hh, f2]) l_fm_u (by omega) (by omega) (fun j hj => by
          rw [d2] at hj
          by_cases q : j = md k
          · subst q; rw [z_u_at, pk_us]
          · rw [z_u_k q, pk_un q]; exact hv j (by omega)) (fun q => by omega) hb1 (by
          conv =>
            lhs
            unfold l_ev
          rw [if_neg hl0, if_pos t1, ← hx, d2, d1])
      unfold fX13_comesTo_j63_16 fX13_comesTo_j85_16 at hbody
      rw [f1, show z_Rm mu 102 32 = 123 from rfl, show z_Rm mu 102 33 = 124 from rfl, z_g_t (ok _ (show md k < 260 by omega)), z_g_t (ok _ (show md k < 260 by omega)), nI_clamp (show md k < 2 ^ 31 by omega)] at hbody
      simp only [z_l_s, n_s1] at hbody
      by_cases c0 : (cd k).1 = 0
      · refine fin _ rfl ?_
        rw [f1, hbody, c0, if_pos (show nI 0 = 0 from rfl), if_pos (show nI 0 = 0 from rfl), if_pos rfl, harg]
      · have c1 : (cd k).1 = 1 := by omega
        have l8 := k3 c1
        refine fin _ rfl ?_
        rw [f1, hbody, c1, if_neg (show ¬ nI 1 = 0 by decide), if_pos (show nI 1 = 1 from rfl), if_neg (show ¬ nI 1 = 0 by decide), z_g_t (n_ok (n := 8) rfl (show arg < 8 by omega) (by decide)), nI_clamp (show arg < 2 ^ 31 by omega), if_neg (by decide), harg, hfa _ l8]
    · have d1 : l_dep (md k) = md k := if_neg (by omega)
      have d2 : l_dep (md (k + 1)) = md k - 1 := by rw [show md (k + 1) = md k - 1 by omega]; exact if_neg (by omega)
      have f1 : l_dm (md k) = md k := if_neg (by omega)
      have f2 : l_dm (md (k + 1)) = md k - 1 := by rw [show md (k + 1) = md k - 1 by omega]; exact if_neg (by omega)
      have x1 : I 123 (md k - 1) = v (md k - 1) := hv _ (by omega)
      have x2 : I 123 (md k - 2) = v (md k - 2) := hv _ (by omega)
      have s1 : nI (md k) - (1 : Int32) = nI (md k - 1) := n_sub (b := 1) (by omega)
      have s2 : nI (md k - 1) - (1 : Int32) = nI (md k - 2) := n_sub (b := 1) (by omega)
      unfold fX13_comesTo_j192_16 fX13_comesTo_j203_16 at hbody
      rw [f1, if_neg (show ¬ nI (cd k).1 = 0 from ne 0 (by decide) (by omega)), if_neg (show ¬ nI (cd k).1 = 1 from ne 1 (by decide) (by omega)), if_neg (show ¬ nI (cd k).1 = 10 from ne 10 (by decide) (by omega)), if_neg (show ¬ nI (cd k).1 = 11 from ne 11 (by decide) (by omega)), if_neg (show ¬ nI (cd k).1 = 12 from ne 12 (by decide) (by omega)), s1, z_l_s, show z_Rm mu 102 32 = 123 from rfl, s2, z_g_t (ok _ (show md k - 1 < 260 by omega)), z_g_t (ok _ (show md k - 2 < 260 by omega)), z_g_t (ok _ (show md k - 1 < 260 by omega)), nI_clamp (show md k - 1 < 2 ^ 31 by omega), nI_clamp (show md k - 2 < 2 ^ 31 by omega), x1, x2] at hbody
      have hl : l_ev cd fa t (n + 1) k (l_dep (md k)) v b = if ((cd k).1 = 5 ∨ (cd k).1 = 6) ∧ v (md k - 1) = 0 then none else l_ev cd fa t n (k + 1) (md k - 1) (upd v (md k - 2) (l_ar (cd k).1 (v (md k - 2)) (v (md k - 1)))) b := by
        conv =>
          lhs
          unfold l_ev
        rw [if_neg hl0, if_neg (by omega), if_pos t2, d1]
      by_cases z : ((cd k).1 = 5 ∨ (cd k).1 = 6) ∧ v (md k - 1) = 0
      · rw [if_pos z] at hl
        have hb2 : fX13_comesTo_b16 102 (nI t) 0 (z_Rm mu) (nI (l_dm (md k)), nI k, I) = some (.inr (.inl (0, I))) := by
          rw [f1, hbody]
          rcases z.1 with q | q
          · rw [q, if_pos (show nI 5 = 5 from rfl), if_pos z.2]
          · rw [q, if_neg (show ¬ nI 6 = 5 by decide), if_pos (show nI 6 = 6 from rfl), if_pos z.2]
        refine ⟨.inl (0, I), I, ?_, fun _ _ => rfl, Or.inl ⟨hl, rfl⟩⟩
        unfold z_lp
        rw [hb2]
      · rw [if_neg z] at hl
        have hb2 : fX13_comesTo_b16 102 (nI t) 0 (z_Rm mu) (nI (l_dm (md k)), nI k, I) = some (.inl (nI (md k - 1), nI (k + 1), z_u I 123 (md k - 2) (l_ar (cd k).1 (v (md k - 2)) (v (md k - 1))))) := by
          rw [f1, hbody, m_ar t1 t2 z, z_b_s, z_l_s]
          by_cases q5 : (cd k).1 = 5
          · rw [if_pos (by rw [q5]; rfl), if_neg (fun q => z ⟨Or.inl q5, q⟩)]
          · rw [if_neg (show ¬ nI (cd k).1 = 5 from ne 5 (by decide) q5)]
            by_cases q6 : (cd k).1 = 6
            · rw [if_pos (by rw [q6]; rfl), if_neg (fun q => z ⟨Or.inr q6, q⟩)]
            · rw [if_neg (show ¬ nI (cd k).1 = 6 from ne 6 (by decide) q6)]
        refine go (k + 1) _ (upd v (md k - 2) (l_ar (cd k).1 (v (md k - 2)) (v (md k - 1)))) b (by rw [hb2, f2]) l_fm_u (by omega) (by omega) (fun j hj => ?_) (fun q => by omega) hb1 (by rw [hl, d2])
        rw [d2] at hj
        by_cases q : j = md k - 2
        · subst q; rw [z_u_at, pk_us]
        · rw [z_u_k q, pk_un q]; exact hv j (by omega)
    · have d1 : l_dep (md k) = 2 := by rw [t3]; rfl
      have d2 : l_dep (md (k + 1)) = 0 := by rw [t4]; rfl
      have f1 : l_dm (md k) = 2 := by rw [t3]; rfl
      have f2 : l_dm (md (k + 1)) = 1 := by rw [t4]; rfl
      rw [d1] at hv
      unfold fX13_comesTo_j203_16 at hbody
      rw [f1, if_neg (show ¬ nI (cd k).1 = 0 from ne 0 (by decide) (by omega)), if_neg (show ¬ nI (cd k).1 = 1 from ne 1 (by decide) (by omega)), if_neg (show ¬ nI (cd k).1 = 10 from ne 10 (by decide) (by omega)), if_neg (show ¬ nI (cd k).1 = 11 from ne 11 (by decide) (by omega)), if_neg (show ¬ nI (cd k).1 = 12 from ne 12 (by decide) (by omega)), show nI 2 - (1 : Int32) = nI 1 from rfl, z_l_s, if_neg (show ¬ nI (cd k).1 = 5 from ne 5 (by decide) (by omega)), if_neg (show ¬ nI (cd k).1 = 6 from ne 6 (by decide) (by omega)), show z_Rm mu 102 32 = 123 from rfl, show nI 1 - (1 : Int32) = nI 0 from rfl, z_g_t (ok _ (show 0 < 260 by decide)), z_g_t (ok _ (show 1 < 260 by decide)), nI_clamp (show 0 < 2 ^ 31 by decide), nI_clamp (show 1 < 2 ^ 31 by decide), hv 0 (by decide), hv 1 (by decide), m_cm t1 t2, z_b_s, z_l_s] at hbody
      refine go (k + 1) _ v (l_cm (cd k).1 (v 0) (v 1)) (by rw [f1, f2]; exact hbody) l_fm_u (by omega) (by omega) (fun j hj => by omega) (fun _ => by rw [z_u_at]) (l_cm01 _ _ _) ?_
      conv =>
        lhs
        unfold l_ev
      rw [if_neg hl0, if_neg (by omega), if_neg (by omega), if_pos t2, d2]
    · have d1 : l_dep (md k) = 0 := by rw [t2]; rfl
      have d2 : l_dep (md (k + 1)) = 0 := by rw [t3]; rfl
      have f1 : l_dm (md k) = 1 := by rw [t2]; rfl
      have f2 : l_dm (md (k + 1)) = 1 := by rw [t3]; rfl
      have hl : l_ev cd fa t (n + 1) k (l_dep (md k)) v b = l_ev cd fa t n (k + 1) 0 v (1 - b) := by
        conv =>
          lhs
          unfold l_ev
        rw [if_neg hl0, if_neg (by omega), if_neg (by omega), if_neg (by omega), if_pos t1]
      rw [f1, if_neg (show ¬ nI (cd k).1 = 0 from ne 0 (by decide) (by omega)), if_neg (show ¬ nI (cd k).1 = 1 from ne 1 (by decide) (by omega)), if_pos (by rw [t1]; rfl), show nI 1 - (1 : Int32) = nI 0 from rfl, z_g_t (ok _ (show 0 < 260 by decide)), nI_clamp (show 0 < 2 ^ 31 by decide), hb t2, z_l_s] at hbody
      refine go (k + 1) _ v (1 - b) (by rw [f1, f2]; exact hbody) l_fm_u (by omega) (by omega) (fun j hj => by omega) (fun _ => by rw [z_u_at]) ?_ (by rw [hl, d2])
      rcases hb1 with rfl | rfl
      · exact Or.inr rfl
      · exact Or.inl rfl
    · have d1 : l_dep (md k) = 0 := by rw [t2]; rfl
      have d2 : l_dep (md (k + 1)) = 0 := by rw [t3]; rfl
      have d3 : l_dep (md (cd k).2.2.2) = 0 := by rw [t8]; rfl
      have f1 : l_dm (md k) = 1 := by rw [t2]; rfl
      have f2 : l_dm (md (k + 1)) = 0 := by rw [t3]; rfl
      have f3 : l_dm (md (cd k).2.2.2) = 1 := by rw [t8]; rfl
      rw [if_neg (show ¬ (cd k).1 ≤ 1 by omega), if_pos (show 11 ≤ (cd k).1 by omega)] at harg
      have hl : l_ev cd fa t (n + 1) k (l_dep (md k)) v b = if b = (if (cd k).1 = 12 then 1 else 0) then l_ev cd fa t n (cd k).2.2.1 0 v b else l_ev cd fa t n (k + 1) 0 v b := by
        conv =>
          lhs
          unfold l_ev
        rw [if_neg hl0, if_neg (by omega), if_neg (by omega), if_neg (by omega), if_neg (by omega)]
      unfold fX13_comesTo_j135_16 fX13_comesTo_j155_16 at hbody
      rw [f1, if_neg (show ¬ nI (cd k).1 = 0 from ne 0 (by decide) (by omega)), if_neg (show ¬ nI (cd k).1 = 1 from ne 1 (by decide) (by omega)), if_neg (show ¬ nI (cd k).1 = 10 from ne 10 (by decide) (by omega)), show z_Rm mu 102 32 = 123 from rfl, show nI 1 - (1 : Int32) = nI 0 from rfl, z_g_t (ok _ (show 0 < 260 by decide)), nI_clamp (show 0 < 2 ^ 31 by decide), hb t2, z_l_s, z_l_s, n_l0] at hbody
      have hb2 : fX13_comesTo_b16 102 (nI t) 0 (z_Rm mu) (nI 1, nI k, I) = if b = (if (cd k).1 = 12 then 1 else 0) then some (.inl (nI 1, nI arg, I)) else some (.inl (nI 0, nI (k + 1), I)) := by
        rw [hbody]
        rcases t1 with c1 | c1
        · rw [c1, if_pos (show nI 11 = 11 from rfl), if_neg (show ¬ nI 11 = 12 by decide), if_neg (show ¬ (11 : Nat) = 12 by decide)]
        · rw [c1, if_neg (show ¬ nI 12 = 11 by decide), if_pos (show nI 12 = 12 from rfl), if_pos (show nI 12 = 12 from rfl), if_pos (show (12 : Nat) = 12 from rfl)]
      by_cases q : b = (if (cd k).1 = 12 then 1 else 0)
      · rw [if_pos q] at hl hb2
        refine go (cd k).2.2.2 I v b (by rw [f1, f3, hb2, harg]) (fun _ _ => rfl) t4 (by omega) (fun j hj => by omega) (fun _ => hb t2) hb1 ?_
        rw [hl, d3]
        rcases t9 with z | ⟨z1, z2⟩
        · rw [z]
        · by_cases z : (cd k).2.2.2 = (cd k).2.2.1
          · rw [z]
          obtain ⟨n, rfl⟩ : ∃ q, n = q + 1 := ⟨n - 1, by omega⟩
          have h2 : l_ev cd fa t (n + 1) (cd k).2.2.2 0 v b = l_ev cd fa t n (cd k).2.2.1 0 v b := by
            conv =>
              lhs
              unfold l_ev
            rw [if_neg (by omega), if_neg (by omega), if_neg (by omega), if_neg (by omega), if_neg (by omega), z1, if_pos q, z2]
          rw [h2]
          exact l_ev_n hty (n + 1) n _ _ _ _ (by omega) (by omega) (by omega)
      · rw [if_neg q] at hl hb2
        exact go (k + 1) I v b (by rw [f1, f2]; exact hb2) (fun _ _ => rfl) (by omega) (by omega) (fun j hj => by omega) (fun q => by omega) hb1 (by rw [hl, d2])
