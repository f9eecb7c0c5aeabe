/-! roll: the model's rounds and items -/
def u_E (m d : Nat) (F : u_F) (ab : Nat → Nat) : Prop := d ≤ 2 ∧ ∀ j, j < d → ab j < m ∧ (F (ab j)).2.2.2 = 1
theorem u_E_D {m d : Nat} {F : u_F} {ab : Nat → Nat} (h : u_E m d F ab) : u_D m d F ab := ⟨h.1, fun j hj => ⟨by have := (h.2 j hj).1; omega, fun _ => (h.2 j hj).2⟩⟩
section MC
variable {I J : z_He} {mu : Nat → Nat} {n p m d : Nat} {F : u_F} {sg : Nat → Int32} {fr ab : Nat → Nat} {S : u_St}
theorem mr_j73 {t : Nat} (h : mr_X I n J p m F d fr ab) (hd : 0 < d) (d2 : d ≤ 2) (ha : ab (d - 1) < m) (m60 : m ≤ 60) (t1 : 1 ≤ t) (t9 : t ≤ 9) : (60 < ab (d - 1) + (m - ab (d - 1)) * t → ∃ J', fX13_endsRound_j73 102 (nI t) J (z_Rm mu) = some (0, J') ∧ mr_Fl I J' (u_flt 6 (fr (d - 1)))) ∧ (¬ 60 < ab (d - 1) + (m - ab (d - 1)) * t → ∃ J', fX13_endsRound_j73 102 (nI t) J (z_Rm mu) = some (1, J') ∧ mr_X I n J' p (ab (d - 1) + (m - ab (d - 1)) * t) (u_rep F (ab (d - 1)) m ((m - ab (d - 1)) * (t - 1))) (d - 1) fr ab) := by
  have h' : mr_X I n (z_u J 102 41 (nI (d - 1))) p m F (d - 1) fr ab := by
    obtain ⟨h1, h2, h3, h4, h5, h6, h7⟩ := h
    refine ⟨fun b k q1 q2 => ?_, by rw [z_u_k (by decide)]; exact h2, by rw [z_u_k (by decide)]; exact h3, by rw [z_u_k (by decide)]; exact h4, z_u_at _ _ _ _, mr_A_of h6 (fun b b1 b2 => u_o (by omega)), fun j hj => ?_⟩
    · rw [z_u_eq, if_neg (by omega)]; exact h1 b k q1 q2
    · rw [u_o (by decide), u_o (by decide)]; exact h7 j (by omega)
  obtain ⟨q1, q2⟩ := h.2.2.2.2.2.2 (d - 1) (by omega)
  have mulb : (m - ab (d - 1)) * t ≤ 540 := Nat.mul_le_mul (show m - ab (d - 1) ≤ 60 by omega) t9
  unfold fX13_endsRound_j73
  rw [h.2.2.2.2.1, show nI d - (1 : Int32) = nI (d - 1) from n_sub (b := 1) (by omega), z_l_s, h'.2.2.2.2.1, show z_Rm mu 102 39 = 130 from rfl, show z_Rm mu 102 38 = 129 from rfl, z_g_t (n_ok (n := 2) rfl (show d - 1 < 2 by omega) (by decide)), z_g_t (n_ok (n := 2) rfl (show d - 1 < 2 by omega) (by decide)), nI_clamp (show d - 1 < 2 ^ 31 by omega), u_o (show (130 : Nat) ≠ 102 by decide), q2, z_l_s, h'.2.2.2.1, show nI m - nI (ab (d - 1)) = nI (m - ab (d - 1)) from n_sub (by omega), z_l_s, n_mul, n_add]
  refine ⟨fun c => ?_, fun c => ?_⟩
  · obtain ⟨a1, a2⟩ := mr_flt h'.1 (c := 6) (q := fr (d - 1))
    rw [if_neg (show ¬ nI (ab (d - 1) + (m - ab (d - 1)) * t) ≤ (60 : Int32) from nI_ge (a := 60) c (by omega)), u_o (show (129 : Nat) ≠ 102 by decide), q1, show (6 : Int32) = nI 6 from rfl, a1, z_b_s, z_g_t (Or.inl rfl)]
    exact ⟨_, rfl, a2⟩
  · obtain ⟨J1, a1, a2, a3⟩ := mr_rep (mu := mu) ha t1 t9 (by omega) h'.2.2.2.2.2.1
    rw [if_pos (show nI (ab (d - 1) + (m - ab (d - 1)) * t) ≤ (60 : Int32) from nI_le (b := 60) (by omega) (by decide)), a1, z_b_s, z_l_s]
    exact ⟨_, rfl, mr_w h' a3 a2⟩
theorem mr_end (ht : mr_tx I n sg) (h : mr_X I n J p m F d fr ab) (hok : u_ok m F) (hE : u_E m d F ab) (hs : sg p = 41) (hd : 0 < d) (hS : u_to sg n S (true, p, m, F, d, fr, ab)) : (∃ J' f, fX13_endsRound 102 J (z_Rm mu) = some (0, J') ∧ mr_Fl I J' f ∧ u_end sg n S (.inl f)) ∨ ∃ J' p' m' F', fX13_endsRound 102 J (z_Rm mu) = some (1, J') ∧ mr_X I n J' p' m' F' (d - 1) fr ab ∧ p < p' ∧ p' ≤ n ∧ u_ok m' F' ∧ u_E m' (d - 1) F' ab ∧ m ≤ m' ∧ u_to sg n S (true, p', m', F', d - 1, fr, ab) := by
  have n60 := ht.2.1
  have m60 := hok.1
  have pn := u_sg_lt (v := 41) ht.1 hs (by decide)
  have h1 := mr_go h
  obtain ⟨ha, hb⟩ := hE.2 (d - 1) (by omega)
  have fin : ∀ (J1 : z_He) (t : Nat), t = u_et sg p → 1 ≤ t → t ≤ 9 → u_ep sg p ≤ n → ¬ (sg (p + 1) = 120 ∧ u_isT (sg (p + 2)) = false) → mr_X I n J1 (u_ep sg p) m F d fr ab → (∃ J' f, fX13_endsRound_j73 102 (nI t) J1 (z_Rm mu) = some (0, J') ∧ mr_Fl I J' f ∧ u_end sg n S (.inl f)) ∨ ∃ J' p' m' F', fX13_endsRound_j73 102 (nI t) J1 (z_Rm mu) = some (1, J') ∧ mr_X I n J' p' m' F' (d - 1) fr ab ∧ p < p' ∧ p' ≤ n ∧ u_ok m' F' ∧ u_E m' (d - 1) F' ab ∧ m ≤ m' ∧ u_to sg n S (true, p', m', F', d - 1, fr, ab) := by
    intro J1 t et t1 t9 pe nx x1
    obtain ⟨j1, j2⟩ := mr_j73 (mu := mu) x1 hd hE.1 ha m60 t1 t9
    by_cases c : 60 < ab (d - 1) + (m - ab (d - 1)) * t
    · obtain ⟨J', g1, g2⟩ := j1 c
      exact Or.inl ⟨J', _, g1, g2, u_to_e hS (u_e6 hs hd nx (by rw [← et]; exact c))⟩
    · obtain ⟨J', g1, g2⟩ := j2 c
      have mt : m + (m - ab (d - 1)) * (t - 1) = ab (d - 1) + (m - ab (d - 1)) * t := by
        obtain ⟨t', rfl⟩ : ∃ t', t = t' + 1 := ⟨t - 1, by omega⟩
        rw [show t' + 1 - 1 = t' by omega, Nat.mul_add, Nat.mul_one]
        omega
      have ok3 := u_ok_rep ha hok hb ((m - ab (d - 1)) * (t - 1)) (by omega)
      rw [mt] at ok3
      have E := u_sE (n := n) (m := m) (F := F) (fr := fr) (ab := ab) hs hd nx
      rw [← et] at E
      refine Or.inr ⟨J', _, _, _, g1, g2, ?_, pe, ok3, ⟨by have := hE.1; omega, fun j hj => ?_⟩, by omega, u_to_t hS (E c)⟩
      · unfold u_ep
        split <;> omega
      · obtain ⟨w1, w2⟩ := hE.2 j (by omega)
        exact ⟨by omega, by rw [u_rep_lo w1]; exact w2⟩
  unfold fX13_endsRound
  rw [z_g_t (show z_ob 102 13 from rfl), h.2.1, n_s1, z_l_s, mr_here ht h1 (by omega), z_b_s]
  by_cases cx : sg (p + 1) = 120
  · have pn3 := u_sg_lt (v := 120) ht.1 cx (by decide)
    have h2 := mr_go h1
    rw [if_pos cx, h1.2.1, n_s1, z_l_s, mr_here ht h2 (by omega), z_b_s, fX13_in_eq, z_b_s, mr_inT]
    by_cases cT : u_isT (sg (p + 1 + 1)) = true
    · obtain ⟨x, x1, x2, ex⟩ := u_isT_ok cT
      have pn4 := u_sg_lt ht.1 ex (by omega)
      have et : sg (p + 1 + 1) - (48 : Int32) = nI (u_et sg p) := by
        unfold u_et
        rw [if_pos cx]
        unfold u_tm
        rw [if_pos cT, ex, nI_clamp (by omega)]
        exact n_sub (b := 48) (by omega)
      have tb : 1 ≤ u_et sg p ∧ u_et sg p ≤ 9 := by
        unfold u_et
        rw [if_pos cx]
        exact u_tm_b _
      have epe : u_ep sg p = p + 1 + 1 + 1 := by
        unfold u_ep
        rw [if_pos cx]
      have nx : ¬ (sg (p + 1) = 120 ∧ u_isT (sg (p + 2)) = false) := fun q => by
        have q2 := q.2
        rw [show p + 2 = p + 1 + 1 by omega, cT] at q2
        cases q2
      rw [if_pos cT, if_neg (show ¬ (1 : Int32) = 0 by decide), z_b_s, et, z_l_s, h2.2.1, n_s1, z_l_s]
      exact fin _ _ rfl tb.1 tb.2 (by omega) nx (by rw [epe]; exact mr_go h2)
    · obtain ⟨a1, a2⟩ := mr_flt h2.1 (c := 1) (q := p + 1 + 1)
      rw [if_neg cT, if_pos rfl, h2.2.1, show (1 : Int32) = nI 1 from rfl, a1, z_b_s, z_g_t (Or.inl rfl)]
      exact Or.inl ⟨_, _, rfl, a2, u_to_e hS (u_eX hs hd ⟨cx, by simpa using cT⟩)⟩
  · rw [if_neg cx]
    exact fin _ 1 (if_neg cx).symm (by decide) (by decide) (by rw [show u_ep sg p = p + 1 from if_neg cx]; omega) (fun q => cx q.1) (by rw [show u_ep sg p = p + 1 from if_neg cx]; exact h1)
def mr_P0 (I : z_He) (n : Nat) (sg : Nat → Int32) (S : u_St) (m : Nat) (F : u_F) (p0 : Nat) (s : z_He) : Prop := ∃ p d fr ab, mr_X I n s p m F d fr ab ∧ u_D m d F ab ∧ p0 ≤ p ∧ p ≤ n ∧ u_to sg n S (false, p, m, F, d, fr, ab)
def mr_Q0 (I : z_He) (n : Nat) (sg : Nat → Int32) (S : u_St) (m : Nat) (F : u_F) (p0 : Nat) (x : (Int32 × z_He) ⊕ z_He) : Prop := (∃ J' f, x = .inl (0, J') ∧ mr_Fl I J' f ∧ u_end sg n S (.inl f)) ∨ ∃ J' p d fr ab, x = .inr J' ∧ mr_X I n J' p m F d fr ab ∧ u_D m d F ab ∧ p0 ≤ p ∧ p ≤ n ∧ ¬ sg p = 40 ∧ u_to sg n S (false, p, m, F, d, fr, ab)
theorem mr_op (ht : mr_tx I n sg) (hm : m ≤ 60) {p0 : Nat} (h : mr_P0 I n sg S m F p0 J) : ∃ x, z_lp (fX13_readsItem_b0 102 (z_Rm mu)) 300 J = some x ∧ mr_Q0 I n sg S m F p0 x := by
  refine lp_var (mr_P0 I n sg S m F p0) (mr_Q0 I n sg S m F p0) (fun s => 3 - (s 102 41).toNatClampNeg) ?_ 300 J (by omega) h
  intro s hs
  obtain ⟨p, d, fr, ab, h1, h2, h3, h4, h5⟩ := hs
  have n60 := ht.2.1
  have d2 := h2.1
  unfold fX13_readsItem_b0
  dsimp only
  rw [mr_here ht h1 (by omega), z_b_s]
  by_cases c : sg p = 40
  · have pn := u_sg_lt (v := 40) ht.1 c (by decide)
    rw [if_pos c, h1.2.2.2.2.1]
    by_cases cd : d = 2
    · obtain ⟨a1, a2⟩ := mr_flt h1.1 (c := 5) (q := p)
      subst cd
      rw [if_pos (show nI 2 = (2 : Int32) from rfl), h1.2.1, show (5 : Int32) = nI 5 from rfl, a1, z_b_s, z_g_t (Or.inl rfl)]
      exact Or.inr ⟨_, rfl, Or.inl ⟨_, _, rfl, a2, u_to_e h5 (u_e40 c)⟩⟩
    · have dd : d < 2 := by omega
      have ne2 : ¬ nI d = (2 : Int32) := fun e => cd ((n_eq (b := 2) (by omega) (by decide)).mp e)
      rw [if_neg ne2, show z_Rm mu 102 38 = 129 from rfl, show z_Rm mu 102 39 = 130 from rfl, z_g_t (n_ok (n := 2) rfl dd (by decide)), nI_clamp (show d < 2 ^ 31 by omega), z_l_s, u_o (show (102 : Nat) ≠ 129 by decide), h1.2.2.2.2.1, z_g_t (n_ok (n := 2) rfl dd (by decide)), nI_clamp (show d < 2 ^ 31 by omega), z_l_s, u_o (show (102 : Nat) ≠ 130 by decide), u_o (show (102 : Nat) ≠ 129 by decide), h1.2.2.2.2.1, n_s1, z_l_s, h1.2.1, h1.2.2.2.1]
      refine Or.inl ⟨_, rfl, ⟨p + 1, d + 1, x_up fr d p, x_up ab d m, ?_, ⟨by omega, fun j hj => ?_⟩, by omega, by omega, u_to_t h5 (u_s40 c cd)⟩, ?_⟩
      · obtain ⟨k1, k2, k3, k4, k5, k6, k7⟩ := h1
        rw [z_u_k (show (12 : Nat) ≠ 41 by decide), u_o (show (102 : Nat) ≠ 130 by decide), u_o (show (102 : Nat) ≠ 129 by decide), k2, n_s1]
        refine ⟨fun b k q1 q2 => ?_, z_u_at _ _ _ _, ?_, ?_, ?_, mr_A_of k6 (fun b b1 b2 => ?_), fun j hj => ?_⟩
        · rw [z_u_eq, if_neg (by omega), z_u_eq, if_neg (by omega), u_o (by omega), u_o (by omega)]; exact k1 b k q1 q2
        · rw [z_u_k (by decide), z_u_k (by decide), u_o (by decide), u_o (by decide)]; exact k3
        · rw [z_u_k (by decide), z_u_k (by decide), u_o (by decide), u_o (by decide)]; exact k4
        · rw [z_u_k (by decide), z_u_at]
        · rw [u_o (by omega), u_o (by omega), u_o (by omega), u_o (by omega)]
        · rw [u_o (show (129 : Nat) ≠ 102 by decide), u_o (show (129 : Nat) ≠ 102 by decide), u_o (show (129 : Nat) ≠ 130 by decide), u_o (show (130 : Nat) ≠ 102 by decide), u_o (show (130 : Nat) ≠ 102 by decide)]
          by_cases e : j = d
          · subst e
            rw [z_u_at, z_u_at, x_up_at, x_up_at]
            exact ⟨rfl, rfl⟩
          · rw [z_u_k e, z_u_k e, x_up_o e, x_up_o e, u_o (by decide)]
            exact k7 j (by omega)
      · by_cases e : j = d
        · rw [e, x_up_at]; exact ⟨Nat.le_refl m, fun q => by omega⟩
        · rw [x_up_o e]; exact h2.2 j (by omega)
      · rw [z_u_k (show (41 : Nat) ≠ 12 by decide), z_u_at, nI_clamp (by omega)]
        omega
  · rw [if_neg c]
    exact Or.inr ⟨_, rfl, Or.inr ⟨s, p, d, fr, ab, rfl, h1, h2, h3, h4, c, h5⟩⟩
def mr_P1 (I : z_He) (n : Nat) (sg : Nat → Int32) (S : u_St) (fr ab : Nat → Nat) (p0 : Nat) (s : z_He) : Prop := ∃ p m F d, mr_X I n s p m F d fr ab ∧ u_ok m F ∧ u_E m d F ab ∧ 0 < m ∧ p0 ≤ p ∧ p ≤ n ∧ u_to sg n S (true, p, m, F, d, fr, ab)
def mr_Q1 (I : z_He) (n : Nat) (sg : Nat → Int32) (S : u_St) (fr ab : Nat → Nat) (p0 : Nat) (x : (Int32 × z_He) ⊕ z_He) : Prop := (∃ J' f, x = .inl (0, J') ∧ mr_Fl I J' f ∧ u_end sg n S (.inl f)) ∨ ∃ J' p m F d, x = .inr J' ∧ mr_X I n J' p m F d fr ab ∧ u_ok m F ∧ u_E m d F ab ∧ 0 < m ∧ p0 ≤ p ∧ p ≤ n ∧ ¬ (sg p = 41 ∧ 0 < d) ∧ u_to sg n S (true, p, m, F, d, fr, ab)
theorem mr_cl (ht : mr_tx I n sg) {p0 : Nat} (h : mr_P1 I n sg S fr ab p0 J) : ∃ x, z_lp (fX13_readsItem_b85 102 (z_Rm mu)) 300 J = some x ∧ mr_Q1 I n sg S fr ab p0 x := by
  refine lp_var (mr_P1 I n sg S fr ab p0) (mr_Q1 I n sg S fr ab p0) (fun s => min (s 102 41).toNatClampNeg 2) ?_ 300 J (by omega) h
  intro s hs
  obtain ⟨p, m, F, d, h1, h2, h3, h4, h5, h6, h7⟩ := hs
  have n60 := ht.2.1
  have d2 := h3.1
  unfold fX13_readsItem_b85
  dsimp only
  rw [mr_here ht h1 (by omega), z_b_s]
  by_cases c : sg p = 41
  · rw [if_pos c, h1.2.2.2.2.1]
    by_cases cd : 0 < d
    · rw [if_neg (nI_nle cd (by omega))]
      rcases mr_end (mu := mu) ht h1 h2 h3 c cd h7 with ⟨J', f, g1, g2, g3⟩ | ⟨J', p', m', F', g1, g2, g3, g4, g5, g6, g7, g8⟩
      · rw [g1, z_b_s, if_pos rfl]
        exact Or.inr ⟨_, rfl, Or.inl ⟨_, _, rfl, g2, g3⟩⟩
      · rw [g1, z_b_s, if_neg (show ¬ (1 : Int32) = 0 by decide)]
        refine Or.inl ⟨_, rfl, ⟨p', m', F', d - 1, g2, g5, g6, by omega, by omega, g4, g8⟩, ?_⟩
        dsimp only
        rw [g2.2.2.2.2.1, nI_clamp (by omega), nI_clamp (by omega)]
        omega
    · have : d = 0 := by omega
      subst this
      rw [if_pos (show nI 0 ≤ (0 : Int32) by decide)]
      exact Or.inr ⟨_, rfl, Or.inr ⟨s, p, m, F, 0, rfl, h1, h2, h3, h4, h5, h6, by omega, h7⟩⟩
  · rw [if_neg c]
    exact Or.inr ⟨_, rfl, Or.inr ⟨s, p, m, F, d, rfl, h1, h2, h3, h4, h5, h6, fun q => c q.1, h7⟩⟩
theorem mr_item (ht : mr_tx I n sg) (h : mr_X I n J p m F d fr ab) (hok : u_ok m F) (hD : u_D m d F ab) (hp : p ≤ n) (hS : u_to sg n S (false, p, m, F, d, fr, ab)) : (∃ J' f, fX13_readsItem 102 J (z_Rm mu) = some (0, J') ∧ mr_Fl I J' f ∧ u_end sg n S (.inl f)) ∨ ∃ J' p' m' F' d' fr' ab', fX13_readsItem 102 J (z_Rm mu) = some (1, J') ∧ mr_X I n J' p' m' F' d' fr' ab' ∧ u_ok m' F' ∧ u_E m' d' F' ab' ∧ 0 < m' ∧ p < p' ∧ p' ≤ n ∧ ¬ (sg p' = 41 ∧ 0 < d') ∧ u_to sg n S (true, p', m', F', d', fr', ab') := by
  have n60 := ht.2.1
  unfold fX13_readsItem
  rw [z_g_t (show z_ob 102 13 from rfl)]
  obtain ⟨x, e1, e2⟩ := mr_op (mu := mu) (S := S) (p0 := p) ht hok.1 ⟨p, d, fr, ab, h, hD, Nat.le_refl p, hp, hS⟩
  rw [e1, z_b_s]
  rcases e2 with ⟨J', f, g1, g2, g3⟩ | ⟨J1, p1, d1, fr1, ab1, g1, g2, g3, g4, g5, g6, g7⟩
  · rw [g1, z_x_il]
    exact Or.inl ⟨J', f, rfl, g2, g3⟩
  · rw [g1, z_x_ir]
    obtain ⟨s1, s2, s3⟩ := mr_snd (mu := mu) ht g2 g5 hok.1
    by_cases cN : u_isN (sg p1) = true
    · have pn : p1 < n := by
        rcases u_isN_ok cN with e | ⟨v, v1, v2, e⟩
        · exact u_sg_lt ht.1 e (by decide)
        · exact u_sg_lt ht.1 e (by omega)
      by_cases cm : 60 < m + u_tm (sg (p1 + 1))
      · obtain ⟨J', k1, k2⟩ := s2 cN cm
        rw [k1, z_b_s, if_pos rfl]
        exact Or.inl ⟨J', _, rfl, k2, u_to_e g7 (u_eN cN cm)⟩
      · obtain ⟨J2, k1, k2⟩ := s3 cN cm
        obtain ⟨b1, b2, b3, b4⟩ := u_snd_ok ht.1 hok g3 pn cN (by omega)
        have tb := u_tm_b (sg (p1 + 1))
        have to := u_to_t g7 (u_sN cN cm)
        rw [k1, z_b_s, if_neg (show ¬ (1 : Int32) = 0 by decide)]
        obtain ⟨y, f1, f2⟩ := mr_cl (mu := mu) (S := S) (p0 := p + 1) (J := J2) ht ⟨_, _, _, d1, k2, b3, ⟨g3.1, fun j hj => ⟨by have := (g3.2 j hj).1; omega, (b4.2 j hj).2 (by have := (g3.2 j hj).1; omega)⟩⟩, by omega, by omega, b2, to⟩
        dsimp only
        rw [f1, z_b_s]
        rcases f2 with ⟨J', f, q1, q2, q3⟩ | ⟨J3, p3, m3, F3, d3, q1, q2, q3, q4, q5, q6, q7, q8, q9⟩
        · rw [q1, z_x_il]
          exact Or.inl ⟨J', f, rfl, q2, q3⟩
        · rw [q1, z_x_ir]
          exact Or.inr ⟨J3, p3, m3, F3, d3, fr1, ab1, rfl, q2, q3, q4, q5, by omega, q7, q8, q9⟩
    · obtain ⟨J', k1, k2⟩ := s1 (by simpa using cN)
      rw [k1, z_b_s, if_pos rfl]
      exact Or.inl ⟨J', _, rfl, k2, u_to_e g7 (u_e1 g6 (by simpa using cN))⟩
end MC
