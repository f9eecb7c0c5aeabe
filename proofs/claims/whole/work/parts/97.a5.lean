/-! roll: the class's items and rounds -/
theorem lp_var {S X : Type} {body : S → Option (S ⊕ X)} (P : S → Prop) (Q : X → Prop) (w : S → Nat) (h : ∀ s, P s → (∃ s', body s = some (.inl s') ∧ P s' ∧ w s' < w s) ∨ ∃ x, body s = some (.inr x) ∧ Q x) : ∀ (N : Nat) (s : S), w s < N → P s → ∃ x, z_lp body N s = some x ∧ Q x := by
  intro N
  induction N with
  | zero => intro s hw; omega
  | succ N ih =>
    intro s hw hP
    rcases h s hP with ⟨s', e1, e2, e3⟩ | ⟨x, e1, e2⟩
    · obtain ⟨x, f1, f2⟩ := ih s' (by omega) e2
      refine ⟨x, ?_, f2⟩
      unfold z_lp
      rw [e1]
      exact f1
    · refine ⟨x, ?_, e2⟩
      unfold z_lp
      rw [e1]
section US
variable {sg : Nat → Int32} {n p m d : Nat} {F : u_F} {fr ab : Nat → Nat}
theorem u_s40 (h : sg p = 40) (hd : ¬ d = 2) : u_to sg n (false, p, m, F, d, fr, ab) (false, p + 1, m, F, d + 1, x_up fr d p, x_up ab d m) := ⟨1, fun k => by
  show u_it sg n (k + 1) false p m F d fr ab = _
  rw [u_it, if_pos h, if_neg hd]
  rfl⟩
theorem u_e40 (h : sg p = 40) : u_end sg n (false, p, m, F, 2, fr, ab) (.inl (u_flt 5 p)) := ⟨1, by
  show u_it sg n 1 false p m F 2 fr ab = _
  rw [u_it, if_pos h, if_pos rfl]⟩
theorem u_n40 (h : u_isN (sg p) = true) : ¬ sg p = 40 := fun e => by rw [e] at h; revert h; decide
theorem u_sN (h : u_isN (sg p) = true) (hm : ¬ 60 < m + u_tm (sg (p + 1))) : u_to sg n (false, p, m, F, d, fr, ab) (true, u_p2 sg (u_p1 sg (u_tp (sg (p + 1)) (p + 1))), m + u_tm (sg (p + 1)), u_F2 sg (u_p1 sg (u_tp (sg (p + 1)) (p + 1))) (m + u_tm (sg (p + 1))) (u_F1 sg (u_tp (sg (p + 1)) (p + 1)) (m + u_tm (sg (p + 1))) (u_add F m (u_val (sg p)) (u_tm (sg (p + 1))))), d, fr, ab) := ⟨1, fun k => by
  show u_it sg n (k + 1) false p m F d fr ab = _
  rw [u_it, if_neg (u_n40 h), if_pos h, if_neg hm]
  rfl⟩
theorem u_eN (h : u_isN (sg p) = true) (hm : 60 < m + u_tm (sg (p + 1))) : u_end sg n (false, p, m, F, d, fr, ab) (.inl (u_flt 6 p)) := ⟨1, by
  show u_it sg n 1 false p m F d fr ab = _
  rw [u_it, if_neg (u_n40 h), if_pos h, if_pos hm]⟩
theorem u_e1 (h : ¬ sg p = 40) (h2 : u_isN (sg p) = false) : u_end sg n (false, p, m, F, d, fr, ab) (.inl (u_flt 1 p)) := ⟨1, by
  show u_it sg n 1 false p m F d fr ab = _
  rw [u_it, if_neg h, if_neg (by rw [h2]; decide)]⟩
theorem u_sG (h : ¬ (sg p = 41 ∧ 0 < d)) (h2 : p < n ∨ 0 < d) : u_to sg n (true, p, m, F, d, fr, ab) (false, p, m, F, d, fr, ab) := ⟨1, fun k => by
  show u_it sg n (k + 1) true p m F d fr ab = _
  rw [u_it, if_neg h, if_pos h2]
  rfl⟩
theorem u_eR (h : ¬ p < n) : u_end sg n (true, p, m, F, 0, fr, ab) (.inr (m, F)) := ⟨1, by
  show u_it sg n 1 true p m F 0 fr ab = _
  rw [u_it, if_neg (by omega), if_neg (by omega)]⟩
theorem u_sE (h : sg p = 41) (hd : 0 < d) (hx : ¬ (sg (p + 1) = 120 ∧ u_isT (sg (p + 2)) = false)) (hm : ¬ 60 < ab (d - 1) + (m - ab (d - 1)) * u_et sg p) : u_to sg n (true, p, m, F, d, fr, ab) (true, u_ep sg p, ab (d - 1) + (m - ab (d - 1)) * u_et sg p, u_rep F (ab (d - 1)) m ((m - ab (d - 1)) * (u_et sg p - 1)), d - 1, fr, ab) := ⟨1, fun k => by
  show u_it sg n (k + 1) true p m F d fr ab = _
  rw [u_it, if_pos ⟨h, hd⟩, if_neg hx, if_neg hm]
  rfl⟩
theorem u_eX (h : sg p = 41) (hd : 0 < d) (hx : sg (p + 1) = 120 ∧ u_isT (sg (p + 2)) = false) : u_end sg n (true, p, m, F, d, fr, ab) (.inl (u_flt 1 (p + 2))) := ⟨1, by
  show u_it sg n 1 true p m F d fr ab = _
  rw [u_it, if_pos ⟨h, hd⟩, if_pos hx]⟩
theorem u_e6 (h : sg p = 41) (hd : 0 < d) (hx : ¬ (sg (p + 1) = 120 ∧ u_isT (sg (p + 2)) = false)) (hm : 60 < ab (d - 1) + (m - ab (d - 1)) * u_et sg p) : u_end sg n (true, p, m, F, d, fr, ab) (.inl (u_flt 6 (fr (d - 1)))) := ⟨1, by
  show u_it sg n 1 true p m F d fr ab = _
  rw [u_it, if_pos ⟨h, hd⟩, if_neg hx, if_pos hm]⟩
theorem u_rep_lo {a c k : Nat} (h : k < m) : u_rep F a m c k = F k := by
  induction c with
  | zero => rfl
  | succ c ih =>
    show u_up (u_rep F a m c) (m + c) (u_rep F a m c (a + c)) k = _
    rw [u_up_o (by omega)]
    exact ih
theorem u_rep_at {a c : Nat} (ha : a < m) : ∀ j, j < c → u_rep F a m c (m + j) = u_rep F a m c (a + j) := by
  induction c with
  | zero => intro j hj; omega
  | succ c ih =>
    intro j hj
    show u_up (u_rep F a m c) (m + c) (u_rep F a m c (a + c)) (m + j) = u_up (u_rep F a m c) (m + c) (u_rep F a m c (a + c)) (a + j)
    rw [u_up_o (show a + j ≠ m + c by omega)]
    by_cases e : j = c
    · rw [e, u_up_at]
    · rw [u_up_o (by omega)]
      exact ih j (by omega)
theorem u_ok_rep {a : Nat} (ha : a < m) (h : u_ok m F) (hb : (F a).2.2.2 = 1) : ∀ c, m + c ≤ 60 → u_ok (m + c) (u_rep F a m c) := by
  intro c
  induction c with
  | zero => intro _; exact h
  | succ c ih =>
    intro hc
    have ih := ih (by omega)
    have lo : ∀ k, k < m + c → u_rep F a m (c + 1) k = u_rep F a m c k := fun k hk => by
      show u_up (u_rep F a m c) (m + c) (u_rep F a m c (a + c)) k = _
      rw [u_up_o (by omega)]
    have hi : u_rep F a m (c + 1) (m + c) = u_rep F a m c (a + c) := u_up_at
    refine ⟨hc, fun k hk => ?_⟩
    by_cases e : k = m + c
    · subst e
      rw [hi]
      obtain ⟨a1, a2, a3, a4, a5⟩ := ih.2 (a + c) (by omega)
      refine ⟨a1, a2, a3, a4, fun z => ?_⟩
      by_cases c0 : c = 0
      · subst c0
        have : (u_rep F a m 0 (a + 0)).2.2.2 = 1 := hb
        omega
      · refine ⟨by omega, ?_⟩
        obtain ⟨z1, z2⟩ := a5 z
        rw [lo _ (by omega), show m + c - 1 = m + (c - 1) by omega, u_rep_at ha (c - 1) (by omega), show a + (c - 1) = a + c - 1 by omega]
        exact z2
    · rw [lo k (by omega)]
      obtain ⟨a1, a2, a3, a4, a5⟩ := ih.2 k (by omega)
      refine ⟨a1, a2, a3, a4, fun z => ⟨(a5 z).1, ?_⟩⟩
      rw [lo _ (by omega)]
      exact (a5 z).2
end US
/-- what a piece of the class's reader comes to -/
def u_G (I : z_He) (A n : Nat) (sg : Nat → Int32) (o p m : Nat) (F : u_F) (fr ab : Nat → Nat) (res : Option (Int32 × z_He)) (E : Nat → Prop) : Prop := (∃ J' p' m' F' fr' ab', res = some (1, J') ∧ p < p' ∧ p' ≤ n ∧ m < m' ∧ u_X I A J' p' m' F' ∧ u_ok m' F' ∧ u_D m' o F' ab' ∧ u_to sg n (false, p, m, F, o, fr, ab) (true, p', m', F', o, fr', ab') ∧ (∀ j, j < o → fr' j = fr j ∧ ab' j = ab j) ∧ E p') ∨ ∃ J' c q, res = some (0, J') ∧ u_Fl I A J' (u_flt c q) ∧ 1 ≤ c ∧ c ≤ 6 ∧ q ≤ 62 ∧ u_end sg n (false, p, m, F, o, fr, ab) (.inl (u_flt c q))
def k_lo (I : z_He) (A n : Nat) (sg : Nat → Int32) (o p m : Nat) (F : u_F) (fr ab : Nat → Nat) (s : Int32 × Int32 × z_He) : Prop := ∃ j, s.2.1 = nI j ∧ j ≤ 60 ∧ ((∃ p' m' F' fr' ab', s.1 = 1 ∧ p < p' ∧ j + 1 ≤ p' ∧ p' ≤ n ∧ m < m' ∧ u_X I A s.2.2 p' m' F' ∧ u_ok m' F' ∧ u_D m' o F' ab' ∧ u_to sg n (false, p, m, F, o, fr, ab) (true, p', m', F', o, fr', ab') ∧ ∀ i, i < o → fr' i = fr i ∧ ab' i = ab i) ∨ ∃ c q, s.1 = 0 ∧ u_Fl I A s.2.2 (u_flt c q) ∧ 1 ≤ c ∧ c ≤ 6 ∧ q ≤ 62 ∧ u_end sg n (false, p, m, F, o, fr, ab) (.inl (u_flt c q)))
def u_stop (sg : Nat → Int32) (p : Nat) : Prop := ¬ sg p = 40 ∧ u_isN (sg p) = false
section UH
variable {I : z_He} {mu : Nat → Nat} {n : Nat} {sg : Nat → Int32}
def k_item (I : z_He) (mu : Nat → Nat) (n : Nat) (sg : Nat → Int32) (k o : Nat) : Prop := ∀ (J : z_He) (p m : Nat) (F : u_F) (fr ab : Nat → Nat), u_X I (mu 8) J p m F → u_ok m F → u_D m o F ab → p ≤ n → u_G I (mu 8) n sg o p m F fr ab (z_fxC k 1 57 (nI o) J (z_Rm mu)) (fun _ => True)
def k_items (I : z_He) (mu : Nat → Nat) (n : Nat) (sg : Nat → Int32) (k o : Nat) : Prop := ∀ (J : z_He) (p m : Nat) (F : u_F) (fr ab : Nat → Nat), u_X I (mu 8) J p m F → u_ok m F → u_D m o F ab → p ≤ n → u_G I (mu 8) n sg o p m F fr ab (z_fxC k 0 57 (nI o) J (z_Rm mu)) (u_stop sg)
def k_round (I : z_He) (mu : Nat → Nat) (n : Nat) (sg : Nat → Int32) (k o : Nat) : Prop := ∀ (J : z_He) (p m : Nat) (F : u_F) (fr ab : Nat → Nat), u_X I (mu 8) J p m F → u_ok m F → u_D m o F ab → sg p = 40 → u_G I (mu 8) n sg o p m F fr ab (z_fxC k 2 57 (nI o) J (z_Rm mu)) (fun _ => True)
theorem k_i (hP : r_P mu) (hX : mu 11 = mu 8) (ht : u_tx I n sg) {k o : Nat} (hr : k_round I mu n sg k o) : k_item I mu n sg (k + 1) o := by
  intro J p m F fr ab h hok hD hp
  have n60 := ht.2.1
  have e : z_fxC (k + 1) 1 57 (nI o) J (z_Rm mu) = fX6_readItem (z_fxC k) 57 (nI o) J (z_Rm mu) := rfl
  rw [e]
  unfold fX6_readItem
  rw [z_g_t (show z_ob 57 6 from rfl), (o57 hX).1, z_g_t (show z_ob 1 10 from rfl), c_sg hP ht h (by omega), z_b_s, c_starts, z_b_s]
  by_cases c : sg p = 40
  · rw [if_pos c, if_neg (show ¬ (1 : Int32) = 0 by decide), if_pos c]
    rcases hr J p m F fr ab h hok hD c with ⟨J', p', m', F', fr', ab', g1, g⟩ | ⟨J', c, q, g1, g⟩
    · refine Or.inl ⟨J', p', m', F', fr', ab', ?_, g⟩
      rw [g1, z_b_s, z_g_t (Or.inr rfl)]
    · refine Or.inr ⟨J', c, q, ?_, g⟩
      rw [g1, z_b_s, z_g_t (Or.inl rfl)]
  · rw [if_neg c]
    by_cases cN : u_isN (sg p) = true
    · have pn : p < n := by
        rcases u_isN_ok cN with e | ⟨v, v1, v2, e⟩
        · exact u_sg_lt ht.1 e (by decide)
        · exact u_sg_lt ht.1 e (by omega)
      rw [if_pos cN, if_neg (show ¬ (1 : Int32) = 0 by decide), if_neg c, c_noteOf cN, z_b_s]
      obtain ⟨s1, s2⟩ := c_snd hP hX ht h hok pn cN
      by_cases cm : 60 < m + u_tm (sg (p + 1))
      · obtain ⟨J', g1, g2⟩ := s1 cm
        refine Or.inr ⟨J', 6, p, ?_, g2, by decide, by decide, by omega, u_eN cN cm⟩
        rw [g1, z_b_s, z_g_t (Or.inl rfl)]
      · obtain ⟨J', g1, g2⟩ := s2 cm
        obtain ⟨b1, b2, b3, b4⟩ := u_snd_ok ht.1 hok hD pn cN (by omega)
        have tb := u_tm_b (sg (p + 1))
        refine Or.inl ⟨J', _, _, _, fr, ab, ?_, b1, b2, by omega, g2, b3, b4, u_sN cN cm, fun _ _ => ⟨rfl, rfl⟩, trivial⟩
        rw [g1, z_b_s, z_g_t (Or.inr rfl)]
    · obtain ⟨a1, a2⟩ := c_flt hP h (c := 1) (q := p)
      rw [if_neg cN, if_pos rfl, c_place h, z_b_s, show (1 : Int32) = nI 1 from rfl, a1, z_b_s, z_g_t (Or.inl rfl)]
      exact Or.inr ⟨_, 1, p, rfl, a2, by decide, by decide, by omega, u_e1 c (by simpa using cN)⟩
theorem k_is (hP : r_P mu) (hX : mu 11 = mu 8) (ht : u_tx I n sg) {k o : Nat} (hr : k_item I mu n sg k o) : k_items I mu n sg (k + 1) o := by
  intro J p m F fr ab h hok hD hp
  have n60 := ht.2.1
  have e : z_fxC (k + 1) 0 57 (nI o) J (z_Rm mu) = fX6_readItems (z_fxC k) 57 (nI o) J (z_Rm mu) := rfl
  rw [e]
  unfold fX6_readItems
  rw [z_g_t (show z_ob 57 6 from rfl)]
  obtain ⟨x, e1, e2⟩ : ∃ x, z_b (z_fxC k 1 57 (nI o) J (z_Rm mu)) (fun q1 => z_lp (fX6_readItems_b8 (z_fxC k) 57 (nI o) (z_Rm mu)) 300 (q1.1, (0 : Int32), q1.2)) = some x ∧ u_G I (mu 8) n sg o p m F fr ab (some x) (u_stop sg) := by
    have loop : ∀ s : Int32 × Int32 × z_He, k_lo I (mu 8) n sg o p m F fr ab s → ∃ x, z_lp (fX6_readItems_b8 (z_fxC k) 57 (nI o) (z_Rm mu)) 300 s = some x ∧ u_G I (mu 8) n sg o p m F fr ab (some x) (u_stop sg) := by
      intro s hs
      refine lp_var (k_lo I (mu 8) n sg o p m F fr ab) (fun x => u_G I (mu 8) n sg o p m F fr ab (some x) (u_stop sg)) (fun s => 61 - s.2.1.toNatClampNeg) ?_ 300 s (by omega) hs
      intro s hs
      obtain ⟨a, b, G⟩ := s
      obtain ⟨j, hj, j60, hs⟩ := hs
      dsimp only at hj hs ⊢
      subst hj
      unfold fX6_readItems_b8
      dsimp only
      rcases hs with ⟨p', m', F', fr', ab', s1, s2, s3, s4, s5, s6, s7, s8, s9, s10⟩ | ⟨c, q, s1, s2⟩
      · subst s1
        rw [if_neg (show ¬ (60 : Int32) ≤ nI j from nI_ge (show j < 60 by omega) (by decide)), if_neg (show ¬ (1 : Int32) = 0 by decide), (o57 hX).1, z_g_t (show z_ob 1 10 from rfl), c_sg hP ht s6 (by omega), z_b_s, c_starts, z_b_s]
        have go : (sg p' = 40 ∨ u_isN (sg p') = true) → (∃ s', z_b (z_fxC k 1 57 (nI o) G (z_Rm mu)) (fun q8 => z_l (nI j + (1 : Int32)) (fun t9 => some (Sum.inl (β := Int32 × z_He) (q8.1, t9, q8.2)))) = some (.inl s') ∧ k_lo I (mu 8) n sg o p m F fr ab s' ∧ 61 - s'.2.1.toNatClampNeg < 61 - (nI j).toNatClampNeg) := by
          intro st
          have pn : p' < n := by
            rcases st with e | cN
            · exact u_sg_lt (v := 40) ht.1 e (by decide)
            · rcases u_isN_ok cN with e | ⟨v, v1, v2, e⟩
              · exact u_sg_lt ht.1 e (by decide)
              · exact u_sg_lt ht.1 e (by omega)
          have to : u_to sg n (false, p, m, F, o, fr, ab) (false, p', m', F', o, fr', ab') := u_to_t s9 (u_sG (fun q => by
            rcases st with e | cN
            · rw [e] at q; exact absurd q.1 (by decide)
            · rw [q.1] at cN; revert cN; decide) (Or.inl pn))
          rcases hr G p' m' F' fr' ab' s6 s7 s8 s4 with ⟨J2, p2, m2, F2, fr2, ab2, g1, g2, g3, g4, g5, g6, g7, g8, g9, -⟩ | ⟨J2, c, q, g1, g2, g3, g4, g5, g6⟩
          · rw [g1, z_b_s, z_l_s, n_s1]
            refine ⟨_, rfl, ⟨j + 1, rfl, by omega, Or.inl ⟨p2, m2, F2, fr2, ab2, rfl, by omega, by omega, g3, by omega, g5, g6, g7, u_to_t to g8, fun i hi => ⟨(g9 i hi).1.trans (s10 i hi).1, (g9 i hi).2.trans (s10 i hi).2⟩⟩⟩, ?_⟩
            dsimp only
            rw [nI_clamp (by omega), nI_clamp (by omega)]
            omega
          · rw [g1, z_b_s, z_l_s, n_s1]
            refine ⟨_, rfl, ⟨j + 1, rfl, by omega, Or.inr ⟨c, q, rfl, g2, g3, g4, g5, u_to_e to g6⟩⟩, ?_⟩
            dsimp only
            rw [nI_clamp (by omega), nI_clamp (by omega)]
            omega
        by_cases c : sg p' = 40
        · rw [if_pos c, if_neg (show ¬ (1 : Int32) = 0 by decide)]
          exact Or.inl (go (Or.inl c))
        · rw [if_neg c]
          by_cases cN : u_isN (sg p') = true
          · rw [if_pos cN, if_neg (show ¬ (1 : Int32) = 0 by decide)]
            exact Or.inl (go (Or.inr cN))
          · rw [if_neg cN, if_pos rfl]
            exact Or.inr ⟨_, rfl, Or.inl ⟨G, p', m', F', fr', ab', rfl, s2, s4, s5, s6, s7, s8, s9, s10, c, by simpa using cN⟩⟩
      · subst s1
        refine Or.inr ⟨(0, G), ?_, Or.inr ⟨G, c, q, rfl, s2⟩⟩
        by_cases c60 : (60 : Int32) ≤ nI j
        · rw [if_pos c60]
        · rw [if_neg c60, if_pos rfl]
    rcases hr J p m F fr ab h hok hD hp with ⟨J2, p2, m2, F2, fr2, ab2, g1, g2, g3, g4, g5, g6, g7, g8, g9, -⟩ | ⟨J2, c, q, g1, g⟩
    · rw [g1, z_b_s]
      exact loop _ ⟨0, rfl, by decide, Or.inl ⟨p2, m2, F2, fr2, ab2, rfl, g2, by omega, g3, g4, g5, g6, g7, g8, g9⟩⟩
    · rw [g1, z_b_s]
      exact loop _ ⟨0, rfl, by decide, Or.inr ⟨c, q, rfl, g⟩⟩
  have e3 : z_b (z_fxC k 1 57 (nI o) J (z_Rm mu)) (fun q1 => z_b (z_lp (fX6_readItems_b8 (z_fxC k) 57 (nI o) (z_Rm mu)) 300 (q1.1, (0 : Int32), q1.2)) (fun q10 => z_g (q10.1 = 0 ∨ q10.1 = 1) (some (q10.1, q10.2)))) = some x := by
    cases hc : z_fxC k 1 57 (nI o) J (z_Rm mu) with
    | none => rw [hc] at e1; cases e1
    | some y =>
      rw [hc, z_b_s] at e1
      rw [z_b_s, e1, z_b_s]
      rcases e2 with ⟨J2, p2, m2, F2, fr2, ab2, g1, g⟩ | ⟨J2, c, q, g1, g⟩
      · cases g1; rw [z_g_t (Or.inr rfl)]
      · cases g1; rw [z_g_t (Or.inl rfl)]
  rw [e3]
  exact e2
end UH
