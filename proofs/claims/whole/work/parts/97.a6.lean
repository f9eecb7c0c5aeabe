/-! roll: the class's round and the whole roll -/
section UR
variable {I : z_He} {mu : Nat → Nat} {n : Nat} {sg : Nat → Int32}
theorem k_r2 (hP : r_P mu) (hX : mu 11 = mu 8) (ht : u_tx I n sg) (k : Nat) : k_round I mu n sg (k + 1) 2 := by
  intro J p m F fr ab h hok hD hs
  have n60 := ht.2.1
  have pn := u_sg_lt (v := 40) ht.1 hs (by decide)
  have e : z_fxC (k + 1) 2 57 (nI 2) J (z_Rm mu) = fX6_readRound (z_fxC k) 57 (nI 2) J (z_Rm mu) := rfl
  obtain ⟨a1, a2⟩ := c_flt hP h (c := 5) (q := p)
  rw [e]
  unfold fX6_readRound
  rw [z_g_t (show z_ob 57 6 from rfl), (o57 hX).1, (o57 hX).2, z_g_t (show z_ob 1 10 from rfl), c_place h, z_b_s, z_g_t (o_roll hP (show 8 < 9 by decide)).1, c_len hP h, z_b_s, if_neg (show ¬ nI 2 < (2 : Int32) by decide), show (5 : Int32) = nI 5 from rfl, a1, z_b_s, z_g_t (Or.inl rfl)]
  exact Or.inr ⟨_, 5, p, rfl, a2, by decide, by decide, by omega, u_e40 hs⟩
theorem k_r (hP : r_P mu) (hX : mu 11 = mu 8) (ht : u_tx I n sg) {k o : Nat} (ho : o < 2) (hr : k_items I mu n sg k (o + 1)) : k_round I mu n sg (k + 1) o := by
  intro J p m F fr ab h hok hD hs
  have n60 := ht.2.1
  have o1 := (o_roll hP (show 8 < 9 by decide)).1
  have pn := u_sg_lt (v := 40) ht.1 hs (by decide)
  have e : z_fxC (k + 1) 2 57 (nI o) J (z_Rm mu) = fX6_readRound (z_fxC k) 57 (nI o) J (z_Rm mu) := rfl
  rw [e]
  unfold fX6_readRound
  obtain ⟨a1, a2⟩ := c_pass h hP
  have st : u_to sg n (false, p, m, F, o, fr, ab) (false, p + 1, m, F, o + 1, x_up fr o p, x_up ab o m) := u_s40 hs (by omega)
  rw [z_g_t (show z_ob 57 6 from rfl), (o57 hX).1, (o57 hX).2, z_g_t (show z_ob 1 10 from rfl), c_place h, z_b_s, z_g_t o1, c_len hP h, z_b_s, if_pos (show nI o < (2 : Int32) from nI_lt (b := 2) ho (by decide)), a1, z_b_s, n_s1]
  have D1 : u_D m (o + 1) F (x_up ab o m) := by
    refine ⟨by omega, fun j hj => ?_⟩
    by_cases c : j = o
    · rw [c, x_up_at]; exact ⟨Nat.le_refl m, fun q => by omega⟩
    · rw [x_up_o c]; exact hD.2 j (by omega)
  rcases hr _ (p + 1) m F (x_up fr o p) (x_up ab o m) a2 hok D1 (by omega) with ⟨J2, p2, m2, F2, fr2, ab2, g1, g2, g3, g4, g5, g6, g7, g8, g9, g10⟩ | ⟨J2, c, q, g1, g2, g3, g4, g5, g6⟩
  · have to := u_to_t st g8
    have f0 : fr2 o = p := by rw [(g9 o (by omega)).1, x_up_at]
    have b0 : ab2 o = m := by rw [(g9 o (by omega)).2, x_up_at]
    have lo : ∀ j, j < o → fr2 j = fr j ∧ ab2 j = ab j := fun j hj => by
      have := g9 j (by omega)
      rw [x_up_o (by omega), x_up_o (by omega)] at this
      exact this
    have bg : (F2 m).2.2.2 = 1 := by
      have := (g7.2 o (by omega)).2
      rw [b0] at this
      exact this g4
    rw [g1, z_b_s, if_neg (show ¬ (1 : Int32) = 0 by decide)]
    unfold fX10_passes
    dsimp only
    rw [z_g_t (show z_ob 1 10 from rfl), c_sg hP ht g5 (by omega), z_b_s]
    by_cases c41 : sg p2 = 41
    · have pn2 := u_sg_lt (v := 41) ht.1 c41 (by decide)
      have a3 := (c_pass g5 hP).2
      rw [if_pos c41, z_l_s, g5.2.1, n_s1, z_b_s, if_neg (show ¬ (1 : Int32) = 0 by decide)]
      dsimp only
      rw [c_sg hP ht a3 (by omega), z_b_s]
      have fin : ∀ (J3 : z_He) (t : Nat), t = u_et sg p2 → 1 ≤ t → u_ep sg p2 ≤ n → ¬ (sg (p2 + 1) = 120 ∧ u_isT (sg (p2 + 2)) = false) → m + (m2 - m) * t ≤ 60 → u_X I (mu 8) J3 (u_ep sg p2) (m + (m2 - m) * t) (u_rep F2 m m2 ((m2 - m) * (t - 1))) → u_G I (mu 8) n sg o p m F fr ab (some (1, J3)) (fun _ => True) := by
        intro J3 t et t1 pe nx le x3
        have E := u_sE (n := n) (m := m2) (F := F2) (d := o + 1) (fr := fr2) (ab := ab2) c41 (by omega) nx
        rw [show o + 1 - 1 = o by omega, b0, ← et] at E
        have E := E (by omega)
        have mt : m2 + (m2 - m) * (t - 1) = m + (m2 - m) * t := by
          obtain ⟨t', rfl⟩ : ∃ t', t = t' + 1 := ⟨t - 1, by omega⟩
          rw [show t' + 1 - 1 = t' by omega, Nat.mul_add, Nat.mul_one]
          omega
        have ok3 := u_ok_rep g4 g6 bg ((m2 - m) * (t - 1)) (by omega)
        rw [mt] at ok3
        refine Or.inl ⟨J3, _, _, _, fr2, ab2, rfl, ?_, pe, by omega, x3, ok3, ⟨hD.1, fun j hj => ?_⟩, u_to_t to E, lo, trivial⟩
        · unfold u_ep
          split <;> omega
        · rw [(lo j hj).2]
          have j1 := (hD.2 j hj).1
          refine ⟨by omega, fun _ => ?_⟩
          rw [u_rep_lo (by omega), ← (lo j hj).2]
          exact (g7.2 j (by omega)).2 (by rw [(lo j hj).2]; omega)
      by_cases cx : sg (p2 + 1) = 120
      · have pn3 := u_sg_lt (v := 120) ht.1 cx (by decide)
        obtain ⟨b1, b2⟩ := c_pass a3 hP
        rw [if_pos cx, b1, z_b_s, c_sg hP ht b2 (by omega), z_b_s, z_l_s, z_b_s, c_isT, z_b_s]
        by_cases cT : u_isT (sg (p2 + 1 + 1)) = true
        · obtain ⟨x, x1, x2, ex⟩ := u_isT_ok cT
          have pn4 := u_sg_lt ht.1 ex (by omega)
          obtain ⟨d1, d2⟩ := c_pass b2 hP
          have et : sg (p2 + 1 + 1) - (48 : Int32) = nI (u_et sg p2) := by
            unfold u_et
            rw [if_pos cx]
            unfold u_tm
            rw [if_pos cT, ex, nI_clamp (by omega)]
            exact n_sub (b := 48) (by omega)
          have tb : 1 ≤ u_et sg p2 ∧ u_et sg p2 ≤ 9 := by
            unfold u_et
            rw [if_pos cx]
            exact u_tm_b _
          have m260 := g6.1
          have mulb : (m2 - m) * u_et sg p2 ≤ 540 := Nat.mul_le_mul (show m2 - m ≤ 60 by omega) tb.2
          have nx : ¬ (sg (p2 + 1) = 120 ∧ u_isT (sg (p2 + 2)) = false) := fun q => by
            have q2 := q.2
            rw [show p2 + 2 = p2 + 1 + 1 by omega, cT] at q2
            cases q2
          have epe : u_ep sg p2 = p2 + 1 + 1 + 1 := by
            unfold u_ep
            rw [if_pos cx]
          rw [if_pos cT, if_neg (show ¬ (1 : Int32) = 0 by decide), d1, z_b_s, c_len hP d2, z_b_s, et, show nI m2 - nI m = nI (m2 - m) from n_sub (by omega), n_mul, n_add]
          by_cases c60 : 60 < m + (m2 - m) * u_et sg p2
          · obtain ⟨e1, e2⟩ := c_flt hP d2 (c := 6) (q := p)
            rw [if_neg (show ¬ nI (m + (m2 - m) * u_et sg p2) ≤ (60 : Int32) from nI_ge (a := 60) c60 (by omega)), show (6 : Int32) = nI 6 from rfl, e1, z_b_s, z_g_t (Or.inl rfl)]
            have E := u_e6 (n := n) (m := m2) (F := F2) (d := o + 1) (fr := fr2) (ab := ab2) c41 (by omega) nx
            rw [show o + 1 - 1 = o by omega, b0, f0] at E
            exact Or.inr ⟨_, 6, p, rfl, e2, by decide, by decide, by omega, u_to_e to (E c60)⟩
          · obtain ⟨J3, e1, e2, e3⟩ := c_rep hP g4 tb.1 tb.2 (by omega) (fun k hk => ⟨(g6.2 k hk).2.1, (g6.2 k hk).2.2.1, (g6.2 k hk).2.2.2.1⟩) d2.2.2.2
            rw [if_pos (show nI (m + (m2 - m) * u_et sg p2) ≤ (60 : Int32) from nI_le (b := 60) (by omega) (by decide)), e1, z_b_s]
            refine fin J3 _ rfl tb.1 (by omega) nx (by omega) ?_
            rw [epe]
            exact u_X_w hP d2 e2 e3
        · obtain ⟨e1, e2⟩ := c_flt hP b2 (c := 1) (q := p2 + 1 + 1)
          rw [if_neg cT, if_pos rfl, c_place b2, z_b_s, show fX10_fails 1 (1 : Int32) = fX10_fails 1 (nI 1) from rfl, e1, z_b_s, z_g_t (Or.inl rfl)]
          exact Or.inr ⟨_, 1, p2 + 1 + 1, rfl, e2, by decide, by decide, by omega, u_to_e to (u_eX c41 (by omega) ⟨cx, by simpa using cT⟩)⟩
      · have et : u_et sg p2 = 1 := if_neg cx
        have epe : u_ep sg p2 = p2 + 1 := if_neg cx
        have m260 := g6.1
        rw [if_neg cx]
        refine fin _ 1 et.symm (by decide) (by omega) (fun q => cx q.1) (by omega) ?_
        rw [epe, show m + (m2 - m) * 1 = m2 by omega]
        exact a3
    · obtain ⟨e1, e2⟩ := c_flt hP g5 (c := 1) (q := p2)
      rw [if_neg c41, g5.2.1, show fX10_fails 1 (1 : Int32) = fX10_fails 1 (nI 1) from rfl, e1, z_b_s, z_g_t (Or.inl rfl), z_b_s, if_pos rfl]
      exact Or.inr ⟨_, 1, p2, rfl, e2, by decide, by decide, by omega, u_to_e to (u_to_e (u_sG (fun q => c41 q.1) (Or.inr (by omega))) (u_e1 g10.1 g10.2))⟩
  · rw [g1, z_b_s, if_pos rfl]
    exact Or.inr ⟨J2, c, q, rfl, g2, g3, g4, g5, u_to_e st g6⟩
theorem k_all (hP : r_P mu) (hX : mu 11 = mu 8) (ht : u_tx I n sg) : k_items I mu n sg 12 0 :=
  k_is hP hX ht (k_i hP hX ht (k_r hP hX ht (by decide) (k_is hP hX ht (k_i hP hX ht (k_r hP hX ht (by decide) (k_is hP hX ht (k_i hP hX ht (k_r2 hP hX ht 3))))))))
end UR
