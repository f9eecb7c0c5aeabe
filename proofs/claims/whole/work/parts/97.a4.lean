/-! roll: the class's sound -/
section UG
variable {I J : z_He} {mu : Nat → Nat} {n p m d : Nat} {F : u_F} {sg : Nat → Int32} {ab : Nat → Nat}
theorem o57 (hX : mu 11 = mu 8) : z_Rm mu 57 0 = 1 ∧ z_Rm mu 57 1 = mu 8 := ⟨rfl, by rw [← hX]; rfl⟩
theorem c_place (h : u_X I (mu 8) J p m F) : fX10_place 1 J = some (nI p) := by
  unfold fX10_place
  rw [z_g_t (show z_ob 1 10 from rfl), h.2.1]
theorem c_len (hP : r_P mu) (h : u_X I (mu 8) J p m F) : fX5_length (mu 8) J = some (nI m) := by
  unfold fX5_length
  rw [z_g_t (o_roll hP (show 8 < 9 by decide)).1, h.2.2.2.1]
theorem c_j109 (hP : r_P mu) (hX : mu 11 = mu 8) (ht : u_tx I n sg) (h : u_X I (mu 8) J p m F) (hm : 0 < m) (hok : u_ok m F) (hp : p ≤ n) : ∃ J', fX6_readSound_j109 57 J (z_Rm mu) = some (1, J') ∧ u_X I (mu 8) J' (u_p2 sg p) m (u_F2 sg p m F) := by
  unfold fX6_readSound_j109
  rw [(o57 hX).1, (o57 hX).2, z_g_t (show z_ob 1 10 from rfl), c_sg hP ht h (by omega), z_b_s]
  by_cases c : sg p = 44
  · obtain ⟨a1, a2⟩ := c_pass h hP
    obtain ⟨-, J', b1, b2, b3⟩ := c_mark hP hm hok a2.2.2.2
    rw [if_pos c, a1, z_b_s, z_g_t (o_roll hP (show 8 < 9 by decide)).1, b1, z_b_s]
    refine ⟨J', rfl, ?_⟩
    unfold u_p2 u_F2
    rw [if_pos c, if_pos c]
    exact u_X_w hP a2 b2 b3
  · rw [if_neg c]
    refine ⟨J, rfl, ?_⟩
    unfold u_p2 u_F2
    rw [if_neg c, if_neg c]
    exact h
theorem c_j48 {v t p0 : Nat} (hP : r_P mu) (hX : mu 11 = mu 8) (ht : u_tx I n sg) (h : u_X I (mu 8) J p m F) (hv : v ≤ 7) (t1 : 1 ≤ t) (t9 : t ≤ 9) (hok : u_ok m F) (hp : p ≤ n) : (60 < m + t → ∃ J', fX6_readSound_j48 57 (nI v) (nI p0) (nI t) J (z_Rm mu) = some (0, J') ∧ u_Fl I (mu 8) J' (u_flt 6 p0)) ∧ (¬ 60 < m + t → ∃ J', fX6_readSound_j48 57 (nI v) (nI p0) (nI t) J (z_Rm mu) = some (1, J') ∧ u_X I (mu 8) J' (u_p2 sg (u_p1 sg p)) (m + t) (u_F2 sg (u_p1 sg p) (m + t) (u_F1 sg p (m + t) (u_add F m v t)))) := by
  have m60 := hok.1
  have o1 := (o_roll hP (show 8 < 9 by decide)).1
  unfold fX6_readSound_j48
  rw [(o57 hX).1, (o57 hX).2, z_g_t o1, c_len hP h, z_b_s, n_add]
  refine ⟨fun c => ?_, fun c => ?_⟩
  · rw [if_neg (show ¬ nI (m + t) ≤ (60 : Int32) from nI_ge (a := 60) c (by omega)), z_g_t (show z_ob 1 10 from rfl)]
    obtain ⟨a1, a2⟩ := c_flt hP h (c := 6) (q := p0)
    rw [show (6 : Int32) = nI 6 from rfl, a1, z_b_s, z_g_t (Or.inl rfl)]
    exact ⟨_, rfl, a2⟩
  · rw [if_pos (show nI (m + t) ≤ (60 : Int32) from nI_le (b := 60) (by omega) (by decide))]
    obtain ⟨J1, a1, a2, a3⟩ := c_addS (v := v) hP t1 (by omega) h.2.2.2
    have h1 := u_X_w hP h a2 a3
    have ok1 := u_ok_add hok hv t1 (by omega)
    rw [a1, z_b_s, z_g_t (show z_ob 1 10 from rfl), c_sg hP ht h1 (by omega), z_b_s]
    by_cases e : sg p = 94
    · obtain ⟨b1, b2⟩ := c_pass h1 hP
      obtain ⟨⟨J2, g1, g2, g3⟩, -⟩ := c_mark hP (by omega) ok1 b2.2.2.2
      have h2 := u_X_w hP b2 g2 g3
      have lt := u_sg_lt (v := 94) ht.1 e (by decide)
      rw [if_pos e, b1, z_b_s, g1, z_b_s]
      unfold u_p1 u_F1
      rw [if_pos e, if_pos e]
      exact c_j109 hP hX ht h2 (by omega) (u_ok_mh ok1 (by omega)) (by omega)
    · rw [if_neg e]
      unfold u_p1 u_F1
      rw [if_neg e, if_neg e]
      exact c_j109 hP hX ht h1 (by omega) ok1 hp
theorem c_snd (hP : r_P mu) (hX : mu 11 = mu 8) (ht : u_tx I n sg) (h : u_X I (mu 8) J p m F) (hok : u_ok m F) (hp : p < n) (hN : u_isN (sg p) = true) : (60 < m + u_tm (sg (p + 1)) → ∃ J', fX6_readSound 57 (nI (u_val (sg p))) J (z_Rm mu) = some (0, J') ∧ u_Fl I (mu 8) J' (u_flt 6 p)) ∧ (¬ 60 < m + u_tm (sg (p + 1)) → ∃ J', fX6_readSound 57 (nI (u_val (sg p))) J (z_Rm mu) = some (1, J') ∧ u_X I (mu 8) J' (u_p2 sg (u_p1 sg (u_tp (sg (p + 1)) (p + 1)))) (m + u_tm (sg (p + 1))) (u_F2 sg (u_p1 sg (u_tp (sg (p + 1)) (p + 1))) (m + u_tm (sg (p + 1))) (u_F1 sg (u_tp (sg (p + 1)) (p + 1)) (m + u_tm (sg (p + 1))) (u_add F m (u_val (sg p)) (u_tm (sg (p + 1))))))) := by
  have hv := u_val_b hN
  obtain ⟨a1, a2⟩ := c_pass h hP
  unfold fX6_readSound
  rw [z_g_t (show z_ob 57 6 from rfl), (o57 hX).1, z_g_t (show z_ob 1 10 from rfl), c_place h, z_b_s, a1, z_b_s, c_sg hP ht a2 (by omega), z_b_s, c_isT, z_b_s]
  by_cases c : u_isT (sg (p + 1)) = true
  · obtain ⟨x, x1, x2, e⟩ := u_isT_ok c
    have lt := u_sg_lt ht.1 e (by omega)
    obtain ⟨b1, b2⟩ := c_pass a2 hP
    have et : sg (p + 1) - (48 : Int32) = nI (u_tm (sg (p + 1))) := by
      unfold u_tm
      rw [if_pos c, e, nI_clamp (by omega)]
      exact n_sub (b := 48) (by omega)
    have tb := u_tm_b (sg (p + 1))
    rw [if_pos c, if_neg (show ¬ (1 : Int32) = 0 by decide), z_b_s, et, z_l_s, b1, z_b_s, show u_tp (sg (p + 1)) (p + 1) = p + 1 + 1 from if_pos c]
    exact c_j48 hP hX ht b2 hv tb.1 tb.2 hok (by omega)
  · have t1 : u_tm (sg (p + 1)) = 1 := if_neg c
    rw [if_neg c, if_pos rfl, t1, show u_tp (sg (p + 1)) (p + 1) = p + 1 from if_neg c]
    exact c_j48 (t := 1) hP hX ht a2 hv (by decide) (by decide) hok (by omega)
end UG
