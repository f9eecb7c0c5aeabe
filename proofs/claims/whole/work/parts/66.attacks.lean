/-! attacks -/
def n_cnt (p : Nat → Bool) : Nat → Nat
  | 0 => 0
  | k + 1 => if p k then n_cnt p k + 1 else n_cnt p k
theorem n_cnt_congr {p q : Nat → Bool} : ∀ {k : Nat}, (∀ j, j < k → p j = q j) → n_cnt p k = n_cnt q k
  | 0, _ => rfl
  | k + 1, h => by
    unfold n_cnt
    rw [h k (by omega), n_cnt_congr (fun j hj => h j (by omega))]
/-- does a sound begin at beat k of roll i -/
def b_snd (I : Nat → Nat → Int32) (n i k : Nat) : Bool := decide (k < n) && (I 109 (60 * i + k) == 1) && (I 106 (60 * i + k) != 0)
theorem c_bsound {I : Nat → Nat → Int32} {mu : Nat → Nat} {i k n : Nat} (hP : r_P mu) (hi : i < 8) (h : r_Roll I i (mu i) n) (hk : k < 2 ^ 31) : fX5_beginsSound (mu i) (nI k) I (z_Rm mu) = some (if b_snd I n i k then 1 else 0) := by
  have hr := o_roll hP (show i < 9 by omega)
  by_cases hkn : k < n
  · obtain ⟨h1, h2, h3, h4, h5⟩ := h
    obtain ⟨⟨v, hv, v1, v2⟩, ⟨a, b, g, ha, hb, hg, q1, q2, q3, q4, -⟩, -⟩ := h5 k hkn
    have m := (c_marks hP (show i < 9 by omega) h2 h1 hkn ha hb hg q4).2.2
    unfold fX5_beginsSound
    rw [z_g_t hr.1, m, z_b_s, hr.2.1, z_g_t (n_ok hr.2.2.2.2.1 (by omega) (by decide)), nI_clamp hk, v1]
    unfold b_snd
    rw [q3, v2]
    have : g = 0 ∨ g = 1 := by omega
    rcases this with rfl | rfl
    · rw [if_pos (show nI 0 = 0 from rfl), show (nI 0 == 1) = false from rfl]
      simp
    · rw [if_neg (show ¬ nI 1 = 0 by decide), show (nI 1 == 1) = true from rfl]
      by_cases c : nI v = 0
      · simp [c]
      · simp [c, hkn]
  · unfold fX5_beginsSound fX5_begins
    rw [z_g_t hr.1, z_g_t hr.1, c_has hr.1 h.2.1 h.1 hk, if_neg hkn, z_b_s, if_pos rfl, z_b_s, if_pos rfl]
    unfold b_snd
    simp [hkn]
theorem call_attacks : Call_attacks := by
  intro x I mu h
  obtain ⟨len, h⟩ := h
  have hR : Rel I mu := ⟨len, h⟩
  by_cases c1 : n_in x 0 59 = 0
  · exact ⟨-1, by simp (disch := omega) only [z_ob, z_ok, z_ar, z_b_s, z_l_s, z_g_tr, z_x_il, z_x_ir, z_lay, z_shs, z_lens, nI_clamp, n_lt0, n_l0, n_l8, n_l16, n_l24, n_l32, n_l40, n_l48, n_l56, n_l64, n_l72, n_s1, fX12_within_eq, fX13_in_eq, fX12_isSinger_eq, fX12_areTicks_eq, ite_true, ite_false, if_true, if_false, not_false_eq_true, not_true_eq_false, or_self, false_or, or_false, true_or, or_true, and_true, true_and, and_false, false_and, eq_self, fX12_attacks, c1], by simp (disch := omega) only [z_ob, z_ok, z_ar, z_b_s, z_l_s, z_g_tr, z_x_il, z_x_ir, z_lay, z_shs, z_lens, nI_clamp, n_lt0, n_l0, n_l8, n_l16, n_l24, n_l32, n_l40, n_l48, n_l56, n_l64, n_l72, n_s1, fX12_within_eq, fX13_in_eq, fX12_isSinger_eq, fX12_areTicks_eq, ite_true, ite_false, if_true, if_false, not_false_eq_true, not_true_eq_false, or_self, false_or, or_false, true_or, or_true, and_true, true_and, and_false, false_and, eq_self, fX13_attacks, c1], hR⟩
  have hP := h.2.2.2.2.2.1
  have h8 := h.2.2.2.2.2.2.1
  obtain ⟨k, hk, rfl⟩ := n_in_nI (b := 59) (by decide) c1
  let P : Nat → Bool := fun j => (I 103 j == 1) && b_snd I (len j) j k
  refine ⟨nI (n_cnt P 8), ?_, ?_, hR⟩
  · unfold fX12_attacks
    rw [z_g_t o_0, fX12_within_eq, z_b_s, if_neg c1]
    refine (z_lp_b 8 (nI (n_cnt P 8)) (fun j => (nI (n_cnt P j), nI j)) rfl ?_ ?_ (by decide)).trans rfl
    · intro j hj
      have hr := o_roll hP (show j < 9 by omega)
      unfold fX12_attacks_b16
      dsimp only
      rw [if_neg (n_8 hj), r_05, z_g_t o_62, c_told c62 hj, z_b_s, r_01, z_g_t o_3, r_30, z_g_t (k_4 hj), nI_clamp (by omega), r_4 hj, z_g_t hr.1, c_bsound hP hj (h8 j hj) (by omega), z_b_s]
      simp only [z_l_s, n_s1]
      show _ = some (Sum.inl (nI (if ((I 103 j == 1) && b_snd I (len j) j k) = true then _ else _), _))
      have e := h.1.1 0 j (by decide) hj
      rw [e, show 8 * 0 + j = j by omega]
      rcases (h.2.1.1 j hj).1 with h0 | h0
      · rw [h0]
        rw [if_pos (show n_b 0 = 0 from rfl), show ((0 : Int32) == 1) = false from rfl]
        simp
      · rw [h0]
        rw [if_neg (show ¬ n_b 1 = 0 by decide), show ((1 : Int32) == 1) = true from rfl, Bool.true_and]
        by_cases c : b_snd I (len j) j k = true
        · rw [if_pos c, if_neg (by decide), if_pos c]
        · rw [if_neg c, if_pos rfl, if_neg c]
    · unfold fX12_attacks_b16
      dsimp only
      rw [if_pos n_88]
  · unfold fX13_attacks
    rw [z_g_t m_ob, fX13_in_eq, z_b_s, if_neg c1]
    refine (z_lp_b 8 (nI (n_cnt P 8)) (fun j => (nI (n_cnt P j), nI j)) rfl ?_ ?_ (by decide)).trans rfl
    · intro j hj
      have r8 := h8 j hj
      unfold fX13_attacks_b16
      dsimp only
      rw [if_neg (n_8 hj), m_told hj, z_b_s, r_m9, z_g_t (k_110 hj), nI_clamp (by omega), r8.2.2.1, show z_Rm mu 102 8 = 109 from rfl, show z_Rm mu 102 5 = 106 from rfl, n_l60, z_g_t (k_480 rfl hj (by omega)), z_g_t (k_480 rfl hj (by omega)), nI_clamp (by omega)]
      simp only [z_l_s, n_s1]
      show _ = some (Sum.inl (nI (if ((I 103 j == 1) && b_snd I (len j) j k) = true then _ else _), _))
      rcases (h.2.1.1 j hj).1 with h0 | h0
      · rw [h0]
        rw [if_neg (show ¬ (0 : Int32) = 1 by decide), if_pos rfl, show ((0 : Int32) == 1) = false from rfl]
        simp
      · rw [h0]
        rw [if_pos rfl, if_neg (show ¬ (1 : Int32) = 0 by decide), show ((1 : Int32) == 1) = true from rfl, Bool.true_and]
        by_cases c : k < len j
        · rw [if_neg (nI_ge c (by have := r8.1; omega))]
          obtain ⟨⟨v, hv, v1, v2⟩, ⟨a, b, g, ha, hb, hg, q1, q2, q3, q4, -⟩, -⟩ := r8.2.2.2.2 k c
          unfold b_snd
          rw [q3, v2]
          have : g = 0 ∨ g = 1 := by omega
          rcases this with rfl | rfl
          · rw [if_neg (show ¬ nI 0 = 1 by decide), show (nI 0 == 1) = false from rfl]
            simp
          · rw [if_pos (show nI 1 = 1 from rfl), show (nI 1 == 1) = true from rfl]
            by_cases cv : v = 0
            · subst cv
              rw [if_pos (show nI 0 ≤ 0 by decide), show (nI 0 != 0) = false from rfl]
              simp
            · have c2 : ¬ nI v ≤ 0 := nI_ge (a := 0) (b := v) (by omega) (by omega)
              have c3 : ¬ nI v = 0 := n_ne (a := v) (b := 0) (by omega) (by decide) cv
              rw [if_neg c2]
              simp [c, c3]
        · rw [if_pos (nI_le (by omega) (by omega))]
          unfold b_snd
          simp [c]
    · unfold fX13_attacks_b16
      dsimp only
      rw [if_pos n_88]
