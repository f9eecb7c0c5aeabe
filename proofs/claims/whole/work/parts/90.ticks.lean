/-! ticks, tried, spread, together -/
theorem k_clean {mu : Nat → Nat} (hP : r_P mu) {b k st : Nat} (hst : st = 62 ∨ st = 72) (h : k_loc mu b k) (hb : ¬ (st = 62 ∧ ((64 ≤ b ∧ b < 72) ∨ b = 62))) (hc : b ≠ 103) : ¬ m_dirt b k ∧ ¬ c_dirt (mu 9) st b k := by
  have hA := (p_law hP).1
  unfold m_dirt c_dirt
  unfold k_loc at h
  rcases h with h | h | h | h | h | h | h | h | h | h | h | h | h | ⟨j, hj, h1, h2⟩ | h | h | ⟨q, hq, h1, h2⟩
  all_goals first | omega | (have := p_le hP (show j < 9 by omega); omega)
section RT
variable {E I1 J : z_He} {mu len : Nat → Nat} {S : t_S}
theorem rel_ticks (hR : RelL E mu len) (hc : c_In (mu 9) 62 E I1 S) (hm : m_In I1 J S) (hok : t_ok E len S) : Rel J mu := by
  have hP := hR.2.2.2.2.2.1
  have hA := (p_law hP).1
  have h1 : RelL (fun b k => if (64 ≤ b ∧ b < 72) ∨ b = 62 ∨ b = 103 then J b k else E b k) mu len := by
    refine rel_stage S.1 hR (fun b h1 h2 h3 => ?_) (fun i f hi hf => ⟨?_, ?_⟩) ⟨?_, ?_⟩ hok.1 ?_ ?_
    · funext k
      rw [if_neg (by omega)]
    · rw [if_pos (by omega), hm.1 (64 + i) f (by unfold m_dirt; omega)]
      exact hc.2.1 i f hi hf
    · rw [if_pos (by omega)]
      exact hm.2.1 i f hi hf
    · rw [if_pos (by omega), if_pos (by omega), hm.1 62 1 (by unfold m_dirt; omega), hc.2.2.1, hm.2.2.1]
    · rw [if_pos (by omega), if_pos (by omega), hm.1 62 2 (by unfold m_dirt; omega), hc.2.2.2.1, hm.2.2.2.1]
    · rw [if_pos (by omega), hm.2.2.1]; exact hok.2.2.1
    · rw [if_pos (by omega), hm.2.2.2.1]; exact hok.2.2.2
  refine rel_frame ⟨len, h1⟩ (fun b k hk => ?_)
  by_cases c : (64 ≤ b ∧ b < 72) ∨ b = 62 ∨ b = 103
  · rw [if_pos c]
  · rw [if_neg c]
    obtain ⟨k1, k2⟩ := k_clean hP (Or.inl rfl) hk (by omega) (by omega)
    rw [hm.1 b k k1, hc.1 b k k2]
/-- the model's row laid aside -/
def m_as (I : z_He) : z_He := fun c k => if c = 104 ∧ k < 82 then I 103 k else I c k
def m_ba (I : z_He) : z_He := fun c k => if c = 103 ∧ k < 82 then I 104 k else I c k
theorem m_as_eq {I : z_He} {mu : Nat → Nat} : fX13_copies (z_Rm mu 102 0) (z_Rm mu 102 1) I = some (m_as I) := m_cp ⟨rfl, rfl⟩ ⟨rfl, rfl⟩ (show (103 : Nat) ≠ 104 by decide)
theorem m_ba_eq {I : z_He} {mu : Nat → Nat} : fX13_copies (z_Rm mu 102 1) (z_Rm mu 102 0) I = some (m_ba I) := m_cp ⟨rfl, rfl⟩ ⟨rfl, rfl⟩ (show (104 : Nat) ≠ 103 by decide)
theorem m_as_o {I : z_He} {b : Nat} (h : b ≠ 104) : m_as I b = I b := by
  funext k
  unfold m_as
  rw [if_neg (by omega)]
theorem m_ba_o {I : z_He} {b : Nat} (h : b ≠ 103) : m_ba I b = I b := by
  funext k
  unfold m_ba
  rw [if_neg (by omega)]
theorem rel_try (hR : RelL E mu len) {S' : t_S} (hc : c_In (mu 9) 72 E I1 S) (hm : m_In (m_as I1) J S') : Rel (m_ba J) mu := by
  have hP := hR.2.2.2.2.2.1
  have hA := (p_law hP).1
  refine rel_frame ⟨len, hR⟩ (fun b k hk => ?_)
  by_cases c : b = 103
  · subst c
    unfold m_ba
    by_cases c2 : k < 82
    · rw [if_pos ⟨rfl, c2⟩, hm.1 104 k (by unfold m_dirt; omega)]
      unfold m_as
      rw [if_pos ⟨rfl, c2⟩, hc.1 103 k (by unfold c_dirt; omega)]
    · rw [if_neg (by omega), hm.1 103 k (by unfold m_dirt; omega), m_as_o (by decide), hc.1 103 k (by unfold c_dirt; omega)]
  · obtain ⟨k1, k2⟩ := k_clean hP (Or.inr rfl) hk (by omega) c
    have : b ≠ 104 := by
      rintro rfl
      exact k_no hP (by omega) hk
    rw [m_ba_o c, hm.1 b k k1, m_as_o this, hc.1 b k k2]
theorem m_B_of {st : Nat} (hs : c_St st) (hR : RelL E mu len) (hc : c_In (mu 9) st E I1 S) : m_B (mu 9) E I1 ∧ m_B (mu 9) E (m_as I1) := by
  have hst : st = 62 ∨ st = 72 ∨ st = 82 := hs
  have hA := (p_law hR.2.2.2.2.2.1).1
  have h1 : ∀ b, 102 ≤ b → I1 b = E b := fun b hb => funext fun k => hc.1 b k (by unfold c_dirt; omega)
  have h2 := c_In_law hs hA hc
  refine ⟨⟨fun b hb _ => h1 b hb, h2⟩, fun b hb hb2 => by rw [m_as_o hb2, h1 b hb], ?_⟩
  obtain ⟨s1, s2, s3, s4, s5⟩ := h2
  exact ⟨fun b h1 h2 => by rw [m_as_o (by omega), s1 b h1 h2], by rw [m_as_o (by omega), s2], by rw [m_as_o (by omega), s3], by rw [m_as_o (by omega), s4], fun b h1 h2 => by rw [m_as_o (by omega), s5 b h1 h2]⟩
theorem c_base (hR : RelL E mu len) : c_In (mu 9) 62 E E (t_S0 E (fun k => E 59 (k + 1))) := ⟨fun _ _ _ => rfl, fun i f hi hf => hR.1.1 f i hf hi, hR.1.2.1, hR.1.2.2, rfl, rfl, rfl⟩
def c_fg (I : z_He) : z_He := z_u (z_u (z_u I 59 3 0) 59 4 0) 59 5 0
theorem c_fg_eq {I : z_He} : fX2_forget 59 I = some (c_fg I) := by
  unfold fX2_forget c_fg
  rw [z_g_t (show z_ob 59 2 from rfl)]
  simp only [z_l_s]
theorem c_fg_In {st : Nat} {c : Nat → Int32} (hs : c_St st) (hR : RelL E mu len) (h : c_In (mu 9) st E I1 (t_S0 E c)) : c_In (mu 9) st E (c_fg I1) (t_S0 E (fun _ => 0)) := by
  have hA := (p_law hR.2.2.2.2.2.1).1
  have h3 := c_In_c hs hA (k := 4) (v := 0) (c_In_c hs hA (k := 3) (v := 0) (c_In_c hs hA (k := 2) (v := 0) h (Or.inl rfl)) (Or.inr (Or.inl rfl))) (Or.inr (Or.inr rfl))
  obtain ⟨q1, q2, q3, q4, q5, q6, q7⟩ := h3
  exact ⟨q1, q2, q3, q4, q5, q6, q7⟩
theorem c_trial (hR : RelL E mu len) (hJ : ∀ b k, ¬ (b = 59 ∧ (k = 3 ∨ k = 4 ∨ k = 5)) → J b k = E b k) : ∃ J', fX9_copyFrom 72 62 J (z_Rm mu) = some J' ∧ c_In (mu 9) 72 E J' (t_S0 E (fun k => J 59 (k + 1))) := by
  have hA := (p_law hR.2.2.2.2.2.1).1
  have row : ∀ i f, i < 8 → f < 10 → J (62 + 2 + i) f = E 103 (8 * f + i) := fun i f hi hf => by rw [hJ _ _ (by omega)]; exact hR.1.1 f i hf hi
  refine ⟨_, c_cps (Or.inr (Or.inl rfl)) c62 (by decide) (fun i hi => ⟨?_, ?_⟩), fun b k hd => ?_, fun i f hi hf => ?_, ?_, ?_, ?_, ?_, ?_⟩
  · rw [row i 0 hi (by decide)]
    exact (v_at hR.2.1 hi).1
  · rw [row i 9 hi (by decide)]
    exact (v_at hR.2.1 hi).2.2.2.2.2.2.2.2.1
  · dsimp only
    unfold c_dirt at hd
    rw [if_neg (by omega), if_neg (by omega), hJ b k (by omega)]
  · dsimp only
    rw [if_neg (by omega), if_pos (by omega), show 62 + (72 + 2 + i - 72) = 62 + 2 + i by omega, row i f hi hf]
    rfl
  · dsimp only
    rw [if_pos (by omega), hJ 62 1 (by omega), hR.1.2.1]
    rfl
  · dsimp only
    rw [if_pos (by omega), hJ 62 2 (by omega), hR.1.2.2]
    rfl
  · rfl
  · rfl
  · rfl
end RT
theorem c72 : c_St 72 := Or.inr (Or.inl rfl)
theorem r_06 (mu : Nat → Nat) : z_Rm mu 0 6 = 72 := rfl
theorem n_lt99 {x : Int32} (h : x < 99999) : ¬ (99999 : Int32) ≤ x := fun q => by rw [Int32.lt_iff_toInt_lt] at h; rw [Int32.le_iff_toInt_le] at q; omega
theorem n_ge99 {x : Int32} (h : ¬ x < 99999) : (99999 : Int32) ≤ x := by rw [Int32.lt_iff_toInt_lt] at h; rw [Int32.le_iff_toInt_le]; omega
theorem call_ticks : Call_ticks := by
  intro x I mu h
  by_cases c : n_in x 1 240 = 0
  · exact ⟨-1, I, I, by simp (disch := omega) only [z_ob, z_ok, z_ar, z_b_s, z_l_s, z_g_tr, z_x_il, z_x_ir, z_lay, z_shs, z_lens, nI_clamp, n_lt0, n_l0, n_l8, n_l16, n_l24, n_l32, n_l40, n_l48, n_l56, n_l64, n_l72, n_s1, fX12_within_eq, fX13_in_eq, fX12_isSinger_eq, fX12_areTicks_eq, ite_true, ite_false, if_true, if_false, not_false_eq_true, not_true_eq_false, or_self, false_or, or_false, true_or, or_true, and_true, true_and, and_false, false_and, eq_self, fX12_ticks, c], by simp (disch := omega) only [z_ob, z_ok, z_ar, z_b_s, z_l_s, z_g_tr, z_x_il, z_x_ir, z_lay, z_shs, z_lens, nI_clamp, n_lt0, n_l0, n_l8, n_l16, n_l24, n_l32, n_l40, n_l48, n_l56, n_l64, n_l72, n_s1, fX12_within_eq, fX13_in_eq, fX12_isSinger_eq, fX12_areTicks_eq, ite_true, ite_false, if_true, if_false, not_false_eq_true, not_true_eq_false, or_self, false_or, or_false, true_or, or_true, and_true, true_and, and_false, false_and, eq_self, fX13_ticks, c], h⟩
  obtain ⟨len, h⟩ := h
  obtain ⟨n, hn1, hn2, rfl⟩ := n_in_range (a := 1) (b := 240) (by decide) c (by decide)
  obtain ⟨T, X, W, hE⟩ := t_env h
  have S0ok := t_S0_ok (c := fun _ => 0) h
  have g0 := c_fg_In c62 h (c_base h)
  obtain ⟨I1, e1, e2⟩ := lp_inv (body := fX12_ticks_b18 0 (nI n) (z_Rm mu)) (fun k s => s.1 = nI k ∧ c_In (mu 9) 62 I s.2 (t_is I len T X W (t_S0 I (fun _ => 0)) k)) (fun x => c_In (mu 9) 62 I x (t_is I len T X W (t_S0 I (fun _ => 0)) n)) (n := n) (fun k s hk hp => by
    obtain ⟨p, J⟩ := s
    obtain ⟨p1, p2⟩ := hp
    dsimp only at p1 p2
    subst p1
    obtain ⟨K, f1, f2⟩ := c_it c62 hE (t_is_ok hE S0ok k) p2
    refine ⟨(nI (k + 1), K), ?_, rfl, f2⟩
    unfold fX12_ticks_b18
    dsimp only
    rw [if_neg (nI_ge hk (by omega)), r_40, r_05, z_g_t (show z_ob 59 2 from rfl), f1, z_b_s, z_l_s, n_s1]) (fun s hp => by
    obtain ⟨p, J⟩ := s
    obtain ⟨p1, p2⟩ := hp
    dsimp only at p1 p2
    subst p1
    refine ⟨J, ?_, p2⟩
    unfold fX12_ticks_b18
    dsimp only
    rw [if_pos (nI_le (Nat.le_refl n) (by omega))]) 300 ((0 : Int32), c_fg I) (by omega) ⟨rfl, g0⟩
  have hok := t_is_ok hE S0ok n
  obtain ⟨J, f1, f2, -⟩ := m_go (m_B_of c62 h e2).1 hE hn2
  refine ⟨(t_is I len T X W (t_S0 I (fun _ => 0)) n).2 2, I1, J, ?_, ?_, rel_ticks h e2 f2 hok⟩
  · unfold fX12_ticks
    rw [z_g_t o_0, fX12_areTicks_eq, z_b_s, if_neg c, r_40, z_g_t (show z_ob 59 2 from rfl), c_fg_eq, z_b_s, e1, z_b_s, e2.2.2.2.2.1]
  · unfold fX13_ticks
    rw [z_g_t m_ob, fX13_in_eq, z_b_s, if_neg c, f1, z_b_s, f2.2.2.2.2.1]
theorem t_wait {E I J B : z_He} {mu len : Nat → Nat} {S : t_S} (hR : RelL E mu len) (hc : c_In (mu 9) 72 E I S) (hm : m_In B J S) (hok : t_ok E len S) : ∃ p : Nat → Bool, fX9_waitingBits 72 I (z_Rm mu) = some (nI (n_set p 8)) ∧ fX13_waitingSet 102 J (z_Rm mu) = some (nI (n_set p 8)) ∧ ∀ j, j < 8 → (p j = true ↔ S.1 j 0 = 1 ∧ S.1 j 9 = 1) := by
  refine ⟨fun i => S.1 i 0 != 0 && S.1 i 9 != 0, ?_, ?_, fun j hj => ?_⟩
  · rw [c_waitBits c72]
    congr 2
    apply n_set_congr
    intro j hj
    rw [hc.2.1 j 0 hj (by decide), hc.2.1 j 9 hj (by decide)]
  · rw [m_waitSet]
    congr 2
    apply n_set_congr
    intro j hj
    rw [m_rd hm hj (f := 0) (by decide) (by omega), m_rd hm hj (f := 9) (by decide) (by omega)]
    rcases (hok.1 j hj).1 with h0 | h0 <;> rcases (hok.1 j hj).2.2.2.2.2.2.2.2.1 with h9 | h9 <;> rw [h0, h9] <;> rfl
  · dsimp only
    rcases (hok.1 j hj).1 with h0 | h0 <;> rcases (hok.1 j hj).2.2.2.2.2.2.2.2.1 with h9 | h9 <;> rw [h0, h9] <;> decide
theorem call_tried : Call_tried := by
  intro x y I mu h
  by_cases c : n_in x 1 240 = 0
  · obtain ⟨v, hv⟩ : ∃ v, fX9_isTold 62 (z_rem y 10) I (z_Rm mu) = some v := by
      rcases t_both h (z_rem y 10) with ⟨e, -⟩ | ⟨i, hi, ei, -, e, -⟩
      · exact ⟨_, e⟩
      · rw [ei]; exact ⟨_, e⟩
    refine ⟨-1, I, I, ?_, by simp (disch := omega) only [z_ob, z_ok, z_ar, z_b_s, z_l_s, z_g_tr, z_x_il, z_x_ir, z_lay, z_shs, z_lens, nI_clamp, n_lt0, n_l0, n_l8, n_l16, n_l24, n_l32, n_l40, n_l48, n_l56, n_l64, n_l72, n_s1, fX12_within_eq, fX13_in_eq, fX12_isSinger_eq, fX12_areTicks_eq, ite_true, ite_false, if_true, if_false, not_false_eq_true, not_true_eq_false, or_self, false_or, or_false, true_or, or_true, and_true, true_and, and_false, false_and, eq_self, fX13_tried, c], h⟩
    unfold fX12_tried fX12_tried_j36 fX12_tried_j37
    rw [z_g_t o_0, fX12_within_eq, z_b_s, fX12_within_eq, z_b_s, r_05, z_g_t o_62, hv, z_b_s, fX12_areTicks_eq, z_b_s, z_b_s, if_pos c, if_pos c]
    split
    · rfl
    · split <;> rfl
  have hR := h
  obtain ⟨len, h⟩ := h
  obtain ⟨n, hn1, hn2, rfl⟩ := n_in_range (a := 1) (b := 240) (by decide) c (by decide)
  obtain ⟨T, X, W, hE⟩ := t_env h
  have S0ok := t_S0_ok (c := fun _ => 0) h
  have fgo : ∀ b k, ¬ (b = 59 ∧ (k = 3 ∨ k = 4 ∨ k = 5)) → c_fg I b k = I b k := fun b k hd => by
    unfold c_fg
    rw [z_u_eq, z_u_eq, z_u_eq, if_neg (by omega), if_neg (by omega), if_neg (by omega)]
  obtain ⟨J0, g1, g2⟩ := c_trial h fgo
  have g0 : c_In (mu 9) 72 I J0 (t_S0 I (fun _ => 0)) := by
    obtain ⟨q1, q2, q3, q4, q5, q6, q7⟩ := g2
    exact ⟨q1, q2, q3, q4, q5, q6, q7⟩
  obtain ⟨I1, e1, e2⟩ : ∃ I1, (∀ z2 z3, z_lp (fX12_tried_b78 0 (nI n) z2 z3 (z_Rm mu)) 300 ((0 : Int32), J0) = some I1) ∧ c_In (mu 9) 72 I I1 (t_is I len T X W (t_S0 I (fun _ => 0)) n) := by
    obtain ⟨I1, e1, e2⟩ := lp_inv (body := fX12_tried_b78 0 (nI n) 0 0 (z_Rm mu)) (fun k s => s.1 = nI k ∧ c_In (mu 9) 72 I s.2 (t_is I len T X W (t_S0 I (fun _ => 0)) k)) (fun x => c_In (mu 9) 72 I x (t_is I len T X W (t_S0 I (fun _ => 0)) n)) (n := n) (fun k s hk hp => by
      obtain ⟨p, J⟩ := s
      obtain ⟨p1, p2⟩ := hp
      dsimp only at p1 p2
      subst p1
      obtain ⟨K, f1, f2⟩ := c_it c72 hE (t_is_ok hE S0ok k) p2
      refine ⟨(nI (k + 1), K), ?_, rfl, f2⟩
      unfold fX12_tried_b78
      dsimp only
      rw [if_neg (nI_ge hk (by omega)), r_40, r_06, z_g_t (show z_ob 59 2 from rfl), f1, z_b_s, z_l_s, n_s1]) (fun s hp => by
      obtain ⟨p, J⟩ := s
      obtain ⟨p1, p2⟩ := hp
      dsimp only at p1 p2
      subst p1
      refine ⟨J, ?_, p2⟩
      unfold fX12_tried_b78
      dsimp only
      rw [if_pos (nI_le (Nat.le_refl n) (by omega))]) 300 ((0 : Int32), J0) (by omega) ⟨rfl, g0⟩
    exact ⟨I1, fun _ _ => e1, e2⟩
  have hok := t_is_ok hE S0ok n
  obtain ⟨J, f1, f2, -⟩ := m_go (m_B_of c72 h e2).2 hE hn2
  have fin := rel_try h e2 f2
  have j57 : ∀ y3 v, (if y3 = 0 then fX12_triedByOne 0 (z_rem y 10) (y / 10) I1 (z_Rm mu) else fX12_triedByAll 0 y I1 (z_Rm mu)) = some v → fX12_tried_j57 0 (nI n) y y3 I (z_Rm mu) = some (v, I1) := by
    intro y3 v hv
    unfold fX12_tried_j57
    rw [r_40, z_g_t (show z_ob 59 2 from rfl), c_fg_eq, z_b_s, r_06, r_05, z_g_t (show z_ob 72 9 from rfl), g1, z_b_s, e1, z_b_s]
    by_cases c3 : y3 = 0
    · rw [if_pos c3] at hv ⊢
      rw [hv, z_b_s]
    · rw [if_neg c3] at hv ⊢
      rw [hv, z_b_s]
  have j162 : ∀ v, fX13_tried_j162 102 v J (z_Rm mu) = some (v, m_ba J) := fun v => by
    unfold fX13_tried_j162
    rw [m_ba_eq, z_b_s]
  generalize hS : t_is I len T X W (t_S0 I (fun _ => 0)) n = S at *
  obtain ⟨p, w1, w2, -⟩ := t_wait h e2 f2 hok
  obtain ⟨k, hk, b1, b2⟩ := n_bits (n_set p 8) (n_set8 p)
  by_cases c3 : n_in y 0 3 = 0
  · by_cases c39 : n_in y 10 39 = 0
    · have c37 : n_in y 10 37 = 0 := by
        by_cases q : n_in y 10 37 = 0
        · exact q
        · obtain ⟨w, hw1, hw2, rfl⟩ := n_in_range (a := 10) (b := 37) (by decide) q (by decide)
          exact absurd c39 (by rw [show n_in (nI w) 10 39 = 1 from n_in_1 (nI_nlt (b := 10) hw1 (by omega)) (nI_nlt (a := 39) (by omega) (by decide))]; decide)
      refine ⟨-1, I, I, ?_, ?_, hR⟩
      · unfold fX12_tried fX12_tried_j36 fX12_tried_j37
        rw [z_g_t o_0, fX12_within_eq, z_b_s, fX12_within_eq, z_b_s, if_pos c39, fX12_areTicks_eq, z_b_s, if_neg c, if_pos c3, if_pos rfl]
      · unfold fX13_tried
        rw [z_g_t m_ob, fX13_in_eq, z_b_s, if_neg c, fX13_in_eq, z_b_s, if_pos c3, fX13_in_eq, z_b_s, if_pos c37]
    · obtain ⟨w, hw1, hw2, rfl⟩ := n_in_range (a := 10) (b := 39) (by decide) c39 (by decide)
      have er : z_rem (nI w) 10 = nI (w % 10) := n_rem (d := 10) (by omega) (by decide) (by decide)
      have ed : nI w / 10 = nI (w / 10) := pk_div (d := 10) (by omega) (by decide) (by decide)
      rcases t_both hR (nI (w % 10)) with ⟨k1, k2⟩ | ⟨i, hi, ei, h0, k1, k2⟩
      · refine ⟨-1, I, I, ?_, ?_, hR⟩
        · unfold fX12_tried fX12_tried_j36 fX12_tried_j37
          rw [z_g_t o_0, fX12_within_eq, z_b_s, fX12_within_eq, z_b_s, if_neg c39, r_05, z_g_t o_62, er, k1, z_b_s, if_pos rfl, fX12_areTicks_eq, z_b_s, if_neg c, if_pos c3, if_pos rfl]
        · unfold fX13_tried
          rw [z_g_t m_ob, fX13_in_eq, z_b_s, if_neg c, fX13_in_eq, z_b_s, if_pos c3, fX13_in_eq, z_b_s, er, k2, z_b_s, if_pos rfl]
          split <;> rfl
      · have ei' : w % 10 = i := (n_eq (by omega) (by omega)).mp ei
        rw [ei] at er
        have c37 : n_in (nI w) 10 37 = 1 := n_in_1 (nI_nlt (b := 10) hw1 (by omega)) (nI_nlt (a := 37) (by omega) (by decide))
        have hw : w / 10 = 1 ∨ w / 10 = 2 ∨ w / 10 = 3 := by omega
        have k2' : fX13_isTold 102 (nI i) I1 (z_Rm mu) = some 1 := by
          have hA := (p_law h.2.2.2.2.2.1).1
          rw [m_told hi, e2.1 103 i (by unfold c_dirt; omega), h0]
          rfl
        have cl : fX12_triedByOne 0 (nI i) (nI (w / 10)) I1 (z_Rm mu) = some (S.1 i (w / 10 + 4)) := by
          unfold fX12_triedByOne
          rw [z_g_t o_0, r_06, z_g_t (show z_ob 72 9 from rfl), show z_Rm mu 72 0 = 73 from rfl, z_g_t (n_ok (n := 8) (show z_len 4 73 = 8 from rfl) hi (by decide)), nI_clamp (show i < 2 ^ 31 by omega), (z_ls72 mu hi).1, z_g_t (z_ls72 mu hi).2]
          have q5 := e2.2.1 i 5 hi (by decide)
          have q6 := e2.2.1 i 6 hi (by decide)
          have q7 := e2.2.1 i 7 hi (by decide)
          rw [show 72 + 2 + i = 74 + i by omega] at q5 q6 q7
          rw [q5, q6, q7]
          rcases hw with q | q | q <;> rw [q] <;> rfl
        refine ⟨S.1 i (w / 10 + 4), I1, m_ba J, ?_, ?_, fin⟩
        · unfold fX12_tried fX12_tried_j37
          rw [z_g_t o_0, fX12_within_eq, z_b_s, fX12_within_eq, z_b_s, if_neg c39, r_05, z_g_t o_62, er, k1, z_b_s, if_neg n_10.mp, fX12_areTicks_eq, z_b_s, if_neg c, if_pos c3, if_neg n_10.mp]
          exact j57 _ _ (by rw [if_pos c3, er, ed, cl])
        · have y0 : ∀ m, m < 10 → ¬ nI w = nI m := fun m hm => n_ne (by omega) (by omega) (by omega)
          unfold fX13_tried fX13_tried_j44 fX13_tried_j155
          rw [z_g_t m_ob, fX13_in_eq, z_b_s, if_neg c, fX13_in_eq, z_b_s, if_pos c3, fX13_in_eq, z_b_s, c37, if_neg n_10.mp, er, k2', z_b_s, if_neg n_10.mp, m_as_eq, z_b_s, f1, z_b_s, if_neg (show ¬ nI w = 0 from y0 0 (by decide)), if_neg (show ¬ nI w = 1 from y0 1 (by decide)), if_neg (show ¬ nI w = 2 from y0 2 (by decide)), if_neg (show ¬ nI w = 3 from y0 3 (by decide)), show z_Rm mu 102 0 = 103 from rfl, n_l40, n_l48, n_l56, z_g_t (k_103 (show 40 + i < 82 by omega)), z_g_t (k_103 (show 48 + i < 82 by omega)), z_g_t (k_103 (show 56 + i < 82 by omega)), nI_clamp (show 40 + i < 2 ^ 31 by omega), nI_clamp (show 48 + i < 2 ^ 31 by omega), nI_clamp (show 56 + i < 2 ^ 31 by omega), m_rd f2 hi (f := 5) (by decide) (show 40 + i = 8 * 5 + i by omega), m_rd f2 hi (f := 6) (by decide) (show 48 + i = 8 * 6 + i by omega), m_rd f2 hi (f := 7) (by decide) (show 56 + i = 8 * 7 + i by omega), z_l_s, z_l_s, z_l_s, j162, j162, j162]
          rcases hw with q | q | q
          · rw [if_neg (show ¬ (20 : Int32) ≤ nI w from nI_ge (b := 20) (by omega) (by decide)), q]
          · rw [if_pos (show (20 : Int32) ≤ nI w from nI_le (a := 20) (by omega) (by omega)), if_neg (show ¬ (30 : Int32) ≤ nI w from nI_ge (b := 30) (by omega) (by decide)), q]
          · rw [if_pos (show (20 : Int32) ≤ nI w from nI_le (a := 20) (by omega) (by omega)), if_pos (show (30 : Int32) ≤ nI w from nI_le (a := 30) (by omega) (by omega)), q]
  · obtain ⟨w, hw, rfl⟩ := n_in_nI (b := 3) (by decide) c3
    have c39 : n_in (nI w) 10 39 = 0 := by
      unfold n_in
      rw [if_pos (show nI w < (10 : Int32) from nI_lt (b := 10) (by omega) (by decide))]
    have hc : ∀ v, fX12_triedByAll 0 (nI w) I1 (z_Rm mu) = some v → fX12_tried 0 (nI n) (nI w) I (z_Rm mu) = some (v, I1) := fun v hv => by
      unfold fX12_tried fX12_tried_j36 fX12_tried_j37
      rw [z_g_t o_0, fX12_within_eq, z_b_s, fX12_within_eq, z_b_s, if_pos c39, fX12_areTicks_eq, z_b_s, if_neg c, if_neg c3]
      exact j57 _ _ (by rw [if_neg c3, hv])
    have hw4 : w = 0 ∨ w = 1 ∨ w = 2 ∨ w = 3 := by omega
    rcases hw4 with rfl | rfl | rfl | rfl
    · refine ⟨S.2 2, I1, m_ba J, hc _ ?_, ?_, fin⟩
      · unfold fX12_triedByAll
        rw [z_g_t o_0, if_pos (show nI 0 = 0 from rfl), r_40, z_g_t (show z_ob 59 2 from rfl), e2.2.2.2.2.1]
      · unfold fX13_tried fX13_tried_j44
        rw [z_g_t m_ob, fX13_in_eq, z_b_s, if_neg c, fX13_in_eq, z_b_s, if_neg c3, m_as_eq, z_b_s, f1, z_b_s, if_pos (show nI 0 = 0 from rfl), z_l_s, f2.2.2.2.2.1, j162]
    · refine ⟨S.2 3, I1, m_ba J, hc _ ?_, ?_, fin⟩
      · unfold fX12_triedByAll
        rw [z_g_t o_0, if_neg (show ¬ nI 1 = 0 by decide), if_pos (show nI 1 = 1 from rfl), r_40, z_g_t (show z_ob 59 2 from rfl), e2.2.2.2.2.2.1]
      · unfold fX13_tried fX13_tried_j44
        rw [z_g_t m_ob, fX13_in_eq, z_b_s, if_neg c, fX13_in_eq, z_b_s, if_neg c3, m_as_eq, z_b_s, f1, z_b_s, if_neg (show ¬ nI 1 = 0 by decide), if_pos (show nI 1 = 1 from rfl), z_l_s, f2.2.2.2.2.2.1, j162]
    · refine ⟨S.2 4, I1, m_ba J, hc _ ?_, ?_, fin⟩
      · unfold fX12_triedByAll
        rw [z_g_t o_0, if_neg (show ¬ nI 2 = 0 by decide), if_neg (show ¬ nI 2 = 1 by decide), if_pos (show nI 2 = 2 from rfl), r_40, z_g_t (show z_ob 59 2 from rfl), e2.2.2.2.2.2.2]
      · unfold fX13_tried fX13_tried_j44
        rw [z_g_t m_ob, fX13_in_eq, z_b_s, if_neg c, fX13_in_eq, z_b_s, if_neg c3, m_as_eq, z_b_s, f1, z_b_s, if_neg (show ¬ nI 2 = 0 by decide), if_neg (show ¬ nI 2 = 1 by decide), if_pos (show nI 2 = 2 from rfl), z_l_s, f2.2.2.2.2.2.2, j162]
    · refine ⟨nI k, I1, m_ba J, hc _ ?_, ?_, fin⟩
      · unfold fX12_triedByAll
        rw [z_g_t o_0, if_neg (show ¬ nI 3 = 0 by decide), if_neg (show ¬ nI 3 = 1 by decide), if_neg (show ¬ nI 3 = 2 by decide), r_06, z_g_t (show z_ob 72 9 from rfl), w1, z_b_s, b1, z_b_s]
      · unfold fX13_tried fX13_tried_j44
        rw [z_g_t m_ob, fX13_in_eq, z_b_s, if_neg c, fX13_in_eq, z_b_s, if_neg c3, m_as_eq, z_b_s, f1, z_b_s, if_neg (show ¬ nI 3 = 0 by decide), if_neg (show ¬ nI 3 = 1 by decide), if_neg (show ¬ nI 3 = 2 by decide), if_pos (show nI 3 = 3 from rfl), w2, z_b_s, b2, z_b_s, j162]
