/-! spread, together -/
theorem t_ap_eq {len : Nat → Nat} {S S' : t_S} (h : S.1 = S'.1) : t_ap len S = t_ap len S' := by
  have e1 : t_on len S = t_on len S' := by
    funext j
    unfold t_on
    rw [h]
  have e2 : t_at S = t_at S' := by
    funext j
    unfold t_at
    rw [h]
  unfold t_ap
  rw [e1, e2]
theorem t_S0_eq {E : z_He} {c c' : Nat → Int32} : t_eq (t_S0 E c) (t_S0 E c') := ⟨rfl, rfl, rfl⟩
section SP
variable {E : z_He} {mu len : Nat → Nat} {T : Nat} {S S' : t_S} {X : (Nat → Int32) → Int32} {W : Nat → (Nat → Int32) → Int32}
theorem t_ig_1 {k : Nat} (h : (t_is E len T X W S k).2 0 < 99999) : t_ig E len T X W S (k + 1) = t_gn len (t_is E len T X W S k) (t_tick E len T X W (t_is E len T X W S k)) (t_ig E len T X W S k) := if_pos h
theorem t_is_1 {k : Nat} (h : (t_is E len T X W S k).2 0 < 99999) : t_is E len T X W S (k + 1) = t_tick E len T X W (t_is E len T X W S k) := if_pos h
theorem c_sps (hE : t_Env E mu len T X W) (hok : t_ok E len S) (hq : t_eq S S') {n : Nat} (hn : n ≤ 240) : ∀ (d k N : Nat) (J : z_He), k + d = n → d < N → c_In (mu 9) 72 E J (t_is E len T X W S k) → ∃ J' S'', z_lp (fX12_spread_b24 0 (nI n) (z_Rm mu)) N ((t_ig E len T X W S' k) 1, nI k, J) = some ((t_ig E len T X W S' n) 1, J') ∧ c_In (mu 9) 72 E J' S'' := by
  intro d
  induction d with
  | zero =>
    intro k N J e hN h
    have : k = n := by omega
    subst this
    obtain ⟨N, rfl⟩ : ∃ q, N = q + 1 := ⟨N - 1, by omega⟩
    refine ⟨J, _, ?_, h⟩
    unfold z_lp fX12_spread_b24
    dsimp only
    rw [if_pos (nI_le (Nat.le_refl k) (by omega))]
  | succ d ih =>
    intro k N J e hN h
    obtain ⟨N, rfl⟩ : ∃ q, N = q + 1 := ⟨N - 1, by omega⟩
    have hkq := t_eq_is (E := E) (len := len) (T := T) (X := X) (W := W) hq k
    obtain ⟨K, f1, f2⟩ := c_it c72 hE (t_is_ok hE hok k) h
    have hb : fX12_spread_b24 0 (nI n) (z_Rm mu) ((t_ig E len T X W S' k) 1, nI k, J) = _ := rfl
    conv at hb =>
      rhs
      unfold fX12_spread_b24
    dsimp only at hb
    rw [if_neg (nI_ge (show k < n by omega) (by omega)), r_40, r_06, z_g_t (show z_ob 59 2 from rfl), f1, z_b_s] at hb
    dsimp only at hb
    by_cases c : (t_is E len T X W S k).2 0 < 99999
    · have c' : (t_is E len T X W S' k).2 0 < 99999 := by rw [← hkq.2.1]; exact c
      rw [if_pos c] at f2
      have e1 := t_is_1 c
      rw [← e1] at f2
      have ap := c_ap c72 hE.1 f2 (t_is_ok hE hok (k + 1))
      have e2 : (t_ig E len T X W S' (k + 1)) 1 = z_max ((t_ig E len T X W S' k) 1) (t_ap len (t_is E len T X W S (k + 1))) := by
        rw [t_ig_1 c', t_ap_eq (t_eq_is (E := E) (len := len) (T := T) (X := X) (W := W) hq (k + 1)).1, t_is_1 c']
        generalize t_tick E len T X W (t_is E len T X W S' k) = Z
        rfl
      rw [if_pos c, if_neg (by decide), ap, z_b_s, z_l_s, z_l_s, n_s1, ← e2] at hb
      obtain ⟨J', S'', g1, g2⟩ := ih (k + 1) N K (by omega) (by omega) f2
      refine ⟨J', S'', ?_, g2⟩
      unfold z_lp
      rw [hb]
      exact g1
    · have c' : ¬ (t_is E len T X W S' k).2 0 < 99999 := by rw [← hkq.2.1]; exact c
      rw [if_neg c] at f2
      rw [if_neg c, if_pos rfl] at hb
      obtain ⟨-, s2⟩ := t_is_stop c' (d + 1)
      rw [e] at s2
      refine ⟨K, _, ?_, f2⟩
      unfold z_lp
      rw [hb, s2]
/-- at the end of how many TICKS two are at the same -/
def t_sm (E : z_He) (len : Nat → Nat) (T : Nat) (X : (Nat → Int32) → Int32) (W : Nat → (Nat → Int32) → Int32) (S : t_S) (i j : Nat) : Nat → Int32
  | 0 => 0
  | k + 1 => if (t_is E len T X W S k).2 0 < 99999 then (if (t_is E len T X W S (k + 1)).1 i 5 = (t_is E len T X W S (k + 1)).1 j 5 then t_sm E len T X W S i j k + 1 else t_sm E len T X W S i j k) else t_sm E len T X W S i j k
theorem t_sm_eq (hq : t_eq S S') {i j : Nat} : ∀ k, t_sm E len T X W S i j k = t_sm E len T X W S' i j k
  | 0 => rfl
  | k + 1 => by
    have h1 := t_eq_is (E := E) (len := len) (T := T) (X := X) (W := W) hq k
    have h2 := t_eq_is (E := E) (len := len) (T := T) (X := X) (W := W) hq (k + 1)
    unfold t_sm
    rw [h1.2.1, h2.1, t_sm_eq hq k]
theorem t_sm_stop {i j k : Nat} (h : ¬ (t_is E len T X W S k).2 0 < 99999) : ∀ d, t_sm E len T X W S i j (k + d) = t_sm E len T X W S i j k
  | 0 => rfl
  | d + 1 => by
    have e1 : t_sm E len T X W S i j (k + (d + 1)) = if (t_is E len T X W S (k + d)).2 0 < 99999 then _ else t_sm E len T X W S i j (k + d) := rfl
    rw [e1, (t_is_stop h d).1, if_neg h, t_sm_stop h d]
theorem c_sms (hE : t_Env E mu len T X W) (hok : t_ok E len S) {n i j : Nat} (hi : i < 8) (hj : j < 8) (hn : n ≤ 240) : ∀ (d k N : Nat) (J : z_He), k + d = n → d < N → c_In (mu 9) 72 E J (t_is E len T X W S k) → ∃ J' S'', z_lp (fX12_together_b53 0 (nI i) (nI j) (nI n) (z_Rm mu)) N (t_sm E len T X W S i j k, nI k, J) = some (t_sm E len T X W S i j n, J') ∧ c_In (mu 9) 72 E J' S'' := by
  intro d
  induction d with
  | zero =>
    intro k N J e hN h
    have : k = n := by omega
    subst this
    obtain ⟨N, rfl⟩ : ∃ q, N = q + 1 := ⟨N - 1, by omega⟩
    refine ⟨J, _, ?_, h⟩
    unfold z_lp fX12_together_b53
    dsimp only
    rw [if_pos (nI_le (Nat.le_refl k) (by omega))]
  | succ d ih =>
    intro k N J e hN h
    obtain ⟨N, rfl⟩ : ∃ q, N = q + 1 := ⟨N - 1, by omega⟩
    obtain ⟨K, f1, f2⟩ := c_it c72 hE (t_is_ok hE hok k) h
    have hb : fX12_together_b53 0 (nI i) (nI j) (nI n) (z_Rm mu) (t_sm E len T X W S i j k, nI k, J) = _ := rfl
    conv at hb =>
      rhs
      unfold fX12_together_b53
    dsimp only at hb
    rw [if_neg (nI_ge (show k < n by omega) (by omega)), r_40, r_06, z_g_t (show z_ob 59 2 from rfl), f1, z_b_s] at hb
    dsimp only at hb
    by_cases c : (t_is E len T X W S k).2 0 < 99999
    · rw [if_pos c] at f2
      have e1 := t_is_1 c
      rw [← e1] at f2
      have e2 : t_sm E len T X W S i j (k + 1) = if (t_is E len T X W S (k + 1)).1 i 5 = (t_is E len T X W S (k + 1)).1 j 5 then t_sm E len T X W S i j k + 1 else t_sm E len T X W S i j k := if_pos c
      have qi := f2.2.1 i 5 hi (by decide)
      have qj := f2.2.1 j 5 hj (by decide)
      rw [show 72 + 2 + i = 74 + i by omega] at qi
      rw [show 72 + 2 + j = 74 + j by omega] at qj
      rw [if_pos c, if_neg (by decide), show z_Rm mu 72 0 = 73 from rfl, z_g_t (show z_ob 72 9 from rfl), z_g_t (n_ok (n := 8) (show z_len 4 73 = 8 from rfl) hi (by decide))] at hb
      simp only [nI_clamp (show i < 2 ^ 31 by omega), nI_clamp (show j < 2 ^ 31 by omega), (z_ls72 mu hi).1, (z_ls72 mu hj).1, z_g_t (z_ls72 mu hi).2, z_g_t (z_ls72 mu hj).2, z_g_t (n_ok (n := 8) (show z_len 4 73 = 8 from rfl) hj (by decide)), z_l_s, n_s1, qi, qj] at hb
      have hb2 : fX12_together_b53 0 (nI i) (nI j) (nI n) (z_Rm mu) (t_sm E len T X W S i j k, nI k, J) = some (.inl (t_sm E len T X W S i j (k + 1), nI (k + 1), K)) := by
        rw [hb, e2]
        split <;> rfl
      obtain ⟨J', S'', g1, g2⟩ := ih (k + 1) N K (by omega) (by omega) f2
      refine ⟨J', S'', ?_, g2⟩
      unfold z_lp
      rw [hb2]
      exact g1
    · rw [if_neg c] at f2
      rw [if_neg c, if_pos rfl] at hb
      have s2 := t_sm_stop (i := i) (j := j) c (d + 1)
      rw [e] at s2
      refine ⟨K, _, ?_, f2⟩
      unfold z_lp
      rw [hb, s2]
theorem m_sms {B : z_He} (hB : m_B (mu 9) E B) (hE : t_Env E mu len T X W) (hok : t_ok E len S) {n i j : Nat} (hi : i < 8) (hj : j < 8) (hn : n ≤ 240) : ∀ (d k N : Nat) (J : z_He), k + d = n → d < N → m_In B J (t_is E len T X W S k) → m_GG J (t_ig E len T X W S k) → ∃ J' S'', z_lp (fX13_together_b55 102 (nI i) (nI j) (nI n) (z_Rm mu)) N (t_sm E len T X W S i j k, nI k, J) = some (t_sm E len T X W S i j n, J') ∧ m_In B J' S'' := by
  intro d
  induction d with
  | zero =>
    intro k N J e hN h hG
    have : k = n := by omega
    subst this
    obtain ⟨N, rfl⟩ : ∃ q, N = q + 1 := ⟨N - 1, by omega⟩
    refine ⟨J, _, ?_, h⟩
    unfold z_lp fX13_together_b55
    dsimp only
    rw [if_pos (nI_le (Nat.le_refl k) (by omega))]
  | succ d ih =>
    intro k N J e hN h hG
    obtain ⟨N, rfl⟩ : ∃ q, N = q + 1 := ⟨N - 1, by omega⟩
    have hb : fX13_together_b55 102 (nI i) (nI j) (nI n) (z_Rm mu) (t_sm E len T X W S i j k, nI k, J) = _ := rfl
    conv at hb =>
      rhs
      unfold fX13_together_b55
    dsimp only at hb
    rw [if_neg (nI_ge (show k < n by omega) (by omega)), show z_Rm mu 102 0 = 103 from rfl, z_g_t (show z_ok 1 103 80 from k_103 (k := 80) (by decide)), show (80 : Int32).toNatClampNeg = 80 from rfl, h.2.2.1] at hb
    by_cases c : (t_is E len T X W S k).2 0 < 99999
    · obtain ⟨K, f1, f2, f3⟩ := m_it hB hE (t_is_ok hE hok k) h hG c
      have e1 := t_is_1 c
      have e3 := t_ig_1 c
      rw [← e3] at f3
      rw [← e1] at f2
      have e2 : t_sm E len T X W S i j (k + 1) = if (t_is E len T X W S (k + 1)).1 i 5 = (t_is E len T X W S (k + 1)).1 j 5 then t_sm E len T X W S i j k + 1 else t_sm E len T X W S i j k := if_pos c
      rw [if_neg (n_lt99 c), f1, z_b_s, n_l40, n_l40, z_g_t (k_103 (show 40 + i < 82 by omega)), z_g_t (k_103 (show 40 + j < 82 by omega)), nI_clamp (show 40 + i < 2 ^ 31 by omega), nI_clamp (show 40 + j < 2 ^ 31 by omega), m_rd f2 hi (f := 5) (by decide) (show 40 + i = 8 * 5 + i by omega), m_rd f2 hj (f := 5) (by decide) (show 40 + j = 8 * 5 + j by omega)] at hb
      simp only [z_l_s, n_s1] at hb
      have hb2 : fX13_together_b55 102 (nI i) (nI j) (nI n) (z_Rm mu) (t_sm E len T X W S i j k, nI k, J) = some (.inl (t_sm E len T X W S i j (k + 1), nI (k + 1), K)) := by
        rw [hb, e2]
        split <;> rfl
      obtain ⟨J', S'', g1, g2⟩ := ih (k + 1) N K (by omega) (by omega) f2 f3
      refine ⟨J', S'', ?_, g2⟩
      unfold z_lp
      rw [hb2]
      exact g1
    · rw [if_pos (n_ge99 c)] at hb
      have s2 := t_sm_stop (i := i) (j := j) c (d + 1)
      rw [e] at s2
      refine ⟨J, _, ?_, h⟩
      unfold z_lp
      rw [hb, s2]
end SP
theorem call_spread : Call_spread := by
  intro x I mu h
  by_cases c : n_in x 1 240 = 0
  · exact ⟨-1, I, I, by simp (disch := omega) only [z_ob, z_ok, z_ar, z_b_s, z_l_s, z_g_tr, z_x_il, z_x_ir, z_lay, z_shs, z_lens, nI_clamp, n_lt0, n_l0, n_l8, n_l16, n_l24, n_l32, n_l40, n_l48, n_l56, n_l64, n_l72, n_s1, fX12_within_eq, fX13_in_eq, fX12_isSinger_eq, fX12_areTicks_eq, ite_true, ite_false, if_true, if_false, not_false_eq_true, not_true_eq_false, or_self, false_or, or_false, true_or, or_true, and_true, true_and, and_false, false_and, eq_self, fX12_spread, c], by simp (disch := omega) only [z_ob, z_ok, z_ar, z_b_s, z_l_s, z_g_tr, z_x_il, z_x_ir, z_lay, z_shs, z_lens, nI_clamp, n_lt0, n_l0, n_l8, n_l16, n_l24, n_l32, n_l40, n_l48, n_l56, n_l64, n_l72, n_s1, fX12_within_eq, fX13_in_eq, fX12_isSinger_eq, fX12_areTicks_eq, ite_true, ite_false, if_true, if_false, not_false_eq_true, not_true_eq_false, or_self, false_or, or_false, true_or, or_true, and_true, true_and, and_false, false_and, eq_self, fX13_spread, c], h⟩
  obtain ⟨len, h⟩ := h
  obtain ⟨n, hn1, hn2, rfl⟩ := n_in_range (a := 1) (b := 240) (by decide) c (by decide)
  obtain ⟨T, X, W, hE⟩ := t_env h
  obtain ⟨J0, g1, g2⟩ := c_trial (J := I) h (fun _ _ _ => rfl)
  obtain ⟨I1, S1, e1, e2⟩ := c_sps (S' := t_S0 I (fun _ => 0)) hE (t_S0_ok h) t_S0_eq hn2 n 0 300 J0 (by omega) (by omega) g2
  have e1' : z_lp (fX12_spread_b24 0 (nI n) (z_Rm mu)) 300 ((0 : Int32), (0 : Int32), J0) = some ((t_ig I len T X W (t_S0 I (fun _ => 0)) n) 1, I1) := e1
  obtain ⟨J, f1, f2, f3⟩ := m_go (m_B_of c72 h e2).2 hE hn2
  refine ⟨(t_ig I len T X W (t_S0 I (fun _ => 0)) n) 1, I1, m_ba J, ?_, ?_, rel_try h e2 f2⟩
  · unfold fX12_spread
    rw [z_g_t o_0, fX12_areTicks_eq, z_b_s, if_neg c, r_06, r_05, z_g_t (show z_ob 72 9 from rfl), g1, z_b_s, e1', z_b_s]
  · unfold fX13_spread
    rw [z_g_t m_ob, fX13_in_eq, z_b_s, if_neg c, m_as_eq, z_b_s, f1, z_b_s, m_ba_eq, z_b_s, m_ba_o (by decide), f3.2.1]
theorem call_together : Call_together := by
  intro x y z I mu h
  rcases t_both h x with ⟨e1, e2⟩ | ⟨i, hi, rfl, h0, e1, e2⟩
  · refine ⟨-1, I, I, ?_, ?_, h⟩
    · unfold fX12_together
      rw [z_g_t o_0, r_05, z_g_t o_62, e1, z_b_s, if_pos rfl]
    · unfold fX13_together
      rw [z_g_t m_ob, e2, z_b_s, if_pos rfl]
  rcases t_both h y with ⟨d1, d2⟩ | ⟨j, hj, rfl, h1, d1, d2⟩
  · refine ⟨-1, I, I, ?_, ?_, h⟩
    · unfold fX12_together
      rw [z_g_t o_0, r_05, z_g_t o_62, e1, z_b_s, if_neg n_10.mp, d1, z_b_s, if_pos rfl]
    · unfold fX13_together
      rw [z_g_t m_ob, e2, z_b_s, if_neg n_10.mp, d2, z_b_s, if_pos rfl]
  by_cases cij : nI i = nI j
  · refine ⟨-1, I, I, ?_, ?_, h⟩
    · unfold fX12_together
      rw [z_g_t o_0, r_05, z_g_t o_62, e1, z_b_s, if_neg n_10.mp, d1, z_b_s, if_neg n_10.mp, if_pos cij]
    · unfold fX13_together
      rw [z_g_t m_ob, e2, z_b_s, if_neg n_10.mp, d2, z_b_s, if_neg n_10.mp, if_pos cij]
  by_cases c : n_in z 1 240 = 0
  · refine ⟨-1, I, I, ?_, ?_, h⟩
    · unfold fX12_together
      rw [z_g_t o_0, r_05, z_g_t o_62, e1, z_b_s, if_neg n_10.mp, d1, z_b_s, if_neg n_10.mp, if_neg cij, fX12_areTicks_eq, z_b_s, if_pos c]
    · unfold fX13_together
      rw [z_g_t m_ob, e2, z_b_s, if_neg n_10.mp, d2, z_b_s, if_neg n_10.mp, if_neg cij, fX13_in_eq, z_b_s, if_pos c]
  obtain ⟨len, h⟩ := h
  obtain ⟨n, hn1, hn2, rfl⟩ := n_in_range (a := 1) (b := 240) (by decide) c (by decide)
  obtain ⟨T, X, W, hE⟩ := t_env h
  have hA := (p_law h.2.2.2.2.2.1).1
  obtain ⟨J0, g1, g2⟩ := c_trial (J := I) h (fun _ _ _ => rfl)
  obtain ⟨I1, S1, k1, k2⟩ := c_sms hE (t_S0_ok h) hi hj hn2 n 0 300 J0 (by omega) (by omega) g2
  have kn : t_sm I len T X W (t_S0 I (fun k => I 59 (k + 1))) i j n = t_sm I len T X W (t_S0 I (fun _ => 0)) i j n := t_sm_eq t_S0_eq n
  rw [kn] at k1
  have k1' : z_lp (fX12_together_b53 0 (nI i) (nI j) (nI n) (z_Rm mu)) 300 ((0 : Int32), (0 : Int32), J0) = some (t_sm I len T X W (t_S0 I (fun _ => 0)) i j n, I1) := k1
  have hB := (m_B_of c72 h k2).2
  obtain ⟨J, S2, f1, f2⟩ := m_sms hB hE (t_S0_ok (c := fun _ => 0) h) hi hj hn2 n 0 300 (m_bt (m_as I1)) (by omega) (by omega) (m_bt_In (hB.1 103 (by decide) (by decide))) m_bt_G
  have f1' : z_lp (fX13_together_b55 102 (nI i) (nI j) (nI n) (z_Rm mu)) 300 ((0 : Int32), (0 : Int32), m_bt (m_as I1)) = some (t_sm I len T X W (t_S0 I (fun _ => 0)) i j n, J) := f1
  have t1 : ∀ q, q < 8 → I 103 q = 1 → fX13_isTold 102 (nI q) I1 (z_Rm mu) = some 1 := fun q hq hh => by
    rw [m_told hq, k2.1 103 q (by unfold c_dirt; omega), hh]
    rfl
  refine ⟨t_sm I len T X W (t_S0 I (fun _ => 0)) i j n, I1, m_ba J, ?_, ?_, rel_try h k2 f2⟩
  · unfold fX12_together
    rw [z_g_t o_0, r_05, z_g_t o_62, e1, z_b_s, if_neg n_10.mp, d1, z_b_s, if_neg n_10.mp, if_neg cij, fX12_areTicks_eq, z_b_s, if_neg c, r_06, z_g_t (show z_ob 72 9 from rfl), g1, z_b_s, k1', z_b_s]
  · unfold fX13_together fX13_together_j111
    rw [z_g_t m_ob, t1 i hi h0, z_b_s, if_neg n_10.mp, t1 j hj h1, z_b_s, if_neg n_10.mp, if_neg cij, fX13_in_eq, z_b_s, if_neg c, m_as_eq, z_b_s, m_bt_eq, z_b_s, f1', z_b_s, m_ba_eq, z_b_s]
