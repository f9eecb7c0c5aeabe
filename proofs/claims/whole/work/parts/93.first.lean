/-! end, firstCome: the calls -/
theorem m_base {E B : z_He} (h : B 103 = E 103) : m_In B B (t_S0 E (fun k => B 102 (41 + k))) := by
  refine ⟨fun _ _ _ => rfl, fun i f hi hf => ?_, ?_, ?_, rfl, rfl, rfl⟩
  · rw [h]; rfl
  · rw [h]; rfl
  · rw [h]; rfl
theorem t_on_eq {len : Nat → Nat} {S S' : t_S} (h : S.1 = S'.1) : t_on len S = t_on len S' := by
  funext j
  unfold t_on
  rw [h]
theorem t_over_eq {len : Nat → Nat} {S S' : t_S} (h : S.1 = S'.1) : t_over len S ↔ t_over len S' := by
  unfold t_over
  rw [t_on_eq h]
theorem t_ds_eq {len : Nat → Nat} {S S' : t_S} (h : S.1 = S'.1) : t_ds len S = t_ds len S' := by
  funext j
  unfold t_ds
  rw [h]
section EF
variable {E : z_He} {mu len : Nat → Nat} {T : Nat} {S S' : t_S} {X : (Nat → Int32) → Int32} {W : Nat → (Nat → Int32) → Int32}
/-- the first TICK behind which all is over: what the model notes -/
theorem t_end_at (hE : t_Env E mu len T X W) (hok : t_ok E len S) {q n : Nat} (h0 : 0 < q) (hqn : q ≤ n) (ho : t_over len (t_is E len T X W S q)) (hn : ¬ t_over len (t_is E len T X W S (q - 1))) : ∃ r, t_hiD (t_dn len (t_is E len T X W S (q - 1)) (t_is E len T X W S q)) 8 = some r ∧ (t_ig E len T X W S n) 2 = nI r ∧ (t_ig E len T X W S n) 3 = nI q := by
  obtain ⟨p, rfl⟩ : ∃ p, q = p + 1 := ⟨q - 1, by omega⟩
  rw [show p + 1 - 1 = p by omega] at hn ⊢
  have c : (t_is E len T X W S p).2 0 < 99999 := by
    by_cases c : (t_is E len T X W S p).2 0 < 99999
    · exact c
    · have := (t_is_stop c 1).1
      rw [this] at ho
      exact absurd ho hn
  obtain ⟨-, k2, k3⟩ := t_over_k hE hok ho (n - (p + 1))
  rw [show p + 1 + (n - (p + 1)) = n by omega] at k2 k3
  rw [k2, k3, t_ig_1 c]
  have ok1 := t_is_ok hE hok p
  have ok2 := t_is_ok hE hok (p + 1)
  rw [t_is_1 c] at ho ok2 ⊢
  generalize t_tick E len T X W (t_is E len T X W S p) = Z at ho ok2 ⊢
  obtain ⟨g2, g3, -⟩ := t_gn_2 (len := len) (S := t_is E len T X W S p) (S' := Z) (G := t_ig E len T X W S p)
  rw [g2, g3, t_tg hE p (fun q hq => t_go_on c (by omega)), n_s1]
  cases e : t_hiD (t_dn len (t_is E len T X W S p) Z) 8 with
  | some r => exact ⟨r, rfl, rfl, rfl⟩
  | none =>
    exfalso
    apply hn
    intro j hj
    have d := t_hiD_none.mp e j hj
    have o := ho j hj
    have e0 := ok1.2.1 j 0 hj (by decide)
    have e1 := ok2.2.1 j 0 hj (by decide)
    unfold t_dn at d
    by_cases on : t_on len (t_is E len T X W S p) j = true
    · rw [on] at d
      unfold t_on at on o
      rw [e1, ← e0] at o
      simp at d on o
      exact absurd (o on.1) (by rw [Int32.not_le]; exact d)
    · simpa using on
/-- who waits -/
def q_ws (S : t_S) (j : Nat) : Bool := S.1 j 0 != 0 && S.1 j 9 != 0
def t_nw (S : t_S) : Prop := ∀ j, j < 8 → q_ws S j = false
theorem q_ws_eq (h : S.1 = S'.1) : q_ws S = q_ws S' := by
  funext j
  unfold q_ws
  rw [h]
theorem t_nw_0 : nI (n_set (q_ws S) 8) = 0 ↔ t_nw S := n_set_0
theorem t_vn_ws (hE : t_Env E mu len T X W) (hok : t_ok E len S) (hok' : t_ok E len (t_tick E len T X W S)) (hw : t_nw S) {j : Nat} (hj : j < 8) : t_vn len S (t_tick E len T X W S) j = q_ws (t_tick E len T X W S) j := by
  have off := t_off hE hok hj
  have e0 := hok.2.1 j 0 hj (by decide)
  have e1 := hok'.2.1 j 0 hj (by decide)
  have w := hw j hj
  have v9 := (hok'.1 j hj).2.2.2.2.2.2.2.2.1
  generalize t_tick E len T X W S = Z at *
  unfold t_vn q_ws
  unfold q_ws at w
  rw [e1]
  rw [e0] at w
  by_cases c0 : E 103 (8 * 0 + j) = 0
  · have : t_on len S j = false := by unfold t_on; rw [e0]; simp at c0 ⊢; simp [c0]
    rw [this, c0]
    rfl
  · have s9 : S.1 j 9 = 0 := by
      by_cases q : S.1 j 9 = 0
      · exact q
      · simp at c0
        simp [c0, q] at w
    by_cases on : t_on len S j = true
    · rw [on, s9]
      rcases v9 with q | q <;> rw [q] <;> simp at c0 ⊢ <;> simp [c0]
    · have on' : t_on len S j = false := by simpa using on
      rw [on', off on', s9]
      simp
theorem t_fw_no (hE : t_Env E mu len T X W) (hok : t_ok E len S) : ∀ k, (∀ p, p ≤ k → t_nw (t_is E len T X W S p)) → (t_ig E len T X W S k) 4 = -1
  | 0, _ => rfl
  | k + 1, h => by
    have ih := t_fw_no hE hok k (fun p hp => h p (by omega))
    by_cases c : (t_is E len T X W S k).2 0 < 99999
    · have h1 := h (k + 1) (Nat.le_refl _)
      have ok1 := t_is_ok hE hok (k + 1)
      rw [t_ig_1 c]
      rw [t_is_1 c] at h1 ok1
      have vw := fun j (hj : j < 8) => t_vn_ws hE (t_is_ok hE hok k) ok1 (h k (by omega)) hj
      generalize t_tick E len T X W (t_is E len T X W S k) = Z at h1 vw
      obtain ⟨-, -, g4, -⟩ := t_gn_2 (len := len) (S := t_is E len T X W S k) (S' := Z) (G := t_ig E len T X W S k)
      rw [g4, t_loD_none.mpr (fun j hj => by rw [vw j hj]; exact h1 j hj), ih]
      rfl
    · rw [(t_is_stop c 1).2]
      exact ih
theorem t_fw_st {q : Nat} (h : ¬ (t_ig E len T X W S q) 4 = -1) : ∀ d, (t_ig E len T X W S (q + d)) 4 = (t_ig E len T X W S q) 4 ∧ (t_ig E len T X W S (q + d)) 5 = (t_ig E len T X W S q) 5
  | 0 => ⟨rfl, rfl⟩
  | d + 1 => by
    obtain ⟨h1, h2⟩ := t_fw_st h d
    show (t_ig E len T X W S (q + d + 1)) 4 = _ ∧ (t_ig E len T X W S (q + d + 1)) 5 = _
    by_cases c : (t_is E len T X W S (q + d)).2 0 < 99999
    · rw [t_ig_1 c]
      generalize t_tick E len T X W (t_is E len T X W S (q + d)) = Z
      obtain ⟨-, -, g4, g5⟩ := t_gn_2 (len := len) (S := t_is E len T X W S (q + d)) (S' := Z) (G := t_ig E len T X W S (q + d))
      rw [g4, g5]
      unfold t_fw t_ww
      rw [if_neg (by rw [h1]; exact h), if_neg (by rw [h1]; exact h)]
      exact ⟨h1, h2⟩
    · rw [(t_is_stop c 1).2]
      exact ⟨h1, h2⟩
theorem t_first_at (hE : t_Env E mu len T X W) (hok : t_ok E len S) {q n : Nat} (h0 : 0 < q) (hqn : q ≤ n) (hw : ¬ t_nw (t_is E len T X W S q)) (hn : ∀ p, p < q → t_nw (t_is E len T X W S p)) : ∃ r, t_loD (q_ws (t_is E len T X W S q)) 8 = some r ∧ (t_ig E len T X W S n) 4 = nI r ∧ (t_ig E len T X W S n) 5 = nI q := by
  obtain ⟨p, rfl⟩ : ∃ p, q = p + 1 := ⟨q - 1, by omega⟩
  have c : (t_is E len T X W S p).2 0 < 99999 := by
    by_cases c : (t_is E len T X W S p).2 0 < 99999
    · exact c
    · have := (t_is_stop c 1).1
      rw [this] at hw
      exact absurd (hn p (by omega)) hw
  have f4 := t_fw_no hE hok p (fun k hk => hn k (by omega))
  have tg := t_tg (S := S) hE p (fun q hq => t_go_on c (by omega))
  obtain ⟨r, hr⟩ : ∃ r, t_loD (q_ws (t_is E len T X W S (p + 1))) 8 = some r := by
    cases e : t_loD (q_ws (t_is E len T X W S (p + 1))) 8 with
    | some r => exact ⟨r, rfl⟩
    | none => exact absurd (t_loD_none.mp e) hw
  have r8 := t_loD_lt hr
  have key : (t_ig E len T X W S (p + 1)) 4 = nI r ∧ (t_ig E len T X W S (p + 1)) 5 = nI (p + 1) := by
    rw [t_ig_1 c]
    have ok1 := t_is_ok hE hok (p + 1)
    rw [t_is_1 c] at hr ok1
    have vw := fun j (hj : j < 8) => t_vn_ws hE (t_is_ok hE hok p) ok1 (hn p (by omega)) hj
    generalize t_tick E len T X W (t_is E len T X W S p) = Z at hr vw
    obtain ⟨-, -, g4, g5⟩ := t_gn_2 (len := len) (S := t_is E len T X W S p) (S' := Z) (G := t_ig E len T X W S p)
    rw [g4, g5, t_loD_congr vw, hr, f4, tg, n_s1]
    exact ⟨rfl, rfl⟩
  obtain ⟨s1, s2⟩ := t_fw_st (E := E) (len := len) (T := T) (X := X) (W := W) (S := S) (q := p + 1) (by rw [key.1]; exact n_m1 (by omega)) (n - (p + 1))
  rw [show p + 1 + (n - (p + 1)) = n by omega] at s1 s2
  exact ⟨r, hr, by rw [s1, key.1], by rw [s2, key.2]⟩
theorem c_ws {I : z_He} (hc : c_In (mu 9) 72 E I S) : fX9_waitingBits 72 I (z_Rm mu) = some (nI (n_set (q_ws S) 8)) := by
  rw [c_waitBits c72]
  congr 2
  apply n_set_congr
  intro j hj
  unfold q_ws
  rw [hc.2.1 j 0 hj (by decide), hc.2.1 j 9 hj (by decide)]
theorem m_ws {B I : z_He} (hm : m_In B I S) (hok : t_ok E len S) : fX13_waitingSet 102 I (z_Rm mu) = some (nI (n_set (q_ws S) 8)) := by
  rw [m_waitSet]
  congr 2
  apply n_set_congr
  intro j hj
  unfold q_ws
  rw [m_rd hm hj (f := 0) (by decide) (by omega), m_rd hm hj (f := 9) (by decide) (by omega)]
  rcases (hok.1 j hj).1 with h0 | h0 <;> rcases (hok.1 j hj).2.2.2.2.2.2.2.2.1 with h9 | h9 <;> rw [h0, h9] <;> rfl
theorem c_firsts (hE : t_Env E mu len T X W) (hok : t_ok E len S) {n : Nat} (hn : n ≤ 240) {y : Int32} : ∀ (d k N : Nat) (J : z_He), k + d = n → d + 1 < N → c_In (mu 9) 72 E J (t_is E len T X W S k) → (∀ p, p < k → t_nw (t_is E len T X W S p)) → ∃ J' S'', c_In (mu 9) 72 E J' S'' ∧ ((∃ q, q ≤ n ∧ ¬ t_nw (t_is E len T X W S q) ∧ (∀ p, p < q → t_nw (t_is E len T X W S p)) ∧ S'' = t_is E len T X W S q ∧ z_lp (fX12_firstCome_b31 0 (nI n) y (z_Rm mu)) N (nI k, J) = some (.inr (nI q, J'))) ∨ ((∀ p, p ≤ n → t_nw (t_is E len T X W S p)) ∧ z_lp (fX12_firstCome_b31 0 (nI n) y (z_Rm mu)) N (nI k, J) = some (.inl (-2, J')))) := by
  intro d
  induction d with
  | zero =>
    intro k N J e hN h hnw
    have : k = n := by omega
    subst this
    obtain ⟨N, rfl⟩ : ∃ q, N = q + 1 := ⟨N - 1, by omega⟩
    have hb : fX12_firstCome_b31 0 (nI k) y (z_Rm mu) (nI k, J) = _ := rfl
    conv at hb =>
      rhs
      unfold fX12_firstCome_b31
    dsimp only at hb
    rw [if_neg (nI_nlt (Nat.le_refl k) (by omega)), r_06, z_g_t (show z_ob 72 9 from rfl), c_ws h, z_b_s, if_pos (nI_le (Nat.le_refl k) (by omega)), z_l_s, n_s1] at hb
    by_cases c : t_nw (t_is E len T X W S k)
    · rw [if_pos (t_nw_0.mpr c)] at hb
      refine ⟨J, _, h, Or.inr ⟨fun p hp => ?_, ?_⟩⟩
      · by_cases q : p = k
        · subst q; exact c
        · exact hnw p (by omega)
      · obtain ⟨N, rfl⟩ : ∃ q, N = q + 1 := ⟨N - 1, by omega⟩
        unfold z_lp
        rw [hb]
        dsimp only
        unfold z_lp fX12_firstCome_b31
        dsimp only
        rw [if_pos (nI_lt (by omega) (by omega))]
    · rw [if_neg (fun q => c (t_nw_0.mp q))] at hb
      refine ⟨J, _, h, Or.inl ⟨k, Nat.le_refl k, c, hnw, rfl, ?_⟩⟩
      unfold z_lp
      rw [hb]
  | succ d ih =>
    intro k N J e hN h hnw
    obtain ⟨N, rfl⟩ : ∃ q, N = q + 1 := ⟨N - 1, by omega⟩
    obtain ⟨K, f1, f2⟩ := c_it c72 hE (t_is_ok hE hok k) h
    have f2' : c_In (mu 9) 72 E K (t_is E len T X W S (k + 1)) := f2
    have hb : fX12_firstCome_b31 0 (nI n) y (z_Rm mu) (nI k, J) = _ := rfl
    conv at hb =>
      rhs
      unfold fX12_firstCome_b31
    dsimp only at hb
    rw [if_neg (nI_nlt (show k ≤ n by omega) (by omega)), r_06, r_40, z_g_t (show z_ob 72 9 from rfl), c_ws h, z_b_s, if_neg (nI_ge (show k < n by omega) (by omega)), z_g_t (show z_ob 59 2 from rfl), f1, z_b_s, z_l_s, n_s1] at hb
    by_cases c : t_nw (t_is E len T X W S k)
    · rw [if_pos (t_nw_0.mpr c)] at hb
      obtain ⟨J', S'', g1, g2⟩ := ih (k + 1) N K (by omega) (by omega) f2' (fun p hp => by
        by_cases q : p = k
        · subst q; exact c
        · exact hnw p (by omega))
      refine ⟨J', S'', g1, ?_⟩
      rcases g2 with ⟨q, q1, q2, q3, q4, q5⟩ | ⟨q1, q2⟩
      · refine Or.inl ⟨q, q1, q2, q3, q4, ?_⟩
        unfold z_lp
        rw [hb]
        exact q5
      · refine Or.inr ⟨q1, ?_⟩
        unfold z_lp
        rw [hb]
        exact q2
    · rw [if_neg (fun q => c (t_nw_0.mp q))] at hb
      refine ⟨J, _, h, Or.inl ⟨k, by omega, c, hnw, rfl, ?_⟩⟩
      unfold z_lp
      rw [hb]
end EF
theorem call_end : Call_end := by
  intro x y I mu h
  have hR := h
  obtain ⟨len, h⟩ := h
  have hA := (p_law h.2.2.2.2.2.1).1
  have ct : fX9_toldBits 62 I (z_Rm mu) = some (nI (n_set (fun j => I 103 j != 0) 8)) := by
    rw [c_toldBits c62]
    congr 2
    apply n_set_congr
    intro j hj
    rw [h.1.1 0 j (by decide) hj, show 8 * 0 + j = j by omega]
  have mt : fX13_toldSet 102 I (z_Rm mu) = some (nI (n_set (fun j => I 103 j != 0) 8)) := by rw [← t_bits h, ct]
  by_cases c1 : n_in x 1 240 = 0
  · refine ⟨-1, I, I, ?_, ?_, hR⟩
    · unfold fX12_end
      rw [z_g_t o_0, r_05, z_g_t o_62, ct, z_b_s, fX12_areTicks_eq, z_b_s, if_pos c1]
    · unfold fX13_end
      rw [z_g_t m_ob, fX13_in_eq, z_b_s, if_pos c1]
  by_cases c2 : n_in y 0 1 = 0
  · refine ⟨-1, I, I, ?_, ?_, hR⟩
    · unfold fX12_end
      rw [z_g_t o_0, r_05, z_g_t o_62, ct, z_b_s, fX12_areTicks_eq, z_b_s, if_neg c1, fX12_within_eq, z_b_s, if_pos c2]
    · unfold fX13_end
      rw [z_g_t m_ob, fX13_in_eq, z_b_s, if_neg c1, fX13_in_eq, z_b_s, if_pos c2]
  by_cases c3 : nI (n_set (fun j => I 103 j != 0) 8) = 0
  · refine ⟨-1, I, I, ?_, ?_, hR⟩
    · unfold fX12_end
      rw [z_g_t o_0, r_05, z_g_t o_62, ct, z_b_s, fX12_areTicks_eq, z_b_s, if_neg c1, fX12_within_eq, z_b_s, if_neg c2, if_pos c3]
    · unfold fX13_end
      rw [z_g_t m_ob, fX13_in_eq, z_b_s, if_neg c1, fX13_in_eq, z_b_s, if_neg c2, mt, z_b_s, if_pos c3]
  obtain ⟨n, hn1, hn2, rfl⟩ := n_in_range (a := 1) (b := 240) (by decide) c1 (by decide)
  obtain ⟨T, X, W, hE⟩ := t_env h
  have okc := t_S0_ok (c := fun k => I 59 (k + 1)) h
  have okm := t_S0_ok (c := fun _ => (0 : Int32)) h
  have cd := c_ds c62 h (c_base h)
  have md : fX13_doneSet 102 I (z_Rm mu) = some (nI (n_set (t_ds len (t_S0 I (fun k => I 59 (k + 1)))) 8)) := by rw [← d_both h, cd]
  by_cases c4 : nI (n_set (t_ds len (t_S0 I (fun k => I 59 (k + 1)))) 8) = nI (n_set (fun j => I 103 j != 0) 8)
  · refine ⟨if y = 0 then 0 else -2, I, I, ?_, ?_, hR⟩
    · unfold fX12_end
      rw [z_g_t o_0, r_05, z_g_t o_62, ct, z_b_s, fX12_areTicks_eq, z_b_s, if_neg c1, fX12_within_eq, z_b_s, if_neg c2, if_neg c3, r_40, z_g_t (show z_ob 59 2 from rfl), cd, z_b_s, if_pos c4]
      split <;> rfl
    · unfold fX13_end
      rw [z_g_t m_ob, fX13_in_eq, z_b_s, if_neg c1, fX13_in_eq, z_b_s, if_neg c2, mt, z_b_s, if_neg c3, md, z_b_s, z_b_s, if_pos c4]
      split <;> rfl
  have nov : ¬ t_over len (t_S0 I (fun k => I 59 (k + 1))) := fun q => c4 ((ds_over okc).mpr q)
  obtain ⟨J0, g1, g2⟩ := c_trial (J := I) h (fun _ _ _ => rfl)
  obtain ⟨I1, S1, k1, k2⟩ := c_ends (y := y) hE okc hn2 n 0 300 J0 (by omega) (by omega) g2 nov
  obtain ⟨hB1, hB⟩ := m_B_of c72 h k1
  obtain ⟨J, f1, f2, f3⟩ := m_go hB hE hn2
  have fin := rel_try h k1 f2
  have tq := fun k => t_eq_is (E := I) (len := len) (T := T) (X := X) (W := W) (t_S0_eq (E := I) (c := fun k => I 59 (k + 1)) (c' := fun _ => 0)) k
  have okn := t_is_ok hE okm n
  obtain ⟨m1, m2⟩ := m_ds hB h f2 okn
  have b3 : I1 103 = I 103 := hB1.1 103 (by decide) (by decide)
  obtain ⟨m3, m4⟩ := m_ds hB1 h (m_base b3) (t_S0_ok h)
  have m3' : fX13_doneSet 102 I1 (z_Rm mu) = some (nI (n_set (t_ds len (t_S0 I (fun k => I 59 (k + 1)))) 8)) := m3
  have M : ∀ v, (t_over len (t_is I len T X W (t_S0 I (fun _ => 0)) n) → (if y = 0 then (t_ig I len T X W (t_S0 I (fun _ => 0)) n) 3 = v else (t_ig I len T X W (t_S0 I (fun _ => 0)) n) 2 = v)) → (¬ t_over len (t_is I len T X W (t_S0 I (fun _ => 0)) n) → v = -2) → fX13_end 102 (nI n) y I1 (z_Rm mu) = some (v, m_ba J) := by
    intro v hv hw
    unfold fX13_end fX13_end_j83
    rw [z_g_t m_ob, fX13_in_eq, z_b_s, if_neg c1, fX13_in_eq, z_b_s, if_neg c2, m4, z_b_s, if_neg c3, m3', z_b_s, z_b_s, if_neg c4, m_as_eq, z_b_s, f1, z_b_s, m1, z_b_s, m2, z_b_s, m_ba_eq, z_b_s, z_b_s]
    by_cases o : t_over len (t_is I len T X W (t_S0 I (fun _ => 0)) n)
    · rw [if_pos ((ds_over okn).mpr o), if_neg (by decide), m_ba_o (by decide), f3.2.2.2.1, f3.2.2.1]
      have hv := hv o
      by_cases y0 : y = 0
      · rw [if_pos y0] at hv ⊢
        rw [hv]
      · rw [if_neg y0] at hv ⊢
        rw [hv]
    · rw [if_neg (fun q => o ((ds_over okn).mp q)), if_pos rfl, hw o]
  have C : ∀ r v, z_lp (fX12_end_b74 0 (nI n) y (nI (n_set (fun j => I 103 j != 0) 8)) (z_Rm mu)) 300 (nI (n_set (t_ds len (t_S0 I (fun k => I 59 (k + 1)))) 8), (1 : Int32), J0) = some r → z_x r (fun q21 => some q21) (fun q20 => if y = 0 then some (q20.2.1, q20.2.2.2) else z_b (fX12_highest (q20.2.2.1 &&& (q20.1 ^^^ (-1 : Int32)))) (fun q23 => some (q23, q20.2.2.2))) = some (v, I1) → fX12_end 0 (nI n) y I (z_Rm mu) = some (v, I1) := by
    intro r v hr hv
    unfold fX12_end
    rw [z_g_t o_0, r_05, z_g_t o_62, ct, z_b_s, fX12_areTicks_eq, z_b_s, if_neg c1, fX12_within_eq, z_b_s, if_neg c2, if_neg c3, r_40, z_g_t (show z_ob 59 2 from rfl), cd, z_b_s, if_neg c4, r_06, z_g_t (show z_ob 72 9 from rfl), g1, z_b_s, hr, z_b_s]
    exact hv
  rcases k2 with ⟨q, q1, q2, q3, q4, q5⟩ | ⟨q1, q2⟩
  · have q3' := (t_over_eq (tq q).1).mp q3
    have q4' := fun z => q4 ((t_over_eq (tq (q - 1)).1).mpr z)
    obtain ⟨r, r1, r2, r3⟩ := t_end_at hE okm q1 q2 q3' q4'
    have on := (t_over_k hE okm q3' (n - q)).1
    rw [show q + (n - q) = n by omega] at on
    refine ⟨if y = 0 then nI q else nI r, I1, m_ba J, C _ _ q5 ?_, M _ (fun _ => ?_) (fun z => absurd on z), fin⟩
    · dsimp only [z_x]
      rw [ds_new (t_is_ok hE okc (q - 1)) (t_is_ok hE okc q), n_high]
      have e : t_dn len (t_is I len T X W (t_S0 I (fun k => I 59 (k + 1))) (q - 1)) (t_is I len T X W (t_S0 I (fun k => I 59 (k + 1))) q) = t_dn len (t_is I len T X W (t_S0 I (fun _ => 0)) (q - 1)) (t_is I len T X W (t_S0 I (fun _ => 0)) q) := by
        funext j
        unfold t_dn
        rw [t_on_eq (tq (q - 1)).1, (tq q).1]
      rw [e, r1, z_b_s]
      by_cases y0 : y = 0
      · rw [if_pos y0, if_pos y0]
      · rw [if_neg y0, if_neg y0]
        rfl
    · by_cases y0 : y = 0
      · rw [if_pos y0, if_pos y0, r3]
      · rw [if_neg y0, if_neg y0, r2]
  · have on : ¬ t_over len (t_is I len T X W (t_S0 I (fun _ => 0)) n) := fun z => q1 ((t_over_eq (tq n).1).mpr z)
    exact ⟨-2, I1, m_ba J, C _ _ q2 rfl, M _ (fun z => absurd z on) (fun _ => rfl), fin⟩
theorem call_firstCome : Call_firstCome := by
  intro x y I mu h
  by_cases c1 : n_in x 1 240 = 0
  · exact ⟨-1, I, I, by simp (disch := omega) only [z_ob, z_ok, z_ar, z_b_s, z_l_s, z_g_tr, z_x_il, z_x_ir, z_lay, z_shs, z_lens, nI_clamp, n_lt0, n_l0, n_l8, n_l16, n_l24, n_l32, n_l40, n_l48, n_l56, n_l64, n_l72, n_s1, fX12_within_eq, fX13_in_eq, fX12_isSinger_eq, fX12_areTicks_eq, ite_true, ite_false, if_true, if_false, not_false_eq_true, not_true_eq_false, or_self, false_or, or_false, true_or, or_true, and_true, true_and, and_false, false_and, eq_self, fX12_firstCome, c1], by simp (disch := omega) only [z_ob, z_ok, z_ar, z_b_s, z_l_s, z_g_tr, z_x_il, z_x_ir, z_lay, z_shs, z_lens, nI_clamp, n_lt0, n_l0, n_l8, n_l16, n_l24, n_l32, n_l40, n_l48, n_l56, n_l64, n_l72, n_s1, fX12_within_eq, fX13_in_eq, fX12_isSinger_eq, fX12_areTicks_eq, ite_true, ite_false, if_true, if_false, not_false_eq_true, not_true_eq_false, or_self, false_or, or_false, true_or, or_true, and_true, true_and, and_false, false_and, eq_self, fX13_firstCome, c1], h⟩
  by_cases c2 : n_in y 0 1 = 0
  · exact ⟨-1, I, I, by simp (disch := omega) only [z_ob, z_ok, z_ar, z_b_s, z_l_s, z_g_tr, z_x_il, z_x_ir, z_lay, z_shs, z_lens, nI_clamp, n_lt0, n_l0, n_l8, n_l16, n_l24, n_l32, n_l40, n_l48, n_l56, n_l64, n_l72, n_s1, fX12_within_eq, fX13_in_eq, fX12_isSinger_eq, fX12_areTicks_eq, ite_true, ite_false, if_true, if_false, not_false_eq_true, not_true_eq_false, or_self, false_or, or_false, true_or, or_true, and_true, true_and, and_false, false_and, eq_self, fX12_firstCome, c1, c2], by simp (disch := omega) only [z_ob, z_ok, z_ar, z_b_s, z_l_s, z_g_tr, z_x_il, z_x_ir, z_lay, z_shs, z_lens, nI_clamp, n_lt0, n_l0, n_l8, n_l16, n_l24, n_l32, n_l40, n_l48, n_l56, n_l64, n_l72, n_s1, fX12_within_eq, fX13_in_eq, fX12_isSinger_eq, fX12_areTicks_eq, ite_true, ite_false, if_true, if_false, not_false_eq_true, not_true_eq_false, or_self, false_or, or_false, true_or, or_true, and_true, true_and, and_false, false_and, eq_self, fX13_firstCome, c1, c2], h⟩
  obtain ⟨len, h⟩ := h
  have hA := (p_law h.2.2.2.2.2.1).1
  obtain ⟨n, hn1, hn2, rfl⟩ := n_in_range (a := 1) (b := 240) (by decide) c1 (by decide)
  obtain ⟨T, X, W, hE⟩ := t_env h
  have okc := t_S0_ok (c := fun k => I 59 (k + 1)) h
  have okm := t_S0_ok (c := fun _ => (0 : Int32)) h
  obtain ⟨J0, g1, g2⟩ := c_trial (J := I) h (fun _ _ _ => rfl)
  obtain ⟨I1, S1, k1, k2⟩ := c_firsts (y := y) hE okc hn2 n 0 300 J0 (by omega) (by omega) g2 (fun p hp => absurd hp (Nat.not_lt_zero p))
  obtain ⟨hB1, hB⟩ := m_B_of c72 h k1
  obtain ⟨J, f1, f2, f3⟩ := m_go hB hE hn2
  have fin := rel_try h k1 f2
  have tq := fun k => t_eq_is (E := I) (len := len) (T := T) (X := X) (W := W) (t_S0_eq (E := I) (c := fun k => I 59 (k + 1)) (c' := fun _ => 0)) k
  have nwq : ∀ k, t_nw (t_is I len T X W (t_S0 I (fun k => I 59 (k + 1))) k) ↔ t_nw (t_is I len T X W (t_S0 I (fun _ => 0)) k) := fun k => by
    unfold t_nw
    rw [q_ws_eq (tq k).1]
  have b3 : I1 103 = I 103 := hB1.1 103 (by decide) (by decide)
  have w0 : fX13_waitingSet 102 I1 (z_Rm mu) = some (nI (n_set (q_ws (t_S0 I (fun _ => 0))) 8)) := by
    have z := m_ws (E := I) (len := len) (mu := mu) (m_base b3) (t_S0_ok h)
    exact z
  have C : ∀ r v, z_lp (fX12_firstCome_b31 0 (nI n) y (z_Rm mu)) 300 ((0 : Int32), J0) = some r → z_x r (fun q18 => some q18) (fun q17 => if y = 0 then (z_b (fX9_waitingBits 72 q17.2 (z_Rm mu)) (fun q20 => z_b (fX12_lowest q20) (fun q21 => some (q21, q17.2)))) else (some (q17.1, q17.2))) = some (v, I1) → fX12_firstCome 0 (nI n) y I (z_Rm mu) = some (v, I1) := by
    intro r v hr hv
    unfold fX12_firstCome
    rw [z_g_t o_0, fX12_areTicks_eq, z_b_s, if_neg c1, fX12_within_eq, z_b_s, if_neg c2, r_06, r_05, z_g_t (show z_ob 72 9 from rfl), g1, z_b_s, hr, z_b_s]
    exact hv
  have M : ∀ v, t_nw (t_S0 I (fun _ => 0)) → (if (t_ig I len T X W (t_S0 I (fun _ => 0)) n) 4 = -1 then v = -2 else (if y = 0 then (t_ig I len T X W (t_S0 I (fun _ => 0)) n) 4 = v else (t_ig I len T X W (t_S0 I (fun _ => 0)) n) 5 = v)) → fX13_firstCome 102 (nI n) y I1 (z_Rm mu) = some (v, m_ba J) := by
    intro v hw hv
    unfold fX13_firstCome
    rw [z_g_t m_ob, fX13_in_eq, z_b_s, if_neg c1, fX13_in_eq, z_b_s, if_neg c2, w0, z_b_s, if_pos (t_nw_0.mpr hw), m_as_eq, z_b_s, f1, z_b_s, m_ba_eq, z_b_s, m_ba_o (by decide), f3.2.2.2.2.1, f3.2.2.2.2.2]
    by_cases o : (t_ig I len T X W (t_S0 I (fun _ => 0)) n) 4 = -1
    · rw [if_pos o] at hv ⊢
      rw [hv]
    · rw [if_neg o] at hv ⊢
      by_cases y0 : y = 0
      · rw [if_pos y0] at hv ⊢
        rw [hv]
      · rw [if_neg y0] at hv ⊢
        rw [hv]
  rcases k2 with ⟨q, q1, q2, q3, rfl, q5⟩ | ⟨q1, q2⟩
  · have q2' := fun z => q2 ((nwq q).mpr z)
    have low : fX9_waitingBits 72 I1 (z_Rm mu) = some (nI (n_set (q_ws (t_is I len T X W (t_S0 I (fun _ => 0)) q)) 8)) := by rw [c_ws k1, q_ws_eq (tq q).1]
    by_cases q0 : q = 0
    · subst q0
      obtain ⟨r, hr⟩ : ∃ r, t_loD (q_ws (t_S0 I (fun _ => 0))) 8 = some r := by
        cases e : t_loD (q_ws (t_S0 I (fun _ => 0))) 8 with
        | some r => exact ⟨r, rfl⟩
        | none => exact absurd (t_loD_none.mp e) q2'
      have low' : fX9_waitingBits 72 I1 (z_Rm mu) = some (nI (n_set (q_ws (t_S0 I (fun _ => 0))) 8)) := low
      refine ⟨if y = 0 then nI r else 0, I1, I1, C _ _ q5 ?_, ?_, ?_⟩
      · dsimp only [z_x]
        rw [low', z_b_s, n_low_c, hr, z_b_s]
        by_cases y0 : y = 0
        · rw [if_pos y0, if_pos y0]; rfl
        · rw [if_neg y0, if_neg y0]; rfl
      · unfold fX13_firstCome
        rw [z_g_t m_ob, fX13_in_eq, z_b_s, if_neg c1, fX13_in_eq, z_b_s, if_neg c2, w0, z_b_s, if_neg (show ¬ nI (n_set (q_ws (t_S0 I (fun _ => 0))) 8) = 0 from fun z => q2' (t_nw_0.mp z)), n_low_m hr, z_b_s]
        split <;> rfl
      · refine rel_frame ⟨len, h⟩ (fun b k hk => ?_)
        by_cases hb : b = 103
        · subst hb; rw [b3]
        · exact k1.1 b k (k_clean h.2.2.2.2.2.1 (Or.inr rfl) hk (by omega) hb).2
    · obtain ⟨r, r1, r2, r3⟩ := t_first_at hE okm (by omega) q1 q2' (fun p hp => (nwq p).mp (q3 p hp))
      have r8 := t_loD_lt r1
      refine ⟨if y = 0 then nI r else nI q, I1, m_ba J, C _ _ q5 ?_, M _ ((nwq 0).mp (q3 0 (by omega))) ?_, fin⟩
      · dsimp only [z_x]
        rw [low, z_b_s, n_low_c, r1, z_b_s]
        by_cases y0 : y = 0
        · rw [if_pos y0, if_pos y0]; rfl
        · rw [if_neg y0, if_neg y0]
      · rw [if_neg (by rw [r2]; exact n_m1 (by omega))]
        by_cases y0 : y = 0
        · rw [if_pos y0, if_pos y0, r2]
        · rw [if_neg y0, if_neg y0, r3]
  · have f4 := t_fw_no hE okm n (fun p hp => (nwq p).mp (q1 p hp))
    exact ⟨-2, I1, m_ba J, C _ _ q2 rfl, M _ ((nwq 0).mp (q1 0 (by omega))) (by rw [if_pos f4]), fin⟩
