/-! TICKS one behind the other -/
def t_eq (S S' : t_S) : Prop := S.1 = S'.1 ∧ S.2 0 = S'.2 0 ∧ S.2 1 = S'.2 1
section TQ
variable {E : z_He} {len at0 : Nat → Nat} {T i k : Nat} {S S' : t_S} {X : (Nat → Int32) → Int32} {W : Nat → (Nat → Int32) → Int32} {fa : Nat → Int32}
theorem t_eq_w {f : Nat} {v : Int32} (h : t_eq S S') : t_eq (t_w S i f v) (t_w S' i f v) := by
  refine ⟨?_, h.2.1, h.2.2⟩
  unfold t_w
  rw [h.1]
theorem t_eq_s {v v' : Int32} (h : t_eq S S') (hk : 2 ≤ k) : t_eq (t_s S k v) (t_s S' k v') := by
  refine ⟨h.1, ?_, ?_⟩
  · rw [t_s_eq, t_s_eq, if_neg (by omega), if_neg (by omega), h.2.1]
  · rw [t_s_eq, t_s_eq, if_neg (by omega), if_neg (by omega), h.2.2]
theorem t_eq_x {v : Int32} (h : t_eq S S') : t_eq (t_s S k v) (t_s S' k v) := by
  refine ⟨h.1, ?_, ?_⟩
  · rw [t_s_eq, t_s_eq, h.2.1]
  · rw [t_s_eq, t_s_eq, h.2.2]
theorem t_eq_spend (h : t_eq S S') : t_eq (t_spend E W fa i k S) (t_spend E W fa i k S') := by
  unfold t_spend
  rw [h.1]
  split
  · exact h
  · split
    · exact t_eq_s (t_eq_w h) (by decide)
    · exact t_eq_w h
theorem t_eq_end (h : t_eq S S') : t_eq (t_end E len i k S) (t_end E len i k S') := by
  have h1 : t_eq (t_s (t_w S i 5 (S.1 i 5 + 1)) 2 (S.2 2 + 1)) (t_s (t_w S' i 5 (S'.1 i 5 + 1)) 2 (S'.2 2 + 1)) := by
    rw [h.1]
    exact t_eq_s (t_eq_w h) (by decide)
  have h2 : t_eq (t_br E i k (t_s (t_w S i 5 (S.1 i 5 + 1)) 2 (S.2 2 + 1))) (t_br E i k (t_s (t_w S' i 5 (S'.1 i 5 + 1)) 2 (S'.2 2 + 1))) := by
    unfold t_br
    rw [h1.1]
    split
    · exact t_eq_w h1
    · exact h1
  unfold t_end t_cl
  rw [h2.1]
  split
  · split
    · exact t_eq_w (t_eq_w h2)
    · exact h2
  · exact t_eq_w h2
theorem t_eq_sing : ∀ (n : Nat) (S S' : t_S), t_eq S S' → t_eq (t_sing E len T W fa i n S) (t_sing E len T W fa i n S')
  | 0, _, _, h => h
  | n + 1, S, S', h => by
    unfold t_sing
    rw [h.1]
    split
    · exact h
    · refine t_eq_sing n _ _ ?_
      unfold t_beat
      rw [h.1]
      exact t_eq_end (t_eq_spend (t_eq_w h))
theorem t_eq_one (h : t_eq S S') : t_eq (t_one E len T X W at0 i S) (t_one E len T X W at0 i S') := by
  have hd : t_eq (t_draw S) (t_draw S') := by
    unfold t_draw
    rw [h.2.2]
    exact t_eq_x h
  unfold t_one t_turn
  rw [h.1, h.2.1, hd.2.2]
  split
  · exact h
  · split
    · split
      · split
        · split
          · refine t_eq_sing 13 _ _ ?_
            unfold t_go
            rw [hd.1]
            exact t_eq_w hd
          · exact t_eq_s hd (by decide)
        · exact h
      · exact t_eq_w h
    · exact h
theorem t_eq_run (h : t_eq S S') : ∀ n, t_eq (t_run E len T X W at0 S n) (t_run E len T X W at0 S' n)
  | 0 => h
  | n + 1 => t_eq_one (t_eq_run h n)
theorem t_eq_tick (h : t_eq S S') : t_eq (t_tick E len T X W S) (t_tick E len T X W S') := by
  have e : t_at S = t_at S' := by
    funext j
    unfold t_at
    rw [h.1]
  unfold t_tick
  rw [e, h.2.1]
  exact t_eq_x (t_eq_run h 8)
end TQ
/-- behind k TICKS, as many as can -/
def t_is (E : z_He) (len : Nat → Nat) (T : Nat) (X : (Nat → Int32) → Int32) (W : Nat → (Nat → Int32) → Int32) (S : t_S) : Nat → t_S
  | 0 => S
  | k + 1 => if (t_is E len T X W S k).2 0 < 99999 then t_tick E len T X W (t_is E len T X W S k) else t_is E len T X W S k
def t_gn (len : Nat → Nat) (S S' : t_S) (G : Nat → Int32) : Nat → Int32 := fun k => if k = 0 then G 0 + 1 else if k = 1 then z_max (G 1) (t_ap len S') else if k = 2 then t_nm (t_hiD (t_dn len S S') 8) (G 2) else if k = 3 then t_tm (t_hiD (t_dn len S S') 8) (G 3) (G 0 + 1) else if k = 4 then t_fw (t_loD (t_vn len S S') 8) (G 4) else t_ww (t_loD (t_vn len S S') 8) (G 4) (G 5) (G 0 + 1)
def t_G0 : Nat → Int32 := fun k => if k = 2 then -1 else if k = 4 then -1 else 0
def t_ig (E : z_He) (len : Nat → Nat) (T : Nat) (X : (Nat → Int32) → Int32) (W : Nat → (Nat → Int32) → Int32) (S : t_S) : Nat → Nat → Int32
  | 0 => t_G0
  | k + 1 => if (t_is E len T X W S k).2 0 < 99999 then t_gn len (t_is E len T X W S k) (t_tick E len T X W (t_is E len T X W S k)) (t_ig E len T X W S k) else t_ig E len T X W S k
/-- all that the TICKS rest on -/
def t_Env (E : z_He) (mu len : Nat → Nat) (T : Nat) (X : (Nat → Int32) → Int32) (W : Nat → (Nat → Int32) → Int32) : Prop := RelL E mu len ∧ t_Law E (mu 9) X W ∧ E 3 5 = nI T ∧ E 102 4 = nI T ∧ 60 ≤ T ∧ T ≤ 600
theorem t_env {E : z_He} {mu len : Nat → Nat} (h : RelL E mu len) : ∃ T X W, t_Env E mu len T X W := by
  obtain ⟨T, h1, h2, h3, h4⟩ := h.2.2.2.1.2.1
  obtain ⟨X, W, hl⟩ := law_both (p_law h.2.2.2.2.2.1).1 h.2.2.2.2.2.2.2.1
  exact ⟨T, X, W, h, hl, h3, h4, h1, h2⟩
section TR
variable {E B I : z_He} {mu len : Nat → Nat} {st T : Nat} {S S' : t_S} {X : (Nat → Int32) → Int32} {W : Nat → (Nat → Int32) → Int32}
theorem t_eq_is (h : t_eq S S') : ∀ n, t_eq (t_is E len T X W S n) (t_is E len T X W S' n)
  | 0 => h
  | n + 1 => by
    have ih := t_eq_is h n
    unfold t_is
    rw [ih.2.1]
    split
    · exact t_eq_tick ih
    · exact ih
theorem t_is_ok (hE : t_Env E mu len T X W) (hok : t_ok E len S) : ∀ n, t_ok E len (t_is E len T X W S n)
  | 0 => hok
  | n + 1 => by
    have ih := t_is_ok hE hok n
    obtain ⟨hR, hL, -, -, hT1, hT2⟩ := hE
    obtain ⟨m, hm, e⟩ := ih.2.2.1
    unfold t_is
    by_cases c : (t_is E len T X W S n).2 0 < 99999
    · rw [if_pos c]
      have c' : m < 99999 := by
        rw [e] at c
        exact (n_lt (b := 99999) (by omega) (by decide)).mp c
      exact (t_tick_ok hL.2.1 (fun j hj => (hR.2.2.2.2.2.2.1 j hj).1) hT1 hT2 ih c' e).1
    · rw [if_neg c]
      exact ih
theorem t_is_lt {n : Nat} (hok : t_ok E len S) (h : S.2 0 < 99999) : ∃ m, m < 99999 ∧ S.2 0 = nI m := by
  obtain ⟨m, hm, e⟩ := hok.2.2.1
  rw [e] at h
  exact ⟨m, (n_lt (b := 99999) (by omega) (by decide)).mp h, e⟩
/-- the class's step -/
theorem c_it (hs : c_St st) (hE : t_Env E mu len T X W) (hok : t_ok E len S) (h : c_In (mu 9) st E I S) : ∃ I', fX2_step 59 st I (z_Rm mu) = some (if S.2 0 < 99999 then 1 else 0, I') ∧ c_In (mu 9) st E I' (if S.2 0 < 99999 then t_tick E len T X W S else S) := by
  obtain ⟨hR, hL, hT, -, hT1, hT2⟩ := hE
  by_cases c : S.2 0 < 99999
  · obtain ⟨m, hm, e⟩ := t_is_lt (n := 0) hok c
    rw [if_pos c, if_pos c]
    exact c_tick hs hR hL hT hT1 hT2 h hok e hm
  · obtain ⟨m, hm, e⟩ := hok.2.2.1
    rw [if_neg c, if_neg c]
    refine ⟨I, c_tick_no hs h e ?_ (by omega), h⟩
    rw [e] at c
    exact Nat.not_lt.mp (fun q => c ((n_lt (b := 99999) (by omega) (by decide)).mpr q))
def m_GG (I : z_He) (G : Nat → Int32) : Prop := m_G I (G 0) (G 1) (G 2) (G 3) (G 4) (G 5)
theorem m_GG_gn {G : Nat → Int32} (h : m_G I (G 0 + 1) (z_max (G 1) (t_ap len S')) (t_nm (t_hiD (t_dn len S S') 8) (G 2)) (t_tm (t_hiD (t_dn len S S') 8) (G 3) (G 0 + 1)) (t_fw (t_loD (t_vn len S S') 8) (G 4)) (t_ww (t_loD (t_vn len S S') 8) (G 4) (G 5) (G 0 + 1))) : m_GG I (t_gn len S S' G) := by
  unfold m_GG t_gn
  rw [if_pos rfl, if_neg (by decide), if_pos rfl, if_neg (by decide), if_neg (by decide), if_pos rfl, if_neg (by decide), if_neg (by decide), if_neg (by decide), if_pos rfl, if_neg (by decide), if_neg (by decide), if_neg (by decide), if_neg (by decide), if_pos rfl, if_neg (by decide), if_neg (by decide), if_neg (by decide), if_neg (by decide), if_neg (by decide)]
  exact h
theorem m_it (hB : m_B (mu 9) E B) (hE : t_Env E mu len T X W) (hok : t_ok E len S) (h : m_In B I S) {G : Nat → Int32} (hG : m_GG I G) (hlt : S.2 0 < 99999) : ∃ I', fX13_tickGoes 102 I (z_Rm mu) = some I' ∧ m_In B I' (t_tick E len T X W S) ∧ m_GG I' (t_gn len S (t_tick E len T X W S) G) := by
  obtain ⟨hR, hL, -, hT, hT1, hT2⟩ := hE
  obtain ⟨m, hm, e⟩ := t_is_lt (n := 0) hok hlt
  obtain ⟨I', e1, e2, e3⟩ := m_tick hB hR hL hT hT1 hT2 hok e hm h hG
  exact ⟨I', e1, e2, m_GG_gn e3⟩
theorem t_is_stop {k : Nat} (h : ¬ (t_is E len T X W S k).2 0 < 99999) : ∀ d, t_is E len T X W S (k + d) = t_is E len T X W S k ∧ t_ig E len T X W S (k + d) = t_ig E len T X W S k
  | 0 => ⟨rfl, rfl⟩
  | d + 1 => by
    obtain ⟨h1, h2⟩ := t_is_stop h d
    have e1 : t_is E len T X W S (k + (d + 1)) = if (t_is E len T X W S (k + d)).2 0 < 99999 then t_tick E len T X W (t_is E len T X W S (k + d)) else t_is E len T X W S (k + d) := rfl
    have e2 : t_ig E len T X W S (k + (d + 1)) = if (t_is E len T X W S (k + d)).2 0 < 99999 then t_gn len (t_is E len T X W S (k + d)) (t_tick E len T X W (t_is E len T X W S (k + d))) (t_ig E len T X W S (k + d)) else t_ig E len T X W S (k + d) := rfl
    rw [e1, e2, h1, h2, if_neg h, if_neg h]
    exact ⟨rfl, rfl⟩
/-- the model's TICKS -/
theorem m_its (hB : m_B (mu 9) E B) (hE : t_Env E mu len T X W) (hok : t_ok E len S) {n : Nat} (hn : n ≤ 240) : ∀ (d k N : Nat) (J : z_He), k + d = n → d < N → m_In B J (t_is E len T X W S k) → m_GG J (t_ig E len T X W S k) → ∃ J', z_lp (fX13_ticksGo_b6 102 (nI n) (z_Rm mu)) N (nI k, J) = some J' ∧ m_In B J' (t_is E len T X W S n) ∧ m_GG J' (t_ig E len T X W S n) := by
  intro d
  induction d with
  | zero =>
    intro k N J e hN h hG
    have : k = n := by omega
    subst this
    obtain ⟨N, rfl⟩ : ∃ q, N = q + 1 := ⟨N - 1, by omega⟩
    refine ⟨J, ?_, h, hG⟩
    unfold z_lp fX13_ticksGo_b6
    dsimp only
    rw [if_pos (nI_le (Nat.le_refl k) (by omega))]
  | succ d ih =>
    intro k N J e hN h hG
    obtain ⟨N, rfl⟩ : ∃ q, N = q + 1 := ⟨N - 1, by omega⟩
    have hb : fX13_ticksGo_b6 102 (nI n) (z_Rm mu) (nI k, J) = _ := rfl
    conv at hb =>
      rhs
      unfold fX13_ticksGo_b6
    dsimp only at hb
    rw [if_neg (nI_ge (show k < n by omega) (by omega)), show z_Rm mu 102 0 = 103 from rfl, z_g_t (show z_ok 1 103 80 from k_103 (k := 80) (by decide)), show (80 : Int32).toNatClampNeg = 80 from rfl, h.2.2.1] at hb
    by_cases c : (t_is E len T X W S k).2 0 < 99999
    · obtain ⟨K, f1, f2, f3⟩ := m_it hB hE (t_is_ok hE hok k) h hG c
      rw [if_neg (fun q => by rw [Int32.lt_iff_toInt_lt] at c; rw [Int32.le_iff_toInt_le] at q; omega), f1, z_b_s, z_l_s, n_s1] at hb
      have e1 : t_is E len T X W S (k + 1) = t_tick E len T X W (t_is E len T X W S k) := if_pos c
      have e2 : t_ig E len T X W S (k + 1) = t_gn len (t_is E len T X W S k) (t_tick E len T X W (t_is E len T X W S k)) (t_ig E len T X W S k) := if_pos c
      rw [← e1] at f2 f3
      rw [e1, ← e2] at f3
      obtain ⟨J', g1, g2, g3⟩ := ih (k + 1) N K (by omega) (by omega) f2 f3
      refine ⟨J', ?_, g2, g3⟩
      unfold z_lp
      rw [hb]
      exact g1
    · rw [if_pos (show (99999 : Int32) ≤ (t_is E len T X W S k).2 0 by rw [Int32.lt_iff_toInt_lt] at c; rw [Int32.le_iff_toInt_le]; omega)] at hb
      obtain ⟨s1, s2⟩ := t_is_stop c (d + 1)
      rw [e] at s1 s2
      refine ⟨J, ?_, by rw [s1]; exact h, by rw [s2]; exact hG⟩
      unfold z_lp
      rw [hb]
/-- beginning the TICKS -/
def m_bt (I : z_He) : z_He := z_u (z_u (z_u (z_u (z_u (z_u (z_u (z_u (z_u I 102 43 0) 102 44 0) 102 45 0) 102 46 0) 102 47 0) 102 48 (-1)) 102 49 0) 102 50 (-1)) 102 51 0
theorem m_bt_eq : fX13_beginsTicks 102 I = some (m_bt I) := by
  unfold fX13_beginsTicks m_bt
  rw [z_g_t m_ob]
  simp only [z_l_s]
theorem m_bt_o {b : Nat} (h : b ≠ 102) : m_bt I b = I b := by
  unfold m_bt
  rw [u_o h, u_o h, u_o h, u_o h, u_o h, u_o h, u_o h, u_o h, u_o h]
theorem m_bt_k {k : Nat} (h : k < 43 ∨ 51 < k) : m_bt I 102 k = I 102 k := by
  unfold m_bt
  rw [z_u_k (by omega), z_u_k (by omega), z_u_k (by omega), z_u_k (by omega), z_u_k (by omega), z_u_k (by omega), z_u_k (by omega), z_u_k (by omega), z_u_k (by omega)]
theorem m_bt_G : m_GG (m_bt I) t_G0 := by
  unfold m_GG m_G m_bt t_G0
  simp [z_u_eq]
def t_S0 (E : z_He) (c : Nat → Int32) : t_S := (fun i f => E 103 (8 * f + i), fun k => if k = 0 then E 103 80 else if k = 1 then E 103 81 else c k)
theorem t_S0_ok {c : Nat → Int32} (hR : RelL E mu len) : t_ok E len (t_S0 E c) := ⟨fun i hi => v_at hR.2.1 hi, fun i f _ _ => rfl, hR.2.1.2.1, hR.2.1.2.2⟩
theorem m_bt_In (h : B 103 = E 103) : m_In B (m_bt B) (t_S0 E (fun _ => 0)) := by
  refine ⟨fun b k hd => ?_, fun i f hi hf => ?_, ?_, ?_, ?_, ?_, ?_⟩
  · by_cases hb : b = 102
    · subst hb
      exact m_bt_k (by unfold m_dirt at hd; omega)
    · rw [m_bt_o hb]
  · rw [m_bt_o (by decide), h]; rfl
  · rw [m_bt_o (by decide), h]; rfl
  · rw [m_bt_o (by decide), h]; rfl
  · unfold m_bt; simp [z_u_eq]; rfl
  · unfold m_bt; simp [z_u_eq]; rfl
  · unfold m_bt; simp [z_u_eq]; rfl
theorem m_go (hB : m_B (mu 9) E B) (hE : t_Env E mu len T X W) {n : Nat} (hn : n ≤ 240) : ∃ J', fX13_ticksGo 102 (nI n) B (z_Rm mu) = some J' ∧ m_In B J' (t_is E len T X W (t_S0 E (fun _ => 0)) n) ∧ m_GG J' (t_ig E len T X W (t_S0 E (fun _ => 0)) n) := by
  obtain ⟨J, e1, e2, e3⟩ := m_its hB hE (t_S0_ok (c := fun _ => 0) hE.1) hn n 0 300 (m_bt B) (by omega) (by omega) (m_bt_In (hB.1 103 (by decide) (by decide))) m_bt_G
  have e1' : z_lp (fX13_ticksGo_b6 102 (nI n) (z_Rm mu)) 300 ((0 : Int32), m_bt B) = some J := e1
  refine ⟨J, ?_, e2, e3⟩
  unfold fX13_ticksGo
  rw [z_g_t m_ob, m_bt_eq, z_b_s, e1', z_b_s]
end TR
