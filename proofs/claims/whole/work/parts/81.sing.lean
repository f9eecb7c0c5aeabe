/-! singing through a TICK: the picture's bounds; the class's loop -/
theorem n_max0 {a b : Nat} (ha : a < 2 ^ 30) (hb : b < 2 ^ 30) : z_max 0 (nI a - nI b) = nI (a - b) := by
  have h := pk_sub_toInt ha hb
  unfold z_max
  by_cases c : b < a
  · have : (0 : Int32) < nI a - nI b := by
      rw [Int32.lt_iff_toInt_lt, h]
      show (0 : Int) < _
      omega
    rw [if_pos this, n_sub (by omega)]
  · have : ¬ (0 : Int32) < nI a - nI b := by
      rw [Int32.lt_iff_toInt_lt, h]
      show ¬ (0 : Int) < _
      omega
    rw [if_neg this, show a - b = 0 by omega]
    rfl
def t_act (len : Nat → Nat) (i : Nat) (S : t_S) (a ph : Nat) : Prop := S.1 i 5 = nI a ∧ a ≤ len i ∧ S.1 i 6 = nI ph ∧ (∃ k, k ≤ 20 ∧ S.1 i 4 = nI k) ∧ (∃ k, k ≤ 20 ∧ S.1 i 7 = nI k) ∧ ((a < len i ∧ S.1 i 9 = 0) ∨ (ph = 0 ∧ (S.1 i 9 = 0 ∨ (S.1 i 9 = 1 ∧ a < len i))))
/-- what singing leaves alone -/
def q_fr (i : Nat) (S S' : t_S) : Prop := (∀ f, f < 5 → S'.1 i f = S.1 i f) ∧ (∀ j, j ≠ i → S'.1 j = S.1 j) ∧ S'.2 0 = S.2 0 ∧ S'.2 1 = S.2 1 ∧ S'.2 4 = S.2 4
theorem q_fr_r {i : Nat} {S : t_S} : q_fr i S S := ⟨fun _ _ => rfl, fun _ _ => rfl, rfl, rfl, rfl⟩
theorem q_fr_t {i : Nat} {S S' S'' : t_S} (h : q_fr i S S') (g : q_fr i S' S'') : q_fr i S S'' := ⟨fun f hf => (g.1 f hf).trans (h.1 f hf), fun j hj => (g.2.1 j hj).trans (h.2.1 j hj), g.2.2.1.trans h.2.2.1, g.2.2.2.1.trans h.2.2.2.1, g.2.2.2.2.trans h.2.2.2.2⟩
theorem q_fr_w {i f : Nat} {v : Int32} {S : t_S} (hf : 5 ≤ f) : q_fr i S (t_w S i f v) := ⟨fun g hg => t_w_f (by omega), fun j hj => t_w_j hj, rfl, rfl, rfl⟩
theorem q_fr_s {i k : Nat} {v : Int32} {S : t_S} (hk : k = 2 ∨ k = 3) : q_fr i S (t_s S k v) := ⟨fun _ _ => rfl, fun _ _ => rfl, by rw [t_s_eq, if_neg (by omega)], by rw [t_s_eq, if_neg (by omega)], by rw [t_s_eq, if_neg (by omega)]⟩
section TS
variable {E : z_He} {len : Nat → Nat} {T : Nat} {W : Nat → (Nat → Int32) → Int32} {fa : Nat → Int32} {i : Nat}
theorem t_spend_ok (hW : ∀ kd fa, ∃ w, w ≤ 60 ∧ W kd fa = nI w) {S : t_S} {k : Nat} (h7 : ∃ k, k ≤ 20 ∧ S.1 i 7 = nI k) : q_fr i S (t_spend E W fa i k S) ∧ (∃ k', k' ≤ 20 ∧ (t_spend E W fa i k S).1 i 7 = nI k') ∧ (t_spend E W fa i k S).1 i 5 = S.1 i 5 ∧ (t_spend E W fa i k S).1 i 6 = S.1 i 6 ∧ (t_spend E W fa i k S).1 i 9 = S.1 i 9 ∧ (t_spend E W fa i k S).2 2 = S.2 2 := by
  unfold t_spend
  by_cases c1 : E 106 (60 * i + k) = 0
  · rw [if_pos c1]
    exact ⟨q_fr_r, h7, rfl, rfl, rfl, rfl⟩
  · rw [if_neg c1]
    by_cases c2 : S.1 i 7 = 0
    · rw [if_pos c2]
      refine ⟨q_fr_t (q_fr_w (by decide)) (q_fr_s (Or.inr rfl)), ?_, ?_, ?_, ?_, ?_⟩
      · rw [t_s_1, t_w_f (by decide)]; exact h7
      · rw [t_s_1, t_w_f (by decide)]
      · rw [t_s_1, t_w_f (by decide)]
      · rw [t_s_1, t_w_f (by decide)]
      · rw [t_s_eq, if_neg (by decide)]; rfl
    · rw [if_neg c2]
      obtain ⟨b, hb, e⟩ := h7
      obtain ⟨w, hw, e2⟩ := hW 2 (t_f56 fa (S.1 i 7) (E 106 (60 * i + k)))
      refine ⟨q_fr_w (by decide), ⟨b - w, by omega, ?_⟩, ?_, ?_, ?_, rfl⟩
      · rw [t_w_at, e2, e, n_max0 (by omega) (by omega)]
      · rw [t_w_f (by decide)]
      · rw [t_w_f (by decide)]
      · rw [t_w_f (by decide)]
theorem t_end_ok {S : t_S} {k a ph : Nat} (ha : S.1 i 5 = nI a) (hl : a < len i) (h60 : len i ≤ 60) (hp : S.1 i 6 = nI ph) (h4 : ∃ k, k ≤ 20 ∧ S.1 i 4 = nI k) (h7 : ∃ k, k ≤ 20 ∧ S.1 i 7 = nI k) (h9 : S.1 i 9 = 0) : q_fr i S (t_end E len i k S) ∧ ∃ ph', ph' ≤ ph ∧ t_act len i (t_end E len i k S) (a + 1) ph' := by
  have S1 : ∃ S1, S1 = t_br E i k (t_s (t_w S i 5 (S.1 i 5 + 1)) 2 (S.2 2 + 1)) := ⟨_, rfl⟩
  obtain ⟨S1, e1⟩ := S1
  have q : q_fr i S S1 ∧ S1.1 i 5 = nI (a + 1) ∧ S1.1 i 6 = nI ph ∧ (∃ k, k ≤ 20 ∧ S1.1 i 4 = nI k) ∧ (∃ k, k ≤ 20 ∧ S1.1 i 7 = nI k) ∧ S1.1 i 9 = 0 := by
    rw [e1]
    unfold t_br
    by_cases c : E 108 (60 * i + k) = 1
    · rw [if_pos c]
      refine ⟨q_fr_t (q_fr_t (q_fr_w (by decide)) (q_fr_s (Or.inl rfl))) (q_fr_w (by decide)), ?_, ?_, ?_, ?_, ?_⟩
      · rw [t_w_f (by decide), t_s_1, t_w_at, ha, n_s1]
      · rw [t_w_f (by decide), t_s_1, t_w_f (by decide), hp]
      · rw [t_w_f (by decide), t_s_1, t_w_f (by decide)]; exact h4
      · rw [t_w_at, t_s_1, t_w_f (by decide)]; exact h4
      · rw [t_w_f (by decide), t_s_1, t_w_f (by decide), h9]
    · rw [if_neg c]
      refine ⟨q_fr_t (q_fr_w (by decide)) (q_fr_s (Or.inl rfl)), ?_, ?_, ?_, ?_, ?_⟩
      · rw [t_s_1, t_w_at, ha, n_s1]
      · rw [t_s_1, t_w_f (by decide), hp]
      · rw [t_s_1, t_w_f (by decide)]; exact h4
      · rw [t_s_1, t_w_f (by decide)]; exact h7
      · rw [t_s_1, t_w_f (by decide), h9]
  have e2 : t_end E len i k S = t_cl E len i k S1 := by rw [e1]; rfl
  rw [e2]
  obtain ⟨q1, q5, q6, q4, q7, q9⟩ := q
  unfold t_cl
  rw [q5]
  by_cases c : a + 1 < len i
  · rw [if_pos (nI_lt c (by omega))]
    by_cases c2 : E 107 (60 * i + k) = 1
    · rw [if_pos c2]
      refine ⟨q_fr_t q1 (q_fr_t (q_fr_w (by decide)) (q_fr_w (by decide))), 0, Nat.zero_le _, ?_, by omega, ?_, ?_, ?_, Or.inr ⟨rfl, Or.inr ⟨?_, c⟩⟩⟩
      · rw [t_w_f (by decide), t_w_f (by decide), q5]
      · rw [t_w_at]; rfl
      · rw [t_w_f (by decide), t_w_f (by decide)]; exact q4
      · rw [t_w_f (by decide), t_w_f (by decide)]; exact q7
      · rw [t_w_f (by decide), t_w_at]
    · rw [if_neg c2]
      exact ⟨q1, ph, Nat.le_refl ph, q5, by omega, q6, q4, q7, Or.inl ⟨c, q9⟩⟩
  · rw [if_neg (nI_nlt (by omega) (by omega))]
    refine ⟨q_fr_t q1 (q_fr_w (by decide)), 0, Nat.zero_le _, ?_, by omega, ?_, ?_, ?_, Or.inr ⟨rfl, Or.inl ?_⟩⟩
    · rw [t_w_f (by decide), q5]
    · rw [t_w_at]; rfl
    · rw [t_w_f (by decide)]; exact q4
    · rw [t_w_f (by decide)]; exact q7
    · rw [t_w_f (by decide), q9]
theorem t_beat_ok (hW : ∀ kd fa, ∃ w, w ≤ 60 ∧ W kd fa = nI w) {S : t_S} {a ph : Nat} (h60 : len i ≤ 60) (hT : 60 ≤ T) (h : t_act len i S a ph) (hp : T ≤ ph) : a < len i ∧ S.1 i 9 = 0 ∧ q_fr i S (t_beat E len T W fa i S) ∧ ∃ ph', ph' ≤ ph - T ∧ t_act len i (t_beat E len T W fa i S) (a + 1) ph' := by
  obtain ⟨h5, hal, h6, h4, h7, hor⟩ := h
  have hx : a < len i ∧ S.1 i 9 = 0 := by
    rcases hor with q | q
    · exact q
    · omega
  obtain ⟨s1, s2, s3, s4, s5, s6⟩ := t_spend_ok (E := E) (fa := fa) hW (S := t_w S i 6 (S.1 i 6 - nI T)) (i := i) (k := (S.1 i 5).toNatClampNeg) (by rw [t_w_f (by decide)]; exact h7)
  obtain ⟨e1, ph', e2, e3⟩ := t_end_ok (E := E) (len := len) (k := (S.1 i 5).toNatClampNeg) (a := a) (ph := ph - T) (by rw [s3, t_w_f (by decide), h5]) hx.1 h60 (by rw [s4, t_w_at, h6, n_sub hp]) (by rw [s1.1 4 (by decide), t_w_f (by decide)]; exact h4) s2 (by rw [s5, t_w_f (by decide), hx.2])
  exact ⟨hx.1, hx.2, q_fr_t (q_fr_w (by decide)) (q_fr_t s1 e1), ph', e2, e3⟩
theorem t_sing_ok (hW : ∀ kd fa, ∃ w, w ≤ 60 ∧ W kd fa = nI w) (h60 : len i ≤ 60) (hT : 60 ≤ T) (hT2 : T ≤ 600) : ∀ (n : Nat) (S : t_S) (a ph : Nat), t_act len i S a ph → ph < 60 * n → ph < 2 ^ 20 → q_fr i S (t_sing E len T W fa i n S) ∧ ∃ a' ph', a ≤ a' ∧ ph' < T ∧ t_act len i (t_sing E len T W fa i n S) a' ph' := by
  intro n
  induction n with
  | zero => intro S a ph h hp; omega
  | succ n ih =>
    intro S a ph h hp hp2
    unfold t_sing
    rw [h.2.2.1]
    by_cases c : ph < T
    · rw [if_pos (nI_lt c (by omega))]
      exact ⟨q_fr_r, a, ph, Nat.le_refl a, c, h⟩
    · rw [if_neg (nI_nlt (by omega) (by omega))]
      obtain ⟨-, -, e1, ph', e2, e3⟩ := t_beat_ok (E := E) (fa := fa) hW h60 hT h (by omega)
      obtain ⟨g1, a', p', g2, g3, g4⟩ := ih _ _ _ e3 (by omega) (by omega)
      exact ⟨q_fr_t e1 g1, a', p', by omega, g3, g4⟩
end TS
theorem c_sing {E : z_He} {mu len : Nat → Nat} {st T i : Nat} {X : (Nat → Int32) → Int32} {W : Nat → (Nat → Int32) → Int32} {fa : Nat → Int32} (hs : c_St st) (hR : RelL E mu len) (hL : t_Law E (mu 9) X W) (hT : E 3 5 = nI T) (hT1 : 60 ≤ T) (hT2 : T ≤ 600) (hi : i < 8) : ∀ (n c N : Nat) (I : z_He) (S : t_S) (a ph : Nat), t_act len i S a ph → ph < 60 * n → ph < 2 ^ 20 → c + n ≤ 60 → n ≤ N → c_In (mu 9) st E I S → (∀ j, j < 8 → j ≠ 5 → j ≠ 6 → I 61 j = fa j) → ∃ I', z_lp (fX2_sing_b2 59 (st + 2 + i) (mu i) (z_Rm mu)) N (nI c, I) = some I' ∧ c_In (mu 9) st E I' (t_sing E len T W fa i n S) ∧ I' 60 = I 60 := by
  have hst : st = 62 ∨ st = 72 ∨ st = 82 := hs
  have hA := (p_law hR.2.2.2.2.2.1).1
  have l60 := (hR.2.2.2.2.2.2.1 i hi).1
  intro n
  induction n with
  | zero => intro c N I S a ph h hp; omega
  | succ n ih =>
    intro c N I S a ph h hp hp2 hc hN hI hfa
    obtain ⟨N, rfl⟩ : ∃ q, N = q + 1 := ⟨N - 1, by omega⟩
    unfold t_sing
    rw [h.2.2.1]
    by_cases c1 : ph < T
    · rw [if_pos (nI_lt c1 (by omega))]
      refine ⟨I, ?_, hI, rfl⟩
      have hb : fX2_sing_b2 59 (st + 2 + i) (mu i) (z_Rm mu) (nI c, I) = some (.inr I) := by
        have e35 : I 3 5 = nI T := by rw [hI.1 3 5 (by unfold c_dirt; omega), hT]
        unfold fX2_sing_b2
        dsimp only
        rw [if_neg (show ¬ (60 : Int32) ≤ nI c from nI_ge (b := 60) (by omega) (by decide)), show z_Rm mu 59 0 = 3 from rfl, z_g_t o_3, hI.2.1 i 6 hi (by decide), e35, h.2.2.1, if_pos (nI_lt c1 (by omega))]
      unfold z_lp
      rw [hb]
    · rw [if_neg (nI_nlt (by omega) (by omega))]
      obtain ⟨q1, q2, e1, ph', e2, e3⟩ := t_beat_ok (E := E) (fa := fa) hL.2.1 l60 hT1 h (by omega)
      obtain ⟨I1, g1, g2, g3, g4⟩ := c_beat (c := c) hs hR hL hT hi hI hfa (by omega) h.1 q1 h.2.2.1 (by omega) hp2
      obtain ⟨I2, k1, k2, k3⟩ := ih (c + 1) N I1 _ _ _ e3 (by omega) (by omega) (by omega) (by omega) g2 g3
      refine ⟨I2, ?_, k2, by rw [k3, g4]⟩
      unfold z_lp
      rw [g1]
      exact k1
