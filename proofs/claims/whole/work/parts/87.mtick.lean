/-! the model's turn and TICK -/
theorem m_In_id {B I : z_He} {S : t_S} {i f : Nat} {v : Int32} (h : m_In B I S) (hv : S.1 i f = v) : m_In B I (t_w S i f v) := by
  obtain ⟨h1, h2, h3, h4, h5, h6, h7⟩ := h
  refine ⟨h1, fun j g hj hg => ?_, h3, h4, h5, h6, h7⟩
  rw [t_w_eq, h2 j g hj hg]
  by_cases c : j = i ∧ g = f
  · rw [if_pos c, c.1, c.2, hv]
  · rw [if_neg c]
section MU
variable {E B I : z_He} {mu len at0 : Nat → Nat} {T i : Nat} {S : t_S} {X : (Nat → Int32) → Int32} {W : Nat → (Nat → Int32) → Int32}
theorem m_turn (hB : m_B (mu 9) E B) (hR : RelL E mu len) (hL : t_Law E (mu 9) X W) (hT : E 102 4 = nI T) (hT1 : 60 ≤ T) (hT2 : T ≤ 600) (h : m_In B I S) (hok : t_ok E len S) (hat : ∀ j, j < 8 → I 131 j = nI (at0 j) ∧ at0 j ≤ len j) (hi : i < 8) (ht : ¬ S.1 i 0 = 0) (ha : S.1 i 5 = nI (at0 i)) (hal : at0 i < len i) : ∃ I', fX13_turnOf 102 (nI i) I (z_Rm mu) = some I' ∧ m_In B I' (t_turn E len T X W at0 i S) ∧ I' 131 = I 131 ∧ m_gh I I' i (¬ (t_turn E len T X W at0 i S).1 i 5 < nI (len i)) (S.1 i 9 = 0 ∧ (t_turn E len T X W at0 i S).1 i 9 = 1) := by
  have hA := (p_law hR.2.2.2.2.2.1).1
  have l60 : ∀ j, j < 8 → len j ≤ 60 := fun j hj => (hR.2.2.2.2.2.2.1 j hj).1
  have l60i := l60 i hi
  obtain ⟨v1, v2, v3, v4, v5, v6, ⟨ph, hph, v7⟩, v8, v9, v10⟩ := hok.1 i hi
  have nd : ¬ ¬ S.1 i 5 < nI (len i) := fun q => q (by rw [ha]; exact nI_lt hal (by omega))
  have r9 : I 103 (72 + i) = S.1 i 9 := m_rd h hi (by decide) (by omega)
  unfold fX13_turnOf
  rw [z_g_t m_ob, show z_Rm mu 102 0 = 103 from rfl, n_l72, n_l48, n_l8, z_g_t (k_103 (show 72 + i < 82 by omega)), nI_clamp (show 72 + i < 2 ^ 31 by omega), r9]
  unfold t_turn
  by_cases c9 : S.1 i 9 = 0
  · rw [if_pos c9, if_neg (by rw [c9]; decide)]
    obtain ⟨I1, e1, e2, e3, e4⟩ := m_feels (at0 := at0) hB hR h hok hi ht (fun j hj => ⟨(hat j hj).1, Nat.le_trans (hat j hj).2 (l60 j hj)⟩) ha hal
    generalize hfa : t_let E at0 i (S.1 i 7) (S.2 0) = fa at e4 ⊢
    rw [e1, z_b_s]
    obtain ⟨I2, f1, f2⟩ := hL.2.2.2.2.1 mu I1 fa (m_In_law hA hB e2) e4
    rw [f1, z_b_s]
    dsimp only
    have g2 := m_In_fm e2 f2
    have q2 : ∀ b, b ≠ 123 → b ≠ 124 → I2 b = I b := fun b h1 h2 => by rw [f2 b h1, e3 b h2]
    have k2 : ∀ j, j < 8 → I2 124 j = fa j := fun j hj => by rw [f2 124 (by decide)]; exact e4 j hj
    by_cases cX : X fa = 0
    · rw [if_pos cX, if_pos cX]
      obtain ⟨I3, w1, w2⟩ := hL.2.2.2.2.2 mu I2 fa 0 (by decide) (m_In_law hA hB g2) k2
      have g3 := m_In_fm g2 w2
      obtain ⟨I4, x1, x2⟩ := hL.2.2.2.2.2 mu I3 fa 1 (by decide) (m_In_law hA hB g3) (fun j hj => by rw [w2 124 (by decide)]; exact k2 j hj)
      have g4 := m_In_fm g3 x2
      obtain ⟨I5, y1, y2⟩ := hL.2.2.2.2.2 mu I4 fa 3 (by decide) (m_In_law hA hB g4) (fun j hj => by rw [x2 124 (by decide), w2 124 (by decide)]; exact k2 j hj)
      have g5 := m_In_fm g4 y2
      have w1' : fX13_byLaw 102 (117 : Int32) (60 : Int32) I2 (z_Rm mu) = some (W 0 fa, I3) := w1
      have x1' : fX13_byLaw 102 (118 : Int32) (60 : Int32) I3 (z_Rm mu) = some (W 1 fa, I4) := x1
      have y1' : fX13_byLaw 102 (99 : Int32) (10 : Int32) I4 (z_Rm mu) = some (W 3 fa, I5) := y1
      have q5 : ∀ b, b ≠ 123 → b ≠ 124 → I5 b = I b := fun b h1 h2 => by rw [y2 b h1, x2 b h1, w2 b h1, q2 b h1 h2]
      have k5 : ∀ j, j < 8 → I5 124 j = fa j := fun j hj => by rw [y2 124 (by decide), x2 124 (by decide), w2 124 (by decide)]; exact k2 j hj
      rw [w1', z_b_s]
      dsimp only
      rw [x1', z_b_s]
      dsimp only
      rw [y1', z_b_s]
      dsimp only
      rw [z_g_t (show z_ok 1 103 81 from k_103 (k := 81) (by decide)), z_l_s, show (81 : Int32).toNatClampNeg = 81 from rfl, g5.2.2.2.1, z_u_at]
      have g6 : m_In B (z_u I5 103 81 (z_rem (25173 * S.2 1 + 13849) 65536)) (t_draw S) := m_In_x (k := 1) g5 (Or.inr rfl)
      have ex : (t_draw S).2 1 = z_rem (25173 * S.2 1 + 13849) 65536 := by
        unfold t_draw
        rw [t_s_eq, if_pos rfl]
      rw [← ex]
      rw [← ex] at g6
      by_cases cW : W 3 fa ≤ z_rem ((t_draw S).2 1) 10
      · rw [if_pos cW, if_pos cW, z_g_t (k_103 (show 48 + i < 82 by omega)), z_g_t (k_103 (show 8 + i < 82 by omega)), nI_clamp (show 48 + i < 2 ^ 31 by omega), nI_clamp (show 8 + i < 2 ^ 31 by omega), m_rd g6 hi (f := 6) (by decide) (show 48 + i = 8 * 6 + i by omega), m_rd g6 hi (f := 1) (by decide) (show 8 + i = 8 * 1 + i by omega), fX13_max_eq, z_b_s, z_l_s]
        obtain ⟨w0, b0, p0⟩ := hL.2.1 0 fa
        obtain ⟨w1, b1, p1⟩ := hL.2.1 1 fa
        obtain ⟨inc, hinc, einc⟩ := n_inc (d := S.1 i 1) (w0 := w0) (w1 := w1) v2.1 v2.2 b0 b1
        rw [← p0, ← p1] at einc
        have g7 : m_In B (z_u (z_u I5 103 81 ((t_draw S).2 1)) 103 (48 + i) ((t_draw S).1 i 6 + z_max 0 (60 + (t_draw S).1 i 1 + W 0 fa - W 1 fa))) (t_go (t_draw S) i (60 + S.1 i 1 + W 0 fa - W 1 fa)) := m_In_w g6 hi (by decide) (by omega)
        have act : t_act len i (t_go (t_draw S) i (60 + S.1 i 1 + W 0 fa - W 1 fa)) (at0 i) (ph + inc) := by
          unfold t_go
          refine ⟨?_, by omega, ?_, ?_, ?_, Or.inl ⟨hal, ?_⟩⟩
          · rw [t_w_f (by decide)]; exact ha
          · rw [t_w_at, einc]
            show S.1 i 6 + nI inc = _
            rw [v7, n_add]
          · rw [t_w_f (by decide)]; exact v5
          · rw [t_w_f (by decide)]; exact v8
          · rw [t_w_f (by decide)]; exact c9
        obtain ⟨I8, z1, z2, z3, z4⟩ := m_sing (fa := fa) hB hR hL hT hT1 hT2 hi 13 300 _ _ _ _ act hal (by unfold t_go; rw [t_w_f (by decide)]; exact c9) (by omega) (by omega) (by decide) g7 (fun j hj _ _ => by rw [u_o (by decide), u_o (by decide)]; exact k5 j hj)
        rw [z1, z_b_s]
        refine ⟨I8, rfl, z2, by rw [z3, u_o (by decide), u_o (by decide), q5 131 (by decide) (by decide)], ?_⟩
        refine m_gh_pre (fun k h1 h2 => ?_) (m_gh_iff z4 Iff.rfl ⟨fun q => q.2, fun q => ⟨c9, q⟩⟩)
        rw [u_o (by decide), u_o (by decide), q5 102 (by decide) (by decide)]
      · rw [if_neg cW, if_neg cW, z_l_s, g6.2.2.2.2.2.2]
        refine ⟨_, rfl, m_In_c (k := 4) g6 (Or.inr (Or.inr rfl)), by rw [u_o (by decide), u_o (by decide), q5 131 (by decide) (by decide)], m_gh_no (fun k h1 h2 => ?_) nd (fun q => ?_)⟩
        · rw [z_u_k (by omega), u_o (by decide), q5 102 (by decide) (by decide)]
        · have q3 : S.1 i 9 = 1 := q.2
          rw [c9] at q3
          exact absurd q3 (by decide)
    · rw [if_neg cX, if_neg cX]
      refine ⟨I2, rfl, g2, q2 131 (by decide) (by decide), m_gh_no (fun k h1 h2 => by rw [q2 102 (by decide) (by decide)]) nd (fun q => ?_)⟩
      rw [c9] at q
      exact absurd q.2 (by decide)
  · have c91 : S.1 i 9 = 1 := v9.resolve_left c9
    rw [if_neg c9, if_pos c91, m_came hB hR h hok hi hat, z_b_s, z_l_s]
    have nd' : ∀ v, ¬ ¬ (t_w S i 9 v).1 i 5 < nI (len i) := fun v => by rw [t_w_f (by decide)]; exact nd
    by_cases c : t_came E len at0 i = true
    · rw [if_pos c, if_pos c, if_neg (by decide)]
      exact ⟨_, rfl, m_In_w h hi (by decide) (by omega), by rw [u_o (by decide)], m_gh_no (fun _ _ _ => by rw [u_o (by decide)]) (nd' _) (fun q => c9 q.1)⟩
    · rw [if_neg c, if_neg c, if_pos rfl]
      exact ⟨I, rfl, m_In_id h c91, rfl, m_gh_no (fun _ _ _ => rfl) (nd' _) (fun q => c9 q.1)⟩
end MU
/-! how far apart -/
def a_lo (p : Nat → Bool) (v : Nat → Nat) : Nat → Nat
  | 0 => 60
  | k + 1 => if p k = true then min (a_lo p v k) (v k) else a_lo p v k
def a_hi (p : Nat → Bool) (v : Nat → Nat) : Nat → Nat
  | 0 => 0
  | k + 1 => if p k = true then max (a_hi p v k) (v k) else a_hi p v k
theorem a_bd {p : Nat → Bool} {v : Nat → Nat} (hv : ∀ k, k < 8 → v k ≤ 60) : ∀ k, k ≤ 8 → a_lo p v k ≤ 60 ∧ a_hi p v k ≤ 60 ∧ (n_any p k = false → a_lo p v k = 60 ∧ a_hi p v k = 0)
  | 0, _ => by simp [a_lo, a_hi]
  | k + 1, hk => by
    obtain ⟨h1, h2, h3⟩ := a_bd (p := p) hv k (by omega)
    have h4 := hv k (by omega)
    unfold a_lo a_hi n_any
    by_cases c : p k = true
    · rw [if_pos c, if_pos c, c]
      refine ⟨by omega, by omega, fun q => ?_⟩
      simp at q
    · have c' : p k = false := by simpa using c
      rw [if_neg c, if_neg c, c']
      refine ⟨by omega, by omega, fun q => h3 ?_⟩
      simpa using q
/-- told and not done -/
def t_on (len : Nat → Nat) (S : t_S) (j : Nat) : Bool := !decide (S.1 j 0 = 0) && decide (S.1 j 5 < nI (len j))
def t_ap (len : Nat → Nat) (S : t_S) : Int32 := nI (a_hi (t_on len S) (t_at S) 8 - a_lo (t_on len S) (t_at S) 8)
section AP
variable {E B I : z_He} {mu len : Nat → Nat} {st : Nat} {S : t_S}
theorem c_ap (hs : c_St st) (hR : RelL E mu len) (h : c_In (mu 9) st E I S) (hok : t_ok E len S) : fX2_apart 59 st I (z_Rm mu) = some (t_ap len S) := by
  have hP := hR.2.2.2.2.2.1
  have h60 : ∀ j, j < 8 → len j ≤ 60 := fun j hj => (hR.2.2.2.2.2.2.1 j hj).1
  obtain ⟨h1, h2, h3, h4⟩ := c_st hs mu
  have hat := fun j (hj : j < 8) => t_at_ok hok h60 hj
  have v60 : ∀ j, j < 8 → t_at S j ≤ 60 := fun j hj => Nat.le_trans (hat j hj).2 (h60 j hj)
  have lp : z_lp (fX2_apart_b8 59 st I (z_Rm mu)) 300 ((0 : Int32), (60 : Int32), (0 : Int32)) = some (nI (a_hi (t_on len S) (t_at S) 8), nI (a_lo (t_on len S) (t_at S) 8)) := by
    refine z_lp_tr (fun k => (nI (a_hi (t_on len S) (t_at S) k), nI (a_lo (t_on len S) (t_at S) k), nI k)) (n := 8) (fun k hk => ?_) ?_ 300 (by decide)
    · have hl : I (mu k) 3 = nI (len k) := (c_roll hs hR hk h).2.1
      have b1 := a_bd (p := t_on len S) v60 k (by omega)
      have b2 := v60 k hk
      unfold fX2_apart_b8
      dsimp only
      rw [if_neg (n_8 hk), h2, z_g_t (n_ok h3 hk (by decide)), c_isDone hs hP hk, z_b_s]
      simp only [nI_clamp (show k < 2 ^ 31 by omega), (h4 k hk).1, z_g_t (h4 k hk).2, z_l_s, n_s1]
      rw [h.2.1 k 0 hk (by decide), h.2.1 k 5 hk (by decide), hl, (n_mx (show a_hi (t_on len S) (t_at S) k < 2 ^ 31 by omega) (show t_at S k < 2 ^ 31 by omega) |>.1 |> fun q => show z_max (nI (a_hi (t_on len S) (t_at S) k)) (S.1 k 5) = nI (max (a_hi (t_on len S) (t_at S) k) (t_at S k)) by rw [(hat k hk).1]; exact q), (n_mn (show a_lo (t_on len S) (t_at S) k < 2 ^ 31 by omega) (show t_at S k < 2 ^ 31 by omega) |>.1 |> fun q => show z_min (nI (a_lo (t_on len S) (t_at S) k)) (S.1 k 5) = nI (min (a_lo (t_on len S) (t_at S) k) (t_at S k)) by rw [(hat k hk).1]; exact q)]
      show _ = some (Sum.inl (nI (if t_on len S k = true then _ else _), nI (if t_on len S k = true then _ else _), _))
      by_cases c0 : S.1 k 0 = 0
      · have e : t_on len S k = false := by unfold t_on; simp [c0]
        rw [if_pos c0, e]
        rfl
      · rw [if_neg c0]
        by_cases c5 : S.1 k 5 < nI (len k)
        · have e : t_on len S k = true := by unfold t_on; simp [c0, c5]
          rw [if_pos c5, if_pos rfl, e]
          rfl
        · have e : t_on len S k = false := by unfold t_on; simp [c5]
          rw [if_neg c5, if_neg (by decide), e]
          rfl
    · unfold fX2_apart_b8
      dsimp only
      rw [if_pos n_88]
  have b := a_bd (p := t_on len S) v60 8 (Nat.le_refl 8)
  unfold fX2_apart t_ap
  rw [z_g_t (show z_ob 59 2 from rfl), z_g_t h1, lp, z_b_s, n_max0 (by omega) (by omega)]
theorem m_ap (hB : m_B (mu 9) E B) (hR : RelL E mu len) (h : m_In B I S) (hok : t_ok E len S) : fX13_apartNow 102 I (z_Rm mu) = some (t_ap len S) := by
  have h60 : ∀ j, j < 8 → len j ≤ 60 := fun j hj => (hR.2.2.2.2.2.2.1 j hj).1
  have hat := fun j (hj : j < 8) => t_at_ok hok h60 hj
  have v60 : ∀ j, j < 8 → t_at S j ≤ 60 := fun j hj => Nat.le_trans (hat j hj).2 (h60 j hj)
  have lp : z_lp (fX13_apartNow_b10 102 I (z_Rm mu)) 300 ((1000000 : Int32), (-1000000 : Int32), (0 : Int32)) = some (if n_any (t_on len S) 8 = true then nI (a_lo (t_on len S) (t_at S) 8) else 1000000, if n_any (t_on len S) 8 = true then nI (a_hi (t_on len S) (t_at S) 8) else -1000000) := by
    refine z_lp_tr (fun k => (if n_any (t_on len S) k = true then nI (a_lo (t_on len S) (t_at S) k) else 1000000, if n_any (t_on len S) k = true then nI (a_hi (t_on len S) (t_at S) k) else -1000000, nI k)) (n := 8) (fun k hk => ?_) ?_ 300 (by decide)
    · have b1 := a_bd (p := t_on len S) v60 k (by omega)
      have b2 := v60 k hk
      have t0 : I 103 k = S.1 k 0 := m_rd h hk (by decide) (by omega)
      have t5 : I 103 (40 + k) = nI (t_at S k) := by rw [m_rd h hk (f := 5) (by decide) (by omega)]; exact (hat k hk).1
      have t01 := (hok.1 k hk).1
      unfold fX13_apartNow_b10
      dsimp only
      rw [if_neg (n_8 hk), m_told hk, z_b_s, m_done hB hR h hk, z_b_s, show z_Rm mu 102 0 = 103 from rfl, n_l40, z_g_t (k_103 (show 40 + k < 82 by omega)), nI_clamp (show 40 + k < 2 ^ 31 by omega), t5, t0]
      have ea : n_any (t_on len S) (k + 1) = (n_any (t_on len S) k || t_on len S k) := rfl
      have el : a_lo (t_on len S) (t_at S) (k + 1) = if t_on len S k = true then min (a_lo (t_on len S) (t_at S) k) (t_at S k) else a_lo (t_on len S) (t_at S) k := rfl
      have eh : a_hi (t_on len S) (t_at S) (k + 1) = if t_on len S k = true then max (a_hi (t_on len S) (t_at S) k) (t_at S k) else a_hi (t_on len S) (t_at S) k := rfl
      simp only [z_l_s, n_s1]
      by_cases on : t_on len S k = true
      · have c0 : ¬ S.1 k 0 = 0 := by unfold t_on at on; simp at on; exact on.1
        have c5 : S.1 k 5 < nI (len k) := by unfold t_on at on; simp at on; exact on.2
        rw [if_pos on] at el eh
        rw [on, Bool.or_true] at ea
        rw [if_pos (t01.resolve_left c0), if_neg (by decide), if_pos c5, if_pos rfl, ea, if_pos rfl, if_pos rfl, el, eh]
        by_cases ca : n_any (t_on len S) k = true
        · rw [if_pos ca, if_pos ca, (n_mn (show a_lo (t_on len S) (t_at S) k < 2 ^ 31 by omega) (show t_at S k < 2 ^ 31 by omega)).2, z_b_s, (n_mx (show a_hi (t_on len S) (t_at S) k < 2 ^ 31 by omega) (show t_at S k < 2 ^ 31 by omega)).2, z_b_s]
        · have em : fX13_max (-1000000) (nI (t_at S k)) = some (nI (t_at S k)) := by
            unfold fX13_max
            rw [if_pos (by rw [Int32.le_iff_toInt_le, nI_toInt (by omega), show (-1000000 : Int32).toInt = -1000000 from rfl]; omega)]
          have ca' : n_any (t_on len S) k = false := by simpa using ca
          obtain ⟨z1, z2⟩ := b1.2.2 ca'
          have emi : fX13_min (1000000 : Int32) (nI (t_at S k)) = some (nI (min 1000000 (t_at S k))) := (n_mn (a := 1000000) (by decide) (show t_at S k < 2 ^ 31 by omega)).2
          rw [if_neg ca, if_neg ca, emi, z_b_s, em, z_b_s, z1, z2, show min 1000000 (t_at S k) = min 60 (t_at S k) by omega, show max 0 (t_at S k) = t_at S k by omega]
      · rw [if_neg on] at el eh
        have on' : t_on len S k = false := by simpa using on
        rw [on', Bool.or_false] at ea
        rw [ea, el, eh]
        by_cases c0 : S.1 k 0 = 0
        · rw [if_neg (show ¬ S.1 k 0 = 1 by rw [c0]; decide), if_pos rfl]
        · rw [if_pos (t01.resolve_left c0), if_neg (by decide)]
          by_cases c5 : S.1 k 5 < nI (len k)
          · exact absurd (show t_on len S k = true by unfold t_on; simp [c0, c5]) on
          · rw [if_neg c5, if_neg (by decide)]
    · unfold fX13_apartNow_b10
      dsimp only
      rw [if_pos n_88]
  have b := a_bd (p := t_on len S) v60 8 (Nat.le_refl 8)
  unfold fX13_apartNow t_ap
  rw [z_g_t m_ob, lp, z_b_s, fX13_max_eq, z_b_s]
  dsimp only
  by_cases ca : n_any (t_on len S) 8 = true
  · rw [if_pos ca, if_pos ca, n_max0 (by omega) (by omega)]
  · have ca' : n_any (t_on len S) 8 = false := by simpa using ca
    obtain ⟨z1, z2⟩ := b.2.2 ca'
    rw [if_neg ca, if_neg ca, z1, z2]
    decide
end AP
