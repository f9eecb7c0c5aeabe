/-! the class's turn and TICK -/
theorem n_inc {d : Int32} {w0 w1 : Nat} (h1 : -20 ≤ d.toInt) (h2 : d.toInt ≤ 20) (hw0 : w0 ≤ 60) (hw1 : w1 ≤ 60) : ∃ inc, inc ≤ 140 ∧ z_max 0 (60 + d + nI w0 - nI w1) = nI inc := by
  have sp := n_speed h1 h2
  obtain ⟨k, hk⟩ : ∃ k : Nat, (60 + d.toInt) = (k : Int) := ⟨(60 + d.toInt).toNat, by omega⟩
  have e1 : (60 : Int32) + d = nI k := by rw [← Int32.toInt_inj, sp, nI_toInt (by omega), hk]
  exact ⟨k + w0 - w1, by omega, by rw [e1, n_add, n_max0 (by omega) (by omega)]⟩
section CU
variable {E I : z_He} {mu len at0 : Nat → Nat} {st T i : Nat} {S : t_S} {X : (Nat → Int32) → Int32} {W : Nat → (Nat → Int32) → Int32}
theorem c_came (hs : c_St st) (hR : RelL E mu len) (h : c_In (mu 9) st E I S) (hok : t_ok E len S) (hat : ∀ j, j < 8 → I 60 j = nI (at0 j) ∧ at0 j ≤ len j) (hi : i < 8) : fX5_fermatasWithin (mu i) (nI (at0 i)) I (z_Rm mu) = some (nI (t_F E i (at0 i))) ∧ fX2_allHaveCome 59 st (nI (t_F E i (at0 i))) I (z_Rm mu) = some (if t_came E len at0 i = true then 1 else 0) := by
  have hst : st = 62 ∨ st = 72 ∨ st = 82 := hs
  have hP := hR.2.2.2.2.2.1
  have hA := (p_law hP).1
  obtain ⟨h1, h2, h3, h4⟩ := c_st hs mu
  have e7 : I 107 = E 107 := funext fun k => h.1 107 k (by unfold c_dirt; omega)
  have rl : ∀ j, j < 8 → r_Roll I j (mu j) (len j) := fun j hj => c_roll hs hR hj h
  have fw : ∀ j m, j < 8 → m ≤ len j → fX5_fermatasWithin (mu j) (nI m) I (z_Rm mu) = some (nI (t_F E j m)) := fun j m hj hm => by
    rw [c_fermW hP hj (rl j hj) hm, e7]
    rfl
  have fb : ∀ j m, t_F E j m ≤ m := by
    intro j m
    unfold t_F
    induction m with
    | zero => exact Nat.le_refl 0
    | succ m ih => unfold r_sum; split <;> omega
  refine ⟨fw i _ hi (hat i hi).2, ?_⟩
  have bi := fb i (at0 i)
  have li := (rl i hi).1
  have hai := (hat i hi).2
  unfold fX2_allHaveCome t_came
  rw [z_g_t (show z_ob 59 2 from rfl), z_g_t h1]
  have lp := lp_all (body := fX2_allHaveCome_b2 59 st (nI (t_F E i (at0 i))) I (z_Rm mu)) (e := fun j => E 103 j == 0 || decide (t_F E j (len j) < t_F E i (at0 i)) || decide (t_F E i (at0 i) ≤ t_F E j (at0 j))) (n := 8) (x := .inl (0 : Int32)) (y := .inr ()) (fun k hk => ?_) ?_ 8 0 300 (by decide) (by decide)
  · have lp' : z_lp (fX2_allHaveCome_b2 59 st (nI (t_F E i (at0 i))) I (z_Rm mu)) 300 (0 : Int32) = _ := lp
    rw [lp', z_b_s]
    by_cases c : n_al (fun j => E 103 j == 0 || decide (t_F E j (len j) < t_F E i (at0 i)) || decide (t_F E i (at0 i) ≤ t_F E j (at0 j))) 0 8 = true
    · rw [if_pos c, if_pos c]; rfl
    · rw [if_neg c, if_neg c]; rfl
  · have hr := o_roll hP (show k < 9 by omega)
    have bk := fb k (at0 k)
    have bk2 := fb k (len k)
    have lk := (rl k hk).1
    have hak := (hat k hk).2
    unfold fX2_allHaveCome_b2 fX5_fermatas
    dsimp only
    rw [if_neg (n_8 hk), show z_Rm mu 59 0 = 3 from rfl, show z_Rm mu 59 1 = 60 from rfl, show z_Rm mu 3 0 = 4 from rfl, z_g_t o_3, z_g_t (k_4 hk), h2, z_g_t (n_ok (n := 8) (show z_len 1 60 = 8 from rfl) hk (by decide))]
    simp only [nI_clamp (show k < 2 ^ 31 by omega), r_4 hk, (h4 k hk).1, z_g_t (n_ok h3 hk (by decide)), z_g_t hr.1, z_g_t (h4 k hk).2, (rl k hk).2.1, fw k (len k) hk (Nat.le_refl _), (hat k hk).1, fw k (at0 k) hk hak, z_b_s, z_l_s, n_s1]
    have e0 : I (st + 2 + k) 0 = E 103 k := by
      rw [h.2.1 k 0 hk (by decide), hok.2.1 k 0 hk (by decide), show 8 * 0 + k = k by omega]
    rw [e0]
    by_cases c0 : E 103 k = 0
    · rw [if_pos c0, if_pos (by simp [c0])]
    · rw [if_neg c0]
      by_cases c1 : t_F E k (len k) < t_F E i (at0 i)
      · rw [if_pos (nI_lt c1 (by omega)), if_pos (by simp [c1])]
      · rw [if_neg (nI_nlt (by omega) (by omega))]
        by_cases c2 : t_F E i (at0 i) ≤ t_F E k (at0 k)
        · rw [if_pos (nI_le c2 (by omega)), if_pos (by simp [c2])]
        · rw [if_neg (nI_ge (by omega) (by omega)), if_neg (by simp [c0]; omega)]
  · unfold fX2_allHaveCome_b2
    dsimp only
    rw [if_pos n_88]
/-- the class's turn of a singer that is told and not done -/
theorem c_turn (hs : c_St st) (hR : RelL E mu len) (hL : t_Law E (mu 9) X W) (hT : E 3 5 = nI T) (hT1 : 60 ≤ T) (hT2 : T ≤ 600) (h : c_In (mu 9) st E I S) (hok : t_ok E len S) (hat : ∀ j, j < 8 → I 60 j = nI (at0 j) ∧ at0 j ≤ len j) (hi : i < 8) (ha : S.1 i 5 = nI (at0 i)) (hal : at0 i < len i) : ∃ q I', fX2_goesOn 59 st (nI i) I (z_Rm mu) = some (q, I') ∧ I' 60 = I 60 ∧ ((q = 0 ∧ c_In (mu 9) st E I' (t_turn E len T X W at0 i S)) ∨ (q = 1 ∧ ∃ I2, fX2_sing 59 (st + 2 + i) (mu i) I' (z_Rm mu) = some I2 ∧ I2 60 = I 60 ∧ c_In (mu 9) st E I2 (t_turn E len T X W at0 i S))) := by
  have hst : st = 62 ∨ st = 72 ∨ st = 82 := hs
  have hP := hR.2.2.2.2.2.1
  have hA := (p_law hP).1
  have hV := hok.1 i hi
  have l60 := fun j hj => (hR.2.2.2.2.2.2.1 j hj).1
  obtain ⟨h1, h2, h3, h4⟩ := c_st hs mu
  have hr := o_roll hP (show i < 9 by omega)
  obtain ⟨v1, v2, v3, v4, v5, v6, ⟨ph, hph, v7⟩, v8, v9, v10⟩ := hV
  unfold fX2_goesOn
  rw [z_g_t (show z_ob 59 2 from rfl), z_g_t h1, fX12_isSinger_eq, z_b_s, n_in7' hi, if_neg (by decide), h2, z_g_t (n_ok h3 hi (by decide)), show z_Rm mu 59 0 = 3 from rfl, show z_Rm mu 59 1 = 60 from rfl, show z_Rm mu 59 2 = 61 from rfl, show z_Rm mu 3 0 = 4 from rfl, show z_Rm mu 3 2 = mu 9 from rfl, z_g_t (k_4 hi), z_g_t (n_ok (n := 8) (show z_len 1 60 = 8 from rfl) hi (by decide))]
  simp only [nI_clamp (show i < 2 ^ 31 by omega), (h4 i hi).1, r_4 hi, z_g_t hr.1, z_g_t o_3, z_g_t (o_law hP), z_g_t (h4 i hi).2]
  rw [h.2.1 i 9 hi (by decide)]
  unfold t_turn
  by_cases c9 : S.1 i 9 = 0
  · rw [if_pos c9, if_pos c9]
    obtain ⟨I1, e1, e2, e3, e4⟩ := c_letters hs hR h hok (fun j hj => ⟨(hat j hj).1, Nat.le_trans (hat j hj).2 (l60 j hj)⟩) hi ha hal
    rw [e1, z_b_s]
    obtain ⟨I2, f1, f2⟩ := hL.2.2.1 mu I1 _ (c_In_law hs hA e2) e4
    rw [f1, z_b_s]
    dsimp only
    have g2 := c_In_fr hs hA e2 f2
    have k60 : I2 60 = I 60 := by
      rw [← e3]
      exact funext fun j => f2 60 j (by omega) (by omega)
    have k61 : ∀ j, j < 8 → I2 61 j = t_let E at0 i (S.1 i 7) (S.2 0) j := fun j hj => by rw [f2 61 j (by omega) (by omega)]; exact e4 j hj
    generalize hfa : t_let E at0 i (S.1 i 7) (S.2 0) = fa at k61 ⊢
    by_cases cX : X fa = 0
    · rw [if_pos cX, if_pos cX]
      have g3 : c_In (mu 9) st E (z_u I2 st 2 (z_rem (25173 * S.2 1 + 13849) 65536)) (t_draw S) := c_In_x hs hA (k := 1) g2 (Or.inr rfl)
      have dr : fX9_draw st I2 = some (z_rem ((t_draw S).2 1) 10, z_u I2 st 2 (z_rem (25173 * S.2 1 + 13849) 65536)) := by
        unfold fX9_draw
        rw [z_g_t h1, z_l_s, g2.2.2.2.1, z_u_at]
        unfold t_draw
        rw [t_s_eq, if_pos rfl]
      rw [dr, z_b_s]
      dsimp only
      obtain ⟨I4, w1, w2⟩ := hL.2.2.2.1 mu _ fa 3 (by decide) (c_In_law hs hA g3) (fun j hj => by rw [u_o (by omega)]; exact k61 j hj)
      have w1' : fX3_worth (mu 9) (3 : Int32) 61 (z_u I2 st 2 (z_rem (25173 * S.2 1 + 13849) 65536)) (z_Rm mu) = some (W 3 fa, I4) := w1
      rw [w1', z_b_s]
      dsimp only
      have g4 := c_In_fr hs hA g3 w2
      have m60 : I4 60 = I 60 := by
        rw [← k60]
        funext j
        rw [w2 60 j (by omega) (by omega), u_o (by omega)]
      have m61 : ∀ j, j < 8 → I4 61 j = fa j := fun j hj => by rw [w2 61 j (by omega) (by omega), u_o (by omega)]; exact k61 j hj
      by_cases cW : W 3 fa ≤ z_rem ((t_draw S).2 1) 10
      · rw [if_pos cW, if_pos cW]
        have sp : fX8_speed (st + 2 + i) I4 = some (60 + S.1 i 1) := by
          unfold fX8_speed
          rw [z_g_t (h4 i hi).2, g4.2.1 i 1 hi (by decide)]
          rfl
        rw [sp, z_b_s]
        obtain ⟨I5, x1, x2⟩ := hL.2.2.2.1 mu _ fa 0 (by decide) (c_In_law hs hA g4) m61
        have g5 := c_In_fr hs hA g4 x2
        obtain ⟨I6, y1, y2⟩ := hL.2.2.2.1 mu _ fa 1 (by decide) (c_In_law hs hA g5) (fun j hj => by rw [x2 61 j (by omega) (by omega)]; exact m61 j hj)
        have g6 := c_In_fr hs hA g5 y2
        have x1' : fX3_worth (mu 9) (0 : Int32) 61 I4 (z_Rm mu) = some (W 0 fa, I5) := x1
        have y1' : fX3_worth (mu 9) (1 : Int32) 61 I5 (z_Rm mu) = some (W 1 fa, I6) := y1
        rw [x1', z_b_s]
        dsimp only
        rw [y1', z_b_s, z_l_s, z_l_s]
        dsimp only
        obtain ⟨w0, b0, q0⟩ := hL.2.1 0 fa
        obtain ⟨w1, b1, q1⟩ := hL.2.1 1 fa
        obtain ⟨inc, hinc, einc⟩ := n_inc (d := S.1 i 1) (w0 := w0) (w1 := w1) v2.1 v2.2 b0 b1
        rw [← q0, ← q1] at einc
        have g7 : c_In (mu 9) st E (z_u I6 (st + 2 + i) 6 (I6 (st + 2 + i) 6 + z_max 0 (60 + S.1 i 1 + W 0 fa - W 1 fa))) (t_go (t_draw S) i (60 + S.1 i 1 + W 0 fa - W 1 fa)) := by
          unfold t_go
          rw [g6.2.1 i 6 hi (by decide)]
          exact c_In_w hs hA g6 hi
        have n60 : I6 60 = I 60 := by
          rw [← m60]
          funext j
          rw [y2 60 j (by omega) (by omega), x2 60 j (by omega) (by omega)]
        have act : t_act len i (t_go (t_draw S) i (60 + S.1 i 1 + W 0 fa - W 1 fa)) (at0 i) (ph + inc) := by
          unfold t_go
          refine ⟨?_, by omega, ?_, ?_, ?_, Or.inl ⟨hal, ?_⟩⟩
          · rw [t_w_f (by decide)]; exact ha
          · rw [t_w_at, einc]
            show S.1 i 6 + nI inc = _
            rw [v7, n_add]
          · rw [t_w_f (by decide)]; exact v5
          · rw [t_w_f (by decide)]; exact v8
          · rw [t_w_f (by decide)]; exact c9
        obtain ⟨I8, z1, z2, z3⟩ := c_sing (fa := fa) hs hR hL hT hT1 hT2 hi 13 0 300 _ _ _ _ act (by omega) (by omega) (by decide) (by decide) g7 (fun j hj _ _ => by rw [u_o (by omega), y2 61 j (by omega) (by omega), x2 61 j (by omega) (by omega)]; exact m61 j hj)
        refine ⟨1, _, rfl, by rw [u_o (by omega), n60], Or.inr ⟨rfl, I8, ?_, by rw [z3, u_o (by omega), n60], z2⟩⟩
        have z1' : z_lp (fX2_sing_b2 59 (st + 2 + i) (mu i) (z_Rm mu)) 300 ((0 : Int32), _) = some I8 := z1
        unfold fX2_sing
        rw [z_g_t (show z_ob 59 2 from rfl), z_g_t (h4 i hi).2, z_g_t hr.1, z1', z_b_s]
      · rw [if_neg cW, if_neg cW, z_l_s, g4.2.2.2.2.2.2]
        exact ⟨0, _, rfl, by rw [u_o (by decide), m60], Or.inl ⟨rfl, c_In_c hs hA (k := 4) g4 (Or.inr (Or.inr rfl))⟩⟩
    · rw [if_neg cX, if_neg cX]
      exact ⟨0, I2, rfl, k60, Or.inl ⟨rfl, g2⟩⟩
  · rw [if_neg c9, if_neg c9, (hat i hi).1]
    obtain ⟨e1, e2⟩ := c_came hs hR h hok hat hi
    rw [e1, z_b_s, e2, z_b_s]
    unfold fX2_goesOn_j55
    rw [z_g_t (h4 i hi).2, z_g_t (h4 i hi).2, z_g_t (Or.inr rfl), z_g_t (Or.inl rfl), z_l_s, z_l_s]
    by_cases c : t_came E len at0 i = true
    · rw [if_pos c, if_pos c, if_neg (by decide)]
      exact ⟨0, _, rfl, by rw [u_o (by omega)], Or.inl ⟨rfl, c_In_w hs hA h hi⟩⟩
    · rw [if_neg c, if_neg c, if_pos rfl]
      exact ⟨0, _, rfl, by rw [u_o (by omega)], Or.inl ⟨rfl, c_In_w hs hA h hi⟩⟩
end CU
