/-! a turn: the picture, and the class's -/
def t_sum (p : Nat → Bool) (a : Nat → Nat) : Nat → Nat
  | 0 => 0
  | k + 1 => if p k = true then t_sum p a k + a k else t_sum p a k
theorem t_sum_le {p : Nat → Bool} {a : Nat → Nat} (h : ∀ j, j < 8 → a j ≤ 60) : ∀ k, k ≤ 8 → t_sum p a k ≤ 60 * k
  | 0, _ => Nat.le_refl 0
  | k + 1, hk => by
    have h1 := t_sum_le (p := p) h k (by omega)
    have h2 := h k (by omega)
    unfold t_sum
    split <;> omega
def t_he (E : z_He) (i j : Nat) : Bool := (j != i) && h_r E i j
def t_ahead (E : z_He) (at0 : Nat → Nat) (i : Nat) : Int32 := if n_cnt (t_he E i) 8 = 0 then 0 else nI (t_sum (t_he E i) at0 8) / nI (n_cnt (t_he E i) 8) - nI (at0 i)
def t_let (E : z_He) (at0 : Nat → Nat) (i : Nat) (br tk : Int32) : Nat → Int32 := fun k => if k = 0 then nI i else if k = 1 then E 103 (8 + i) else if k = 2 then nI (at0 i) else if k = 3 then t_ahead E at0 i else if k = 4 then nI (n_cnt (t_he E i) 8) else if k = 5 then br else if k = 6 then E 106 (60 * i + at0 i) else z_rem tk 100
def t_F (E : z_He) (j k : Nat) : Nat := r_sum (E 107) (60 * j) k
def t_came (E : z_He) (len at0 : Nat → Nat) (i : Nat) : Bool := n_al (fun j => E 103 j == 0 || decide (t_F E j (len j) < t_F E i (at0 i)) || decide (t_F E i (at0 i) ≤ t_F E j (at0 j))) 0 8
def t_go (S : t_S) (i : Nat) (v : Int32) : t_S := t_w S i 6 (S.1 i 6 + z_max 0 v)
def t_draw (S : t_S) : t_S := t_s S 1 (z_rem (25173 * S.2 1 + 13849) 65536)
def t_turn (E : z_He) (len : Nat → Nat) (T : Nat) (X : (Nat → Int32) → Int32) (W : Nat → (Nat → Int32) → Int32) (at0 : Nat → Nat) (i : Nat) (S : t_S) : t_S := if S.1 i 9 = 0 then (if X (t_let E at0 i (S.1 i 7) (S.2 0)) = 0 then (if W 3 (t_let E at0 i (S.1 i 7) (S.2 0)) ≤ z_rem ((t_draw S).2 1) 10 then t_sing E len T W (t_let E at0 i (S.1 i 7) (S.2 0)) i 13 (t_go (t_draw S) i (60 + S.1 i 1 + W 0 (t_let E at0 i (S.1 i 7) (S.2 0)) - W 1 (t_let E at0 i (S.1 i 7) (S.2 0)))) else t_s (t_draw S) 4 (S.2 4 + 1)) else S) else t_w S i 9 (if t_came E len at0 i = true then 0 else 1)
def t_one (E : z_He) (len : Nat → Nat) (T : Nat) (X : (Nat → Int32) → Int32) (W : Nat → (Nat → Int32) → Int32) (at0 : Nat → Nat) (i : Nat) (S : t_S) : t_S := if S.1 i 0 = 0 then S else if S.1 i 5 < nI (len i) then t_turn E len T X W at0 i S else S
/-- the picture is in its bounds -/
def t_ok (E : z_He) (len : Nat → Nat) (S : t_S) : Prop := (∀ i, i < 8 → v_ok (S.1 i) (len i)) ∧ (∀ i f, i < 8 → f < 5 → S.1 i f = E 103 (8 * f + i)) ∧ (∃ n, n ≤ 99999 ∧ S.2 0 = nI n) ∧ ∃ n, n < 65536 ∧ S.2 1 = nI n
section CT
variable {E I : z_He} {mu len at0 : Nat → Nat} {st T i : Nat} {S : t_S} {X : (Nat → Int32) → Int32} {W : Nat → (Nat → Int32) → Int32}
theorem c_hears2 (hs : c_St st) (hV : r_V E 103 len) (hW : ∀ j f, j < 8 → f < 5 → I (st + 2 + j) f = E 103 (8 * f + j)) (hC : I 3 4 = E 102 3) {i j : Nat} (hi : i < 8) (hj : j < 8) : fX8_hears (st + 2 + i) (st + 2 + j) (I 3 4) I = some (if h_r E i j = true then 1 else 0) := by
  obtain ⟨h1, h2, h3, h4⟩ := c_st hs z_mu0
  have e0 := hW j 0 hj (by decide)
  have e2 := hW j 2 hj (by decide)
  have e3 := hW i 2 hi (by decide)
  have e4 := hW i 3 hi (by decide)
  unfold fX8_hears fX8_hears_j58
  rw [z_g_t (h4 i hi).2, z_g_t (h4 j hj).2, e0, e2, e3, e4, hC, show 8 * 0 + j = j by omega, show 8 * 2 + j = 16 + j by omega, show 8 * 2 + i = 16 + i by omega, show 8 * 3 + i = 24 + i by omega, z_l_s]
  unfold h_r
  generalize E 103 (16 + j) - E 103 (16 + i) = w
  rcases (hV.1 j hj).1 with t | t
  · rw [t]; rfl
  · rw [t, if_neg (show ¬ (1 : Int32) = 0 by decide)]
    by_cases c1 : z_abs w ≤ E 102 3
    · rw [if_pos c1]
      by_cases c2 : w = 0
      · rw [if_pos c2]
        by_cases c3 : E 103 (24 + i) = 3
        · simp [c1, c2, c3]
        · simp [c2, c3]
          rw [c2] at c1
          exact c1
      · rw [if_neg c2]
        by_cases c3 : (0 : Int32) ≤ w
        · rw [if_pos c3]
          simp [c1, c2, c3]
          split <;> rfl
        · rw [if_neg c3]
          simp [c1, c2, c3]
          split <;> rfl
    · rw [if_neg c1]
      simp [c1]
theorem c_ears (hs : c_St st) (hR : RelL E mu len) (h : c_In (mu 9) st E I S) : I 3 4 = E 102 3 := by
  have hst : st = 62 ∨ st = 72 ∨ st = 82 := hs
  have hA := (p_law hR.2.2.2.2.2.1).1
  obtain ⟨⟨n, -, q1, q2⟩, -⟩ := hR.2.2.2.1
  rw [h.1 3 4 (by unfold c_dirt; omega), q1, q2]
theorem c_letters (hs : c_St st) (hR : RelL E mu len) (h : c_In (mu 9) st E I S) (hok : t_ok E len S) (hat : ∀ j, j < 8 → I 60 j = nI (at0 j) ∧ at0 j ≤ 60) (hi : i < 8) (ha : S.1 i 5 = nI (at0 i)) (hal : at0 i < len i) : ∃ I', fX2_setLetters 59 st (nI i) I (z_Rm mu) = some I' ∧ c_In (mu 9) st E I' S ∧ I' 60 = I 60 ∧ ∀ j, j < 8 → I' 61 j = t_let E at0 i (S.1 i 7) (S.2 0) j := by
  have hst : st = 62 ∨ st = 72 ∨ st = 82 := hs
  have hP := hR.2.2.2.2.2.1
  have hA := (p_law hP).1
  have l60 := (hR.2.2.2.2.2.2.1 i hi).1
  obtain ⟨h1, h2, h3, h4⟩ := c_st hs mu
  have hrow : ∀ j f, j < 8 → f < 5 → I (st + 2 + j) f = E 103 (8 * f + j) := fun j f hj hf => by rw [h.2.1 j f hj (by omega)]; exact hok.2.1 j f hj hf
  have he := c_ears hs hR h
  have ok61 : ∀ k, k < 8 → z_ok 1 61 (nI k) := fun k hk => n_ok (n := 8) rfl hk (by decide)
  have lp : z_lp (fX2_setLetters_b24 59 st (nI i) (st + 2 + i) I (z_Rm mu)) 300 ((0 : Int32), (0 : Int32), (0 : Int32)) = some (nI (n_cnt (t_he E i) 8), nI (t_sum (t_he E i) at0 8)) := by
    refine z_lp_tr (fun k => (nI (n_cnt (t_he E i) k), nI (t_sum (t_he E i) at0 k), nI k)) (n := 8) (fun k hk => ?_) ?_ 300 (by decide)
    · unfold fX2_setLetters_b24
      dsimp only
      rw [z_g_t (h4 i hi).2, if_neg (n_8 hk), h2, z_g_t (n_ok h3 hk (by decide)), show z_Rm mu 59 0 = 3 from rfl, show z_Rm mu 59 1 = 60 from rfl, z_g_t o_3]
      simp only [z_l_s, n_s1, z_g_t (n_ok (n := 8) (show z_len 1 60 = 8 from rfl) hk (by decide)), nI_clamp (show k < 2 ^ 31 by omega), (h4 k hk).1, c_hears2 hs hR.2.1 hrow he hi hk, z_b_s, (hat k hk).1, n_add]
      show _ = some (Sum.inl (nI (if t_he E i k = true then _ else _), nI (if t_he E i k = true then _ else _), _))
      unfold t_he
      by_cases c : k = i
      · subst c
        rw [if_pos rfl]
        simp
      · rw [if_neg (n_ne (by omega) (by omega) c)]
        by_cases c2 : h_r E i k = true
        · rw [if_pos c2, if_neg (by decide)]
          simp [c, c2]
        · rw [if_neg c2, if_pos rfl]
          simp [c2]
    · unfold fX2_setLetters_b24
      dsimp only
      rw [z_g_t (h4 i hi).2, if_pos n_88]
  have c8 := n_cnt_le (t_he E i) 8
  have sl := t_sum_le (p := t_he E i) (a := at0) (fun j hj => (hat j hj).2) 8 (Nat.le_refl 8)
  have mk : ∀ v3, v3 = t_ahead E at0 i → ∃ I', fX2_setLetters_j134 59 st (nI i) (st + 2 + i) (nI (n_cnt (t_he E i) 8)) 61 3 v3 (z_u (z_u (z_u I 61 0 (nI i)) 61 1 (S.1 i 1)) 61 2 (nI (at0 i))) (z_Rm mu) = some I' ∧ c_In (mu 9) st E I' S ∧ I' 60 = I 60 ∧ ∀ j, j < 8 → I' 61 j = t_let E at0 i (S.1 i 7) (S.2 0) j := by
    intro v3 hv3
    have g1 := c_In_d hs hA (k := 0) (v := nI i) h (Or.inr rfl)
    have g2 := c_In_d hs hA (k := 1) (v := S.1 i 1) g1 (Or.inr rfl)
    have g3 := c_In_d hs hA (k := 2) (v := nI (at0 i)) g2 (Or.inr rfl)
    have g4 := c_In_d hs hA (k := 3) (v := v3) g3 (Or.inr rfl)
    have g5 := c_In_d hs hA (k := 4) (v := nI (n_cnt (t_he E i) 8)) g4 (Or.inr rfl)
    have g6 := c_In_d hs hA (k := 5) (v := S.1 i 7) g5 (Or.inr rfl)
    have g7 := c_In_d hs hA (k := 6) (v := E 106 (60 * i + at0 i)) g6 (Or.inr rfl)
    have g8 := c_In_d hs hA (k := 7) (v := z_rem (S.2 0) 100) g7 (Or.inr rfl)
    obtain ⟨a1, -⟩ := c_ask hs hR hi g6 hal
    unfold fX2_setLetters_j134
    rw [z_g_t (h4 i hi).2, z_g_t (show z_ok 1 61 3 from ok61 3 (by decide)), z_l_s, show (3 : Int32).toNatClampNeg = 3 from rfl, show z_Rm mu 59 2 = 61 from rfl, z_g_t (show z_ok 1 61 4 from ok61 4 (by decide)), z_l_s, show (4 : Int32).toNatClampNeg = 4 from rfl, z_g_t (show z_ok 1 61 5 from ok61 5 (by decide)), z_l_s, show (5 : Int32).toNatClampNeg = 5 from rfl, g5.2.1 i 7 hi (by decide), show z_Rm mu 59 0 = 3 from rfl, z_g_t o_3, show z_Rm mu 3 0 = 4 from rfl, z_g_t (k_4 hi), nI_clamp (show i < 2 ^ 31 by omega), r_4 hi, z_g_t (o_roll hP (show i < 9 by omega)).1, g6.2.1 i 5 hi (by decide), ha, a1, z_b_s, z_g_t (show z_ok 1 61 6 from ok61 6 (by decide)), z_l_s, show (6 : Int32).toNatClampNeg = 6 from rfl, z_g_t (show z_ok 1 61 7 from ok61 7 (by decide)), z_l_s, show (7 : Int32).toNatClampNeg = 7 from rfl, g7.2.2.1]
    refine ⟨_, rfl, g8, ?_, fun j hj => ?_⟩
    · rw [u_o (by decide), u_o (by decide), u_o (by decide), u_o (by decide), u_o (by decide), u_o (by decide), u_o (by decide), u_o (by decide)]
    · have e1 := hok.2.1 i 1 hi (by decide)
      rw [show 8 * 1 + i = 8 + i by omega] at e1
      unfold t_let
      simp only [z_u_eq]
      have : j = 0 ∨ j = 1 ∨ j = 2 ∨ j = 3 ∨ j = 4 ∨ j = 5 ∨ j = 6 ∨ j = 7 := by omega
      rcases this with rfl | rfl | rfl | rfl | rfl | rfl | rfl | rfl <;> simp [hv3, e1]
  unfold fX2_setLetters
  rw [z_g_t (show z_ob 59 2 from rfl), z_g_t h1, fX12_isSinger_eq, z_b_s, n_in7' hi, if_neg (by decide), h2, z_g_t (n_ok h3 hi (by decide))]
  simp only [nI_clamp (show i < 2 ^ 31 by omega), (h4 i hi).1]
  rw [z_g_t (h4 i hi).2, lp, z_b_s, show z_Rm mu 59 2 = 61 from rfl, show z_Rm mu 59 1 = 60 from rfl, z_g_t (show z_ok 1 61 0 from ok61 0 (by decide)), z_l_s, show (0 : Int32).toNatClampNeg = 0 from rfl, z_g_t (show z_ok 1 61 1 from ok61 1 (by decide)), z_l_s, show (1 : Int32).toNatClampNeg = 1 from rfl, z_g_t (n_ok (n := 8) (show z_len 1 60 = 8 from rfl) hi (by decide)), z_g_t (show z_ok 1 61 2 from ok61 2 (by decide)), z_l_s, show (2 : Int32).toNatClampNeg = 2 from rfl, u_o (show (60 : Nat) ≠ 61 by decide), u_o (show (60 : Nat) ≠ 61 by decide), u_o (show (60 : Nat) ≠ 61 by decide), u_o (show st + 2 + i ≠ 61 by omega), (hat i hi).1, h.2.1 i 1 hi (by decide)]
  dsimp only
  by_cases c0 : n_cnt (t_he E i) 8 = 0
  · rw [if_pos (by rw [c0]; rfl)]
    exact mk 0 (by unfold t_ahead; rw [if_pos c0])
  · have z0 : ¬ nI (n_cnt (t_he E i) 8) = 0 := nI_ne0 (by omega) (by omega)
    rw [if_neg z0, z_g_t z0]
    exact mk _ (by unfold t_ahead; rw [if_neg c0, u_o (by decide), u_o (by decide), (hat i hi).1])
end CT
