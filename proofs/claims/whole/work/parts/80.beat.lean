/-! a TICK: the plain picture, and the class's beats -/
abbrev t_S : Type := (Nat → Nat → Int32) × (Nat → Int32)
/-- one number of a singer is told anew; one of the others (0 tick, 1 x, 2 sung, 3 missed, 4 coughs) -/
def t_w (S : t_S) (i f : Nat) (v : Int32) : t_S := (fun j => if j = i then upd (S.1 i) f v else S.1 j, S.2)
def t_s (S : t_S) (k : Nat) (v : Int32) : t_S := (S.1, upd S.2 k v)
theorem t_w_at {S : t_S} {i f : Nat} {v : Int32} : (t_w S i f v).1 i f = v := by
  unfold t_w
  dsimp only
  rw [if_pos rfl, pk_us]
theorem t_w_f {S : t_S} {i f g : Nat} {v : Int32} (h : g ≠ f) : (t_w S i f v).1 i g = S.1 i g := by
  unfold t_w
  dsimp only
  rw [if_pos rfl, pk_un h]
theorem t_w_j {S : t_S} {i f j : Nat} {v : Int32} (h : j ≠ i) : (t_w S i f v).1 j = S.1 j := by
  unfold t_w
  dsimp only
  rw [if_neg h]
theorem t_w_eq {S : t_S} {i f j g : Nat} {v : Int32} : (t_w S i f v).1 j g = if j = i ∧ g = f then v else S.1 j g := by
  by_cases h : j = i
  · subst h
    by_cases h2 : g = f
    · subst h2; rw [t_w_at, if_pos ⟨rfl, rfl⟩]
    · rw [t_w_f h2, if_neg (fun q => h2 q.2)]
  · rw [t_w_j h, if_neg (fun q => h q.1)]
theorem t_w_2 {S : t_S} {i f : Nat} {v : Int32} : (t_w S i f v).2 = S.2 := rfl
theorem t_s_1 {S : t_S} {k : Nat} {v : Int32} : (t_s S k v).1 = S.1 := rfl
theorem t_s_eq {S : t_S} {k j : Nat} {v : Int32} : (t_s S k v).2 j = if j = k then v else S.2 j := by
  by_cases h : j = k
  · subst h; rw [if_pos rfl]; exact pk_us
  · rw [if_neg h]; exact pk_un h
def t_f56 (fa : Nat → Int32) (b n : Int32) : Nat → Int32 := fun k => if k = 5 then b else if k = 6 then n else fa k
def t_spend (E : z_He) (W : Nat → (Nat → Int32) → Int32) (fa : Nat → Int32) (i k : Nat) (S : t_S) : t_S := if E 106 (60 * i + k) = 0 then S else if S.1 i 7 = 0 then t_s (t_w S i 8 (S.1 i 8 + 1)) 3 (S.2 3 + 1) else t_w S i 7 (z_max 0 (S.1 i 7 - W 2 (t_f56 fa (S.1 i 7) (E 106 (60 * i + k)))))
def t_br (E : z_He) (i k : Nat) (S : t_S) : t_S := if E 108 (60 * i + k) = 1 then t_w S i 7 (S.1 i 4) else S
def t_cl (E : z_He) (len : Nat → Nat) (i k : Nat) (S : t_S) : t_S := if S.1 i 5 < nI (len i) then (if E 107 (60 * i + k) = 1 then t_w (t_w S i 9 1) i 6 0 else S) else t_w S i 6 0
def t_end (E : z_He) (len : Nat → Nat) (i k : Nat) (S : t_S) : t_S := t_cl E len i k (t_br E i k (t_s (t_w S i 5 (S.1 i 5 + 1)) 2 (S.2 2 + 1)))
def t_beat (E : z_He) (len : Nat → Nat) (T : Nat) (W : Nat → (Nat → Int32) → Int32) (fa : Nat → Int32) (i : Nat) (S : t_S) : t_S := t_end E len i (S.1 i 5).toNatClampNeg (t_spend E W fa i (S.1 i 5).toNatClampNeg (t_w S i 6 (S.1 i 6 - nI T)))
def t_sing (E : z_He) (len : Nat → Nat) (T : Nat) (W : Nat → (Nat → Int32) → Int32) (fa : Nat → Int32) (i : Nat) : Nat → t_S → t_S
  | 0, S => S
  | n + 1, S => if S.1 i 6 < nI T then S else t_sing E len T W fa i n (t_beat E len T W fa i S)
/-- what the law says -/
def t_Law (E : z_He) (A : Nat) (X : (Nat → Int32) → Int32) (W : Nat → (Nat → Int32) → Int32) : Prop := (∀ fa, X fa = 0 ∨ X fa = 1) ∧ (∀ kd fa, ∃ w, w ≤ 60 ∧ W kd fa = nI w) ∧
    (∀ mu J fa, l_same A E J → (∀ j, j < 8 → J 61 j = fa j) → ∃ J', fX3_silences A 61 J (z_Rm mu) = some (X fa, J') ∧ l_fr A J J') ∧
    (∀ mu J fa kd, kd ≤ 3 → l_same A E J → (∀ j, j < 8 → J 61 j = fa j) → ∃ J', fX3_worth A (nI kd) 61 J (z_Rm mu) = some (W kd fa, J') ∧ l_fr A J J') ∧
    (∀ mu J fa, l_same A E J → (∀ j, j < 8 → J 124 j = fa j) → ∃ J', fX13_holdsAny 102 120 J (z_Rm mu) = some (X fa, J') ∧ l_fm J J') ∧
    (∀ mu J fa kd, kd ≤ 3 → l_same A E J → (∀ j, j < 8 → J 124 j = fa j) → ∃ J', fX13_byLaw 102 (nI (l_kind kd)) (nI (l_hi kd)) J (z_Rm mu) = some (W kd fa, J') ∧ l_fm J J')
/-! the class's cells -/
def c_dirt (A st b k : Nat) : Prop := (b = 59 ∧ (k = 3 ∨ k = 4 ∨ k = 5)) ∨ b = 60 ∨ b = 61 ∨ b = A + 7 ∨ (b = A ∧ (k = 9 ∨ k = 10)) ∨ (b = st ∧ (k = 1 ∨ k = 2)) ∨ (st + 2 ≤ b ∧ b < st + 10)
def c_In (A st : Nat) (E I : z_He) (S : t_S) : Prop := (∀ b k, ¬ c_dirt A st b k → I b k = E b k) ∧ (∀ i f, i < 8 → f < 10 → I (st + 2 + i) f = S.1 i f) ∧ I st 1 = S.2 0 ∧ I st 2 = S.2 1 ∧ I 59 3 = S.2 2 ∧ I 59 4 = S.2 3 ∧ I 59 5 = S.2 4
section CI
variable {E I I' : z_He} {A st : Nat} {S : t_S}
theorem c_In_w (hs : c_St st) (hA : A = 41 ∨ A = 49) {i f : Nat} {v : Int32} (h : c_In A st E I S) (hi : i < 8) : c_In A st E (z_u I (st + 2 + i) f v) (t_w S i f v) := by
  obtain ⟨h1, h2, h3, h4, h5, h6, h7⟩ := h
  have hst : st = 62 ∨ st = 72 ∨ st = 82 := hs
  refine ⟨fun b k hd => ?_, fun j g hj hg => ?_, ?_, ?_, ?_, ?_, ?_⟩
  · rw [z_u_eq, if_neg, h1 b k hd]
    rintro ⟨rfl, -⟩
    exact hd (by unfold c_dirt; omega)
  · rw [z_u_eq, t_w_eq, h2 j g hj hg]
    by_cases c : j = i ∧ g = f
    · rw [if_pos c, if_pos ⟨by omega, c.2⟩]
    · rw [if_neg c, if_neg (fun q => c ⟨by omega, q.2⟩)]
  · rw [u_o (by omega), h3]; rfl
  · rw [u_o (by omega), h4]; rfl
  · rw [u_o (by omega), h5]; rfl
  · rw [u_o (by omega), h6]; rfl
  · rw [u_o (by omega), h7]; rfl
theorem c_In_c (hs : c_St st) (hA : A = 41 ∨ A = 49) {k : Nat} {v : Int32} (h : c_In A st E I S) (hk : k = 2 ∨ k = 3 ∨ k = 4) : c_In A st E (z_u I 59 (k + 1) v) (t_s S k v) := by
  obtain ⟨h1, h2, h3, h4, h5, h6, h7⟩ := h
  have hst : st = 62 ∨ st = 72 ∨ st = 82 := hs
  refine ⟨fun b j hd => ?_, fun j g hj hg => ?_, ?_, ?_, ?_, ?_, ?_⟩
  · rw [z_u_eq, if_neg, h1 b j hd]
    rintro ⟨rfl, rfl⟩
    exact hd (by unfold c_dirt; omega)
  · rw [u_o (by omega), h2 j g hj hg]; rfl
  · rw [u_o (by omega), h3, t_s_eq, if_neg (by omega)]
  · rw [u_o (by omega), h4, t_s_eq, if_neg (by omega)]
  · rw [z_u_eq, h5, t_s_eq]; rcases hk with rfl | rfl | rfl <;> rfl
  · rw [z_u_eq, h6, t_s_eq]; rcases hk with rfl | rfl | rfl <;> rfl
  · rw [z_u_eq, h7, t_s_eq]; rcases hk with rfl | rfl | rfl <;> rfl
theorem c_In_x (hs : c_St st) (hA : A = 41 ∨ A = 49) {k : Nat} {v : Int32} (h : c_In A st E I S) (hk : k = 0 ∨ k = 1) : c_In A st E (z_u I st (k + 1) v) (t_s S k v) := by
  obtain ⟨h1, h2, h3, h4, h5, h6, h7⟩ := h
  have hst : st = 62 ∨ st = 72 ∨ st = 82 := hs
  refine ⟨fun b j hd => ?_, fun j g hj hg => ?_, ?_, ?_, ?_, ?_, ?_⟩
  · rw [z_u_eq, if_neg, h1 b j hd]
    rintro ⟨rfl, rfl⟩
    exact hd (by unfold c_dirt; omega)
  · rw [u_o (by omega), h2 j g hj hg]; rfl
  · rw [z_u_eq, h3, t_s_eq]; rcases hk with rfl | rfl <;> simp
  · rw [z_u_eq, h4, t_s_eq]; rcases hk with rfl | rfl <;> simp
  · rw [u_o (by omega), h5, t_s_eq, if_neg (by omega)]
  · rw [u_o (by omega), h6, t_s_eq, if_neg (by omega)]
  · rw [u_o (by omega), h7, t_s_eq, if_neg (by omega)]
theorem c_In_d (hs : c_St st) (hA : A = 41 ∨ A = 49) {b k : Nat} {v : Int32} (h : c_In A st E I S) (hb : b = 60 ∨ b = 61) : c_In A st E (z_u I b k v) S := by
  obtain ⟨h1, h2, h3, h4, h5, h6, h7⟩ := h
  have hst : st = 62 ∨ st = 72 ∨ st = 82 := hs
  refine ⟨fun c j hd => ?_, fun j g hj hg => ?_, ?_, ?_, ?_, ?_, ?_⟩
  · rw [z_u_eq, if_neg, h1 c j hd]
    rintro ⟨rfl, rfl⟩
    exact hd (by unfold c_dirt; omega)
  · rw [u_o (by omega), h2 j g hj hg]
  · rw [u_o (by omega), h3]
  · rw [u_o (by omega), h4]
  · rw [u_o (by omega), h5]
  · rw [u_o (by omega), h6]
  · rw [u_o (by omega), h7]
theorem c_In_fr (hs : c_St st) (hA : A = 41 ∨ A = 49) (h : c_In A st E I S) (hf : l_fr A I I') : c_In A st E I' S := by
  obtain ⟨h1, h2, h3, h4, h5, h6, h7⟩ := h
  have hst : st = 62 ∨ st = 72 ∨ st = 82 := hs
  refine ⟨fun b k hd => ?_, fun j g hj hg => ?_, ?_, ?_, ?_, ?_, ?_⟩
  · rw [hf b k (fun q => hd (by unfold c_dirt; omega)) (fun q => hd (by unfold c_dirt; omega)), h1 b k hd]
  · rw [hf _ _ (by omega) (by omega), h2 j g hj hg]
  · rw [hf _ _ (by omega) (by omega), h3]
  · rw [hf _ _ (by omega) (by omega), h4]
  · rw [hf _ _ (by omega) (by omega), h5]
  · rw [hf _ _ (by omega) (by omega), h6]
  · rw [hf _ _ (by omega) (by omega), h7]
theorem c_In_law (hs : c_St st) (hA : A = 41 ∨ A = 49) (h : c_In A st E I S) : l_same A E I := by
  have hst : st = 62 ∨ st = 72 ∨ st = 82 := hs
  exact ⟨fun b h1 h2 => funext fun k => h.1 b k (by unfold c_dirt; omega), h.1 A 2 (by unfold c_dirt; omega), h.1 A 7 (by unfold c_dirt; omega), h.1 102 20 (by unfold c_dirt; omega), fun b h1 h2 => funext fun k => h.1 b k (by unfold c_dirt; omega)⟩
end CI
section CB
variable {E : z_He} {mu len : Nat → Nat} {st T : Nat} {X : (Nat → Int32) → Int32} {W : Nat → (Nat → Int32) → Int32} {fa : Nat → Int32}
theorem c_roll {I : z_He} {S : t_S} {i : Nat} (hs : c_St st) (hR : RelL E mu len) (hi : i < 8) (h : c_In (mu 9) st E I S) : r_Roll I i (mu i) (len i) := by
  have hst : st = 62 ∨ st = 72 ∨ st = 82 := hs
  have hl := (p_law hR.2.2.2.2.2.1).1
  have hm := p_le hR.2.2.2.2.2.1 (show i < 9 by omega)
  exact f_R (hR.2.2.2.2.2.2.1 i hi) (fun b h1 h2 => funext fun k => h.1 b k (by unfold c_dirt; omega)) (fun b h1 h2 => funext fun k => h.1 b k (by unfold c_dirt; omega))
theorem c_ask {I : z_He} {S : t_S} {i k : Nat} (hs : c_St st) (hR : RelL E mu len) (hi : i < 8) (h : c_In (mu 9) st E I S) (hk : k < len i) : fX5_noteAt (mu i) (nI k) I (z_Rm mu) = some (E 106 (60 * i + k)) ∧ fX5_hasBreath (mu i) (nI k) I (z_Rm mu) = some (E 108 (60 * i + k)) ∧ fX5_hasFermata (mu i) (nI k) I (z_Rm mu) = some (E 107 (60 * i + k)) ∧ (E 107 (60 * i + k) = 0 ∨ E 107 (60 * i + k) = 1) ∧ (E 108 (60 * i + k) = 0 ∨ E 108 (60 * i + k) = 1) ∧ ∃ v, v ≤ 7 ∧ E 106 (60 * i + k) = nI v := by
  have hst : st = 62 ∨ st = 72 ∨ st = 82 := hs
  have hl := (p_law hR.2.2.2.2.2.1).1
  have hP := hR.2.2.2.2.2.1
  have r := c_roll hs hR hi h
  have e6 : I 106 (60 * i + k) = E 106 (60 * i + k) := h.1 _ _ (by unfold c_dirt; omega)
  have e7 : I 107 (60 * i + k) = E 107 (60 * i + k) := h.1 _ _ (by unfold c_dirt; omega)
  have e8 : I 108 (60 * i + k) = E 108 (60 * i + k) := h.1 _ _ (by unfold c_dirt; omega)
  obtain ⟨⟨v, hv, v1, v2⟩, ⟨a, b, g, ha, hb, hg, q1, q2, q3, q4, -⟩, -⟩ := r.2.2.2.2 k hk
  have l60 := r.1
  obtain ⟨m1, m2, m3⟩ := c_marks hP (show i < 9 by omega) r.2.1 r.1 hk ha hb hg q4
  have n1 := c_noteAt hP (show i < 9 by omega) r.2.1 r.1 (show k < 2 ^ 31 by omega)
  rw [if_pos hk, v1, ← v2, e6] at n1
  rw [← q1, e7] at m1
  rw [← q2, e8] at m2
  rw [e6] at v2
  rw [e7] at q1
  rw [e8] at q2
  refine ⟨n1, m2, m1, ?_, ?_, v, hv, v2⟩
  · rw [q1]
    have : a = 0 ∨ a = 1 := by omega
    rcases this with rfl | rfl
    · exact Or.inl rfl
    · exact Or.inr rfl
  · rw [q2]
    have : b = 0 ∨ b = 1 := by omega
    rcases this with rfl | rfl
    · exact Or.inl rfl
    · exact Or.inr rfl
theorem c_spend {I : z_He} {S : t_S} {i k : Nat} (hs : c_St st) (hR : RelL E mu len) (hL : t_Law E (mu 9) X W) (hi : i < 8) (h : c_In (mu 9) st E I S) (hfa : ∀ j, j < 8 → j ≠ 5 → j ≠ 6 → I 61 j = fa j) (hn : ¬ E 106 (60 * i + k) = 0) : ∃ I', fX2_spendBreath 59 (st + 2 + i) (E 106 (60 * i + k)) I (z_Rm mu) = some I' ∧ c_In (mu 9) st E I' (t_spend E W fa i k S) ∧ (∀ j, j < 8 → j ≠ 5 → j ≠ 6 → I' 61 j = fa j) ∧ I' 60 = I 60 := by
  have hst : st = 62 ∨ st = 72 ∨ st = 82 := hs
  have hA := (p_law hR.2.2.2.2.2.1).1
  obtain ⟨h1, h2, h3, h4⟩ := c_st hs mu
  unfold fX2_spendBreath t_spend
  rw [z_g_t (show z_ob 59 2 from rfl), z_g_t (h4 i hi).2, h.2.1 i 7 hi (by decide), if_neg hn]
  by_cases c : S.1 i 7 = 0
  · rw [if_pos c, if_pos c, z_l_s, z_l_s, u_o (show (59 : Nat) ≠ st + 2 + i by omega), h.2.1 i 8 hi (by decide), h.2.2.2.2.2.1]
    refine ⟨_, rfl, c_In_c hs hA (c_In_w hs hA h hi) (Or.inr (Or.inl rfl)), fun j h1 h2 h3 => ?_, ?_⟩
    · rw [u_o (by decide), u_o (by omega)]; exact hfa j h1 h2 h3
    · rw [u_o (by decide), u_o (by omega)]
  · have hf : ∀ j, j < 8 → z_u (z_u I 61 5 (S.1 i 7)) 61 6 (E 106 (60 * i + k)) 61 j = t_f56 fa (S.1 i 7) (E 106 (60 * i + k)) j := by
      intro j hj
      unfold t_f56
      rw [z_u_eq, z_u_eq]
      by_cases c5 : j = 5
      · subst c5; rfl
      · by_cases c6 : j = 6
        · subst c6; rfl
        · rw [if_neg (fun q => c6 q.2), if_neg (fun q => c5 q.2), if_neg c5, if_neg c6]; exact hfa j hj c5 c6
    have hI2 := c_In_d hs hA (k := 6) (v := E 106 (60 * i + k)) (c_In_d hs hA (k := 5) (v := S.1 i 7) h (Or.inr rfl)) (Or.inr rfl)
    obtain ⟨J, w1, w2⟩ := hL.2.2.2.1 mu _ _ 2 (by decide) (c_In_law hs hA hI2) hf
    rw [if_neg c, if_neg c, show z_Rm mu 59 2 = 61 from rfl, show z_Rm mu 59 0 = 3 from rfl, show z_Rm mu 3 2 = mu 9 from rfl, z_g_t (show z_ok 1 61 5 from n_ok (k := 5) (n := 8) rfl (by decide) (by decide)), z_l_s, show (5 : Int32).toNatClampNeg = 5 from rfl, z_g_t (show z_ok 1 61 6 from n_ok (k := 6) (n := 8) rfl (by decide) (by decide)), z_l_s, show (6 : Int32).toNatClampNeg = 6 from rfl, z_g_t o_3, z_g_t (o_law hR.2.2.2.2.2.1), show (2 : Int32) = nI 2 from rfl, w1, z_b_s, z_l_s, hI2.2.1 i 7 hi (by decide)]
    dsimp only
    refine ⟨_, rfl, c_In_w hs hA (c_In_fr hs hA hI2 w2) hi, fun j h1 h2 h3 => ?_, ?_⟩
    · rw [u_o (by omega), w2 61 j (by omega) (by omega), z_u_k h3, z_u_k h2]; exact hfa j h1 h2 h3
    · rw [u_o (by omega)]
      funext j
      rw [w2 60 j (by omega) (by omega), u_o (by decide), u_o (by decide)]
theorem c_cl {I : z_He} {S : t_S} {i k c : Nat} (hs : c_St st) (hR : RelL E mu len) (hi : i < 8) (h : c_In (mu 9) st E I S) (hk : k < len i) : ∃ I', fX2_sing_j101_2 59 (st + 2 + i) (mu i) (nI c) (nI k) I (z_Rm mu) = some (.inl (nI (c + 1), I')) ∧ c_In (mu 9) st E I' (t_cl E len i k S) ∧ I' 61 = I 61 ∧ I' 60 = I 60 := by
  have hst : st = 62 ∨ st = 72 ∨ st = 82 := hs
  have hA := (p_law hR.2.2.2.2.2.1).1
  have r := c_roll hs hR hi h
  obtain ⟨-, -, a3, a4, -, -⟩ := c_ask hs hR hi h hk
  unfold fX2_sing_j101_2 t_cl fX5_length
  rw [z_g_t (o_roll hR.2.2.2.2.2.1 (show i < 9 by omega)).1, z_b_s, r.2.1, h.2.1 i 5 hi (by decide), a3, z_b_s, n_s1]
  simp only [z_l_s]
  by_cases c1 : S.1 i 5 < nI (len i)
  · rw [if_pos c1, if_pos c1]
    rcases a4 with a4 | a4
    · rw [a4, if_pos rfl, if_neg (by decide)]
      exact ⟨I, rfl, h, rfl, rfl⟩
    · rw [a4, if_neg (by decide), if_pos rfl]
      refine ⟨_, rfl, c_In_w hs hA (c_In_w hs hA h hi) hi, ?_, ?_⟩
      · rw [u_o (by omega), u_o (by omega)]
      · rw [u_o (by omega), u_o (by omega)]
  · rw [if_neg c1, if_neg c1]
    exact ⟨_, rfl, c_In_w hs hA h hi, by rw [u_o (by omega)], by rw [u_o (by omega)]⟩
theorem c_end {I : z_He} {S : t_S} {i k c : Nat} (hs : c_St st) (hR : RelL E mu len) (hi : i < 8) (h : c_In (mu 9) st E I S) (hk : k < len i) : ∃ I', fX2_sing_j64_2 59 (st + 2 + i) (mu i) (nI c) (nI k) I (z_Rm mu) = some (.inl (nI (c + 1), I')) ∧ c_In (mu 9) st E I' (t_end E len i k S) ∧ I' 61 = I 61 ∧ I' 60 = I 60 := by
  have hst : st = 62 ∨ st = 72 ∨ st = 82 := hs
  have hA := (p_law hR.2.2.2.2.2.1).1
  have hI3 : c_In (mu 9) st E (z_u (z_u I (st + 2 + i) 5 (S.1 i 5 + 1)) 59 3 (S.2 2 + 1)) (t_s (t_w S i 5 (S.1 i 5 + 1)) 2 (S.2 2 + 1)) := c_In_c hs hA (k := 2) (c_In_w hs hA h hi) (Or.inl rfl)
  obtain ⟨-, a2, -, -, a5, -⟩ := c_ask hs hR hi hI3 hk
  unfold fX2_sing_j64_2 t_end t_br
  rw [h.2.1 i 5 hi (by decide), z_l_s, z_l_s, u_o (show (59 : Nat) ≠ st + 2 + i by omega), h.2.2.2.2.1, a2, z_b_s]
  rcases a5 with a5 | a5
  · rw [a5, if_pos rfl, if_neg (by decide)]
    obtain ⟨I', e1, e2, e3, e4⟩ := c_cl (c := c) hs hR hi hI3 hk
    exact ⟨I', e1, e2, by rw [e3, u_o (by decide), u_o (by omega)], by rw [e4, u_o (by decide), u_o (by omega)]⟩
  · rw [a5, if_neg (by decide), if_pos rfl, z_l_s, hI3.2.1 i 4 hi (by decide)]
    obtain ⟨I', e1, e2, e3, e4⟩ := c_cl (c := c) hs hR hi (c_In_w hs hA (f := 7) (v := (t_s (t_w S i 5 (S.1 i 5 + 1)) 2 (S.2 2 + 1)).1 i 4) hI3 hi) hk
    exact ⟨I', e1, e2, by rw [e3, u_o (by omega), u_o (by decide), u_o (by omega)], by rw [e4, u_o (by omega), u_o (by decide), u_o (by omega)]⟩
theorem c_beat {I : z_He} {S : t_S} {i c a ph : Nat} (hs : c_St st) (hR : RelL E mu len) (hL : t_Law E (mu 9) X W) (hT : E 3 5 = nI T) (hi : i < 8) (h : c_In (mu 9) st E I S) (hfa : ∀ j, j < 8 → j ≠ 5 → j ≠ 6 → I 61 j = fa j) (hc : c < 60) (ha : S.1 i 5 = nI a) (hal : a < len i) (hp : S.1 i 6 = nI ph) (hpT : T ≤ ph) (hp2 : ph < 2 ^ 20) : ∃ I', fX2_sing_b2 59 (st + 2 + i) (mu i) (z_Rm mu) (nI c, I) = some (.inl (nI (c + 1), I')) ∧ c_In (mu 9) st E I' (t_beat E len T W fa i S) ∧ (∀ j, j < 8 → j ≠ 5 → j ≠ 6 → I' 61 j = fa j) ∧ I' 60 = I 60 := by
  have hst : st = 62 ∨ st = 72 ∨ st = 82 := hs
  have hA := (p_law hR.2.2.2.2.2.1).1
  have l60 := (hR.2.2.2.2.2.2.1 i hi).1
  have e35 : I 3 5 = nI T := by rw [h.1 3 5 (by unfold c_dirt; omega), hT]
  have hI1 := c_In_w hs hA (f := 6) (v := nI ph - nI T) h hi
  obtain ⟨a1, -, -, -, -, v, hv, a6⟩ := c_ask hs hR hi hI1 hal
  have hfa1 : ∀ j, j < 8 → j ≠ 5 → j ≠ 6 → z_u I (st + 2 + i) 6 (nI ph - nI T) 61 j = fa j := fun j h1 h2 h3 => by rw [u_o (by omega)]; exact hfa j h1 h2 h3
  unfold fX2_sing_b2 t_beat
  dsimp only
  rw [if_neg (show ¬ (60 : Int32) ≤ nI c from nI_ge (b := 60) hc (by decide)), show z_Rm mu 59 0 = 3 from rfl, z_g_t o_3, h.2.1 i 6 hi (by decide), h.2.1 i 5 hi (by decide), e35, hp, ha, if_neg (nI_nlt hpT (by omega)), z_l_s, z_l_s, nI_clamp (show a < 2 ^ 31 by omega), a1, z_b_s, z_b_s]
  by_cases c0 : E 106 (60 * i + a) = 0
  · rw [if_pos c0]
    obtain ⟨I', e1, e2, e3, e4⟩ := c_end (c := c) hs hR hi hI1 hal
    refine ⟨I', e1, ?_, fun j h1 h2 h3 => by rw [e3]; exact hfa1 j h1 h2 h3, by rw [e4, u_o (by omega)]⟩
    unfold t_spend
    rw [if_pos c0]
    exact e2
  · rw [if_neg c0]
    obtain ⟨I2, g1, g2, g3, g4⟩ := c_spend (k := a) hs hR hL hi hI1 hfa1 c0
    obtain ⟨I', e1, e2, e3, e4⟩ := c_end (c := c) hs hR hi g2 hal
    rw [g1, z_b_s]
    exact ⟨I', e1, e2, fun j h1 h2 h3 => by rw [e3]; exact g3 j h1 h2 h3, by rw [e4, g4, u_o (by omega)]⟩
end CB
