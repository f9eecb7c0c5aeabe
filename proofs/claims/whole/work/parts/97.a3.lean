/-! roll: the class's reader -/
def u_X (I : z_He) (A : Nat) (J : z_He) (p m : Nat) (F : u_F) : Prop := u_Y A I J ∧ J 1 2 = nI p ∧ J 1 4 = 0 ∧ u_C A J m F
/-- the text is in its cells -/
def u_tx (I : z_He) (n : Nat) (sg : Nat → Int32) : Prop := u_sg n sg ∧ n ≤ 60 ∧ I 1 3 = nI n ∧ ∀ p, p < n → I 2 p = sg p
/-- a fault is told -/
def u_Fl (I : z_He) (A : Nat) (J : z_He) (f : Int32) : Prop := u_Y A I J ∧ J 1 4 = f ∧ J (A + 3) 0 = 0
section UB
variable {I J : z_He} {mu : Nat → Nat} {n p m : Nat} {F : u_F} {sg : Nat → Int32}
theorem c_sg (hP : r_P mu) (ht : u_tx I n sg) (h : u_X I (mu 8) J p m F) (hp : p ≤ n + 5) : fX10_sign 1 J (z_Rm mu) = some (sg p) := by
  have hm := p_le hP (show 8 < 9 by decide)
  obtain ⟨t1, t2, t3, t4⟩ := ht
  obtain ⟨h1, h2, h3, h4⟩ := h
  have e3 : J 1 3 = nI n := by rw [h1 1 3 (by omega) (by omega)]; exact t3
  unfold fX10_sign
  rw [z_g_t (show z_ob 1 10 from rfl), h2, if_neg (nI_pos (by omega)), e3]
  by_cases c : p < n
  · rw [if_neg (nI_ge c (by omega)), show z_Rm mu 1 0 = 2 from rfl, z_g_t (n_ok (n := 260) rfl (show p < 260 by omega) (by decide)), nI_clamp (show p < 2 ^ 31 by omega), h1 2 p (by omega) (by omega), t4 p c]
  · rw [if_pos (nI_le (by omega) (by omega)), t1.2 p (by omega)]
theorem c_pass (h : u_X I (mu 8) J p m F) (hP : r_P mu) : fX10_pass 1 J = some (z_u J 1 2 (nI (p + 1))) ∧ u_X I (mu 8) (z_u J 1 2 (nI (p + 1))) (p + 1) m F := by
  have hm := p_le hP (show 8 < 9 by decide)
  obtain ⟨h1, h2, h3, h4, h5, h6⟩ := h
  constructor
  · unfold fX10_pass
    rw [z_g_t (show z_ob 1 10 from rfl), z_l_s, h2, n_s1]
  · refine ⟨fun b k q1 q2 => ?_, z_u_at _ _ _ _, by rw [z_u_k (by decide)]; exact h3, ?_, fun k hk => ?_, fun k hk => ?_⟩
    · rw [z_u_eq, if_neg (by omega)]; exact h1 b k q1 q2
    · rw [u_o (by omega)]; exact h4
    · rw [u_o (by omega), u_o (by omega)]; exact h5 k hk
    · rw [u_o (by omega)]; exact h6 k hk
theorem c_flt (hP : r_P mu) (h : u_X I (mu 8) J p m F) {c q : Nat} : fX10_fails 1 (nI c) (nI q) J = some (0, z_u J 1 4 (u_flt c q)) ∧ u_Fl I (mu 8) (z_u J 1 4 (u_flt c q)) (u_flt c q) := by
  have hm := p_le hP (show 8 < 9 by decide)
  constructor
  · unfold fX10_fails u_flt
    rw [z_g_t (show z_ob 1 10 from rfl), z_l_s]
  · refine ⟨fun b k q1 q2 => ?_, z_u_at _ _ _ _, ?_⟩
    · rw [z_u_eq, if_neg (by omega)]
      exact h.1 b k q1 q2
    · rw [u_o (by omega)]
      exact h.2.2.2.2.2 0 (Nat.zero_le m)
theorem u_X_w {J' : z_He} {m' : Nat} {F' : u_F} (hP : r_P mu) (h : u_X I (mu 8) J p m F) (hC : u_C (mu 8) J' m' F') (hb : ∀ b, ¬ (mu 8 ≤ b ∧ b ≤ mu 8 + 3) → J' b = J b) : u_X I (mu 8) J' p m' F' := by
  have hm := p_le hP (show 8 < 9 by decide)
  obtain ⟨h1, h2, h3, -⟩ := h
  exact ⟨fun b k q1 q2 => by rw [hb b q2]; exact h1 b k q1 q2, by rw [hb 1 (by omega)]; exact h2, by rw [hb 1 (by omega)]; exact h3, hC⟩
theorem c_isT (x : Int32) : fX6_isTimes x = some (if u_isT x = true then 1 else 0) := by
  unfold fX6_isTimes u_isT
  by_cases c1 : x < 50
  · rw [if_pos c1]; simp [c1]
  · rw [if_neg c1]
    by_cases c2 : (57 : Int32) < x
    · rw [if_pos c2]; simp [c2]
    · rw [if_neg c2]; simp [c1, c2]
theorem c_noteOf {x : Int32} (h : u_isN x = true) : fX6_noteOf x = some (nI (u_val x)) := by
  unfold fX6_noteOf u_val
  by_cases c : x = 46
  · rw [if_pos c, if_pos c]; rfl
  · rw [if_neg c, if_neg c]
    rcases u_isN_ok h with q | ⟨v, h1, h2, q⟩
    · exact absurd q c
    · rw [q, if_neg (show ¬ nI v < (97 : Int32) from nI_nlt (b := 97) h1 (by omega)), if_neg (show ¬ (103 : Int32) < nI v from nI_nlt (a := 103) h2 (by decide)), show nI v - (97 : Int32) = nI (v - 97) from n_sub (b := 97) h1, n_s1, nI_clamp (by omega), show v - 97 + 1 = v - 96 by omega]
theorem c_noteNo {x : Int32} (h : u_isN x = false) : fX6_noteOf x = some (-1) := by
  unfold u_isN at h
  unfold fX6_noteOf
  simp at h
  rw [if_neg h.1]
  by_cases c1 : x < 97
  · rw [if_pos c1]
  · rw [if_neg c1, if_pos]
    have := h.2 (by rw [Int32.not_lt] at c1; exact c1)
    exact this
theorem c_starts (x : Int32) : fX6_startsItem x = some (if x = 40 then 1 else if u_isN x = true then 1 else 0) := by
  unfold fX6_startsItem
  by_cases c : x = 40
  · rw [if_pos c, if_pos c]
  · rw [if_neg c, if_neg c]
    by_cases c2 : u_isN x = true
    · have v := u_val_b c2
      rw [c_noteOf c2, z_b_s, if_neg (n_m1 (by omega)), if_pos c2]
    · have c2' : u_isN x = false := by simpa using c2
      rw [c_noteNo c2', z_b_s, if_pos rfl, if_neg c2]
end UB
/-- the open rounds: where they began, how many beats were there -/
def u_D (m d : Nat) (F : u_F) (ab : Nat → Nat) : Prop := d ≤ 2 ∧ ∀ j, j < d → ab j ≤ m ∧ (ab j < m → (F (ab j)).2.2.2 = 1)
theorem u_ok_add {m v t : Nat} {F : u_F} (h : u_ok m F) (hv : v ≤ 7) (ht : 1 ≤ t) (hm : m + t ≤ 60) : u_ok (m + t) (u_add F m v t) := by
  refine ⟨hm, fun k hk => ?_⟩
  unfold u_add
  by_cases c : m ≤ k ∧ k < m + t
  · rw [if_pos c]
    refine ⟨hv, by dsimp only; omega, by dsimp only; omega, by dsimp only; split <;> omega, fun z => ?_⟩
    dsimp only at z ⊢
    by_cases ck : k = m
    · rw [if_pos ck] at z; omega
    · refine ⟨by omega, ?_⟩
      rw [if_pos (by omega)]
  · rw [if_neg c]
    obtain ⟨a1, a2, a3, a4, a5⟩ := h.2 k (by omega)
    refine ⟨a1, a2, a3, a4, fun z => ⟨(a5 z).1, ?_⟩⟩
    rw [if_neg (by omega)]
    exact (a5 z).2
theorem u_ok_up {m : Nat} {F : u_F} (h : u_ok m F) (hm : 0 < m) {q : u_Q} (h1 : q.1 = (F (m - 1)).1) (h2 : q.2.1 ≤ 1) (h3 : q.2.2.1 ≤ 1) (h4 : q.2.2.2 = (F (m - 1)).2.2.2) : u_ok m (u_up F (m - 1) q) := by
  refine ⟨h.1, fun k hk => ?_⟩
  obtain ⟨a1, a2, a3, a4, a5⟩ := h.2 k hk
  have e : ∀ j, (u_up F (m - 1) q j).1 = (F j).1 := fun j => by
    by_cases c : j = m - 1
    · rw [c, u_up_at, h1]
    · rw [u_up_o c]
  rw [e k, e (k - 1)]
  by_cases c : k = m - 1
  · subst c
    rw [u_up_at, h4]
    exact ⟨a1, h2, h3, a4, a5⟩
  · rw [u_up_o c]
    exact ⟨a1, a2, a3, a4, a5⟩
theorem u_ok_mh {m : Nat} {F : u_F} (h : u_ok m F) (hm : 0 < m) : u_ok m (u_mh F m) := u_ok_up h hm rfl (Nat.le_refl 1) (h.2 (m - 1) (by omega)).2.2.1 rfl
theorem u_ok_mb {m : Nat} {F : u_F} (h : u_ok m F) (hm : 0 < m) : u_ok m (u_mb F m) := u_ok_up h hm rfl (h.2 (m - 1) (by omega)).2.1 (Nat.le_refl 1) rfl
/-- which of the begins stay: all -/
def u_bg (m : Nat) (F G : u_F) : Prop := ∀ k, k < m → (G k).2.2.2 = (F k).2.2.2
theorem u_bg_up {m j : Nat} {F : u_F} {q : u_Q} (h : q.2.2.2 = (F j).2.2.2) : u_bg m F (u_up F j q) := fun k _ => by
  by_cases c : k = j
  · rw [c, u_up_at, h]
  · rw [u_up_o c]
theorem u_F12 {sg : Nat → Int32} {p m : Nat} {F : u_F} (h : u_ok m F) (hm : 0 < m) : u_ok m (u_F1 sg p m F) ∧ u_ok m (u_F2 sg p m F) ∧ u_bg m F (u_F1 sg p m F) ∧ u_bg m F (u_F2 sg p m F) := by
  unfold u_F1 u_F2
  refine ⟨?_, ?_, ?_, ?_⟩
  · split
    · exact u_ok_mh h hm
    · exact h
  · split
    · exact u_ok_mb h hm
    · exact h
  · split
    · exact u_bg_up rfl
    · exact fun _ _ => rfl
  · split
    · exact u_bg_up rfl
    · exact fun _ _ => rfl
/-- what a sound comes to -/
theorem u_snd_ok {sg : Nat → Int32} {n p m d : Nat} {F : u_F} {ab : Nat → Nat} (hs : u_sg n sg) (hok : u_ok m F) (hD : u_D m d F ab) (hp : p < n) (hN : u_isN (sg p) = true) (hm : m + u_tm (sg (p + 1)) ≤ 60) : p < u_p2 sg (u_p1 sg (u_tp (sg (p + 1)) (p + 1))) ∧ u_p2 sg (u_p1 sg (u_tp (sg (p + 1)) (p + 1))) ≤ n ∧ u_ok (m + u_tm (sg (p + 1))) (u_F2 sg (u_p1 sg (u_tp (sg (p + 1)) (p + 1))) (m + u_tm (sg (p + 1))) (u_F1 sg (u_tp (sg (p + 1)) (p + 1)) (m + u_tm (sg (p + 1))) (u_add F m (u_val (sg p)) (u_tm (sg (p + 1)))))) ∧ u_D (m + u_tm (sg (p + 1))) d (u_F2 sg (u_p1 sg (u_tp (sg (p + 1)) (p + 1))) (m + u_tm (sg (p + 1))) (u_F1 sg (u_tp (sg (p + 1)) (p + 1)) (m + u_tm (sg (p + 1))) (u_add F m (u_val (sg p)) (u_tm (sg (p + 1)))))) ab := by
  have tb := u_tm_b (sg (p + 1))
  have hv := u_val_b hN
  have q1 : p < u_tp (sg (p + 1)) (p + 1) ∧ u_tp (sg (p + 1)) (p + 1) ≤ n := by
    unfold u_tp
    by_cases c : u_isT (sg (p + 1)) = true
    · rw [if_pos c]
      obtain ⟨v, v1, v2, e⟩ := u_isT_ok c
      have := u_sg_lt hs e (by omega)
      omega
    · rw [if_neg c]; omega
  generalize u_tp (sg (p + 1)) (p + 1) = a at q1
  have q2 : p < u_p1 sg a ∧ u_p1 sg a ≤ n := by
    unfold u_p1
    by_cases c : sg a = 94
    · rw [if_pos c]
      have := u_sg_lt (v := 94) hs c (by decide)
      omega
    · rw [if_neg c]; omega
  have o1 := u_ok_add hok hv tb.1 hm
  obtain ⟨o2, -, b1, -⟩ := u_F12 (sg := sg) (p := a) o1 (by omega)
  generalize u_p1 sg a = b at q2
  have q3 : p < u_p2 sg b ∧ u_p2 sg b ≤ n := by
    unfold u_p2
    by_cases c : sg b = 44
    · rw [if_pos c]
      have := u_sg_lt (v := 44) hs c (by decide)
      omega
    · rw [if_neg c]; omega
  obtain ⟨-, o3, -, b2⟩ := u_F12 (sg := sg) (p := b) o2 (by omega)
  refine ⟨q3.1, q3.2, o3, hD.1, fun j hj => ?_⟩
  obtain ⟨d1, d2⟩ := hD.2 j hj
  refine ⟨by omega, fun _ => ?_⟩
  rw [b2 _ (by omega), b1 _ (by omega)]
  unfold u_add
  by_cases c : m ≤ ab j ∧ ab j < m + u_tm (sg (p + 1))
  · rw [if_pos c]
    dsimp only
    rw [if_pos (by omega)]
  · rw [if_neg c]
    exact d2 (by omega)
