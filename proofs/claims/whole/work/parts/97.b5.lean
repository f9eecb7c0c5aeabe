/-! law: the class's tape and steps -/
def w_Y (A : Nat) (I J : z_He) : Prop := ∀ b k, ¬ (b = 1 ∧ (k = 2 ∨ k = 4)) → ¬ (A ≤ b ∧ b ≤ A + 6) → J b k = I b k
def w_X (I : z_He) (A : Nat) (J : z_He) (p s : Nat) (M : q_M) (nr : Nat) (ru : q_U) : Prop := w_Y A I J ∧ J 1 2 = nI p ∧ J 1 4 = 0 ∧ J A 2 = nI s ∧ J A 7 = nI nr ∧ (∀ k, k < s → J (A + 1) k = nI (l_op (M k).1)) ∧ ∀ r, r < nr → J (A + 3) r = nI (ru r).1 ∧ J (A + 4) r = nI (ru r).2.1 ∧ J (A + 5) r = nI (ru r).2.2.1 ∧ J (A + 6) r = nI (ru r).2.2.2
def w_tx (I : z_He) (n : Nat) (sg : Nat → Int32) : Prop := u_sg n sg ∧ n ≤ 240 ∧ I 1 3 = nI n ∧ ∀ p, p < n → I 2 p = sg p
def w_F (I : z_He) (A n : Nat) (J : z_He) (f : Int32) : Prop := w_Y A I J ∧ J 1 4 = f ∧ (∃ p, p ≤ n + 5 ∧ J 1 2 = nI p) ∧ ∃ s, s ≤ 240 ∧ J A 2 = nI s
theorem o_sp {mu : Nat → Nat} (h : r_P mu) : z_ob (mu 10) 3 ∧ z_Rm mu (mu 10) 0 = mu 10 + 1 ∧ z_Rm mu (mu 10) 1 = mu 10 + 2 ∧ z_Rm mu (mu 10) 3 = mu 10 + 3 ∧ z_Rm mu (mu 10) 4 = mu 10 + 4 ∧ z_Rm mu (mu 10) 5 = mu 10 + 5 ∧ z_Rm mu (mu 10) 6 = mu 10 + 6 ∧ z_len 1 (mu 10 + 1) = 240 ∧ z_len 1 (mu 10 + 2) = 240 ∧ z_len 1 (mu 10 + 3) = 16 ∧ z_len 1 (mu 10 + 4) = 16 ∧ z_len 1 (mu 10 + 5) = 16 ∧ z_len 1 (mu 10 + 6) = 16 := by
  rcases (p_law h).2 with e | e
  · rw [e]; exact ⟨rfl, rfl, rfl, rfl, rfl, rfl, rfl, rfl, rfl, rfl, rfl, rfl, rfl⟩
  · rw [e]; exact ⟨rfl, rfl, rfl, rfl, rfl, rfl, rfl, rfl, rfl, rfl, rfl, rfl, rfl⟩
theorem o58 {mu : Nat → Nat} (hX : mu 12 = mu 10) : z_Rm mu 58 0 = 1 ∧ z_Rm mu 58 1 = mu 10 := ⟨rfl, by rw [← hX]; rfl⟩
theorem o1 : z_ob 1 10 := rfl
theorem o584 : z_ob 58 4 := rfl
section WA
variable {I J : z_He} {mu : Nat → Nat} {n p s : Nat} {M : q_M} {nr : Nat} {ru : q_U} {sg : Nat → Int32} {f : Int32}
theorem w_10 (hP : r_P mu) : 41 ≤ mu 10 ∧ mu 10 ≤ 49 := by
  have := (p_law hP).2
  omega
theorem cl_sg0 (hP : r_P mu) (ht : w_tx I n sg) (h1 : w_Y (mu 10) I J) (h2 : J 1 2 = nI p) (hp : p ≤ n + 5) : fX10_sign 1 J (z_Rm mu) = some (sg p) := by
  have hm := w_10 hP
  obtain ⟨t1, t2, t3, t4⟩ := ht
  have e3 : J 1 3 = nI n := by rw [h1 1 3 (by omega) (by omega)]; exact t3
  unfold fX10_sign
  rw [z_g_t o1, h2, if_neg (nI_pos (by omega)), e3]
  by_cases c : p < n
  · rw [if_neg (nI_ge c (by omega)), show z_Rm mu 1 0 = 2 from rfl, z_g_t (n_ok (n := 260) rfl (show p < 260 by omega) (by decide)), nI_clamp (show p < 2 ^ 31 by omega), h1 2 p (by omega) (by omega), t4 p c]
  · rw [if_pos (nI_le (by omega) (by omega)), t1.2 p (by omega)]
theorem cl_sg (hP : r_P mu) (ht : w_tx I n sg) (h : w_X I (mu 10) J p s M nr ru) (hp : p ≤ n + 5) : fX10_sign 1 J (z_Rm mu) = some (sg p) := cl_sg0 hP ht h.1 h.2.1 hp
theorem cf_sg (hP : r_P mu) (ht : w_tx I n sg) (h : w_F I (mu 10) n J f) : ∃ v, fX10_sign 1 J (z_Rm mu) = some v := by
  obtain ⟨h1, h2, ⟨p, h3, h4⟩, h5⟩ := h
  exact ⟨_, cl_sg0 hP ht h1 h4 h3⟩
theorem cl_pass (hP : r_P mu) (h : w_X I (mu 10) J p s M nr ru) : fX10_pass 1 J = some (z_u J 1 2 (nI (p + 1))) ∧ w_X I (mu 10) (z_u J 1 2 (nI (p + 1))) (p + 1) s M nr ru ∧ z_u J 1 2 (nI (p + 1)) (mu 10 + 2) = J (mu 10 + 2) := by
  have hm := w_10 hP
  obtain ⟨h1, h2, h3, h4, h5, h6, h7⟩ := h
  refine ⟨?_, ⟨fun b k q1 q2 => ?_, z_u_at _ _ _ _, by rw [z_u_k (by decide)]; exact h3, ?_, ?_, fun k hk => ?_, fun r hr => ?_⟩, u_o (by omega)⟩
  · unfold fX10_pass
    rw [z_g_t o1, z_l_s, h2, n_s1]
  · rw [z_u_eq, if_neg (by omega)]; exact h1 b k q1 q2
  · rw [u_o (by omega)]; exact h4
  · rw [u_o (by omega)]; exact h5
  · rw [u_o (by omega)]; exact h6 k hk
  · rw [u_o (by omega), u_o (by omega), u_o (by omega), u_o (by omega)]; exact h7 r hr
theorem cl_place (h : w_X I (mu 10) J p s M nr ru) : fX10_place 1 J = some (nI p) := by
  unfold fX10_place
  rw [z_g_t o1, h.2.1]
theorem cl_flt (hP : r_P mu) (h : w_X I (mu 10) J p s M nr ru) (hp : p ≤ n + 5) (hs : s ≤ 240) {c q : Nat} : fX10_fails 1 (nI c) (nI q) J = some (0, z_u J 1 4 (u_flt c q)) ∧ w_F I (mu 10) n (z_u J 1 4 (u_flt c q)) (u_flt c q) := by
  have hm := w_10 hP
  constructor
  · unfold fX10_fails u_flt
    rw [z_g_t o1, z_l_s]
  · refine ⟨fun b k q1 q2 => ?_, z_u_at _ _ _ _, ⟨p, hp, ?_⟩, s, hs, ?_⟩
    · rw [z_u_eq, if_neg (by omega)]
      exact h.1 b k q1 q2
    · rw [z_u_k (by decide)]; exact h.2.1
    · rw [u_o (by omega)]; exact h.2.2.2.1
def w_put (A s : Nat) (x y : Int32) (J : z_He) : z_He := z_u (z_u (z_u J (A + 1) s x) (A + 2) s y) A 2 (nI (s + 1))
theorem cl_add0 (hP : r_P mu) (h : J (mu 10) 2 = nI s) (hs : s < 240) {x y : Int32} : fX3_addStep (mu 10) x y J (z_Rm mu) = some (w_put (mu 10) s x y J) := by
  obtain ⟨a1, a2, a3, a4, a5, a6, a7, l1, l2, l3, l4, l5, l6⟩ := o_sp hP
  unfold fX3_addStep w_put
  rw [z_g_t a1, h, if_neg (show ¬ (240 : Int32) ≤ nI s from nI_ge hs (by decide)), a2, a3, z_g_t (n_ok l1 hs (by decide)), nI_clamp (show s < 2 ^ 31 by omega), z_l_s, u_o (show mu 10 ≠ mu 10 + 1 by omega), h, z_g_t (n_ok l2 hs (by decide)), nI_clamp (show s < 2 ^ 31 by omega), z_l_s, u_o (show mu 10 ≠ mu 10 + 2 by omega), u_o (show mu 10 ≠ mu 10 + 1 by omega), h, n_s1, z_l_s]
theorem w_put_v {A : Nat} {x y : Int32} : w_put A s x y J (A + 2) s = y ∧ ∀ k, k ≠ s → w_put A s x y J (A + 2) k = J (A + 2) k := by
  unfold w_put
  constructor
  · rw [u_o (by omega), z_u_at]
  · intro k hk
    rw [u_o (by omega), z_u_k hk, u_o (by omega)]
theorem cl_add (hP : r_P mu) (h : w_X I (mu 10) J p s M nr ru) (hs : s < 240) {x y : Int32} {a : Nat × Nat} (hx : x = nI (l_op a.1)) : fX3_addStep (mu 10) x y J (z_Rm mu) = some (w_put (mu 10) s x y J) ∧ w_X I (mu 10) (w_put (mu 10) s x y J) p (s + 1) (q_up M s a) nr ru := by
  have hm := w_10 hP
  obtain ⟨h1, h2, h3, h4, h5, h6, h7⟩ := h
  refine ⟨cl_add0 hP h4 hs, fun b k q1 q2 => ?_, ?_, ?_, ?_, ?_, fun k hk => ?_, fun r hr => ?_⟩
  · unfold w_put
    rw [u_o (by omega), u_o (by omega), u_o (by omega)]; exact h1 b k q1 q2
  · unfold w_put
    rw [u_o (by omega), u_o (by omega), u_o (by omega)]; exact h2
  · unfold w_put
    rw [u_o (by omega), u_o (by omega), u_o (by omega)]; exact h3
  · unfold w_put
    rw [z_u_at]
  · unfold w_put
    rw [z_u_k (by decide), u_o (by omega), u_o (by omega)]; exact h5
  · unfold w_put
    rw [u_o (by omega), u_o (by omega)]
    by_cases c : k = s
    · rw [c, z_u_at, q_up_at]; exact hx
    · rw [z_u_k c, q_up_o c]; exact h6 k (by omega)
  · unfold w_put
    rw [u_o (show mu 10 + 3 ≠ mu 10 by omega), u_o (show mu 10 + 3 ≠ mu 10 + 2 by omega), u_o (show mu 10 + 3 ≠ mu 10 + 1 by omega), u_o (show mu 10 + 4 ≠ mu 10 by omega), u_o (show mu 10 + 4 ≠ mu 10 + 2 by omega), u_o (show mu 10 + 4 ≠ mu 10 + 1 by omega), u_o (show mu 10 + 5 ≠ mu 10 by omega), u_o (show mu 10 + 5 ≠ mu 10 + 2 by omega), u_o (show mu 10 + 5 ≠ mu 10 + 1 by omega), u_o (show mu 10 + 6 ≠ mu 10 by omega), u_o (show mu 10 + 6 ≠ mu 10 + 2 by omega), u_o (show mu 10 + 6 ≠ mu 10 + 1 by omega)]
    exact h7 r hr
theorem cf_add (hP : r_P mu) (h : w_F I (mu 10) n J f) {x y : Int32} : ∃ J', fX3_addStep (mu 10) x y J (z_Rm mu) = some J' ∧ w_F I (mu 10) n J' f := by
  have hm := w_10 hP
  obtain ⟨h1, h2, ⟨p, h3, h4⟩, s, h5, h6⟩ := h
  by_cases c : s < 240
  · refine ⟨_, cl_add0 hP h6 c, fun b k q1 q2 => ?_, ?_, ⟨p, h3, ?_⟩, s + 1, by omega, ?_⟩
    · unfold w_put
      rw [u_o (by omega), u_o (by omega), u_o (by omega)]; exact h1 b k q1 q2
    · unfold w_put
      rw [u_o (by omega), u_o (by omega), u_o (by omega)]; exact h2
    · unfold w_put
      rw [u_o (by omega), u_o (by omega), u_o (by omega)]; exact h4
    · unfold w_put
      rw [z_u_at]
  · refine ⟨J, ?_, h1, h2, ⟨p, h3, h4⟩, s, h5, h6⟩
    unfold fX3_addStep
    rw [z_g_t (o_sp hP).1, h6, if_pos (show (240 : Int32) ≤ nI s from nI_le (a := 240) (by omega) (by omega))]
/-- other rows of M above, another rule that is not yet told -/
theorem w_X_c {M' : q_M} {ru' : q_U} (h : w_X I (mu 10) J p s M nr ru) (hM : ∀ k, k < s → (M' k).1 = (M k).1) (hr : ∀ r, r < nr → ru' r = ru r) : w_X I (mu 10) J p s M' nr ru' := by
  obtain ⟨h1, h2, h3, h4, h5, h6, h7⟩ := h
  exact ⟨h1, h2, h3, h4, h5, fun k hk => by rw [hM k hk]; exact h6 k hk, fun r q => by rw [hr r q]; exact h7 r q⟩
theorem w_X_w {J' : z_He} (hP : r_P mu) (h : w_X I (mu 10) J p s M nr ru) (hb : ∀ b, b ≠ mu 10 + 2 → J' b = J b) : w_X I (mu 10) J' p s M nr ru := by
  have hm := w_10 hP
  obtain ⟨h1, h2, h3, h4, h5, h6, h7⟩ := h
  exact ⟨fun b k q1 q2 => by rw [hb b (by omega)]; exact h1 b k q1 q2, by rw [hb 1 (by omega)]; exact h2, by rw [hb 1 (by omega)]; exact h3, by rw [hb (mu 10) (by omega)]; exact h4, by rw [hb (mu 10) (by omega)]; exact h5, fun k hk => by rw [hb (mu 10 + 1) (by omega)]; exact h6 k hk, fun r q => by rw [hb (mu 10 + 3) (by omega), hb (mu 10 + 4) (by omega), hb (mu 10 + 5) (by omega), hb (mu 10 + 6) (by omega)]; exact h7 r q⟩
theorem cf_land (hP : r_P mu) (h : w_F I (mu 10) n J f) {x : Int32} : ∃ J', fX3_landHere (mu 10) x J (z_Rm mu) = some J' ∧ w_F I (mu 10) n J' f := by
  have hm := w_10 hP
  obtain ⟨a1, a2, a3, a4, a5, a6, a7, l1, l2, l3, l4, l5, l6⟩ := o_sp hP
  obtain ⟨J', e1, e2⟩ := lp_var (body := fX3_landHere_b4 (mu 10) (z_Rm mu)) (fun q => (∃ j, j ≤ 240 ∧ q.2.1 = nI j) ∧ w_F I (mu 10) n q.2.2 f) (fun J' => w_F I (mu 10) n J' f) (fun q => 241 - q.2.1.toNatClampNeg) (fun q hq => by
    obtain ⟨x, y, G⟩ := q
    obtain ⟨⟨j, j1, j2⟩, hq⟩ := hq
    dsimp only at j2 hq ⊢
    subst j2
    obtain ⟨h1, h2, ⟨p, h3, h4⟩, s, h5, h6⟩ := hq
    have all : w_F I (mu 10) n G f := ⟨h1, h2, ⟨p, h3, h4⟩, s, h5, h6⟩
    unfold fX3_landHere_b4
    dsimp only
    by_cases c1 : (240 : Int32) ≤ nI j
    · rw [if_pos c1]; exact Or.inr ⟨G, rfl, all⟩
    rw [if_neg c1]
    have j240 : j < 240 := by
      rw [show (240 : Int32) = nI 240 from rfl, n_le (by decide) (by omega)] at c1
      omega
    by_cases c2 : x < 0
    · rw [if_pos c2]; exact Or.inr ⟨G, rfl, all⟩
    rw [if_neg c2, h6]
    by_cases c3 : nI s ≤ x
    · rw [if_pos c3]; exact Or.inr ⟨G, rfl, all⟩
    rw [if_neg c3]
    obtain ⟨k, k1, rfl⟩ := nI_of c2
    have ks : k < s := by
      rw [n_le (by omega) k1] at c3
      omega
    rw [a3, z_g_t (n_ok l2 (show k < 240 by omega) (by decide)), nI_clamp k1, z_l_s, z_l_s, z_l_s, n_s1]
    refine Or.inl ⟨_, rfl, ⟨⟨j + 1, by omega, rfl⟩, fun b i q1 q2 => ?_, ?_, ⟨p, h3, ?_⟩, s, h5, ?_⟩, ?_⟩
    · dsimp only
      rw [u_o (by omega)]; exact h1 b i q1 q2
    · dsimp only
      rw [u_o (by omega)]; exact h2
    · dsimp only
      rw [u_o (by omega)]; exact h4
    · dsimp only
      rw [u_o (by omega)]; exact h6
    · dsimp only
      rw [nI_clamp (by omega), nI_clamp (by omega)]
      omega) 300 (x, (0 : Int32), J) (by dsimp only; omega) ⟨⟨0, by decide, rfl⟩, h⟩
  refine ⟨J', ?_, e2⟩
  unfold fX3_landHere
  rw [z_g_t a1, e1, z_b_s]
/-- the chain, as the class has it -/
def w_lk (V : Nat → Int32) : Nat → List Nat → Prop
  | _, [] => True
  | s, k :: r => k < s ∧ V k = w_prev r ∧ w_lk V k r
theorem w_lk_c {V V' : Nat → Int32} : ∀ {ks : List Nat} {s : Nat}, w_lk V s ks → (∀ k, k < s → V' k = V k) → w_lk V' s ks
  | [], _, _, _ => trivial
  | k :: r, s, h, hc => ⟨h.1, by rw [hc k h.1]; exact h.2.1, w_lk_c h.2.2 (fun j hj => hc j (by have := h.1; omega))⟩
theorem w_lk_le {V : Nat → Int32} : ∀ {ks : List Nat} {s : Nat}, w_lk V s ks → ks.length ≤ s ∧ ∀ k, k ∈ ks → k < s
  | [], s, _ => ⟨Nat.zero_le s, fun k hk => by cases hk⟩
  | k :: r, s, h => by
    obtain ⟨a1, a2⟩ := w_lk_le h.2.2
    have := h.1
    refine ⟨by simp; omega, fun x hx => ?_⟩
    rcases List.mem_cons.mp hx with e | e
    · omega
    · have := a2 x e
      omega
theorem w_ch_lk {op s0 : Nat} {V : Nat → Int32} : ∀ {ks : List Nat} {s : Nat}, w_ch op M V s0 ks s → w_lk V s ks
  | [], _, _ => trivial
  | k :: r, s, h => ⟨h.1, h.2.2.1, w_ch_lk h.2.2.2.2⟩
theorem cl_land0 (hP : r_P mu) (hs : s ≤ 240) : ∀ (ks : List Nat) (b : Nat) (G : z_He) (j N : Nat), G (mu 10) 2 = nI s → b ≤ s → w_lk (G (mu 10 + 2)) b ks → j + ks.length ≤ 240 → ks.length < N → ∃ J', z_lp (fX3_landHere_b4 (mu 10) (z_Rm mu)) N (w_prev ks, nI j, G) = some J' ∧ (∀ b, b ≠ mu 10 + 2 → J' b = G b) ∧ (∀ k, k ∈ ks → J' (mu 10 + 2) k = nI s) ∧ ∀ k, k ∉ ks → J' (mu 10 + 2) k = G (mu 10 + 2) k := by
  obtain ⟨a1, a2, a3, a4, a5, a6, a7, l1, l2, l3, l4, l5, l6⟩ := o_sp hP
  intro ks
  induction ks with
  | nil =>
    intro b G j N g1 g2 g3 g4 g5
    obtain ⟨N, rfl⟩ : ∃ N', N = N' + 1 := ⟨N - 1, by omega⟩
    refine ⟨G, ?_, fun _ _ => rfl, fun k hk => (by cases hk), fun _ _ => rfl⟩
    unfold z_lp fX3_landHere_b4
    dsimp only
    have e : w_prev [] < 0 := by decide
    by_cases c : (240 : Int32) ≤ nI j
    · rw [if_pos c]
    · rw [if_neg c, if_pos e]
  | cons k r ih =>
    intro b G j N g1 g2 g3 g4 g5
    obtain ⟨N, rfl⟩ : ∃ N', N = N' + 1 := ⟨N - 1, by omega⟩
    obtain ⟨k1, k2, k3⟩ := g3
    simp only [List.length_cons] at g4 g5
    obtain ⟨J', e1, e2, e3, e4⟩ := ih k (z_u G (mu 10 + 2) k (nI s)) (j + 1) N (by rw [u_o (by omega)]; exact g1) (by omega) (w_lk_c k3 (fun i hi => z_u_k (by omega))) (by omega) (by omega)
    refine ⟨J', ?_, fun b hb => by rw [e2 b hb, u_o hb], fun i hi => ?_, fun i hi => ?_⟩
    · have eb : fX3_landHere_b4 (mu 10) (z_Rm mu) (w_prev (k :: r), nI j, G) = some (.inl (w_prev r, nI (j + 1), z_u G (mu 10 + 2) k (nI s))) := by
        show fX3_landHere_b4 (mu 10) (z_Rm mu) (nI k, nI j, G) = _
        unfold fX3_landHere_b4
        dsimp only
        rw [if_neg (show ¬ (240 : Int32) ≤ nI j from nI_ge (show j < 240 by omega) (by decide)), if_neg (nI_pos (show k < 2 ^ 31 by omega)), g1, if_neg (nI_ge (show k < s by omega) (by omega)), a3, z_g_t (n_ok l2 (show k < 240 by omega) (by decide)), nI_clamp (show k < 2 ^ 31 by omega), z_l_s, z_l_s, z_l_s, n_s1, k2]
      unfold z_lp
      rw [eb]
      exact e1
    · by_cases c : i ∈ r
      · exact e3 i c
      · rcases List.mem_cons.mp hi with e | e
        · rw [e4 i c, e, z_u_at]
        · exact absurd e c
    · have n1 : i ≠ k := fun e => hi (by rw [e]; exact List.mem_cons_self)
      have n2 : i ∉ r := fun e => hi (List.mem_cons_of_mem k e)
      rw [e4 i n2, z_u_k n1]
theorem cl_land (hP : r_P mu) (h : w_X I (mu 10) J p s M nr ru) (hs : s ≤ 240) {ks : List Nat} (hk : w_lk (J (mu 10 + 2)) s ks) : ∃ J', fX3_landHere (mu 10) (w_prev ks) J (z_Rm mu) = some J' ∧ w_X I (mu 10) J' p s M nr ru ∧ (∀ k, k ∈ ks → J' (mu 10 + 2) k = nI s) ∧ ∀ k, k ∉ ks → J' (mu 10 + 2) k = J (mu 10 + 2) k := by
  have l := (w_lk_le hk).1
  obtain ⟨J', e1, e2, e3, e4⟩ := cl_land0 hP hs ks s J 0 300 h.2.2.2.1 (Nat.le_refl s) hk (by omega) (by omega)
  refine ⟨J', ?_, w_X_w hP h e2, e3, e4⟩
  unfold fX3_landHere
  rw [z_g_t (o_sp hP).1, show (0 : Int32) = nI 0 from rfl, e1, z_b_s]
end WA
