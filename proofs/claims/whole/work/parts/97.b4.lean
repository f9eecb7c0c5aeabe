/-! law: what a piece of code does to the values -/
def w_cd (M : q_M) (V : Nat → Int32) : l_C := fun k => ((M k).1, (M k).2, (V k).toNatClampNeg, (M k).2)
def w_ck (M : q_M) (V : Nat → Int32) (k : Nat) : Prop := (M k).1 ≤ 12 ∧ ((M k).1 = 0 → (M k).2 < 100000) ∧ ((M k).1 = 1 → (M k).2 < 8) ∧ (2 ≤ (M k).1 → (M k).1 ≤ 10 → (M k).2 = 0) ∧ V k = nI (if (M k).1 ≤ 1 then (M k).2 else if 11 ≤ (M k).1 then (V k).toNatClampNeg else 0)
def w_row (cd : l_C) (md : Nat → Nat) (k t : Nat) : Prop := ((cd k).1 ≤ 1 ∧ md k < 20 ∧ md (k + 1) = md k + 1) ∨ (2 ≤ (cd k).1 ∧ (cd k).1 ≤ 6 ∧ md k < 30 ∧ 2 ≤ md k ∧ md (k + 1) + 1 = md k) ∨ (7 ≤ (cd k).1 ∧ (cd k).1 ≤ 9 ∧ md k = 2 ∧ md (k + 1) = 100) ∨ ((cd k).1 = 10 ∧ md k = 100 ∧ md (k + 1) = 100) ∨
  (((cd k).1 = 11 ∨ (cd k).1 = 12) ∧ md k = 100 ∧ md (k + 1) = 0 ∧ k < (cd k).2.2.2 ∧ (cd k).2.2.2 ≤ (cd k).2.2.1 ∧ (cd k).2.2.1 ≤ t ∧ md (cd k).2.2.1 = 100 ∧ md (cd k).2.2.2 = 100 ∧ ((cd k).2.2.2 = (cd k).2.2.1 ∨ ((cd (cd k).2.2.2).1 = (cd k).1 ∧ (cd (cd k).2.2.2).2.2.1 = (cd k).2.2.1)))
theorem w_row_md {cd : l_C} {md md' : Nat → Nat} {k t t' : Nat} (h : w_row cd md k t) (hk : k < t) (ht : t ≤ t') (e : ∀ j, k ≤ j → j ≤ t → md' j = md j) : w_row cd md' k t' := by
  unfold w_row at h ⊢
  rw [e k (by omega) (by omega), e (k + 1) (by omega) (by omega)]
  rcases h with h | h | h | h | ⟨h1, h2, h3, h4, h5, h6, h7, h8, h9⟩
  · exact Or.inl h
  · exact Or.inr (Or.inl h)
  · exact Or.inr (Or.inr (Or.inl h))
  · exact Or.inr (Or.inr (Or.inr (Or.inl h)))
  · refine Or.inr (Or.inr (Or.inr (Or.inr ⟨h1, h2, h3, h4, h5, by omega, ?_, ?_, h9⟩)))
    · rw [e _ (by omega) (by omega)]; exact h7
    · rw [e _ (by omega) (by omega)]; exact h8
theorem w_row_cd {cd cd' : l_C} {md : Nat → Nat} {k t : Nat} (h : w_row cd md k t) (hk : k < t) (e : ∀ j, k ≤ j → j < t → cd' j = cd j) : w_row cd' md k t := by
  unfold w_row at h ⊢
  rw [e k (by omega) (by omega)]
  rcases h with h | h | h | h | ⟨h1, h2, h3, h4, h5, h6, h7, h8, h9⟩
  · exact Or.inl h
  · exact Or.inr (Or.inl h)
  · exact Or.inr (Or.inr (Or.inl h))
  · exact Or.inr (Or.inr (Or.inr (Or.inl h)))
  · refine Or.inr (Or.inr (Or.inr (Or.inr ⟨h1, h2, h3, h4, h5, h6, h7, h8, ?_⟩)))
    by_cases c : (cd k).2.2.2 = (cd k).2.2.1
    · exact Or.inl c
    · rw [e _ (by omega) (by omega)]
      exact h9
def w_T (b : Nat) (M : q_M) (V : Nat → Int32) (s t e e' : Nat) : Prop := s ≤ t ∧ ∃ md : Nat → Nat, md s = e ∧ md t = e' ∧ ∀ k, s ≤ k → k < t → w_ck M V k ∧ (M k).1 ≤ b ∧ w_row (w_cd M V) md k t
section WT
variable {b : Nat} {M M' : q_M} {V V' : Nat → Int32} {s t u e e1 e2 : Nat}
theorem w_ck_c {k : Nat} (h : w_ck M V k) (h1 : M' k = M k) (h2 : V' k = V k) : w_ck M' V' k := by
  unfold w_ck at h ⊢
  rw [h1, h2]
  exact h
theorem w_cd_c {k : Nat} (h1 : M' k = M k) (h2 : V' k = V k) : w_cd M' V' k = w_cd M V k := by
  unfold w_cd
  rw [h1, h2]
theorem w_T_0 : w_T b M V s s e e := ⟨Nat.le_refl s, fun _ => e, rfl, rfl, fun k h1 h2 => by omega⟩
theorem w_T_le {b' : Nat} (h : w_T b M V s t e e1) (hb : b ≤ b') : w_T b' M V s t e e1 := by
  obtain ⟨h0, md, h1, h2, h3⟩ := h
  exact ⟨h0, md, h1, h2, fun k k1 k2 => ⟨(h3 k k1 k2).1, by have := (h3 k k1 k2).2.1; omega, (h3 k k1 k2).2.2⟩⟩
theorem w_T_c (h : w_T b M V s t e e1) (hc : ∀ k, s ≤ k → k < t → M' k = M k ∧ V' k = V k) : w_T b M' V' s t e e1 := by
  obtain ⟨h0, md, h1, h2, h3⟩ := h
  refine ⟨h0, md, h1, h2, fun k k1 k2 => ?_⟩
  obtain ⟨a1, a2, a3⟩ := h3 k k1 k2
  obtain ⟨c1, c2⟩ := hc k k1 k2
  exact ⟨w_ck_c a1 c1 c2, by rw [c1]; exact a2, w_row_cd a3 k2 (fun j j1 j2 => w_cd_c (hc j (by omega) j2).1 (hc j (by omega) j2).2)⟩
theorem w_T_g (h : w_T b M V s t e e1) (g : w_T b M V t u e1 e2) : w_T b M V s u e e2 := by
  obtain ⟨h0, md, h1, h2, h3⟩ := h
  obtain ⟨g0, md', g1, g2, g3⟩ := g
  refine ⟨by omega, fun k => if k ≤ t then md k else md' k, ?_, ?_, fun k k1 k2 => ?_⟩
  · dsimp only
    rw [if_pos h0]; exact h1
  · dsimp only
    by_cases c : u ≤ t
    · rw [if_pos c]
      have : u = t := by omega
      rw [this, h2, ← g2, this, g1]
    · rw [if_neg c]; exact g2
  · by_cases c : k < t
    · obtain ⟨a1, a2, a3⟩ := h3 k k1 c
      exact ⟨a1, a2, w_row_md a3 c g0 (fun j j1 j2 => if_pos j2)⟩
    · obtain ⟨a1, a2, a3⟩ := g3 k (by omega) k2
      refine ⟨a1, a2, w_row_md a3 k2 (Nat.le_refl u) (fun j j1 j2 => ?_)⟩
      by_cases d : j ≤ t
      · have : j = t := by omega
        rw [if_pos d, this, h2, g1]
      · rw [if_neg d]
theorem w_T_1 {md1 : Nat} (hc : w_ck M V s) (hb : (M s).1 ≤ b) (hr : ∀ md : Nat → Nat, md s = e → md (s + 1) = md1 → w_row (w_cd M V) md s (s + 1)) : w_T b M V s (s + 1) e md1 := by
  refine ⟨by omega, fun k => if k = s then e else md1, if_pos rfl, if_neg (by omega), fun k k1 k2 => ?_⟩
  have : k = s := by omega
  subst this
  exact ⟨hc, hb, hr _ (if_pos rfl) (if_neg (by omega))⟩
theorem w_T_push {a x : Nat} (h1 : M s = (a, x)) (h2 : V s = nI x) (ha : (a = 0 ∧ x < 100000) ∨ (a = 1 ∧ x < 8)) (hb : a ≤ b) (he : e < 20) : w_T b M V s (s + 1) e (e + 1) := by
  refine w_T_1 ?_ (by rw [h1]; exact hb) (fun md m1 m2 => Or.inl ⟨?_, by omega, by omega⟩)
  · unfold w_ck
    rw [h1]
    dsimp only
    exact ⟨by omega, fun _ => by omega, fun _ => by omega, fun _ _ => by omega, by rw [if_pos (by omega)]; exact h2⟩
  · show (M s).1 ≤ 1
    rw [h1]
    dsimp only
    omega
theorem w_ck_0 {a : Nat} (h1 : M s = (a, 0)) (h2 : V s = 0) (h3 : 2 ≤ a) (h4 : a ≤ 10) : w_ck M V s := by
  unfold w_ck
  rw [h1]
  dsimp only
  refine ⟨by omega, fun _ => by omega, fun _ => by omega, fun _ _ => rfl, ?_⟩
  rw [if_neg (by omega), if_neg (by omega)]
  exact h2
theorem w_T_bin {a : Nat} (h1 : M s = (a, 0)) (h2 : V s = 0) (h3 : 2 ≤ a) (h4 : a ≤ 6) (hb : 6 ≤ b) (he : e + 2 < 30) : w_T b M V s (s + 1) (e + 2) (e + 1) := by
  refine w_T_1 (w_ck_0 h1 h2 h3 (by omega)) (by rw [h1]; dsimp only; omega) (fun md m1 m2 => Or.inr (Or.inl ?_))
  show 2 ≤ (M s).1 ∧ (M s).1 ≤ 6 ∧ _
  rw [h1]
  exact ⟨h3, h4, by omega, by omega, by omega⟩
theorem w_T_cmp {a : Nat} (h1 : M s = (a, 0)) (h2 : V s = 0) (h3 : 7 ≤ a) (h4 : a ≤ 9) (hb : 9 ≤ b) : w_T b M V s (s + 1) 2 100 := by
  refine w_T_1 (w_ck_0 h1 h2 (by omega) (by omega)) (by rw [h1]; dsimp only; omega) (fun md m1 m2 => Or.inr (Or.inr (Or.inl ?_)))
  show 7 ≤ (M s).1 ∧ (M s).1 ≤ 9 ∧ _
  rw [h1]
  exact ⟨h3, h4, m1, m2⟩
theorem w_T_not (h1 : M s = (10, 0)) (h2 : V s = 0) (hb : 10 ≤ b) : w_T b M V s (s + 1) 100 100 := by
  refine w_T_1 (w_ck_0 h1 h2 (by omega) (by omega)) (by rw [h1]; dsimp only; omega) (fun md m1 m2 => Or.inr (Or.inr (Or.inr (Or.inl ?_))))
  show (M s).1 = 10 ∧ _
  rw [h1]
  exact ⟨rfl, m1, m2⟩
end WT
/-- a chain of leaps, the last first -/
def w_prev : List Nat → Int32
  | [] => -1
  | k :: _ => nI k
def w_ch (op : Nat) (M : q_M) (V : Nat → Int32) (s0 : Nat) : List Nat → Nat → Prop
  | [], s => w_T 12 M V s0 s 0 100
  | k :: r, s => k < s ∧ M k = (op, s) ∧ V k = w_prev r ∧ w_T 12 M V (k + 1) s 0 100 ∧ w_ch op M V s0 r k
section WC
variable {op : Nat} {M M' : q_M} {V V' : Nat → Int32} {s0 : Nat}
theorem w_ch_le : ∀ {ks : List Nat} {s : Nat}, w_ch op M V s0 ks s → s0 ≤ s ∧ ∀ x, x ∈ ks → s0 ≤ x ∧ x < s
  | [], s, h => ⟨h.1, fun x hx => by cases hx⟩
  | k :: r, s, h => by
    obtain ⟨h1, -, -, -, h5⟩ := h
    obtain ⟨a1, a2⟩ := w_ch_le h5
    refine ⟨by omega, fun x hx => ?_⟩
    rcases List.mem_cons.mp hx with e | e
    · rw [e]; exact ⟨a1, h1⟩
    · have := a2 x e
      omega
theorem w_ch_c : ∀ {ks : List Nat} {s : Nat}, w_ch op M V s0 ks s → (∀ k, s0 ≤ k → k < s → M' k = M k ∧ V' k = V k) → w_ch op M' V' s0 ks s
  | [], s, h, hc => w_T_c h hc
  | k :: r, s, h, hc => by
    obtain ⟨h1, h2, h3, h4, h5⟩ := h
    have l := (w_ch_le h5).1
    obtain ⟨c1, c2⟩ := hc k l h1
    exact ⟨h1, by rw [c1]; exact h2, by rw [c2]; exact h3, w_T_c h4 (fun j j1 j2 => hc j (by omega) j2), w_ch_c h5 (fun j j1 j2 => hc j j1 (by omega))⟩
def w_row2 (M : q_M) (V : Nat → Int32) (md : Nat → Nat) (op k s E : Nat) : Prop := w_row (w_cd M V) md k s ∨ ((M k).1 = op ∧ md k = 100 ∧ md (k + 1) = 0 ∧ k < (M k).2 ∧ (M k).2 ≤ s ∧ V k = nI E ∧ md (M k).2 = 100 ∧ ((M k).2 = E ∨ ((M (M k).2).1 = op ∧ V (M k).2 = nI E)))
theorem w_fin0 {E : Nat} (hop : op = 11 ∨ op = 12) (hE : E < 2 ^ 31) : ∀ {ks : List Nat} {s : Nat}, w_ch op M V s0 ks s → s ≤ E → (∀ k, k ∈ ks → V' k = nI E) → (∀ k, s0 ≤ k → k < s → k ∉ ks → V' k = V k) → (s = E ∨ ((M s).1 = op ∧ V' s = nI E)) → ∃ md : Nat → Nat, md s0 = 0 ∧ md s = 100 ∧ ∀ k, s0 ≤ k → k < s → w_ck M V' k ∧ (M k).1 ≤ 12 ∧ w_row2 M V' md op k s E
  | [], s, h, hs, h1, h2, h3 => by
    obtain ⟨-, md, a1, a2, a3⟩ := w_T_c (M' := M) (V' := V') h (fun k k1 k2 => ⟨rfl, h2 k k1 k2 (by simp)⟩)
    exact ⟨md, a1, a2, fun k k1 k2 => ⟨(a3 k k1 k2).1, (a3 k k1 k2).2.1, Or.inl (a3 k k1 k2).2.2⟩⟩
  | k :: r, s, h, hs, h1, h2, h3 => by
    obtain ⟨g1, g2, g3, g4, g5⟩ := h
    obtain ⟨l1, l2⟩ := w_ch_le g5
    have vk := h1 k (List.mem_cons_self)
    have mk1 : (M k).1 = op := by rw [g2]
    have mk2 : (M k).2 = s := by rw [g2]
    obtain ⟨md, a1, a2, a3⟩ := w_fin0 hop hE g5 (by omega) (fun x hx => h1 x (List.mem_cons_of_mem k hx)) (fun x x1 x2 x3 => h2 x x1 (by omega) (fun q => by
      rcases List.mem_cons.mp q with e | e
      · omega
      · exact x3 e)) (Or.inr ⟨mk1, vk⟩)
    obtain ⟨b0, md', b1, b2, b3⟩ := w_T_c (M' := M) (V' := V') g4 (fun x x1 x2 => ⟨rfl, h2 x (by omega) x2 (fun q => by
      rcases List.mem_cons.mp q with e | e
      · omega
      · have := l2 x e
        omega)⟩)
    have d1 : ∀ j, j ≤ k → (if j ≤ k then md j else md' j) = md j := fun j hj => if_pos hj
    have d2 : ∀ j, k < j → (if j ≤ k then md j else md' j) = md' j := fun j hj => if_neg (by omega)
    refine ⟨fun j => if j ≤ k then md j else md' j, (d1 s0 l1).trans a1, (d2 s g1).trans b2, fun j j1 j2 => ?_⟩
    by_cases c : j < k
    · obtain ⟨e1, e2, e3⟩ := a3 j j1 c
      refine ⟨e1, e2, ?_⟩
      rcases e3 with e3 | ⟨f1, f2, f3, f4, f5, f6, f7, f8⟩
      · exact Or.inl (w_row_md e3 c (by omega) (fun x x1 x2 => d1 x x2))
      · refine Or.inr ⟨f1, ?_, ?_, f4, by omega, f6, ?_, f8⟩
        · exact (d1 j (by omega)).trans f2
        · exact (d1 (j + 1) (by omega)).trans f3
        · exact (d1 _ f5).trans f7
    · by_cases ck : j = k
      · subst ck
        refine ⟨?_, by omega, Or.inr ⟨mk1, ?_, ?_, by omega, by omega, vk, ?_, ?_⟩⟩
        · unfold w_ck
          rw [mk1]
          refine ⟨by omega, fun _ => by omega, fun _ => by omega, fun _ _ => by omega, ?_⟩
          rw [if_neg (by omega), if_pos (by omega), vk, nI_clamp hE]
        · exact (d1 j (Nat.le_refl j)).trans a2
        · exact (d2 (j + 1) (by omega)).trans b1
        · rw [mk2]; exact (d2 s g1).trans b2
        · rw [mk2]; exact h3
      · obtain ⟨e1, e2, e3⟩ := b3 j (by omega) j2
        exact ⟨e1, e2, Or.inl (w_row_md e3 j2 (Nat.le_refl s) (fun x x1 x2 => d2 x (by omega)))⟩
theorem w_fin {s : Nat} {ks : List Nat} (hop : op = 11 ∨ op = 12) (hE : s < 2 ^ 31) (h : w_ch op M V s0 ks s) (h1 : ∀ k, k ∈ ks → V' k = nI s) (h2 : ∀ k, s0 ≤ k → k < s → k ∉ ks → V' k = V k) : w_T 12 M V' s0 s 0 100 := by
  obtain ⟨md, a1, a2, a3⟩ := w_fin0 hop hE h (Nat.le_refl s) h1 h2 (Or.inl rfl)
  refine ⟨(w_ch_le h).1, md, a1, a2, fun k k1 k2 => ?_⟩
  obtain ⟨e1, e2, e3⟩ := a3 k k1 k2
  refine ⟨e1, e2, ?_⟩
  rcases e3 with e3 | ⟨f1, f2, f3, f4, f5, f6, f7, f8⟩
  · exact e3
  · refine Or.inr (Or.inr (Or.inr (Or.inr ?_)))
    have tc : (w_cd M V' k).2.2.1 = s := by
      show (V' k).toNatClampNeg = s
      rw [f6, nI_clamp hE]
    rw [tc]
    refine ⟨?_, f2, f3, f4, f5, Nat.le_refl s, a2, f7, ?_⟩
    · show (M k).1 = 11 ∨ (M k).1 = 12
      rw [f1]; exact hop
    · rcases f8 with f8 | ⟨f8, f9⟩
      · exact Or.inl f8
      · refine Or.inr ⟨?_, ?_⟩
        · show (M (M k).2).1 = (M k).1
          rw [f8, f1]
        · show (V' (M k).2).toNatClampNeg = s
          rw [f9, nI_clamp hE]
end WC
