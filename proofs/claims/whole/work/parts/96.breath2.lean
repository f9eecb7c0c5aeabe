/-! breaths: the two tables say the same -/
section XM
variable {I : z_He} {i n K : Nat} {s : x_T}
def x_okc (I : z_He) (i K : Nat) (E : Nat → Nat) (p q : Nat) : Bool := decide (x_c I i (x_P E q) - x_c I i (x_P E p) ≤ K)
def x_vc (S : Nat) (t : Nat → Nat) (q : Nat) : Nat := if q = S then 0 else 1 + t q
def x_okm (I : z_He) (i n K : Nat) (p q : Nat) : Bool := (b_v I i (q - 1) != 0) && (decide (q = n) || (b_g I i q == 1)) && decide (x_c I i q - x_c I i p ≤ K)
def x_vm (t : Nat → Nat) (q : Nat) : Nat := t q + 1
def x_im (I : z_He) (i n K : Nat) (p : Nat) : Nat := if K < x_c I i n - x_c I i p then 1000000 else 0
def x_ct (I : z_He) (i K : Nat) (s : x_T) : Nat → Nat := x_tab s.1 (fun _ => 1000) (x_okc I i K s.2.2) (x_vc s.1) (s.1 + 1)
def x_A (I : z_He) (i K : Nat) (s : x_T) (t : Nat) : Nat := if t < s.1 then x_ct I i K s t else 0
def x_f (I : z_He) (i n K : Nat) : Nat → Nat := x_tab n (x_im I i n K) (x_okm I i n K) x_vm (n + 1)
theorem x_c_mono {a b : Nat} (h : a ≤ b) : x_c I i a ≤ x_c I i b := by
  obtain ⟨d, rfl⟩ : ∃ d, b = a + d := ⟨b - a, by omega⟩
  clear h
  induction d with
  | zero => exact Nat.le_refl _
  | succ d ih =>
    have : x_c I i (a + (d + 1)) = if (b_v I i (a + d) != 0) = true then x_c I i (a + d) + 1 else x_c I i (a + d) := rfl
    rw [this]
    split <;> omega
theorem x_c_le : ∀ k, x_c I i k ≤ k := n_cnt_le _
theorem x_P_lt (h : x_inv I i n s) {a b : Nat} (hab : a < b) (hb : b ≤ s.1) : x_P s.2.2 a < x_P s.2.2 b := by
  obtain ⟨-, -, h3, h4, -⟩ := h
  unfold x_P
  rw [if_neg (show ¬ b = 0 by omega)]
  by_cases a0 : a = 0
  · rw [if_pos a0]
    have := h3 (b - 1) (by omega)
    omega
  · rw [if_neg a0]
    have := x_mono h4 (b - 1 - (a - 1) - 1) (a - 1) (by omega)
    rw [show a - 1 + (b - 1 - (a - 1) - 1) + 1 = b - 1 by omega] at this
    exact this
theorem x_P_le (h : x_inv I i n s) {a b : Nat} (hab : a ≤ b) (hb : b ≤ s.1) : x_P s.2.2 a ≤ x_P s.2.2 b := by
  by_cases e : a = b
  · rw [e]; exact Nat.le_refl _
  · exact Nat.le_of_lt (x_P_lt h (by omega) hb)
theorem x_P_n (h : x_inv I i n s) {a : Nat} (ha : a ≤ s.1) : x_P s.2.2 a ≤ n := by
  unfold x_P
  by_cases a0 : a = 0
  · rw [if_pos a0]; exact Nat.zero_le n
  · rw [if_neg a0]
    exact (h.2.2.1 (a - 1) (by omega)).2.2
theorem x_c_P (h : x_inv I i n s) {a : Nat} (ha : a < s.1) : x_c I i (x_P s.2.2 (a + 1)) = x_c I i (x_P s.2.2 a) + s.2.1 a := by
  have := h.2.2.2.2.1 a ha
  rw [← this]
  unfold x_P
  rw [if_neg (by omega), show a + 1 - 1 = a by omega]
theorem x_okm_P (h : x_inv I i n s) {a b : Nat} (hab : a < b) (hb : b ≤ s.1) : x_okm I i n K (x_P s.2.2 a) (x_P s.2.2 b) = x_okc I i K s.2.2 a b := by
  have l := x_P_lt h hab hb
  have e := (h.2.2.2.2.2.2 (x_P s.2.2 b) (by omega) (x_P_n h hb)).mp ⟨b - 1, by omega, by unfold x_P; rw [if_neg (by omega)]⟩
  unfold x_okm x_okc
  have e1 : (b_v I i (x_P s.2.2 b - 1) != 0) = true := by simpa using e.1
  have e2 : (decide (x_P s.2.2 b = n) || (b_g I i (x_P s.2.2 b) == 1)) = true := by simpa using e.2
  rw [e1, e2]
  rfl
theorem x_okm_E (h : x_inv I i n s) {p q : Nat} (hq : q ≤ n) (hp : p < q) (ho : x_okm I i n K p q = true) : ∃ t, t < s.1 ∧ x_P s.2.2 (t + 1) = q := by
  unfold x_okm at ho
  simp only [Bool.and_eq_true, Bool.or_eq_true, decide_eq_true_eq, beq_iff_eq, bne_iff_ne] at ho
  obtain ⟨t, ht, e⟩ := (h.2.2.2.2.2.2 q (by omega) hq).mpr ho.1
  refine ⟨t, ht, ?_⟩
  unfold x_P
  rw [if_neg (by omega), show t + 1 - 1 = t by omega]
  exact e
theorem x_vc_l {S : Nat} : ∀ (t t' : Nat → Nat) q, t q = t' q → x_vc S t q = x_vc S t' q := fun t t' q e => by unfold x_vc; rw [e]
theorem x_vm_l : ∀ (t t' : Nat → Nat) q, t q = t' q → x_vm t q = x_vm t' q := fun t t' q e => by unfold x_vm; rw [e]
/-- what a table's number is, the class's -/
theorem x_A_min {a : Nat} (ha : a < s.1) : x_A I i K s a ≤ 1000 ∧ (∀ b, a < b → b ≤ s.1 → x_okc I i K s.2.2 a b = true → x_A I i K s a ≤ (if b = s.1 then 0 else 1 + x_A I i K s b)) ∧ (x_A I i K s a = 1000 ∨ ∃ b, a < b ∧ b ≤ s.1 ∧ x_okc I i K s.2.2 a b = true ∧ x_A I i K s a = (if b = s.1 then 0 else 1 + x_A I i K s b)) := by
  have sp := x_spec (n := s.1) (init := fun _ => 1000) (ok := x_okc I i K s.2.2) (val := x_vc s.1) x_vc_l (q := a) (by omega)
  have e : x_A I i K s a = x_fd (x_okc I i K s.2.2) (x_vc s.1) 1000 (x_ct I i K s) a (s.1 - a) := by
    unfold x_A
    rw [if_pos ha]
    exact sp
  obtain ⟨m1, m2, m3⟩ := x_fd_min (ok := x_okc I i K s.2.2) (val := x_vc s.1) (ini := 1000) (p := a) (tab := x_ct I i K s) (s.1 - a)
  have ev : ∀ b, b ≤ s.1 → x_vc s.1 (x_ct I i K s) b = if b = s.1 then 0 else 1 + x_A I i K s b := fun b hb => by
    unfold x_vc x_A
    by_cases c : b = s.1
    · rw [if_pos c, if_pos c]
    · rw [if_neg c, if_neg c, if_pos (by omega)]
  rw [← e] at m1 m2 m3
  refine ⟨m1, fun b h1 h2 h3 => ?_, ?_⟩
  · have := m2 b h1 (by omega) h3
    rw [ev b h2] at this
    exact this
  · rcases m3 with m3 | ⟨b, b1, b2, b3, b4⟩
    · exact Or.inl m3
    · refine Or.inr ⟨b, b1, by omega, b3, ?_⟩
      rw [ev b (by omega)] at b4
      exact b4
theorem x_f_min {p : Nat} (hp : p ≤ n) : x_f I i n K p ≤ x_im I i n K p ∧ (∀ q, p < q → q ≤ n → x_okm I i n K p q = true → x_f I i n K p ≤ x_f I i n K q + 1) ∧ (x_f I i n K p = x_im I i n K p ∨ ∃ q, p < q ∧ q ≤ n ∧ x_okm I i n K p q = true ∧ x_f I i n K p = x_f I i n K q + 1) := by
  have sp := x_spec (n := n) (init := x_im I i n K) (ok := x_okm I i n K) (val := x_vm) x_vm_l (q := p) hp
  have e : x_f I i n K p = x_fd (x_okm I i n K) x_vm (x_im I i n K p) (x_f I i n K) p (n - p) := sp
  obtain ⟨m1, m2, m3⟩ := x_fd_min (ok := x_okm I i n K) (val := x_vm) (ini := x_im I i n K p) (p := p) (tab := x_f I i n K) (n - p)
  rw [← e] at m1 m2 m3
  refine ⟨m1, fun q h1 h2 h3 => m2 q h1 (by omega) h3, ?_⟩
  rcases m3 with m3 | ⟨q, q1, q2, q3, q4⟩
  · exact Or.inl m3
  · exact Or.inr ⟨q, q1, by omega, q3, q4⟩
/-- the two tables agree -/
theorem x_same (h : x_inv I i n s) (h60 : n ≤ 60) : ∀ d a, a + d = s.1 → (x_A I i K s a = x_f I i n K (x_P s.2.2 a) ∧ x_A I i K s a ≤ d) ∨ (x_A I i K s a = 1000 ∧ x_f I i n K (x_P s.2.2 a) = 1000000) := by
  have strong : ∀ d, (∀ e a, e < d → a + e = s.1 → (x_A I i K s a = x_f I i n K (x_P s.2.2 a) ∧ x_A I i K s a ≤ e) ∨ (x_A I i K s a = 1000 ∧ x_f I i n K (x_P s.2.2 a) = 1000000)) → ∀ a, a + d = s.1 → (x_A I i K s a = x_f I i n K (x_P s.2.2 a) ∧ x_A I i K s a ≤ d) ∨ (x_A I i K s a = 1000 ∧ x_f I i n K (x_P s.2.2 a) = 1000000) := by
    intro d ih a e
    have hn := x_P_n h (show a ≤ s.1 by omega)
    obtain ⟨f1, f2, f3⟩ := x_f_min (I := I) (i := i) (K := K) hn
    have hcn : x_c I i n = x_c I i (x_P s.2.2 s.1) := h.2.2.2.2.2.1
    by_cases d0 : d = 0
    · have as : a = s.1 := by omega
      have im : x_im I i n K (x_P s.2.2 a) = 0 := by
        unfold x_im
        rw [hcn, as, if_neg (by omega)]
      refine Or.inl ⟨?_, ?_⟩
      · unfold x_A
        rw [if_neg (by omega)]
        omega
      · unfold x_A
        rw [if_neg (by omega)]
        omega
    · have ha : a < s.1 := by omega
      obtain ⟨a1, a2, a3⟩ := x_A_min (I := I) (i := i) (K := K) ha
      have s60 := h.1
      by_cases fin : x_c I i n - x_c I i (x_P s.2.2 a) ≤ K
      · have im : x_im I i n K (x_P s.2.2 a) = 0 := by
          unfold x_im
          rw [if_neg (by omega)]
        have := a2 s.1 ha (Nat.le_refl _) (by unfold x_okc; rw [← hcn]; simpa using fin)
        rw [if_pos rfl] at this
        exact Or.inl ⟨by omega, by omega⟩
      · have im : x_im I i n K (x_P s.2.2 a) = 1000000 := by
          unfold x_im
          rw [if_pos (by omega)]
        have nS : ∀ b, a < b → x_okc I i K s.2.2 a b = true → b ≠ s.1 := by
          intro b hb ho e2
          subst e2
          unfold x_okc at ho
          rw [← hcn] at ho
          simp at ho
          exact fin (by omega)
        have next : ∀ b, a < b → b < s.1 → (x_A I i K s b = x_f I i n K (x_P s.2.2 b) ∧ x_A I i K s b ≤ s.1 - b) ∨ (x_A I i K s b = 1000 ∧ x_f I i n K (x_P s.2.2 b) = 1000000) := fun b h1 h2 => ih (s.1 - b) b (by omega) (by omega)
        have up : ∀ b, a < b → b ≤ s.1 → x_okc I i K s.2.2 a b = true → b < s.1 ∧ x_A I i K s a ≤ 1 + x_A I i K s b ∧ x_f I i n K (x_P s.2.2 a) ≤ x_f I i n K (x_P s.2.2 b) + 1 := by
          intro b h1 h2 h3
          have n1 := nS b h1 h3
          have q := a2 b h1 h2 h3
          rw [if_neg n1] at q
          refine ⟨by omega, q, f2 _ (x_P_lt h h1 h2) (x_P_n h h2) ?_⟩
          rw [x_okm_P h h1 h2]
          exact h3
        have fromF : x_f I i n K (x_P s.2.2 a) = 1000000 ∨ ∃ b, a < b ∧ b ≤ s.1 ∧ x_okc I i K s.2.2 a b = true ∧ x_f I i n K (x_P s.2.2 a) = x_f I i n K (x_P s.2.2 b) + 1 := by
          rcases f3 with f3 | ⟨q, q1, q2, q3, q4⟩
          · exact Or.inl (by omega)
          · obtain ⟨t, ht, et⟩ := x_okm_E h q2 q1 q3
            have at1 : a < t + 1 := by
              apply Nat.lt_of_not_le
              intro le
              have := x_P_le h le (show a ≤ s.1 by omega)
              omega
            refine Or.inr ⟨t + 1, at1, by omega, ?_, by rw [et]; exact q4⟩
            rw [← x_okm_P h at1 (by omega), et]
            exact q3
        rcases fromF with fa | ⟨b, b1, b2, b3, b4⟩
        · rcases a3 with a3 | ⟨b, b1, b2, b3, b4⟩
          · exact Or.inr ⟨a3, fa⟩
          · obtain ⟨u1, u2, u3⟩ := up b b1 b2 b3
            rw [if_neg (nS b b1 b3)] at b4
            rcases next b b1 u1 with ⟨e1, e2⟩ | ⟨e1, e2⟩
            · omega
            · omega
        · obtain ⟨u1, u2, u3⟩ := up b b1 b2 b3
          rcases next b b1 u1 with ⟨e1, e2⟩ | ⟨e1, e2⟩
          · rcases a3 with a3 | ⟨c, c1, c2, c3, c4⟩
            · omega
            · obtain ⟨w1, w2, w3⟩ := up c c1 c2 c3
              rw [if_neg (nS c c1 c3)] at c4
              rcases next c c1 w1 with ⟨g1, g2⟩ | ⟨g1, g2⟩
              · exact Or.inl ⟨by omega, by omega⟩
              · omega
          · omega
  intro d
  induction d using Nat.strongRecOn with
  | _ d ih => exact strong d (fun e a he ea => ih e he a ea)
/-- where it can be: the numbers fall by one at most -/
theorem x_step (h : x_inv I i n s) (h60 : n ≤ 60) (h0 : x_A I i K s 0 < 1000) : ∀ a, a ≤ s.1 → x_A I i K s a ≤ s.1 - a ∧ (0 < a → x_A I i K s a ≤ x_A I i K s (a - 1) ∧ x_A I i K s (a - 1) ≤ x_A I i K s a + 1) := by
  have fin : ∀ d a, a + d = s.1 → x_A I i K s a < 1000 → ∀ b, a ≤ b → b < s.1 → s.2.1 b ≤ K := by
    intro d
    induction d using Nat.strongRecOn with
    | _ d ih =>
      intro a e hA b hab hb
      have ha : a < s.1 := by omega
      obtain ⟨a1, a2, a3⟩ := x_A_min (I := I) (i := i) (K := K) ha
      rcases a3 with a3 | ⟨c, c1, c2, c3, c4⟩
      · omega
      · by_cases bc : b < c
        · unfold x_okc at c3
          simp at c3
          have q1 := x_c_P h hb
          have q2 := x_c_mono (I := I) (i := i) (x_P_le h hab (show b ≤ s.1 by omega))
          have q3 := x_c_mono (I := I) (i := i) (x_P_le h (show b + 1 ≤ c by omega) c2)
          omega
        · by_cases cS : c = s.1
          · omega
          · rw [if_neg cS] at c4
            exact ih (s.1 - c) (by omega) c (by omega) (by omega) b (by omega) hb
  have be : ∀ b, b < s.1 → s.2.1 b ≤ K := fun b hb => fin s.1 0 (by omega) h0 b (Nat.zero_le b) hb
  have one : ∀ a, a < s.1 → x_okc I i K s.2.2 a (a + 1) = true := fun a ha => by
    have q1 := x_c_P h ha
    have q2 := be a ha
    unfold x_okc
    rw [q1]
    simp
    omega
  have bd : ∀ d a, a + d = s.1 → x_A I i K s a ≤ d := by
    intro d
    induction d with
    | zero =>
      intro a e
      unfold x_A
      rw [if_neg (by omega)]
      exact Nat.le_refl 0
    | succ d ih =>
      intro a e
      have := (x_A_min (I := I) (i := i) (K := K) (show a < s.1 by omega)).2.1 (a + 1) (by omega) (by omega) (one a (by omega))
      have i2 := ih (a + 1) (by omega)
      by_cases q : a + 1 = s.1
      · rw [if_pos q] at this; omega
      · rw [if_neg q] at this; omega
  intro a ha
  refine ⟨bd (s.1 - a) a (by omega), fun a0 => ?_⟩
  have hb : a - 1 < s.1 := by omega
  have s60 := h.1
  obtain ⟨a1, a2, a3⟩ := x_A_min (I := I) (i := i) (K := K) hb
  have bd1 := bd (s.1 - (a - 1)) (a - 1) (by omega)
  have ea : a - 1 + 1 = a := Nat.sub_add_cancel a0
  have o1 := one (a - 1) hb
  rw [ea] at o1
  have up := a2 a (by omega) ha o1
  constructor
  · by_cases aS : a = s.1
    · unfold x_A
      rw [if_neg (by omega)]
      exact Nat.zero_le _
    · rcases a3 with a3 | ⟨c, c1, c2, c3, c4⟩
      · have := bd (s.1 - a) a (by omega)
        have fb := bd (s.1 - (a - 1)) (a - 1) (by omega)
        omega
      · by_cases ca : c = a
        · rw [ca, if_neg aS] at c4
          omega
        · have c5 : x_okc I i K s.2.2 a c = true := by
            unfold x_okc at c3 ⊢
            simp at c3 ⊢
            have := x_c_mono (I := I) (i := i) (x_P_le h (show a - 1 ≤ a by omega) ha)
            omega
          have q := (x_A_min (I := I) (i := i) (K := K) (show a < s.1 by omega)).2.1 c (by omega) c2 c5
          rw [← c4] at q
          exact q
  · by_cases aS : a = s.1
    · rw [if_pos aS] at up
      omega
    · rw [if_neg aS] at up
      omega
end XM
