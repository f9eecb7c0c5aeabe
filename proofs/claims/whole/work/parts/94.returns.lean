/-! returns -/
/-- how far the row from places i, j goes, n sounds being there -/
def y_rr (v w : Nat → Nat) (a b i j : Nat) : Nat → Nat → Nat
  | 0, n => n
  | f + 1, n => if i + n < a ∧ j + n < b ∧ nI (w (j + n)) - nI (v (i + n)) = nI (w j) - nI (v i) then y_rr v w a b i j f (n + 1) else n
theorem y_rr_le {v w : Nat → Nat} {a b i j : Nat} : ∀ (f n : Nat), i + n ≤ a → j + n ≤ b → n ≤ y_rr v w a b i j f n ∧ i + y_rr v w a b i j f n ≤ a ∧ j + y_rr v w a b i j f n ≤ b
  | 0, n, h1, h2 => ⟨Nat.le_refl n, h1, h2⟩
  | f + 1, n, h1, h2 => by
    unfold y_rr
    split
    · rename_i c
      have := y_rr_le (v := v) (w := w) f (n + 1) (show i + (n + 1) ≤ a by omega) (show j + (n + 1) ≤ b by omega)
      omega
    · exact ⟨Nat.le_refl n, h1, h2⟩
def y_r (v w : Nat → Nat) (a b i j : Nat) : Nat := y_rr v w a b i j 60 1
abbrev y_St : Type := Nat × Nat × Nat
def y_up (v w : Nat → Nat) (a b i : Nat) (s : y_St) (k : Nat) : y_St := if s.1 < y_r v w a b i k then (y_r v w a b i k, i, k) else s
def y_in (v w : Nat → Nat) (a b i : Nat) (s : y_St) : Nat → y_St
  | 0 => s
  | k + 1 => y_up v w a b i (y_in v w a b i s k) k
def y_out (v w : Nat → Nat) (a b : Nat) : Nat → y_St
  | 0 => (0, 0, 0)
  | k + 1 => y_in v w a b k (y_out v w a b k) b
section YR2
variable {v w : Nat → Nat} {a b i j : Nat} {s : y_St}
theorem y_r_le (hi : i < a) (hj : j < b) : 1 ≤ y_r v w a b i j ∧ i + y_r v w a b i j ≤ a ∧ j + y_r v w a b i j ≤ b := y_rr_le 60 1 (by omega) (by omega)
theorem y_in_ge : ∀ k, s.1 ≤ (y_in v w a b i s k).1
  | 0 => Nat.le_refl _
  | k + 1 => by
    have := y_in_ge k
    show _ ≤ (y_up v w a b i (y_in v w a b i s k) k).1
    unfold y_up
    split
    · exact Nat.le_of_lt (Nat.lt_of_le_of_lt this (by assumption))
    · exact this
theorem y_in_stop (hi : i < a) {k : Nat} (h : b ≤ k + (y_in v w a b i s k).1) : ∀ d, k + d ≤ b → y_in v w a b i s (k + d) = y_in v w a b i s k
  | 0, _ => rfl
  | d + 1, hd => by
    have ih := y_in_stop hi h d (by omega)
    show y_up v w a b i (y_in v w a b i s (k + d)) (k + d) = _
    rw [ih]
    have := y_r_le (v := v) (w := w) hi (show k + d < b by omega)
    unfold y_up
    rw [if_neg (by omega)]
theorem y_in_top (hi : i < a) (h : a ≤ i + s.1) : ∀ k, k ≤ b → y_in v w a b i s k = s
  | 0, _ => rfl
  | k + 1, hk => by
    have ih := y_in_top hi h k (by omega)
    show y_up v w a b i (y_in v w a b i s k) k = s
    rw [ih]
    have := y_r_le (v := v) (w := w) hi (show k < b by omega)
    unfold y_up
    rw [if_neg (by omega)]
theorem y_out_stop {k : Nat} (h : a ≤ k + (y_out v w a b k).1) : ∀ d, k + d ≤ a → y_out v w a b (k + d) = y_out v w a b k
  | 0, _ => rfl
  | d + 1, hd => by
    have ih := y_out_stop h d (by omega)
    show y_in v w a b (k + d) (y_out v w a b (k + d)) b = _
    rw [ih]
    exact y_in_top (by omega) (by omega) b (Nat.le_refl b)
theorem y_ok : ∀ k, k ≤ b → i < a → (0 < s.1 → s.2.1 < a ∧ s.2.2 < b) → (0 < (y_in v w a b i s k).1 → (y_in v w a b i s k).2.1 < a ∧ (y_in v w a b i s k).2.2 < b)
  | 0, _, _, h => h
  | k + 1, hk, hi, h => by
    have ih := y_ok k (by omega) hi h
    show 0 < (y_up v w a b i (y_in v w a b i s k) k).1 → (y_up v w a b i (y_in v w a b i s k) k).2.1 < a ∧ (y_up v w a b i (y_in v w a b i s k) k).2.2 < b
    unfold y_up
    split
    · exact fun _ => ⟨hi, by dsimp only; omega⟩
    · exact ih
theorem y_out_ok : ∀ k, k ≤ a → (0 < (y_out v w a b k).1 → (y_out v w a b k).2.1 < a ∧ (y_out v w a b k).2.2 < b)
  | 0, _ => fun h => absurd h (Nat.lt_irrefl 0)
  | k + 1, hk => y_ok b (Nat.le_refl b) (by omega) (y_out_ok k (by omega))
theorem y_in_60 (ha : a ≤ 60) (hs : s.1 ≤ 60) (hi : i < a) : ∀ k, k ≤ b → (y_in v w a b i s k).1 ≤ 60
  | 0, _ => hs
  | k + 1, hk => by
    have ih := y_in_60 ha hs hi k (by omega)
    have := y_r_le (v := v) (w := w) hi (show k < b by omega)
    show (y_up v w a b i (y_in v w a b i s k) k).1 ≤ 60
    unfold y_up
    split
    · dsimp only; omega
    · exact ih
theorem y_out_60 (ha : a ≤ 60) : ∀ k, k ≤ a → (y_out v w a b k).1 ≤ 60
  | 0, _ => Nat.zero_le 60
  | k + 1, hk => y_in_60 ha (y_out_60 ha k (by omega)) (by omega) b (Nat.le_refl b)
end YR2
theorem n_dif {x y z u : Int32} : (x - y = z - u) ↔ (z - x = u - y) := by
  constructor <;> intro h <;> grind
/-- the class's heap: the two tunes, and the best row so far -/
def y_C (v w : Nat → Nat) (a b : Nat) (L I : z_He) (s : y_St) : Prop := (∀ c k, ¬ (c = 94 ∧ 4 ≤ k ∧ k ≤ 7) → I c k = L c k) ∧ I 94 4 = nI s.1 ∧ (0 < s.1 → I 94 5 = nI s.2.1 ∧ I 94 6 = nI s.2.2 ∧ I 94 7 = nI (w s.2.2) - nI (v s.2.1))
def y_L (v w : Nat → Nat) (a b : Nat) (L : z_He) : Prop := L 94 2 = nI a ∧ L 94 3 = nI b ∧ (∀ k, k < a → L 95 k = nI (v k)) ∧ ∀ k, k < b → L 96 k = nI (w k)
section YC
variable {mu : Nat → Nat} {v w : Nat → Nat} {a b i j : Nat} {s : y_St} {L I : z_He}
theorem c_row (ha : a ≤ 60) (hb : b ≤ 60) (hi : i < a) (hj : j < b) (hL : y_L v w a b I) : fX11_rowFrom 94 (nI i) (nI j) I (z_Rm mu) = some (nI (y_r v w a b i j)) := by
  obtain ⟨l1, l2, l3, l4⟩ := hL
  have ok5 : ∀ k, k < 60 → z_ok 1 95 (nI k) := fun k hk => n_ok (n := 60) rfl hk (by decide)
  have ok6 : ∀ k, k < 60 → z_ok 1 96 (nI k) := fun k hk => n_ok (n := 60) rfl hk (by decide)
  have key : ∀ f n N, 60 ≤ n + f → f < N → n ≤ 60 → z_lp (fX11_rowFrom_b43 94 (nI i) (nI j) (nI (w j) - nI (v i)) I (z_Rm mu)) N (nI n) = some (nI (y_rr v w a b i j f n)) := by
    intro f
    induction f with
    | zero =>
      intro n N h1 h2 h3
      obtain ⟨N, rfl⟩ : ∃ q, N = q + 1 := ⟨N - 1, by omega⟩
      unfold z_lp fX11_rowFrom_b43 y_rr
      dsimp only
      rw [l1, n_add, if_pos (nI_le (by omega) (by omega))]
    | succ f ih =>
      intro n N h1 h2 h3
      obtain ⟨N, rfl⟩ : ∃ q, N = q + 1 := ⟨N - 1, by omega⟩
      have hb : fX11_rowFrom_b43 94 (nI i) (nI j) (nI (w j) - nI (v i)) I (z_Rm mu) (nI n) = if i + n < a ∧ j + n < b ∧ nI (w (j + n)) - nI (v (i + n)) = nI (w j) - nI (v i) then some (.inl (nI (n + 1))) else some (.inr (nI n)) := by
        unfold fX11_rowFrom_b43
        dsimp only
        rw [l1, l2, n_add, n_add]
        by_cases c1 : i + n < a
        · rw [if_neg (nI_ge c1 (by omega))]
          by_cases c2 : j + n < b
          · rw [if_neg (nI_ge c2 (by omega)), show z_Rm mu 94 0 = 95 from rfl, show z_Rm mu 94 1 = 96 from rfl, z_g_t (ok6 _ (by omega)), z_g_t (ok5 _ (by omega)), nI_clamp (show i + n < 2 ^ 31 by omega), nI_clamp (show j + n < 2 ^ 31 by omega), l3 _ c1, l4 _ c2, z_l_s, n_s1]
            by_cases c3 : nI (w (j + n)) - nI (v (i + n)) = nI (w j) - nI (v i)
            · rw [if_pos c3, if_pos ⟨c1, c2, c3⟩]
            · rw [if_neg c3, if_neg (fun q => c3 q.2.2)]
          · rw [if_pos (nI_le (by omega) (by omega)), if_neg (fun q => c2 q.2.1)]
        · rw [if_pos (nI_le (by omega) (by omega)), if_neg (fun q => c1 q.1)]
      unfold z_lp y_rr
      rw [hb]
      by_cases c : i + n < a ∧ j + n < b ∧ nI (w (j + n)) - nI (v (i + n)) = nI (w j) - nI (v i)
      · rw [if_pos c, if_pos c]
        exact ih (n + 1) N (by omega) (by omega) (by omega)
      · rw [if_neg c, if_neg c]
  have k1 := key 60 1 300 (by decide) (by decide) (by decide)
  have k1' : z_lp (fX11_rowFrom_b43 94 (nI i) (nI j) (nI (w j) - nI (v i)) I (z_Rm mu)) 300 (1 : Int32) = some (nI (y_r v w a b i j)) := k1
  unfold fX11_rowFrom
  rw [z_g_t (show z_ob 94 11 from rfl), if_neg (nI_pos (by omega)), if_neg (nI_pos (by omega)), l1, if_neg (nI_ge hi (by omega)), l2, if_pos (nI_lt hj (by omega)), show z_Rm mu 94 0 = 95 from rfl, show z_Rm mu 94 1 = 96 from rfl, z_g_t (ok6 j (by omega)), z_g_t (ok5 i (by omega)), nI_clamp (show i < 2 ^ 31 by omega), nI_clamp (show j < 2 ^ 31 by omega), l3 i hi, l4 j hj, z_l_s, k1', z_b_s]
theorem y_L_C (hL : y_L v w a b L) (hC : y_C v w a b L I s) : y_L v w a b I := by
  obtain ⟨l1, l2, l3, l4⟩ := hL
  exact ⟨by rw [hC.1 _ _ (by omega)]; exact l1, by rw [hC.1 _ _ (by omega)]; exact l2, fun k hk => by rw [hC.1 _ _ (by omega)]; exact l3 k hk, fun k hk => by rw [hC.1 _ _ (by omega)]; exact l4 k hk⟩
theorem c_yin {a1 a2 : Nat} (ha : a ≤ 60) (hb : b ≤ 60) (hi : i < a) (hL : y_L v w a b L) (hs : s.1 ≤ 60) : ∀ (d k N : Nat) (I : z_He), k + d = b → d < N → y_C v w a b L I (y_in v w a b i s k) → ∃ I', z_lp (fX11_compare_b29 94 a1 a2 (nI i) (z_Rm mu)) N (nI k, I) = some I' ∧ y_C v w a b L I' (y_in v w a b i s b) := by
  intro d
  induction d with
  | zero =>
    intro k N I e hN h
    have : k = b := by omega
    subst this
    obtain ⟨N, rfl⟩ : ∃ q, N = q + 1 := ⟨N - 1, by omega⟩
    have m60 := y_in_60 (v := v) (w := w) (b := k) ha hs hi k (Nat.le_refl k)
    refine ⟨I, ?_, h⟩
    unfold z_lp fX11_compare_b29
    dsimp only
    rw [(y_L_C hL h).2.1, h.2.1, n_add, if_pos (nI_le (by omega) (by omega))]
  | succ d ih =>
    intro k N I e hN h
    obtain ⟨N, rfl⟩ : ∃ q, N = q + 1 := ⟨N - 1, by omega⟩
    have hLI := y_L_C hL h
    have m60 := y_in_60 (v := v) (w := w) (b := b) ha hs hi k (by omega)
    have hk : k < b := by omega
    have hr := y_r_le (v := v) (w := w) hi hk
    have hbd : fX11_compare_b29 94 a1 a2 (nI i) (z_Rm mu) (nI k, I) = _ := rfl
    conv at hbd =>
      rhs
      unfold fX11_compare_b29
    dsimp only at hbd
    rw [hLI.2.1, h.2.1, n_add] at hbd
    by_cases c : b ≤ k + (y_in v w a b i s k).1
    · rw [if_pos (nI_le c (by omega))] at hbd
      refine ⟨I, ?_, ?_⟩
      · unfold z_lp
        rw [hbd]
      · have := y_in_stop hi c (d + 1) (by omega)
        rw [e] at this
        rw [this]
        exact h
    · rw [if_neg (nI_ge (by omega) (by omega)), c_row ha hb hi hk hLI, z_b_s] at hbd
      have eu : y_in v w a b i s (k + 1) = y_up v w a b i (y_in v w a b i s k) k := rfl
      by_cases c2 : (y_in v w a b i s k).1 < y_r v w a b i k
      · rw [if_neg (nI_ge c2 (by omega)), show z_Rm mu 94 0 = 95 from rfl, show z_Rm mu 94 1 = 96 from rfl] at hbd
        simp only [z_l_s, n_s1, z_g_t (n_ok (n := 60) (show z_len 1 96 = 60 from rfl) (show k < 60 by omega) (by decide)), z_g_t (n_ok (n := 60) (show z_len 1 95 = 60 from rfl) (show i < 60 by omega) (by decide)), nI_clamp (show k < 2 ^ 31 by omega), nI_clamp (show i < 2 ^ 31 by omega)] at hbd
        have eu2 : y_in v w a b i s (k + 1) = (y_r v w a b i k, i, k) := by
          rw [eu]
          unfold y_up
          rw [if_pos c2]
        have w6 : z_u (z_u (z_u I 94 4 (nI (y_r v w a b i k))) 94 5 (nI i)) 94 6 (nI k) 96 k = nI (w k) := by rw [u_o (by decide), u_o (by decide), u_o (by decide)]; exact hLI.2.2.2 k hk
        have w5 : z_u (z_u (z_u I 94 4 (nI (y_r v w a b i k))) 94 5 (nI i)) 94 6 (nI k) 95 i = nI (v i) := by rw [u_o (by decide), u_o (by decide), u_o (by decide)]; exact hLI.2.2.1 i hi
        rw [w5, w6] at hbd
        have hC' : y_C v w a b L (z_u (z_u (z_u (z_u I 94 4 (nI (y_r v w a b i k))) 94 5 (nI i)) 94 6 (nI k)) 94 7 (nI (w k) - nI (v i))) (y_in v w a b i s (k + 1)) := by
          rw [eu2]
          refine ⟨fun c q hq => ?_, ?_, fun _ => ⟨?_, ?_, ?_⟩⟩
          · rw [z_u_eq, z_u_eq, z_u_eq, z_u_eq, if_neg (by omega), if_neg (by omega), if_neg (by omega), if_neg (by omega)]
            exact h.1 c q hq
          · rw [z_u_k (by decide), z_u_k (by decide), z_u_k (by decide), z_u_at]
          · rw [z_u_k (by decide), z_u_k (by decide), z_u_at]
          · rw [z_u_k (by decide), z_u_at]
          · rw [z_u_at]
        obtain ⟨I', g1, g2⟩ := ih (k + 1) N _ (by omega) (by omega) hC'
        refine ⟨I', ?_, g2⟩
        unfold z_lp
        rw [hbd]
        exact g1
      · rw [if_pos (nI_le (by omega) (by omega)), z_l_s, n_s1] at hbd
        have eu2 : y_in v w a b i s (k + 1) = y_in v w a b i s k := by
          rw [eu]
          unfold y_up
          rw [if_neg c2]
        obtain ⟨I', g1, g2⟩ := ih (k + 1) N I (by omega) (by omega) (by rw [eu2]; exact h)
        refine ⟨I', ?_, g2⟩
        unfold z_lp
        rw [hbd]
        exact g1
theorem c_yout {a1 a2 : Nat} (ha : a ≤ 60) (hb : b ≤ 60) (hL : y_L v w a b L) : ∀ (d k N : Nat) (I : z_He), k + d = a → d < N → y_C v w a b L I (y_out v w a b k) → ∃ I', z_lp (fX11_compare_b13 94 a1 a2 (z_Rm mu)) N (nI k, I) = some I' ∧ y_C v w a b L I' (y_out v w a b a) := by
  intro d
  induction d with
  | zero =>
    intro k N I e hN h
    have : k = a := by omega
    subst this
    obtain ⟨N, rfl⟩ : ∃ q, N = q + 1 := ⟨N - 1, by omega⟩
    have m60 := y_out_60 (v := v) (w := w) (b := b) ha k (Nat.le_refl k)
    refine ⟨I, ?_, h⟩
    unfold z_lp fX11_compare_b13
    dsimp only
    rw [(y_L_C hL h).1, h.2.1, n_add, if_pos (nI_le (by omega) (by omega))]
  | succ d ih =>
    intro k N I e hN h
    obtain ⟨N, rfl⟩ : ∃ q, N = q + 1 := ⟨N - 1, by omega⟩
    have hLI := y_L_C hL h
    have m60 := y_out_60 (v := v) (w := w) (b := b) ha k (by omega)
    have hbd : fX11_compare_b13 94 a1 a2 (z_Rm mu) (nI k, I) = _ := rfl
    conv at hbd =>
      rhs
      unfold fX11_compare_b13
    dsimp only at hbd
    rw [hLI.1, h.2.1, n_add] at hbd
    by_cases c : a ≤ k + (y_out v w a b k).1
    · rw [if_pos (nI_le c (by omega))] at hbd
      refine ⟨I, ?_, ?_⟩
      · unfold z_lp
        rw [hbd]
      · have := y_out_stop c (d + 1) (by omega)
        rw [e] at this
        rw [this]
        exact h
    · obtain ⟨I2, f1, f2⟩ := c_yin (mu := mu) (i := k) (a1 := a1) (a2 := a2) (s := y_out v w a b k) ha hb (by omega) hL m60 b 0 300 I (by omega) (by omega) h
      have f1' : z_lp (fX11_compare_b29 94 a1 a2 (nI k) (z_Rm mu)) 300 ((0 : Int32), I) = some I2 := f1
      rw [if_neg (nI_ge (by omega) (by omega)), f1', z_b_s, z_l_s, n_s1] at hbd
      obtain ⟨I', g1, g2⟩ := ih (k + 1) N I2 (by omega) (by omega) f2
      refine ⟨I', ?_, g2⟩
      unfold z_lp
      rw [hbd]
      exact g1
end YC
/-! the model -/
def y_M (K I : z_He) (s : y_St) : Prop := (∀ c k, ¬ (c = 102 ∧ (k = 54 ∨ k = 55)) → I c k = K c k) ∧ (0 < s.1 → I 102 54 = nI s.2.1 ∧ I 102 55 = nI s.2.2)
section YM
variable {mu : Nat → Nat} {v w : Nat → Nat} {a b i j : Nat} {s : y_St} {K I : z_He}
theorem m_row {z3 : Int32} (ha : a ≤ 60) (hb : b ≤ 60) (hi : i < a) (hj : j < b) (l3 : ∀ k, k < a → I 132 k = nI (v k)) (l4 : ∀ k, k < b → I 133 k = nI (w k)) : z_lp (fX13_longestRow_b23 102 (nI a) (nI b) z3 (nI i) (nI j) I (z_Rm mu)) 300 (1 : Int32) = some (nI (y_r v w a b i j)) := by
  have ok5 : ∀ k, k < 60 → z_ok 1 132 (nI k) := fun k hk => n_ok (n := 60) rfl hk (by decide)
  have ok6 : ∀ k, k < 60 → z_ok 1 133 (nI k) := fun k hk => n_ok (n := 60) rfl hk (by decide)
  have key : ∀ f n N, 60 ≤ n + f → f < N → n ≤ 60 → 1 ≤ n → (i + (n - 1) < a → j + (n - 1) < b → nI (w (j + (n - 1))) - nI (v (i + (n - 1))) = nI (w j) - nI (v i)) → z_lp (fX13_longestRow_b23 102 (nI a) (nI b) z3 (nI i) (nI j) I (z_Rm mu)) N (nI n) = some (nI (y_rr v w a b i j f n)) := by
    intro f
    induction f with
    | zero =>
      intro n N h1 h2 h3 h4 h5
      obtain ⟨N, rfl⟩ : ∃ q, N = q + 1 := ⟨N - 1, by omega⟩
      unfold z_lp fX13_longestRow_b23 y_rr
      dsimp only
      rw [n_add, if_pos (nI_le (by omega) (by omega))]
    | succ f ih =>
      intro n N h1 h2 h3 h4 h5
      obtain ⟨N, rfl⟩ : ∃ q, N = q + 1 := ⟨N - 1, by omega⟩
      have hb : fX13_longestRow_b23 102 (nI a) (nI b) z3 (nI i) (nI j) I (z_Rm mu) (nI n) = if i + n < a ∧ j + n < b ∧ nI (w (j + n)) - nI (v (i + n)) = nI (w j) - nI (v i) then some (.inl (nI (n + 1))) else some (.inr (nI n)) := by
        unfold fX13_longestRow_b23
        dsimp only
        rw [n_add, n_add]
        by_cases c1 : i + n < a
        · rw [if_neg (nI_ge c1 (by omega))]
          by_cases c2 : j + n < b
          · have s1 : nI (i + n) - (1 : Int32) = nI (i + (n - 1)) := by
              rw [show i + (n - 1) = i + n - 1 by omega]
              exact n_sub (b := 1) (by omega)
            have s2 : nI (j + n) - (1 : Int32) = nI (j + (n - 1)) := by
              rw [show j + (n - 1) = j + n - 1 by omega]
              exact n_sub (b := 1) (by omega)
            rw [if_neg (nI_ge c2 (by omega)), show z_Rm mu 102 52 = 132 from rfl, show z_Rm mu 102 53 = 133 from rfl, s1, s2, z_g_t (ok5 _ (show i + n < 60 by omega)), z_g_t (ok5 _ (show i + (n - 1) < 60 by omega)), z_g_t (ok6 _ (show j + n < 60 by omega)), z_g_t (ok6 _ (show j + (n - 1) < 60 by omega)), nI_clamp (show i + n < 2 ^ 31 by omega), nI_clamp (show j + n < 2 ^ 31 by omega), nI_clamp (show i + (n - 1) < 2 ^ 31 by omega), nI_clamp (show j + (n - 1) < 2 ^ 31 by omega), l3 _ c1, l4 _ c2, l3 (i + (n - 1)) (by omega), l4 (j + (n - 1)) (by omega), z_l_s, n_s1]
            have e5 := h5 (by omega) (by omega)
            by_cases c3 : nI (w (j + n)) - nI (v (i + n)) = nI (w j) - nI (v i)
            · rw [if_pos (n_dif.mpr (c3.trans e5.symm)), if_pos ⟨c1, c2, c3⟩]
            · rw [if_neg (fun q => c3 ((n_dif.mp q).trans e5)), if_neg (fun q => c3 q.2.2)]
          · rw [if_pos (nI_le (by omega) (by omega)), if_neg (fun q => c2 q.2.1)]
        · rw [if_pos (nI_le (by omega) (by omega)), if_neg (fun q => c1 q.1)]
      unfold z_lp y_rr
      rw [hb]
      by_cases c : i + n < a ∧ j + n < b ∧ nI (w (j + n)) - nI (v (i + n)) = nI (w j) - nI (v i)
      · rw [if_pos c, if_pos c]
        exact ih (n + 1) N (by omega) (by omega) (by omega) (by omega) (fun _ _ => c.2.2)
      · rw [if_neg c, if_neg c]
  exact key 60 1 300 (by decide) (by decide) (by decide) (by decide) (fun _ _ => rfl)
theorem m_yin (ha : a ≤ 60) (hb : b ≤ 60) (hi : i < a) (l3 : ∀ k, k < a → K 132 k = nI (v k)) (l4 : ∀ k, k < b → K 133 k = nI (w k)) (hs : s.1 ≤ 60) : ∀ (d k N : Nat) (I : z_He), k + d = b → d < N → y_M K I (y_in v w a b i s k) → ∃ I', z_lp (fX13_longestRow_b14 102 (nI a) (nI b) (nI i) (z_Rm mu)) N (nI (y_in v w a b i s k).1, nI k, I) = some (nI (y_in v w a b i s b).1, I') ∧ y_M K I' (y_in v w a b i s b) := by
  intro d
  induction d with
  | zero =>
    intro k N I e hN h
    have : k = b := by omega
    subst this
    obtain ⟨N, rfl⟩ : ∃ q, N = q + 1 := ⟨N - 1, by omega⟩
    refine ⟨I, ?_, h⟩
    unfold z_lp fX13_longestRow_b14
    dsimp only
    rw [if_pos (nI_le (Nat.le_refl k) (by omega))]
  | succ d ih =>
    intro k N I e hN h
    obtain ⟨N, rfl⟩ : ∃ q, N = q + 1 := ⟨N - 1, by omega⟩
    have m60 := y_in_60 (v := v) (w := w) (b := b) ha hs hi k (by omega)
    have hk : k < b := by omega
    have hr := y_r_le (v := v) (w := w) hi hk
    have hbd : fX13_longestRow_b14 102 (nI a) (nI b) (nI i) (z_Rm mu) (nI (y_in v w a b i s k).1, nI k, I) = _ := rfl
    conv at hbd =>
      rhs
      unfold fX13_longestRow_b14 fX13_longestRow_j99_14
    dsimp only at hbd
    rw [if_neg (nI_ge hk (by omega)), m_row ha hb hi hk (fun k hk => by rw [h.1 _ _ (by omega)]; exact l3 k hk) (fun k hk => by rw [h.1 _ _ (by omega)]; exact l4 k hk), z_b_s] at hbd
    simp only [z_l_s, n_s1] at hbd
    have eu : y_in v w a b i s (k + 1) = y_up v w a b i (y_in v w a b i s k) k := rfl
    by_cases c2 : (y_in v w a b i s k).1 < y_r v w a b i k
    · have eu2 : y_in v w a b i s (k + 1) = (y_r v w a b i k, i, k) := by
        rw [eu]
        unfold y_up
        rw [if_pos c2]
      rw [if_pos (nI_lt c2 (by omega))] at hbd
      have hC' : y_M K (z_u (z_u I 102 54 (nI i)) 102 55 (nI k)) (y_in v w a b i s (k + 1)) := by
        rw [eu2]
        refine ⟨fun c q hq => ?_, fun _ => ⟨?_, ?_⟩⟩
        · rw [z_u_eq, z_u_eq, if_neg (by omega), if_neg (by omega)]
          exact h.1 c q hq
        · rw [z_u_k (by decide), z_u_at]
        · rw [z_u_at]
      obtain ⟨I', g1, g2⟩ := ih (k + 1) N _ (by omega) (by omega) hC'
      refine ⟨I', ?_, g2⟩
      unfold z_lp
      rw [hbd]
      rw [eu2] at g1
      exact g1
    · have eu2 : y_in v w a b i s (k + 1) = y_in v w a b i s k := by
        rw [eu]
        unfold y_up
        rw [if_neg c2]
      rw [if_neg (nI_nlt (by omega) (by omega))] at hbd
      obtain ⟨I', g1, g2⟩ := ih (k + 1) N I (by omega) (by omega) (by rw [eu2]; exact h)
      refine ⟨I', ?_, g2⟩
      unfold z_lp
      rw [hbd]
      rw [eu2] at g1
      exact g1
theorem m_yout (ha : a ≤ 60) (hb : b ≤ 60) (l3 : ∀ k, k < a → K 132 k = nI (v k)) (l4 : ∀ k, k < b → K 133 k = nI (w k)) : ∀ (d k N : Nat) (I : z_He), k + d = a → d < N → y_M K I (y_out v w a b k) → ∃ I', z_lp (fX13_longestRow_b5 102 (nI a) (nI b) (z_Rm mu)) N (nI (y_out v w a b k).1, nI k, I) = some (nI (y_out v w a b a).1, I') ∧ y_M K I' (y_out v w a b a) := by
  intro d
  induction d with
  | zero =>
    intro k N I e hN h
    have : k = a := by omega
    subst this
    obtain ⟨N, rfl⟩ : ∃ q, N = q + 1 := ⟨N - 1, by omega⟩
    refine ⟨I, ?_, h⟩
    unfold z_lp fX13_longestRow_b5
    dsimp only
    rw [if_pos (nI_le (Nat.le_refl k) (by omega))]
  | succ d ih =>
    intro k N I e hN h
    obtain ⟨N, rfl⟩ : ∃ q, N = q + 1 := ⟨N - 1, by omega⟩
    have m60 := y_out_60 (v := v) (w := w) (b := b) ha k (by omega)
    obtain ⟨I2, f1, f2⟩ := m_yin (mu := mu) (i := k) (s := y_out v w a b k) ha hb (by omega) l3 l4 m60 b 0 300 I (by omega) (by omega) h
    have f1' : z_lp (fX13_longestRow_b14 102 (nI a) (nI b) (nI k) (z_Rm mu)) 300 (nI (y_out v w a b k).1, (0 : Int32), I) = some (nI (y_in v w a b k (y_out v w a b k) b).1, I2) := f1
    have hbd : fX13_longestRow_b5 102 (nI a) (nI b) (z_Rm mu) (nI (y_out v w a b k).1, nI k, I) = some (.inl (nI (y_out v w a b (k + 1)).1, nI (k + 1), I2)) := by
      unfold fX13_longestRow_b5
      dsimp only
      rw [if_neg (nI_ge (show k < a by omega) (by omega)), f1', z_b_s, z_l_s, n_s1]
      rfl
    obtain ⟨I', g1, g2⟩ := ih (k + 1) N I2 (by omega) (by omega) f2
    refine ⟨I', ?_, g2⟩
    unfold z_lp
    rw [hbd]
    exact g1
end YM
theorem call_returns : Call_returns := by
  intro x y z I mu h
  have hR := h
  obtain ⟨len, h⟩ := h
  by_cases c1 : n_in x 0 7 = 0
  · exact ⟨-1000, I, I, by simp (disch := omega) only [z_ob, z_ok, z_ar, z_b_s, z_l_s, z_g_tr, z_x_il, z_x_ir, z_lay, z_shs, z_lens, nI_clamp, n_lt0, n_l0, n_l8, n_l16, n_l24, n_l32, n_l40, n_l48, n_l56, n_l64, n_l72, n_s1, fX12_within_eq, fX13_in_eq, fX12_isSinger_eq, fX12_areTicks_eq, ite_true, ite_false, if_true, if_false, not_false_eq_true, not_true_eq_false, or_self, false_or, or_false, true_or, or_true, and_true, true_and, and_false, false_and, eq_self, fX12_returns, c1], by simp (disch := omega) only [z_ob, z_ok, z_ar, z_b_s, z_l_s, z_g_tr, z_x_il, z_x_ir, z_lay, z_shs, z_lens, nI_clamp, n_lt0, n_l0, n_l8, n_l16, n_l24, n_l32, n_l40, n_l48, n_l56, n_l64, n_l72, n_s1, fX12_within_eq, fX13_in_eq, fX12_isSinger_eq, fX12_areTicks_eq, ite_true, ite_false, if_true, if_false, not_false_eq_true, not_true_eq_false, or_self, false_or, or_false, true_or, or_true, and_true, true_and, and_false, false_and, eq_self, fX13_returns, c1], hR⟩
  by_cases c2 : n_in y 0 7 = 0
  · exact ⟨-1000, I, I, by simp (disch := omega) only [z_ob, z_ok, z_ar, z_b_s, z_l_s, z_g_tr, z_x_il, z_x_ir, z_lay, z_shs, z_lens, nI_clamp, n_lt0, n_l0, n_l8, n_l16, n_l24, n_l32, n_l40, n_l48, n_l56, n_l64, n_l72, n_s1, fX12_within_eq, fX13_in_eq, fX12_isSinger_eq, fX12_areTicks_eq, ite_true, ite_false, if_true, if_false, not_false_eq_true, not_true_eq_false, or_self, false_or, or_false, true_or, or_true, and_true, true_and, and_false, false_and, eq_self, fX12_returns, c1, c2], by simp (disch := omega) only [z_ob, z_ok, z_ar, z_b_s, z_l_s, z_g_tr, z_x_il, z_x_ir, z_lay, z_shs, z_lens, nI_clamp, n_lt0, n_l0, n_l8, n_l16, n_l24, n_l32, n_l40, n_l48, n_l56, n_l64, n_l72, n_s1, fX12_within_eq, fX13_in_eq, fX12_isSinger_eq, fX12_areTicks_eq, ite_true, ite_false, if_true, if_false, not_false_eq_true, not_true_eq_false, or_self, false_or, or_false, true_or, or_true, and_true, true_and, and_false, false_and, eq_self, fX13_returns, c1, c2], hR⟩
  by_cases c3 : n_in z 0 3 = 0
  · exact ⟨-1000, I, I, by simp (disch := omega) only [z_ob, z_ok, z_ar, z_b_s, z_l_s, z_g_tr, z_x_il, z_x_ir, z_lay, z_shs, z_lens, nI_clamp, n_lt0, n_l0, n_l8, n_l16, n_l24, n_l32, n_l40, n_l48, n_l56, n_l64, n_l72, n_s1, fX12_within_eq, fX13_in_eq, fX12_isSinger_eq, fX12_areTicks_eq, ite_true, ite_false, if_true, if_false, not_false_eq_true, not_true_eq_false, or_self, false_or, or_false, true_or, or_true, and_true, true_and, and_false, false_and, eq_self, fX12_returns, c1, c2, c3], by simp (disch := omega) only [z_ob, z_ok, z_ar, z_b_s, z_l_s, z_g_tr, z_x_il, z_x_ir, z_lay, z_shs, z_lens, nI_clamp, n_lt0, n_l0, n_l8, n_l16, n_l24, n_l32, n_l40, n_l48, n_l56, n_l64, n_l72, n_s1, fX12_within_eq, fX13_in_eq, fX12_isSinger_eq, fX12_areTicks_eq, ite_true, ite_false, if_true, if_false, not_false_eq_true, not_true_eq_false, or_self, false_or, or_false, true_or, or_true, and_true, true_and, and_false, false_and, eq_self, fX13_returns, c1, c2, c3], hR⟩
  obtain ⟨i, hi, rfl⟩ := n_in7 c1
  obtain ⟨j, hj, rfl⟩ := n_in7 c2
  have hP := h.2.2.2.2.2.1
  have h8 := h.2.2.2.2.2.2.1 i hi
  have h9 := h.2.2.2.2.2.2.1 j hj
  have r1 := o_roll hP (show i < 9 by omega)
  have r2 := o_roll hP (show j < 9 by omega)
  have hl1 := b_row_len I i (len i)
  have hl2 := b_row_len I j (len j)
  have hn1 := h8.1
  have hn2 := h9.1
  have e1 := c_load hP hi hj h8 h9
  obtain ⟨p, hp⟩ : ∃ p, p = b_row I i (len i) := ⟨_, rfl⟩
  obtain ⟨q, hq⟩ : ∃ q, q = b_row I j (len j) := ⟨_, rfl⟩
  rw [← hp, ← hq] at e1
  rw [← hp] at hl1
  rw [← hq] at hl2
  obtain ⟨v, hv⟩ : ∃ v : Nat → Nat, v = fun k => p[k]?.getD 0 := ⟨_, rfl⟩
  obtain ⟨w, hw⟩ : ∃ w : Nat → Nat, w = fun k => q[k]?.getD 0 := ⟨_, rfl⟩
  have hL : y_L v w p.length q.length (z_u (t_load I p q) 94 4 0) := by
    obtain ⟨t1, t2, t3, t4⟩ := t_load_at (I := I) (p := p) (q := q)
    refine ⟨by rw [z_u_k (by decide)]; exact t1, by rw [z_u_k (by decide)]; exact t2, fun k hk => by rw [u_o (by decide), hv]; exact t3 k hk, fun k hk => by rw [u_o (by decide), hw]; exact t4 k hk⟩
  obtain ⟨I1, f1, f2⟩ := c_yout (mu := mu) (a1 := mu i) (a2 := mu j) (show p.length ≤ 60 by omega) (show q.length ≤ 60 by omega) hL p.length 0 300 (z_u (t_load I p q) 94 4 0) (by omega) (by omega) ⟨fun _ _ _ => rfl, by rw [z_u_at]; rfl, fun q => absurd q (Nat.lt_irrefl 0)⟩
  have f1' : z_lp (fX11_compare_b13 94 (mu i) (mu j) (z_Rm mu)) 300 ((0 : Int32), z_u (t_load I p q) 94 4 0) = some I1 := f1
  have I1o : ∀ b, b < 94 ∨ 97 ≤ b → I1 b = I b := fun b hb => by
    funext k
    rw [f2.1 b k (by omega), u_o (by omega), t_load_o (by omega) (by omega) (by omega)]
  obtain ⟨l1, l2⟩ := m_load (J := I1) hP hi hj h8 h9 (fun b hb => I1o b (by omega))
  rw [← hp, ← hq] at l2
  rw [← hp] at l1
  obtain ⟨K, hK⟩ : ∃ K, K = b_put (b_put I1 132 p) 133 q := ⟨_, rfl⟩
  rw [← hK] at l2
  have s3 : ∀ k, k < p.length → K 132 k = nI (v k) := fun k hk => by rw [hK, b_put_o (by decide), b_put_at hk, hv]
  have s4 : ∀ k, k < q.length → K 133 k = nI (w k) := fun k hk => by rw [hK, b_put_at hk, hw]
  obtain ⟨J, g1, g2⟩ := m_yout (mu := mu) (show p.length ≤ 60 by omega) (show q.length ≤ 60 by omega) s3 s4 p.length 0 300 K (by omega) (by omega) ⟨fun _ _ _ => rfl, fun q => absurd q (Nat.lt_irrefl 0)⟩
  have g1' : z_lp (fX13_longestRow_b5 102 (nI p.length) (nI q.length) (z_Rm mu)) 300 ((0 : Int32), (0 : Int32), K) = some (nI (y_out v w p.length q.length p.length).1, J) := g1
  have m60 := y_out_60 (v := v) (w := w) (b := q.length) (show p.length ≤ 60 by omega) p.length (Nat.le_refl _)
  have ok := y_out_ok (v := v) (w := w) (a := p.length) (b := q.length) p.length (Nat.le_refl _)
  obtain ⟨-, k2, k3⟩ := f2
  obtain ⟨n1, n2⟩ := g2
  generalize y_out v w p.length q.length p.length = s at *
  have fin : Rel J mu := by
    refine rel_frame hR (fun b k hk => ?_)
    have nb : ∀ c, ((57 ≤ c ∧ c ≤ 61) ∨ (72 ≤ c ∧ c ≤ 81) ∨ (92 ≤ c ∧ c ≤ 101) ∨ c = 104 ∨ (112 ≤ c ∧ c ≤ 117) ∨ 123 ≤ c) → b ≠ c := fun c hc e => by
      subst e
      exact k_no hP hc hk
    have n54 : ¬ (b = 102 ∧ (k = 54 ∨ k = 55)) := by
      rintro ⟨rfl, q⟩
      have hA := (p_law hP).1
      unfold k_loc at hk
      rcases hk with h | h | h | h | h | h | h | h | h | h | h | h | h | ⟨t, ht, h1, h2⟩ | h | h | ⟨t, ht, h1, h2⟩
      all_goals first | omega | (have := p_le hP (show t < 9 by omega); omega)
    have a1 := nb 94 (by omega)
    have a2 := nb 95 (by omega)
    have a3 := nb 96 (by omega)
    have a4 := nb 132 (by omega)
    have a5 := nb 133 (by omega)
    rw [n1 b k n54, hK, b_put_o a5, b_put_o a4, I1o b (by omega)]
  have C : fX11_compare 94 (mu i) (mu j) I (z_Rm mu) = some I1 := by
    unfold fX11_compare
    rw [z_g_t (show z_ob 94 11 from rfl), z_g_t r1.1, z_g_t r2.1, e1, z_b_s, z_l_s, f1', z_b_s]
  have M : fX13_longestRow 102 (nI p.length) (nI q.length) K (z_Rm mu) = some (nI s.1, J) := by
    unfold fX13_longestRow
    rw [z_g_t m_ob, g1', z_b_s]
  have c0 : ∀ u, (if z = 0 then some (nI s.1, I1) else (if nI s.1 = 0 then (some ((-2000 : Int32), I1)) else (if z = (1 : Int32) then (some (I1 94 5, I1)) else (if z = (2 : Int32) then (some (I1 94 6, I1)) else (some (I1 94 7, I1)))))) = some (u, I1) → fX12_returns 0 (nI i) (nI j) z I (z_Rm mu) = some (u, I1) := by
    intro u hu
    unfold fX12_returns
    rw [z_g_t o_0, fX12_isSinger_eq, z_b_s, if_neg c1, fX12_isSinger_eq, z_b_s, if_neg c2, fX12_within_eq, z_b_s, if_neg c3, r_01, z_g_t o_3, r_30, z_g_t (k_4 hi), z_g_t (k_4 hj), nI_clamp (show i < 2 ^ 31 by omega), nI_clamp (show j < 2 ^ 31 by omega), r_4 hi, r_4 hj, show z_Rm mu 0 10 = 94 from rfl, z_g_t (show z_ob 94 11 from rfl), C, z_b_s, k2]
    exact hu
  have d0 : ∀ u, (if z = 0 then some (nI s.1, J) else (if nI s.1 = 0 then (some ((-2000 : Int32), J)) else (if z = (1 : Int32) then (some (J 102 54, J)) else (if z = (2 : Int32) then (some (J 102 55, J)) else (z_g (z_ok 1 133 (J 102 55)) (z_g (z_ok 1 132 (J 102 54)) (some ((J 133 (J 102 55).toNatClampNeg) - (J 132 (J 102 54).toNatClampNeg), J)))))))) = some (u, J) → fX13_returns 102 (nI i) (nI j) z I1 (z_Rm mu) = some (u, J) := by
    intro u hu
    unfold fX13_returns
    rw [z_g_t m_ob, fX13_in_eq, z_b_s, if_neg c1, fX13_in_eq, z_b_s, if_neg c2, fX13_in_eq, z_b_s, if_neg c3, show z_Rm mu 102 52 = 132 from rfl, show z_Rm mu 102 53 = 133 from rfl, l1, z_b_s]
    dsimp only
    rw [l2, z_b_s]
    dsimp only
    rw [M, z_b_s]
    exact hu
  by_cases z0 : z = 0
  · exact ⟨nI s.1, I1, J, c0 _ (by rw [if_pos z0]), d0 _ (by rw [if_pos z0]), fin⟩
  by_cases s0 : s.1 = 0
  · exact ⟨-2000, I1, J, c0 _ (by rw [if_neg z0, if_pos (by rw [s0]; rfl)]), d0 _ (by rw [if_neg z0, if_pos (by rw [s0]; rfl)]), fin⟩
  have s0' : ¬ nI s.1 = 0 := nI_ne0 (by omega) (by omega)
  obtain ⟨q1, q2, q3⟩ := k3 (by omega)
  obtain ⟨q4, q5⟩ := n2 (by omega)
  obtain ⟨b1, b2⟩ := ok (by omega)
  by_cases z1 : z = 1
  · exact ⟨nI s.2.1, I1, J, c0 _ (by rw [if_neg z0, if_neg s0', if_pos z1, q1]), d0 _ (by rw [if_neg z0, if_neg s0', if_pos z1, q4]), fin⟩
  by_cases z2 : z = 2
  · exact ⟨nI s.2.2, I1, J, c0 _ (by rw [if_neg z0, if_neg s0', if_neg z1, if_pos z2, q2]), d0 _ (by rw [if_neg z0, if_neg s0', if_neg z1, if_pos z2, q5]), fin⟩
  · refine ⟨nI (w s.2.2) - nI (v s.2.1), I1, J, c0 _ (by rw [if_neg z0, if_neg s0', if_neg z1, if_neg z2, q3]), d0 _ ?_, fin⟩
    rw [if_neg z0, if_neg s0', if_neg z1, if_neg z2, q4, q5, z_g_t (n_ok (n := 60) rfl (show s.2.2 < 60 by omega) (by decide)), z_g_t (n_ok (n := 60) rfl (show s.2.1 < 60 by omega) (by decide)), nI_clamp (show s.2.1 < 2 ^ 31 by omega), nI_clamp (show s.2.2 < 2 ^ 31 by omega), n1 132 _ (by omega), n1 133 _ (by omega), s3 _ b1, s4 _ b2]
