/-! breaths: the sounds of a roll, and a table of least numbers -/
def x_up (f : Nat → Nat) (k x : Nat) : Nat → Nat := fun j => if j = k then x else f j
theorem x_up_at {f : Nat → Nat} {k x : Nat} : x_up f k x k = x := if_pos rfl
theorem x_up_o {f : Nat → Nat} {k j x : Nat} (h : j ≠ k) : x_up f k x j = f j := if_neg h
abbrev x_T : Type := Nat × (Nat → Nat) × (Nat → Nat)
def x_sg (v k : Nat) (s : x_T) : x_T := if 0 < s.1 ∧ v ≠ 0 then (s.1, x_up s.2.1 (s.1 - 1) (s.2.1 (s.1 - 1) + 1), x_up s.2.2 (s.1 - 1) (k + 1)) else s
def x_bg (b : Bool) (s : x_T) : x_T := if b = true then (s.1 + 1, x_up s.2.1 s.1 0, s.2.2) else s
/-- sounds of the first k beats: how many, their beats, their ends -/
def x_l (I : z_He) (i : Nat) : Nat → x_T
  | 0 => (0, fun _ => 0, fun _ => 0)
  | k + 1 => x_sg (b_v I i k) k (x_bg (b_s I i k) (x_l I i k))
def x_P (E : Nat → Nat) (s : Nat) : Nat := if s = 0 then 0 else E (s - 1)
/-- beats that are sung, of the first k -/
def x_c (I : z_He) (i : Nat) : Nat → Nat := n_cnt (fun k => b_v I i k != 0)
def x_inv (I : z_He) (i k : Nat) (s : x_T) : Prop := s.1 ≤ k ∧ (0 < k → b_v I i (k - 1) ≠ 0 → 0 < s.1 ∧ s.2.2 (s.1 - 1) = k) ∧ (∀ t, t < s.1 → 1 ≤ s.2.1 t ∧ 1 ≤ s.2.2 t ∧ s.2.2 t ≤ k) ∧ (∀ t, t + 1 < s.1 → s.2.2 t < s.2.2 (t + 1)) ∧ (∀ t, t < s.1 → x_c I i (s.2.2 t) = x_c I i (x_P s.2.2 t) + s.2.1 t) ∧ x_c I i k = x_c I i (x_P s.2.2 s.1) ∧ ∀ to, 1 ≤ to → to ≤ k → ((∃ t, t < s.1 ∧ s.2.2 t = to) ↔ (b_v I i (to - 1) ≠ 0 ∧ (to = k ∨ b_g I i to = 1)))
theorem x_mono {E : Nat → Nat} {S : Nat} (h : ∀ t, t + 1 < S → E t < E (t + 1)) : ∀ d t, t + d + 1 < S → E t < E (t + d + 1)
  | 0, t, ht => h t ht
  | d + 1, t, ht => Nat.lt_trans (x_mono h d t (by omega)) (h (t + d + 1) (by omega))
theorem x_l_inv {I : z_He} {i r n : Nat} (hr : r_Roll I i r n) : ∀ k, k ≤ n → x_inv I i k (x_l I i k)
  | 0, _ => by
    refine ⟨Nat.le_refl 0, fun h => absurd h (Nat.lt_irrefl 0), fun t ht => absurd ht (Nat.not_lt_zero t), fun t ht => absurd ht (Nat.not_lt_zero _), fun t ht => absurd ht (Nat.not_lt_zero t), rfl, fun to h1 h2 => by omega⟩
  | k + 1, hk => by
    have ih := x_l_inv hr k (by omega)
    obtain ⟨hv7, -, -, -, -, hg1, -, -, -, -, hg0⟩ := b_at hr (show k < n by omega)
    have ck : x_c I i (k + 1) = if (b_v I i k != 0) = true then x_c I i k + 1 else x_c I i k := rfl
    have ul : x_l I i (k + 1) = x_sg (b_v I i k) k (x_bg (b_s I i k) (x_l I i k)) := rfl
    rw [ul]
    generalize x_l I i k = s at ih
    obtain ⟨S, be, E⟩ := s
    obtain ⟨i1, i2, i3, i4, i5, i6, i7⟩ := ih
    dsimp only at i1 i2 i3 i4 i5 i6 i7
    by_cases cv : b_v I i k = 0
    · have e1 : b_s I i k = false := by unfold b_s; rw [cv]; simp
      have e2 : x_sg (b_v I i k) k (x_bg (b_s I i k) (S, be, E)) = (S, be, E) := by
        unfold x_sg x_bg
        rw [e1, if_neg (show ¬ (false = true) by decide), if_neg (fun q => q.2 cv)]
      rw [e2]
      rw [if_neg (by simp [cv])] at ck
      refine ⟨by dsimp only; omega, fun _ h => absurd cv h, fun t ht => ?_, i4, i5, by rw [ck]; exact i6, fun to h1 h2 => ?_⟩
      · have := i3 t ht
        dsimp only
        omega
      · dsimp only
        by_cases ct : to = k + 1
        · subst ct
          rw [show k + 1 - 1 = k by omega]
          constructor
          · rintro ⟨t, ht, e⟩
            have := i3 t ht
            omega
          · rintro ⟨q, -⟩
            exact absurd cv q
        · rw [i7 to h1 (by omega)]
          constructor
          · rintro ⟨q1, q2 | q2⟩
            · refine ⟨q1, Or.inr ?_⟩
              subst q2
              by_cases g0 : b_g I i to = 0
              · have := hg0 g0
                rw [cv] at this
                exact absurd this.2.symm q1
              · omega
            · exact ⟨q1, Or.inr q2⟩
          · rintro ⟨q1, q2 | q2⟩
            · omega
            · exact ⟨q1, Or.inr q2⟩
    · rw [if_pos (by simp [cv])] at ck
      by_cases cg : b_g I i k = 1
      · have e1 : b_s I i k = true := by unfold b_s; rw [cg]; simp [cv]
        have e2 : x_sg (b_v I i k) k (x_bg (b_s I i k) (S, be, E)) = (S + 1, x_up (x_up be S 0) S 1, x_up E S (k + 1)) := by
          unfold x_sg x_bg
          rw [e1, if_pos rfl, if_pos ⟨Nat.succ_pos S, cv⟩]
          dsimp only
          rw [show S + 1 - 1 = S by omega, x_up_at]
        rw [e2]
        have pe : ∀ t, t ≤ S → x_P (x_up E S (k + 1)) t = x_P E t := fun t ht => by
          unfold x_P
          by_cases t0 : t = 0
          · rw [if_pos t0, if_pos t0]
          · rw [if_neg t0, if_neg t0, x_up_o (by omega)]
        have pS : x_P (x_up E S (k + 1)) (S + 1) = k + 1 := by
          unfold x_P
          rw [if_neg (by omega), show S + 1 - 1 = S by omega, x_up_at]
        refine ⟨by dsimp only; omega, fun _ _ => ⟨Nat.succ_pos S, by dsimp only; rw [show S + 1 - 1 = S by omega, x_up_at]⟩, fun t ht => ?_, fun t ht => ?_, fun t ht => ?_, by dsimp only; rw [pS], fun to h1 h2 => ?_⟩
        · dsimp only at ht ⊢
          by_cases c : t = S
          · subst c
            rw [x_up_at, x_up_at]
            omega
          · rw [x_up_o c, x_up_o c, x_up_o c]
            have := i3 t (by omega)
            omega
        · dsimp only at ht ⊢
          by_cases c : t + 1 = S
          · rw [c, x_up_at, x_up_o (by omega)]
            have := i3 t (by omega)
            omega
          · rw [x_up_o (by omega), x_up_o c]
            exact i4 t (by omega)
        · dsimp only at ht ⊢
          rw [pe t (by omega)]
          by_cases c : t = S
          · subst c
            rw [x_up_at, x_up_at, ck, i6]
          · rw [x_up_o c, x_up_o c, x_up_o c]
            exact i5 t (by omega)
        · dsimp only
          by_cases ct : to = k + 1
          · subst ct
            rw [show k + 1 - 1 = k by omega]
            exact ⟨fun _ => ⟨cv, Or.inl rfl⟩, fun _ => ⟨S, by omega, x_up_at⟩⟩
          · have hh := i7 to h1 (by omega)
            constructor
            · rintro ⟨t, ht, e⟩
              have tS : t ≠ S := by
                intro q
                subst q
                rw [x_up_at] at e
                omega
              rw [x_up_o tS] at e
              obtain ⟨q1, q2 | q2⟩ := hh.mp ⟨t, by omega, e⟩
              · exact ⟨q1, Or.inr (by rw [q2]; exact cg)⟩
              · exact ⟨q1, Or.inr q2⟩
            · rintro ⟨q1, q2 | q2⟩
              · omega
              · obtain ⟨t, ht, e⟩ := hh.mpr ⟨q1, Or.inr q2⟩
                exact ⟨t, by omega, by rw [x_up_o (by omega)]; exact e⟩
      · have g0 : b_g I i k = 0 := by omega
        obtain ⟨k0, ev⟩ := hg0 g0
        obtain ⟨S0, eS⟩ := i2 (by omega) (by rw [← ev]; exact cv)
        have e1 : b_s I i k = false := by unfold b_s; rw [g0]; rfl
        have e2 : x_sg (b_v I i k) k (x_bg (b_s I i k) (S, be, E)) = (S, x_up be (S - 1) (be (S - 1) + 1), x_up E (S - 1) (k + 1)) := by
          unfold x_sg x_bg
          rw [e1, if_neg (show ¬ (false = true) by decide), if_pos ⟨S0, cv⟩]
        rw [e2]
        have pe : ∀ t, t < S → x_P (x_up E (S - 1) (k + 1)) t = x_P E t := fun t ht => by
          unfold x_P
          by_cases t0 : t = 0
          · rw [if_pos t0, if_pos t0]
          · rw [if_neg t0, if_neg t0, x_up_o (by omega)]
        have pS : x_P (x_up E (S - 1) (k + 1)) S = k + 1 := by
          unfold x_P
          rw [if_neg (by omega), x_up_at]
        have pS0 : x_P E S = k := by
          unfold x_P
          rw [if_neg (by omega), eS]
        refine ⟨by dsimp only; omega, fun _ _ => ⟨S0, by dsimp only; rw [x_up_at]⟩, fun t ht => ?_, fun t ht => ?_, fun t ht => ?_, by dsimp only; rw [pS], fun to h1 h2 => ?_⟩
        · dsimp only at ht ⊢
          by_cases c : t = S - 1
          · subst c
            rw [x_up_at, x_up_at]
            omega
          · rw [x_up_o c, x_up_o c]
            have := i3 t ht
            omega
        · dsimp only at ht ⊢
          by_cases c : t + 1 = S - 1
          · rw [c, x_up_at, x_up_o (by omega)]
            have := i3 t (by omega)
            omega
          · rw [x_up_o (by omega), x_up_o c]
            exact i4 t ht
        · dsimp only at ht ⊢
          rw [pe t ht]
          by_cases c : t = S - 1
          · have := i5 (S - 1) (by omega)
            rw [eS] at this
            rw [c, x_up_at, x_up_at, ck]
            omega
          · rw [x_up_o c, x_up_o c]
            exact i5 t ht
        · dsimp only
          by_cases ct : to = k + 1
          · subst ct
            rw [show k + 1 - 1 = k by omega]
            exact ⟨fun _ => ⟨cv, Or.inl rfl⟩, fun _ => ⟨S - 1, by omega, x_up_at⟩⟩
          · have hh := i7 to h1 (by omega)
            constructor
            · rintro ⟨t, ht, e⟩
              have tS : t ≠ S - 1 := by
                intro q
                rw [q, x_up_at] at e
                omega
              rw [x_up_o tS] at e
              obtain ⟨q1, q2 | q2⟩ := hh.mp ⟨t, ht, e⟩
              · exfalso
                have := x_mono i4 (S - 1 - t - 1) t (by omega)
                rw [show t + (S - 1 - t - 1) + 1 = S - 1 by omega, eS] at this
                omega
              · exact ⟨q1, Or.inr q2⟩
            · rintro ⟨q1, q2 | q2⟩
              · omega
              · obtain ⟨t, ht, e⟩ := hh.mpr ⟨q1, Or.inr q2⟩
                refine ⟨t, ht, ?_⟩
                by_cases tS : t = S - 1
                · exfalso
                  rw [tS, eS] at e
                  rw [← e, g0] at q2
                  omega
                · rw [x_up_o tS]
                  exact e
/-! a table of least numbers, from the end on -/
def x_fd (ok : Nat → Nat → Bool) (val : (Nat → Nat) → Nat → Nat) (ini : Nat) (tab : Nat → Nat) (p : Nat) : Nat → Nat
  | 0 => ini
  | j + 1 => if ok p (p + 1 + j) = true then min (x_fd ok val ini tab p j) (val tab (p + 1 + j)) else x_fd ok val ini tab p j
def x_tab (n : Nat) (init : Nat → Nat) (ok : Nat → Nat → Bool) (val : (Nat → Nat) → Nat → Nat) : Nat → Nat → Nat
  | 0 => fun _ => 0
  | d + 1 => x_up (x_tab n init ok val d) (n - d) (x_fd ok val (init (n - d)) (x_tab n init ok val d) (n - d) d)
section XT
variable {n : Nat} {init : Nat → Nat} {ok : Nat → Nat → Bool} {val : (Nat → Nat) → Nat → Nat}
theorem x_fd_congr {ini p : Nat} {tab tab' : Nat → Nat} (hval : ∀ (t t' : Nat → Nat) q, t q = t' q → val t q = val t' q) : ∀ c, (∀ q, p < q → q ≤ p + c → tab q = tab' q) → x_fd ok val ini tab p c = x_fd ok val ini tab' p c
  | 0, _ => rfl
  | c + 1, h => by
    unfold x_fd
    rw [x_fd_congr hval c (fun q h1 h2 => h q h1 (by omega)), hval tab tab' (p + 1 + c) (h _ (by omega) (by omega))]
theorem x_tab_st {q : Nat} (hq : q ≤ n) : ∀ e, n - q + 1 + e ≤ n + 1 → x_tab n init ok val (n - q + 1 + e) q = x_tab n init ok val (n - q + 1) q
  | 0, _ => rfl
  | e + 1, he => by
    show x_up (x_tab n init ok val (n - q + 1 + e)) (n - (n - q + 1 + e)) _ q = _
    rw [x_up_o (by omega), x_tab_st hq e (by omega)]
theorem x_spec (hval : ∀ (t t' : Nat → Nat) q, t q = t' q → val t q = val t' q) {q : Nat} (hq : q ≤ n) : x_tab n init ok val (n + 1) q = x_fd ok val (init q) (x_tab n init ok val (n + 1)) q (n - q) := by
  have h1 := x_tab_st (init := init) (ok := ok) (val := val) hq q (by omega)
  rw [show n - q + 1 + q = n + 1 by omega] at h1
  rw [h1]
  show x_up (x_tab n init ok val (n - q)) (n - (n - q)) _ q = _
  rw [show n - (n - q) = q by omega, x_up_at]
  refine x_fd_congr hval (n - q) (fun t h2 h3 => ?_)
  have h4 := x_tab_st (init := init) (ok := ok) (val := val) (q := t) (show t ≤ n by omega) t (by omega)
  have h5 := x_tab_st (init := init) (ok := ok) (val := val) (q := t) (show t ≤ n by omega) (t - q - 1) (by omega)
  rw [show n - t + 1 + t = n + 1 by omega] at h4
  rw [show n - t + 1 + (t - q - 1) = n - q by omega] at h5
  rw [h4, h5]
theorem x_fd_min {ini p : Nat} {tab : Nat → Nat} : ∀ c, x_fd ok val ini tab p c ≤ ini ∧ (∀ q, p < q → q ≤ p + c → ok p q = true → x_fd ok val ini tab p c ≤ val tab q) ∧ (x_fd ok val ini tab p c = ini ∨ ∃ q, p < q ∧ q ≤ p + c ∧ ok p q = true ∧ x_fd ok val ini tab p c = val tab q)
  | 0 => ⟨Nat.le_refl _, fun q h1 h2 => by omega, Or.inl rfl⟩
  | c + 1 => by
    obtain ⟨h1, h2, h3⟩ := x_fd_min (ini := ini) (p := p) (tab := tab) c
    unfold x_fd
    by_cases o : ok p (p + 1 + c) = true
    · rw [if_pos o]
      refine ⟨by omega, fun q q1 q2 q3 => ?_, ?_⟩
      · by_cases e : q = p + 1 + c
        · subst e; omega
        · have := h2 q q1 (by omega) q3
          omega
      · by_cases l : x_fd ok val ini tab p c ≤ val tab (p + 1 + c)
        · rw [Nat.min_eq_left l]
          rcases h3 with h3 | ⟨q, q1, q2, q3, q4⟩
          · exact Or.inl h3
          · exact Or.inr ⟨q, q1, by omega, q3, q4⟩
        · rw [Nat.min_eq_right (by omega)]
          exact Or.inr ⟨p + 1 + c, by omega, by omega, o, rfl⟩
    · rw [if_neg o]
      refine ⟨h1, fun q q1 q2 q3 => ?_, ?_⟩
      · by_cases e : q = p + 1 + c
        · subst e; exact absurd q3 o
        · exact h2 q q1 (by omega) q3
      · rcases h3 with h3 | ⟨q, q1, q2, q3, q4⟩
        · exact Or.inl h3
        · exact Or.inr ⟨q, q1, by omega, q3, q4⟩
end XT
