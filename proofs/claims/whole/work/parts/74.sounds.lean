/-! sounds, canon -/
theorem s_both {I : Nat → Nat → Int32} {mu len : Nat → Nat} (h : RelL I mu len) {i : Nat} (hi : i < 8) : ∃ s, s ≤ 7 ∧ fX2_noteNow 59 62 (nI i) I (z_Rm mu) = some (nI s) ∧ fX13_soundOf 102 (nI i) I (z_Rm mu) = some (nI s) := by
  have hP := h.2.2.2.2.2.1
  have h8 := h.2.2.2.2.2.2.1 i hi
  have hr := o_roll hP (show i < 9 by omega)
  have hn := h8.1
  obtain ⟨t01, -, -, -, -, ⟨a, ha, ea⟩, -, -, w01, -⟩ := h.2.1.1 i hi
  have W : ∀ f, f < 10 → I (62 + 2 + i) f = I 103 (8 * f + i) := fun f hf => h.1.1 f i hf hi
  have e64 : (64 : Nat) + i = 62 + 2 + i := by omega
  have A : fX2_noteNow 59 62 (nI i) I (z_Rm mu) = (if n_b (I 103 i) = 0 then some 0 else if I 103 (72 + i) = 0 then some (if a < len i then I (mu i + 1) a else 0) else some 0) := by
    unfold fX2_noteNow
    rw [z_g_t (show z_ob 59 2 from rfl), z_g_t o_62, c_told c62 hi, z_b_s, r_620, z_g_t (k_63 hi), show z_Rm mu 59 0 = 3 from rfl, z_g_t o_3, r_30, z_g_t (k_4 hi), nI_clamp (show i < 2 ^ 31 by omega), (z_ls62 mu hi).1, z_g_t (z_ls62 mu hi).2, e64, W 0 (by decide), W 9 (by decide), W 5 (by decide), r_4 hi, z_g_t hr.1, show 8 * 0 + i = i by omega, show 8 * 9 + i = 72 + i by omega, show 8 * 5 + i = 40 + i by omega, ea, c_noteAt hP (show i < 9 by omega) h8.2.1 hn (by omega), z_b_s]
  have B : fX13_soundOf 102 (nI i) I (z_Rm mu) = (if (if I 103 i = 1 then (1 : Int32) else 0) = 0 then some 0 else if (if nI a < nI (len i) then (0 : Int32) else 1) = 0 then (if I 103 (72 + i) = 0 then (z_b (if (if nI a < nI (len i) then (0 : Int32) else 1) = 0 then (z_g (z_ok 1 106 (nI (60 * i + a))) (some (I 106 (nI (60 * i + a)).toNatClampNeg))) else some 0) (fun q => some q)) else some 0) else some 0) := by
    unfold fX13_soundOf fX13_noteNow
    rw [z_g_t m_ob, z_g_t m_ob, m_told hi, z_b_s, m_isDone hi, z_b_s, z_b_s, r_m0, n_l72, n_l40, z_g_t (k_103 (show 72 + i < 82 by omega)), z_g_t (k_103 (show 40 + i < 82 by omega)), nI_clamp (show 72 + i < 2 ^ 31 by omega), nI_clamp (show 40 + i < 2 ^ 31 by omega), ea, h8.2.2.1, n_l60, show z_Rm mu 102 5 = 106 from rfl]
  rw [A, B]
  rcases t01 with t | t
  · refine ⟨0, by decide, ?_, ?_⟩
    · rw [t]; rfl
    · rw [t]; rfl
  · rw [t, if_pos (show (1 : Int32) = 1 from rfl), if_neg (show ¬ n_b 1 = 0 by decide), if_neg n_10.mp]
    rcases w01 with w | w
    · rw [w, if_pos (show (0 : Int32) = 0 from rfl), if_pos (show (0 : Int32) = 0 from rfl)]
      by_cases c : a < len i
      · obtain ⟨v1, v2, v3, -⟩ := b_at h8 c
        refine ⟨b_v I i a, v1, ?_, ?_⟩
        · rw [if_pos c, v2]
        · rw [if_pos (nI_lt c (by omega)), if_pos rfl, if_pos rfl, z_g_t (k_480 rfl hi (by omega)), nI_clamp (by omega), z_b_s, v3]
      · refine ⟨0, by decide, ?_, ?_⟩
        · rw [if_neg c]; rfl
        · rw [if_neg (nI_nlt (by omega) (by omega)), if_neg n_10.mp]; rfl
    · refine ⟨0, by decide, ?_, ?_⟩
      · rw [w, if_neg n_10.mp]; rfl
      · rw [w]
        by_cases c : a < len i
        · rw [if_pos (nI_lt c (by omega)), if_pos rfl, if_neg n_10.mp]; rfl
        · rw [if_neg (nI_nlt (by omega) (by omega)), if_neg n_10.mp]; rfl
def s_cl (a b : Nat) : Bool := a != 0 && b != 0 && (a == b + 1 || b == a + 1 || a == b + 6 || b == a + 6)
theorem n_cl : ∀ a, a ≤ 7 → ∀ b, b ≤ 7 → fX12_clash (nI a) (nI b) = some (if s_cl a b = true then 1 else 0) ∧ fX13_areClashing (nI a) (nI b) = some (if s_cl a b = true then 1 else 0) := by decide +kernel
theorem n_nI0 (p : Int32) : p + nI 0 = p := by
  show p + 0 = p
  exact Int32.add_zero p
theorem n_as1 (p : Int32) (c : Nat) : p + nI c + 1 = p + nI (c + 1) := by rw [Int32.add_assoc, n_s1]
def s_tr (s : Nat → Nat) : Nat → Int32 × Int32
  | 0 => (0, 0)
  | k + 1 => (if s k = 0 then (s_tr s k).1 else (s_tr s k).1 ||| z_shl 1 (nI (s k)), (s_tr s k).2 + nI (n_cnt (fun j => s_cl (s k) (s j)) k))
theorem call_sounds : Call_sounds := by
  intro x I mu h
  have hR := h
  obtain ⟨len, h⟩ := h
  by_cases c1 : n_in x 0 1 = 0
  · exact ⟨-1, by simp (disch := omega) only [z_ob, z_ok, z_ar, z_b_s, z_l_s, z_g_tr, z_x_il, z_x_ir, z_lay, z_shs, z_lens, nI_clamp, n_lt0, n_l0, n_l8, n_l16, n_l24, n_l32, n_l40, n_l48, n_l56, n_l64, n_l72, n_s1, fX12_within_eq, fX13_in_eq, fX12_isSinger_eq, fX12_areTicks_eq, ite_true, ite_false, if_true, if_false, not_false_eq_true, not_true_eq_false, or_self, false_or, or_false, true_or, or_true, and_true, true_and, and_false, false_and, eq_self, fX12_sounds, c1], by simp (disch := omega) only [z_ob, z_ok, z_ar, z_b_s, z_l_s, z_g_tr, z_x_il, z_x_ir, z_lay, z_shs, z_lens, nI_clamp, n_lt0, n_l0, n_l8, n_l16, n_l24, n_l32, n_l40, n_l48, n_l56, n_l64, n_l72, n_s1, fX12_within_eq, fX13_in_eq, fX12_isSinger_eq, fX12_areTicks_eq, ite_true, ite_false, if_true, if_false, not_false_eq_true, not_true_eq_false, or_self, false_or, or_false, true_or, or_true, and_true, true_and, and_false, false_and, eq_self, fX13_sounds, c1], hR⟩
  obtain ⟨s, hs⟩ : ∃ s : Nat → Nat, ∀ i, i < 8 → s i ≤ 7 ∧ fX2_noteNow 59 62 (nI i) I (z_Rm mu) = some (nI (s i)) ∧ fX13_soundOf 102 (nI i) I (z_Rm mu) = some (nI (s i)) := by
    refine ⟨fun i => ((fX13_soundOf 102 (nI i) I (z_Rm mu)).getD 0).toNatClampNeg, fun i hi => ?_⟩
    obtain ⟨v, v1, v2, v3⟩ := s_both h hi
    dsimp only
    rw [v3, Option.getD_some, nI_clamp (by omega)]
    exact ⟨v1, v2, rfl⟩
  have z0 : ∀ i, i < 8 → (nI (s i) = 0 ↔ s i = 0) ∧ (nI (s i) ≤ 0 ↔ s i = 0) := fun i hi => by
    have := (hs i hi).1
    refine ⟨n_eq (b := 0) (by omega) (by decide), ?_⟩
    rw [show (0 : Int32) = nI 0 from rfl, n_le (by omega) (by decide)]
    omega
  have A : ∀ (i : Nat) (z2 p3 : Int32) {β : Type} (f : Int32 → Option β), i < 8 → z_b (z_lp (fX12_sounds_b55 0 x z2 (nI i) (nI (s i)) I (z_Rm mu)) 300 (p3, (0 : Int32))) f = f (p3 + nI (n_cnt (fun j => s_cl (s i) (s j)) i)) := by
    intro i z2 p3 β f hi
    refine z_lp_b i (p3 + nI (n_cnt (fun j => s_cl (s i) (s j)) i)) (fun k => (p3 + nI (n_cnt (fun j => s_cl (s i) (s j)) k), nI k)) ?_ ?_ ?_ (by omega)
    · show (p3 + nI 0, nI 0) = _
      rw [n_nI0]; rfl
    · intro k hk
      have hk8 : k < 8 := by omega
      unfold fX12_sounds_b55
      dsimp only
      rw [if_neg (nI_ge hk (by omega)), r_40, r_05, z_g_t (show z_ob 59 2 from rfl), (hs k hk8).2.1, z_b_s, (n_cl (s i) (hs i hi).1 (s k) (hs k hk8).1).1, z_b_s]
      simp only [z_l_s, n_s1, n_as1]
      show _ = some (Sum.inl (p3 + nI (if s_cl (s i) (s k) = true then _ else _), _))
      by_cases c : s_cl (s i) (s k) = true
      · rw [if_pos c, if_neg (by decide), if_pos c]
      · rw [if_neg c, if_pos rfl, if_neg c]
    · unfold fX12_sounds_b55
      dsimp only
      rw [if_pos (nI_le (Nat.le_refl _) (by omega))]
  have B : ∀ (i : Nat) (z2 p3 : Int32) {β : Type} (f : Int32 → Option β), i < 8 → z_b (z_lp (fX13_sounds_b48 102 x z2 (nI i) I (z_Rm mu)) 300 (p3, (0 : Int32))) f = f (p3 + nI (n_cnt (fun j => s_cl (s i) (s j)) i)) := by
    intro i z2 p3 β f hi
    refine z_lp_b i (p3 + nI (n_cnt (fun j => s_cl (s i) (s j)) i)) (fun k => (p3 + nI (n_cnt (fun j => s_cl (s i) (s j)) k), nI k)) ?_ ?_ ?_ (by omega)
    · show (p3 + nI 0, nI 0) = _
      rw [n_nI0]; rfl
    · intro k hk
      have hk8 : k < 8 := by omega
      unfold fX13_sounds_b48
      dsimp only
      rw [if_neg (nI_ge hk (by omega)), (hs i hi).2.2, z_b_s, (hs k hk8).2.2, z_b_s, (n_cl (s i) (hs i hi).1 (s k) (hs k hk8).1).2, z_b_s]
      simp only [z_l_s, n_s1, n_as1]
      show _ = some (Sum.inl (p3 + nI (if s_cl (s i) (s k) = true then _ else _), _))
      by_cases c : s_cl (s i) (s k) = true
      · rw [if_pos c, if_neg (by decide), if_pos c]
      · rw [if_neg c, if_pos rfl, if_neg c]
    · unfold fX13_sounds_b48
      dsimp only
      rw [if_pos (nI_le (Nat.le_refl _) (by omega))]
  refine ⟨if x = 0 then (s_tr s 8).1 else (s_tr s 8).2, ?_, ?_, hR⟩
  · unfold fX12_sounds
    rw [z_g_t o_0, fX12_within_eq, z_b_s, if_neg c1]
    refine (z_lp_b 8 (s_tr s 8) (fun k => ((s_tr s k).1, (s_tr s k).2, nI k)) rfl ?_ ?_ (by decide)).trans ?_
    · intro k hk
      unfold fX12_sounds_b18 fX12_sounds_j52_18
      dsimp only
      rw [if_neg (n_8 hk), r_40, r_05, z_g_t (show z_ob 59 2 from rfl), (hs k hk).2.1, z_b_s]
      simp only [z_l_s, A _ _ _ _ hk, n_s1]
      show _ = some (Sum.inl (if s k = 0 then _ else _, _, _))
      by_cases c : s k = 0
      · rw [if_pos ((z0 k hk).1.mpr c), if_pos c]; rfl
      · rw [if_neg (fun q => c ((z0 k hk).1.mp q)), if_neg c]; rfl
    · unfold fX12_sounds_b18
      dsimp only
      rw [if_pos n_88]
    · split <;> rfl
  · unfold fX13_sounds
    rw [z_g_t m_ob, fX13_in_eq, z_b_s, if_neg c1]
    refine (z_lp_b 8 (s_tr s 8) (fun k => ((s_tr s k).1, (s_tr s k).2, nI k)) rfl ?_ ?_ (by decide)).trans ?_
    · intro k hk
      unfold fX13_sounds_b18 fX13_sounds_j45_18
      dsimp only
      rw [if_neg (n_8 hk), (hs k hk).2.2, z_b_s, z_b_s]
      simp only [z_l_s, B _ _ _ _ hk, n_s1]
      show _ = some (Sum.inl (if s k = 0 then _ else _, _, _))
      by_cases c : s k = 0
      · rw [if_pos ((z0 k hk).2.mpr c), if_pos c]; rfl
      · rw [if_neg (fun q => c ((z0 k hk).2.mp q)), if_neg c]; rfl
    · unfold fX13_sounds_b18
      dsimp only
      rw [if_pos n_88]
    · split <;> rfl
/-! canon -/
def s_by (I : Nat → Nat → Int32) (len : Nat → Nat) (i j d : Nat) : Nat := n_cnt (fun k => decide (k + d < len i) && s_cl (b_v I i (k + d)) (b_v I j k)) (len j)
theorem n_cnt_le (p : Nat → Bool) : ∀ k, n_cnt p k ≤ k
  | 0 => Nat.le_refl 0
  | k + 1 => by
    have := n_cnt_le p k
    unfold n_cnt
    split <;> omega
theorem n_cnt_stop {p : Nat → Bool} {t : Nat} : ∀ d, (∀ k, t ≤ k → k < t + d → p k = false) → n_cnt p (t + d) = n_cnt p t
  | 0, _ => rfl
  | d + 1, h => by
    show (if p (t + d) = true then _ else _) = _
    rw [h (t + d) (by omega) (by omega), if_neg (by decide)]
    exact n_cnt_stop d (fun k h1 h2 => h k h1 (by omega))
theorem c_by {I : Nat → Nat → Int32} {mu len : Nat → Nat} (h : RelL I mu len) {i j d : Nat} (hi : i < 8) (hj : j < 8) (hd : d ≤ 60) : fX12_clashesBy (mu i) (mu j) (nI d) I (z_Rm mu) = some (nI (s_by I len i j d)) := by
  have hP := h.2.2.2.2.2.1
  have h8 := h.2.2.2.2.2.2.1 i hi
  have h9 := h.2.2.2.2.2.2.1 j hj
  have r1 := o_roll hP (show i < 9 by omega)
  have r2 := o_roll hP (show j < 9 by omega)
  have n1 := h8.1
  have n2 := h9.1
  unfold fX12_clashesBy s_by
  rw [z_g_t r1.1, z_g_t r2.1]
  refine (z_lp_b (len j) (nI (n_cnt (fun k => decide (k + d < len i) && s_cl (b_v I i (k + d)) (b_v I j k)) (len j))) (fun k => (nI (n_cnt (fun k => decide (k + d < len i) && s_cl (b_v I i (k + d)) (b_v I j k)) k), nI k)) rfl ?_ ?_ (by omega)).trans rfl
  · intro k hk
    obtain ⟨w1, w2, -⟩ := b_at h9 hk
    unfold fX12_clashesBy_b5 fX5_length
    dsimp only
    rw [z_g_t r2.1, h9.2.1, z_b_s, if_neg (nI_ge hk (by omega)), n_add, c_noteAt hP (show i < 9 by omega) h8.2.1 n1 (by omega), z_b_s, c_noteAt hP (show j < 9 by omega) h9.2.1 n2 (by omega), z_b_s, if_pos hk, w2]
    simp only [z_l_s, n_s1]
    show _ = some (Sum.inl (nI (if (decide (k + d < len i) && s_cl (b_v I i (k + d)) (b_v I j k)) = true then _ else _), _))
    by_cases c : k + d < len i
    · obtain ⟨v1, v2, -⟩ := b_at h8 c
      rw [if_pos c, v2, (n_cl _ v1 _ w1).1, z_b_s]
      by_cases c2 : s_cl (b_v I i (k + d)) (b_v I j k) = true
      · rw [if_pos c2, if_neg (by decide), if_pos (by simp [c, c2])]
      · rw [if_neg c2, if_pos rfl, if_neg (by simp [c2])]
    · have c2 : s_cl 0 (b_v I j k) = false := by unfold s_cl; simp
      have q0 : fX12_clash 0 (nI (b_v I j k)) = some 0 := by
        have := (n_cl 0 (by omega) _ w1).1
        rw [c2] at this
        exact this
      rw [if_neg c, q0, z_b_s, if_pos rfl, if_neg (by simp [c])]
  · unfold fX12_clashesBy_b5 fX5_length
    dsimp only
    rw [z_g_t r2.1, h9.2.1, z_b_s, if_pos (nI_le (Nat.le_refl _) (by omega))]
theorem m_by {I : Nat → Nat → Int32} {mu len : Nat → Nat} (h : RelL I mu len) {i j d : Nat} (hi : i < 8) (hj : j < 8) (hd : d ≤ 60) : fX13_clashesBy 102 (nI i) (nI j) (nI d) I (z_Rm mu) = some (nI (s_by I len i j d)) := by
  have h8 := h.2.2.2.2.2.2.1 i hi
  have h9 := h.2.2.2.2.2.2.1 j hj
  have n1 := h8.1
  have n2 := h9.1
  obtain ⟨t, ht⟩ : ∃ t, t = min (len i - d) (len j) := ⟨_, rfl⟩
  have es : s_by I len i j d = n_cnt (fun k => s_cl (b_v I i (k + d)) (b_v I j k)) t := by
    unfold s_by
    have p1 := n_cnt_stop (p := fun k => decide (k + d < len i) && s_cl (b_v I i (k + d)) (b_v I j k)) (t := t) (len j - t) (fun k h1 h2 => by
      have : ¬ k + d < len i := by omega
      simp [this])
    rw [show t + (len j - t) = len j by omega] at p1
    rw [p1]
    apply n_cnt_congr
    intro k hk
    have : k + d < len i := by omega
    simp [this]
  rw [es]
  unfold fX13_clashesBy
  rw [z_g_t m_ob]
  refine (z_lp_b t (nI (n_cnt (fun k => s_cl (b_v I i (k + d)) (b_v I j k)) t)) (fun k => (nI (n_cnt (fun k => s_cl (b_v I i (k + d)) (b_v I j k)) k), nI (d + k))) rfl ?_ ?_ (by omega)).trans rfl
  · intro k hk
    obtain ⟨v1, -, v3, -⟩ := b_at h8 (show k + d < len i by omega)
    obtain ⟨w1, -, w3, -⟩ := b_at h9 (show k < len j by omega)
    unfold fX13_clashesBy_b6
    dsimp only
    rw [r_m9, z_g_t (k_110 hi), z_g_t (k_110 hj), nI_clamp (show i < 2 ^ 31 by omega), nI_clamp (show j < 2 ^ 31 by omega), h8.2.2.1, h9.2.2.1, if_neg (nI_ge (show d + k < len i by omega) (by omega)), n_sub (show d ≤ d + k by omega), Nat.add_sub_cancel_left, if_neg (nI_ge (show k < len j by omega) (by omega)), n_l60, n_l60, n_sub (show d ≤ 60 * j + (d + k) by omega), show 60 * j + (d + k) - d = 60 * j + k by omega, show 60 * i + (d + k) = 60 * i + (k + d) by omega, show z_Rm mu 102 5 = 106 from rfl, z_g_t (k_480 rfl hi (show k + d < 60 by omega)), z_g_t (k_480 rfl hj (show k < 60 by omega)), nI_clamp (show 60 * i + (k + d) < 2 ^ 31 by omega), nI_clamp (show 60 * j + k < 2 ^ 31 by omega), v3, w3, (n_cl _ v1 _ w1).2, z_b_s]
    simp only [z_l_s, n_s1]
    show _ = some (Sum.inl (nI (if s_cl (b_v I i (k + d)) (b_v I j k) = true then _ else _), _))
    by_cases c2 : s_cl (b_v I i (k + d)) (b_v I j k) = true
    · rw [if_pos c2, if_neg (by decide), if_pos c2]; rfl
    · rw [if_neg c2, if_pos rfl, if_neg c2]; rfl
  · unfold fX13_clashesBy_b6
    dsimp only
    rw [r_m9, z_g_t (k_110 hi), z_g_t (k_110 hj), nI_clamp (show i < 2 ^ 31 by omega), nI_clamp (show j < 2 ^ 31 by omega), h8.2.2.1, h9.2.2.1]
    by_cases c : len i ≤ d + t
    · rw [if_pos (nI_le c (by omega))]
    · rw [if_neg (nI_ge (by omega) (by omega)), n_sub (show d ≤ d + t by omega), Nat.add_sub_cancel_left, if_pos (nI_le (by omega) (by omega))]
def s_best (f : Nat → Nat) : Nat → Nat
  | 0 => 0
  | t + 1 => if f (s_best f t) ≤ f (t + 1) then s_best f t else t + 1
theorem s_best_le (f : Nat → Nat) : ∀ t, s_best f t ≤ t
  | 0 => Nat.le_refl 0
  | t + 1 => by
    have := s_best_le f t
    unfold s_best
    split <;> omega
theorem call_canon : Call_canon := by
  intro x y w I mu h
  have hR := h
  obtain ⟨len, h⟩ := h
  by_cases c1 : n_in x 0 7 = 0
  · exact ⟨-1, by simp (disch := omega) only [z_ob, z_ok, z_ar, z_b_s, z_l_s, z_g_tr, z_x_il, z_x_ir, z_lay, z_shs, z_lens, nI_clamp, n_lt0, n_l0, n_l8, n_l16, n_l24, n_l32, n_l40, n_l48, n_l56, n_l64, n_l72, n_s1, fX12_within_eq, fX13_in_eq, fX12_isSinger_eq, fX12_areTicks_eq, ite_true, ite_false, if_true, if_false, not_false_eq_true, not_true_eq_false, or_self, false_or, or_false, true_or, or_true, and_true, true_and, and_false, false_and, eq_self, fX12_canon, c1], by simp (disch := omega) only [z_ob, z_ok, z_ar, z_b_s, z_l_s, z_g_tr, z_x_il, z_x_ir, z_lay, z_shs, z_lens, nI_clamp, n_lt0, n_l0, n_l8, n_l16, n_l24, n_l32, n_l40, n_l48, n_l56, n_l64, n_l72, n_s1, fX12_within_eq, fX13_in_eq, fX12_isSinger_eq, fX12_areTicks_eq, ite_true, ite_false, if_true, if_false, not_false_eq_true, not_true_eq_false, or_self, false_or, or_false, true_or, or_true, and_true, true_and, and_false, false_and, eq_self, fX13_canon, c1], hR⟩
  by_cases c2 : n_in y 0 7 = 0
  · exact ⟨-1, by simp (disch := omega) only [z_ob, z_ok, z_ar, z_b_s, z_l_s, z_g_tr, z_x_il, z_x_ir, z_lay, z_shs, z_lens, nI_clamp, n_lt0, n_l0, n_l8, n_l16, n_l24, n_l32, n_l40, n_l48, n_l56, n_l64, n_l72, n_s1, fX12_within_eq, fX13_in_eq, fX12_isSinger_eq, fX12_areTicks_eq, ite_true, ite_false, if_true, if_false, not_false_eq_true, not_true_eq_false, or_self, false_or, or_false, true_or, or_true, and_true, true_and, and_false, false_and, eq_self, fX12_canon, c1, c2], by simp (disch := omega) only [z_ob, z_ok, z_ar, z_b_s, z_l_s, z_g_tr, z_x_il, z_x_ir, z_lay, z_shs, z_lens, nI_clamp, n_lt0, n_l0, n_l8, n_l16, n_l24, n_l32, n_l40, n_l48, n_l56, n_l64, n_l72, n_s1, fX12_within_eq, fX13_in_eq, fX12_isSinger_eq, fX12_areTicks_eq, ite_true, ite_false, if_true, if_false, not_false_eq_true, not_true_eq_false, or_self, false_or, or_false, true_or, or_true, and_true, true_and, and_false, false_and, eq_self, fX13_canon, c1, c2], hR⟩
  obtain ⟨i, hi, rfl⟩ := n_in7 c1
  obtain ⟨j, hj, rfl⟩ := n_in7 c2
  have hP := h.2.2.2.2.2.1
  have n2 := (h.2.2.2.2.2.2.1 j hj).1
  have r1 := o_roll hP (show i < 9 by omega)
  have r2 := o_roll hP (show j < 9 by omega)
  have fb : ∀ d, s_by I len i j d ≤ 60 := fun d => by
    have := n_cnt_le (fun k => decide (k + d < len i) && s_cl (b_v I i (k + d)) (b_v I j k)) (len j)
    unfold s_by
    omega
  have J : ∀ q1, fX12_canon_j45 0 (nI i) (nI j) w q1 I (z_Rm mu) = if q1 = 0 then (z_b (fX12_clashesBy (mu i) (mu j) (0 : Int32) I (z_Rm mu)) (fun q14 => z_b (z_lp (fX12_canon_b97 0 w (mu i) (mu j) I (z_Rm mu)) 300 ((0 : Int32), q14, (1 : Int32))) (fun q22 => if w = 100 then (some q22.1) else (some q22.2)))) else (z_b (fX12_clashesBy (mu i) (mu j) w I (z_Rm mu)) (fun q24 => some q24)) := by
    intro q1
    unfold fX12_canon_j45
    rw [r_01, z_g_t o_3, r_30, z_g_t (k_4 hi), z_g_t (k_4 hj), nI_clamp (show i < 2 ^ 31 by omega), nI_clamp (show j < 2 ^ 31 by omega), r_4 hi, r_4 hj, z_g_t r1.1, z_g_t r2.1]
  by_cases c3 : n_in w 0 59 = 0
  · by_cases c4 : n_in w 100 101 = 0
    · exact ⟨-1, by simp (disch := omega) only [z_ob, z_ok, z_ar, z_b_s, z_l_s, z_g_tr, z_x_il, z_x_ir, z_lay, z_shs, z_lens, nI_clamp, n_lt0, n_l0, n_l8, n_l16, n_l24, n_l32, n_l40, n_l48, n_l56, n_l64, n_l72, n_s1, fX12_within_eq, fX13_in_eq, fX12_isSinger_eq, fX12_areTicks_eq, ite_true, ite_false, if_true, if_false, not_false_eq_true, not_true_eq_false, or_self, false_or, or_false, true_or, or_true, and_true, true_and, and_false, false_and, eq_self, fX12_canon, c1, c2, c3, c4], by simp (disch := omega) only [z_ob, z_ok, z_ar, z_b_s, z_l_s, z_g_tr, z_x_il, z_x_ir, z_lay, z_shs, z_lens, nI_clamp, n_lt0, n_l0, n_l8, n_l16, n_l24, n_l32, n_l40, n_l48, n_l56, n_l64, n_l72, n_s1, fX12_within_eq, fX13_in_eq, fX12_isSinger_eq, fX12_areTicks_eq, ite_true, ite_false, if_true, if_false, not_false_eq_true, not_true_eq_false, or_self, false_or, or_false, true_or, or_true, and_true, true_and, and_false, false_and, eq_self, fX13_canon, c1, c2, c3, c4], hR⟩
    · obtain ⟨f, hf⟩ : ∃ f : Nat → Nat, ∀ d, f d = s_by I len i j d := ⟨_, fun _ => rfl⟩
      have cf : ∀ d, d ≤ 60 → fX12_clashesBy (mu i) (mu j) (nI d) I (z_Rm mu) = some (nI (f d)) := fun d hd => by rw [hf]; exact c_by h hi hj hd
      have mf : ∀ d, d ≤ 60 → fX13_clashesBy 102 (nI i) (nI j) (nI d) I (z_Rm mu) = some (nI (f d)) := fun d hd => by rw [hf]; exact m_by h hi hj hd
      have ff : ∀ d, f d ≤ 60 := fun d => by rw [hf]; exact fb d
      have q60 : ∀ t, t < 59 → ¬ (60 : Int32) ≤ nI (t + 1) := fun t ht => nI_ge (show t + 1 < 60 by omega) (by decide)
      refine ⟨if w = 100 then nI (s_best f 59) else nI (f (s_best f 59)), ?_, ?_, hR⟩
      · unfold fX12_canon
        rw [z_g_t o_0, fX12_within_eq, z_b_s, fX12_within_eq, z_b_s, fX12_isSinger_eq, z_b_s, if_neg c1, fX12_isSinger_eq, z_b_s, if_neg c2, if_pos c3, if_neg c4, J, if_pos c3, show (0 : Int32) = nI 0 from rfl, cf 0 (by omega), z_b_s]
        refine (z_lp_b 59 (nI (s_best f 59), nI (f (s_best f 59))) (fun t => (nI (s_best f t), nI (f (s_best f t)), nI (t + 1))) rfl ?_ ?_ (by decide)).trans ?_
        · intro t ht
          have b1 := ff (s_best f t)
          have b2 := ff (t + 1)
          unfold fX12_canon_b97
          dsimp only
          rw [z_g_t r1.1, z_g_t r2.1, if_neg (q60 t ht), cf (t + 1) (by omega), z_b_s]
          simp only [z_l_s, n_s1]
          show _ = some (Sum.inl (nI (if f (s_best f t) ≤ f (t + 1) then _ else _), nI (f (if f (s_best f t) ≤ f (t + 1) then _ else _)), _))
          by_cases c : f (s_best f t) ≤ f (t + 1)
          · rw [if_pos (nI_le c (by omega)), if_pos c]
          · rw [if_neg (nI_ge (by omega) (by omega)), if_neg c]
        · unfold fX12_canon_b97
          dsimp only
          rw [z_g_t r1.1, z_g_t r2.1, if_pos (show (60 : Int32) ≤ nI 60 from nI_le (Nat.le_refl 60) (by decide))]
        · split <;> rfl
      · unfold fX13_canon
        rw [z_g_t m_ob, fX13_in_eq, z_b_s, if_neg c1, fX13_in_eq, z_b_s, if_neg c2, fX13_in_eq, z_b_s, if_pos c3, fX13_in_eq, z_b_s, if_neg c4]
        refine (z_lp_b 59 (nI (s_best f 59)) (fun t => (nI (s_best f t), nI (t + 1))) rfl ?_ ?_ (by decide)).trans ?_
        · intro t ht
          have b1 := ff (s_best f t)
          have b2 := ff (t + 1)
          have b3 := s_best_le f t
          unfold fX13_canon_b59
          dsimp only
          rw [if_neg (q60 t ht), mf (t + 1) (by omega), z_b_s, mf (s_best f t) (by omega), z_b_s]
          simp only [z_l_s, n_s1]
          show _ = some (Sum.inl (nI (if f (s_best f t) ≤ f (t + 1) then _ else _), _))
          by_cases c : f (s_best f t) ≤ f (t + 1)
          · rw [if_pos (nI_le c (by omega)), if_pos c]
          · rw [if_neg (nI_ge (by omega) (by omega)), if_neg c]
        · unfold fX13_canon_b59
          dsimp only
          rw [if_pos (show (60 : Int32) ≤ nI 60 from nI_le (Nat.le_refl 60) (by decide))]
        · have b3 := s_best_le f 59
          rw [mf (s_best f 59) (by omega), z_b_s]
          split <;> rfl
  · obtain ⟨d, hd, rfl⟩ := n_in_nI (b := 59) (by decide) c3
    refine ⟨nI (s_by I len i j d), ?_, ?_, hR⟩
    · unfold fX12_canon
      rw [z_g_t o_0, fX12_within_eq, z_b_s, fX12_within_eq, z_b_s, fX12_isSinger_eq, z_b_s, if_neg c1, fX12_isSinger_eq, z_b_s, if_neg c2, if_neg c3, J, if_neg c3, c_by h hi hj (by omega), z_b_s]
    · unfold fX13_canon
      rw [z_g_t m_ob, fX13_in_eq, z_b_s, if_neg c1, fX13_in_eq, z_b_s, if_neg c2, fX13_in_eq, z_b_s, if_neg c3, m_by h hi hj (by omega), z_b_s]
