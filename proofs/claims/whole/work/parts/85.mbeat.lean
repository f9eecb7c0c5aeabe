/-! the model's beats -/
def m_dirt (b k : Nat) : Prop := (b = 103 ∧ k < 82) ∨ b = 123 ∨ b = 124 ∨ b = 131 ∨ (b = 102 ∧ 43 ≤ k ∧ k ≤ 51)
def m_In (B I : z_He) (S : t_S) : Prop := (∀ b k, ¬ m_dirt b k → I b k = B b k) ∧ (∀ i f, i < 8 → f < 10 → I 103 (8 * f + i) = S.1 i f) ∧ I 103 80 = S.2 0 ∧ I 103 81 = S.2 1 ∧ I 102 43 = S.2 2 ∧ I 102 44 = S.2 3 ∧ I 102 45 = S.2 4
def m_B (A : Nat) (E B : z_He) : Prop := (∀ b, 102 ≤ b → b ≠ 104 → B b = E b) ∧ l_same A E B
section MI
variable {B I I' : z_He} {S : t_S}
theorem m_rd {i f k : Nat} (h : m_In B I S) (hi : i < 8) (hf : f < 10) (hk : k = 8 * f + i) : I 103 k = S.1 i f := by
  rw [hk]
  exact h.2.1 i f hi hf
theorem m_In_w {i f k : Nat} {v : Int32} (h : m_In B I S) (hi : i < 8) (hf : f < 10) (hk : k = 8 * f + i) : m_In B (z_u I 103 k v) (t_w S i f v) := by
  obtain ⟨h1, h2, h3, h4, h5, h6, h7⟩ := h
  refine ⟨fun b j hd => ?_, fun j g hj hg => ?_, ?_, ?_, ?_, ?_, ?_⟩
  · rw [z_u_eq, if_neg, h1 b j hd]
    rintro ⟨rfl, q⟩
    exact hd (by unfold m_dirt; omega)
  · rw [z_u_eq, t_w_eq, h2 j g hj hg]
    by_cases c : j = i ∧ g = f
    · rw [if_pos c, if_pos ⟨rfl, by omega⟩]
    · rw [if_neg c, if_neg (fun q => c (by omega))]
  · rw [z_u_eq, if_neg (by omega), h3]; rfl
  · rw [z_u_eq, if_neg (by omega), h4]; rfl
  · rw [u_o (by decide), h5]; rfl
  · rw [u_o (by decide), h6]; rfl
  · rw [u_o (by decide), h7]; rfl
theorem m_In_c {k : Nat} {v : Int32} (h : m_In B I S) (hk : k = 2 ∨ k = 3 ∨ k = 4) : m_In B (z_u I 102 (41 + k) v) (t_s S k v) := by
  obtain ⟨h1, h2, h3, h4, h5, h6, h7⟩ := h
  refine ⟨fun b j hd => ?_, fun j g hj hg => ?_, ?_, ?_, ?_, ?_, ?_⟩
  · rw [z_u_eq, if_neg, h1 b j hd]
    rintro ⟨rfl, rfl⟩
    exact hd (by unfold m_dirt; omega)
  · rw [u_o (by decide), h2 j g hj hg]; rfl
  · rw [u_o (by decide), h3, t_s_eq, if_neg (by omega)]
  · rw [u_o (by decide), h4, t_s_eq, if_neg (by omega)]
  · rw [z_u_eq, h5, t_s_eq]; rcases hk with rfl | rfl | rfl <;> rfl
  · rw [z_u_eq, h6, t_s_eq]; rcases hk with rfl | rfl | rfl <;> rfl
  · rw [z_u_eq, h7, t_s_eq]; rcases hk with rfl | rfl | rfl <;> rfl
theorem m_In_x {k : Nat} {v : Int32} (h : m_In B I S) (hk : k = 0 ∨ k = 1) : m_In B (z_u I 103 (80 + k) v) (t_s S k v) := by
  obtain ⟨h1, h2, h3, h4, h5, h6, h7⟩ := h
  refine ⟨fun b j hd => ?_, fun j g hj hg => ?_, ?_, ?_, ?_, ?_, ?_⟩
  · rw [z_u_eq, if_neg, h1 b j hd]
    rintro ⟨rfl, rfl⟩
    exact hd (by unfold m_dirt; omega)
  · rw [z_u_eq, if_neg (by omega), h2 j g hj hg]; rfl
  · rw [z_u_eq, h3, t_s_eq]; rcases hk with rfl | rfl <;> simp
  · rw [z_u_eq, h4, t_s_eq]; rcases hk with rfl | rfl <;> simp
  · rw [u_o (by decide), h5, t_s_eq, if_neg (by omega)]
  · rw [u_o (by decide), h6, t_s_eq, if_neg (by omega)]
  · rw [u_o (by decide), h7, t_s_eq, if_neg (by omega)]
theorem m_In_g {k : Nat} {v : Int32} (h : m_In B I S) (h46 : 46 ≤ k) (h51 : k ≤ 51) : m_In B (z_u I 102 k v) S := by
  obtain ⟨h1, h2, h3, h4, h5, h6, h7⟩ := h
  refine ⟨fun b j hd => ?_, fun j g hj hg => ?_, ?_, ?_, ?_, ?_, ?_⟩
  · rw [z_u_eq, if_neg, h1 b j hd]
    rintro ⟨rfl, rfl⟩
    exact hd (by unfold m_dirt; omega)
  · rw [u_o (by decide), h2 j g hj hg]
  · rw [u_o (by decide), h3]
  · rw [u_o (by decide), h4]
  · rw [z_u_k (by omega), h5]
  · rw [z_u_k (by omega), h6]
  · rw [z_u_k (by omega), h7]
theorem m_In_d {b k : Nat} {v : Int32} (h : m_In B I S) (hb : b = 123 ∨ b = 124 ∨ b = 131) : m_In B (z_u I b k v) S := by
  obtain ⟨h1, h2, h3, h4, h5, h6, h7⟩ := h
  refine ⟨fun c j hd => ?_, fun j g hj hg => ?_, ?_, ?_, ?_, ?_, ?_⟩
  · rw [z_u_eq, if_neg, h1 c j hd]
    rintro ⟨rfl, rfl⟩
    exact hd (by unfold m_dirt; omega)
  · rw [u_o (by omega), h2 j g hj hg]
  · rw [u_o (by omega), h3]
  · rw [u_o (by omega), h4]
  · rw [u_o (by omega), h5]
  · rw [u_o (by omega), h6]
  · rw [u_o (by omega), h7]
theorem m_In_fm (h : m_In B I S) (hf : l_fm I I') : m_In B I' S := by
  obtain ⟨h1, h2, h3, h4, h5, h6, h7⟩ := h
  refine ⟨fun b k hd => ?_, fun j g hj hg => ?_, ?_, ?_, ?_, ?_, ?_⟩
  · rw [hf b (fun q => hd (by unfold m_dirt; omega)), h1 b k hd]
  · rw [hf _ (by decide), h2 j g hj hg]
  · rw [hf _ (by decide), h3]
  · rw [hf _ (by decide), h4]
  · rw [hf _ (by decide), h5]
  · rw [hf _ (by decide), h6]
  · rw [hf _ (by decide), h7]
theorem m_In_law {E : z_He} {A : Nat} (hA : A = 41 ∨ A = 49) (hB : m_B A E B) (h : m_In B I S) : l_same A E I := by
  obtain ⟨-, s1, s2, s3, s4, s5⟩ := hB
  refine ⟨fun b h1 h2 => ?_, ?_, ?_, ?_, fun b h1 h2 => ?_⟩
  · rw [← s1 b h1 h2]; exact funext fun k => h.1 b k (by unfold m_dirt; omega)
  · rw [← s2]; exact h.1 _ _ (by unfold m_dirt; omega)
  · rw [← s3]; exact h.1 _ _ (by unfold m_dirt; omega)
  · rw [← s4]; exact h.1 _ _ (by unfold m_dirt; omega)
  · rw [← s5 b h1 h2]; exact funext fun k => h.1 b k (by unfold m_dirt; omega)
theorem m_st {E : z_He} {A b k : Nat} (hB : m_B A E B) (h : m_In B I S) (hb : 102 ≤ b ∧ b ≠ 104) (hd : ¬ m_dirt b k) : I b k = E b k := by
  rw [h.1 b k hd, hB.1 b hb.1 hb.2]
end MI
theorem t_w_comm {S : t_S} {i f g : Nat} {v w : Int32} (h : f ≠ g) : t_w (t_w S i f v) i g w = t_w (t_w S i g w) i f v := by
  apply Prod.ext
  · funext j k
    rw [t_w_eq, t_w_eq, t_w_eq, t_w_eq]
    by_cases c1 : j = i ∧ k = g
    · rw [if_pos c1, if_neg (fun q => h (q.2.symm.trans c1.2)), if_pos c1]
    · rw [if_neg c1, if_neg c1]
  · rfl
theorem t_s_comm {S : t_S} {f g : Nat} {v w : Int32} (h : f ≠ g) : t_s (t_s S f v) g w = t_s (t_s S g w) f v := by
  apply Prod.ext
  · rfl
  · funext k
    rw [t_s_eq, t_s_eq, t_s_eq, t_s_eq]
    by_cases c1 : k = g
    · rw [if_pos c1, if_neg (fun q => h (q.symm.trans c1)), if_pos c1]
    · rw [if_neg c1, if_neg c1]
theorem t_spend_s {E : z_He} {W : Nat → (Nat → Int32) → Int32} {fa : Nat → Int32} {i k : Nat} {S : t_S} {v : Int32} : t_spend E W fa i k (t_s S 2 v) = t_s (t_spend E W fa i k S) 2 v := by
  unfold t_spend
  rw [t_s_1]
  by_cases c1 : E 106 (60 * i + k) = 0
  · rw [if_pos c1, if_pos c1]
  · rw [if_neg c1, if_neg c1]
    by_cases c2 : S.1 i 7 = 0
    · rw [if_pos c2, if_pos c2, t_s_eq, if_neg (by decide), t_s_comm (f := 3) (g := 2) (by decide)]
      rfl
    · rw [if_neg c2, if_neg c2]
      rfl
theorem t_spend_2 {E : z_He} {W : Nat → (Nat → Int32) → Int32} {fa : Nat → Int32} {i k : Nat} {S : t_S} : (t_spend E W fa i k S).2 2 = S.2 2 ∧ (t_spend E W fa i k S).1 i 9 = S.1 i 9 ∧ (t_spend E W fa i k S).1 i 5 = S.1 i 5 := by
  unfold t_spend
  split
  · exact ⟨rfl, rfl, rfl⟩
  · split
    · exact ⟨by rw [t_s_eq, if_neg (by decide)]; rfl, by rw [t_s_1, t_w_f (by decide)], by rw [t_s_1, t_w_f (by decide)]⟩
    · exact ⟨rfl, by rw [t_w_f (by decide)], by rw [t_w_f (by decide)]⟩
/-- what is noted of who was done last, who waited first -/
def m_gh (I I' : z_He) (i : Nat) (d w : Prop) : Prop := I' 102 46 = I 102 46 ∧ I' 102 47 = I 102 47 ∧ (d → I' 102 48 = nI i ∧ I' 102 49 = I 102 46) ∧ (¬ d → I' 102 48 = I 102 48 ∧ I' 102 49 = I 102 49) ∧ (w ∧ I 102 50 = -1 → I' 102 50 = nI i ∧ I' 102 51 = I 102 46) ∧ (¬ (w ∧ I 102 50 = -1) → I' 102 50 = I 102 50 ∧ I' 102 51 = I 102 51)
theorem m_gh_no {I I' : z_He} {i : Nat} {d w : Prop} (h : ∀ k, 46 ≤ k → k ≤ 51 → I' 102 k = I 102 k) (hd : ¬ d) (hw : ¬ w) : m_gh I I' i d w := ⟨h 46 (by decide) (by decide), h 47 (by decide) (by decide), fun q => absurd q hd, fun _ => ⟨h 48 (by decide) (by decide), h 49 (by decide) (by decide)⟩, fun q => absurd q.1 hw, fun _ => ⟨h 50 (by decide) (by decide), h 51 (by decide) (by decide)⟩⟩
theorem m_gh_pre {I J K : z_He} {i : Nat} {d w : Prop} (h : ∀ k, 46 ≤ k → k ≤ 51 → J 102 k = I 102 k) (g : m_gh J K i d w) : m_gh I K i d w := by
  unfold m_gh at g ⊢
  rw [h 46 (by decide) (by decide), h 47 (by decide) (by decide), h 48 (by decide) (by decide), h 49 (by decide) (by decide), h 50 (by decide) (by decide), h 51 (by decide) (by decide)] at g
  exact g
section MB
variable {E B I : z_He} {mu len : Nat → Nat} {T i k : Nat} {S : t_S} {X : (Nat → Int32) → Int32} {W : Nat → (Nat → Int32) → Int32} {fa : Nat → Int32}
theorem m_done (hB : m_B (mu 9) E B) (hR : RelL E mu len) (h : m_In B I S) (hi : i < 8) : fX13_isDone 102 (nI i) I (z_Rm mu) = some (if S.1 i 5 < nI (len i) then 0 else 1) := by
  rw [m_isDone hi, m_rd h hi (f := 5) (by decide) (by omega), m_st hB h (show 102 ≤ 110 ∧ 110 ≠ 104 by decide) (by unfold m_dirt; omega), (hR.2.2.2.2.2.2.1 i hi).2.2.1]
theorem m_roll (hR : RelL E mu len) (hi : i < 8) (hk : k < len i) : (E 107 (60 * i + k) = 0 ∨ E 107 (60 * i + k) = 1) ∧ (E 108 (60 * i + k) = 0 ∨ E 108 (60 * i + k) = 1) ∧ (∃ v, v ≤ 7 ∧ E 106 (60 * i + k) = nI v) ∧ len i ≤ 60 := by
  have r := hR.2.2.2.2.2.2.1 i hi
  obtain ⟨⟨v, hv, v1, v2⟩, ⟨a, b, g, ha, hb, hg, q1, q2, q3, q4, -⟩, -⟩ := r.2.2.2.2 k hk
  refine ⟨?_, ?_, ⟨v, hv, v2⟩, r.1⟩
  · rw [q1]
    have : a = 0 ∨ a = 1 := by omega
    rcases this with rfl | rfl
    · exact Or.inl rfl
    · exact Or.inr rfl
  · rw [q2]
    have : b = 0 ∨ b = 1 := by omega
    rcases this with rfl | rfl
    · exact Or.inl rfl
    · exact Or.inr rfl
theorem m_cl (hB : m_B (mu 9) E B) (hR : RelL E mu len) (h : m_In B I S) (hi : i < 8) (hk : k < len i) (h9 : S.1 i 9 = 0) : ∃ I', fX13_sings_j195 102 (nI i) (nI (60 * i + k)) I (z_Rm mu) = some I' ∧ m_In B I' (t_cl E len i k S) ∧ I' 124 = I 124 ∧ I' 131 = I 131 ∧ m_gh I I' i (¬ S.1 i 5 < nI (len i)) ((t_cl E len i k S).1 i 9 = 1) := by
  obtain ⟨a7, -, -, l60⟩ := m_roll hR hi hk
  have e7 : I 107 (60 * i + k) = E 107 (60 * i + k) := m_st hB h (by decide) (by unfold m_dirt; omega)
  unfold fX13_sings_j195 t_cl
  rw [m_done hB hR h hi, z_b_s, show z_Rm mu 102 6 = 107 from rfl, show z_Rm mu 102 0 = 103 from rfl, z_g_t (k_480 rfl hi (show k < 60 by omega)), n_l48, n_l72, z_g_t (k_103 (show 48 + i < 82 by omega)), z_g_t (k_103 (show 48 + i < 82 by omega))]
  simp only [nI_clamp (show 60 * i + k < 2 ^ 31 by omega), nI_clamp (show 48 + i < 2 ^ 31 by omega), nI_clamp (show 72 + i < 2 ^ 31 by omega), z_g_t (k_103 (show 72 + i < 82 by omega)), z_l_s, e7]
  have r6 : ∀ v, m_In B (z_u I 103 (48 + i) v) (t_w S i 6 v) := fun v => m_In_w h hi (by decide) (by omega)
  by_cases c5 : S.1 i 5 < nI (len i)
  · rw [if_pos c5, if_pos rfl, if_pos c5]
    rcases a7 with a7 | a7
    · rw [a7, if_neg (by decide), if_neg (by decide)]
      exact ⟨I, rfl, h, rfl, rfl, m_gh_no (fun _ _ _ => rfl) (fun q => q c5) (fun q => by rw [h9] at q; exact absurd q (by decide))⟩
    · rw [a7, if_pos rfl, if_pos rfl]
      have g2 : m_In B (z_u (z_u I 103 (48 + i) 0) 103 (72 + i) 1) (t_w (t_w S i 9 1) i 6 0) := by
        rw [t_w_comm (by decide)]
        exact m_In_w (r6 0) hi (by decide) (by omega)
      have e50 : z_u (z_u I 103 (48 + i) 0) 103 (72 + i) 1 102 50 = I 102 50 := by rw [u_o (by decide), u_o (by decide)]
      have hw : (t_w (t_w S i 9 1) i 6 0).1 i 9 = 1 := by rw [t_w_f (by decide), t_w_at]
      rw [e50]
      by_cases cf : I 102 50 = -1
      · rw [if_pos cf]
        refine ⟨_, rfl, m_In_g (m_In_g g2 (by decide) (by decide)) (by decide) (by decide), ?_, ?_, ?_⟩
        · rw [u_o (by decide), u_o (by decide), u_o (by decide), u_o (by decide)]
        · rw [u_o (by decide), u_o (by decide), u_o (by decide), u_o (by decide)]
        · refine ⟨?_, ?_, fun q => absurd c5 q, fun _ => ⟨?_, ?_⟩, fun _ => ⟨?_, ?_⟩, fun q => absurd ⟨hw, cf⟩ q⟩
          · rw [z_u_k (by decide), z_u_k (by decide), u_o (by decide), u_o (by decide)]
          · rw [z_u_k (by decide), z_u_k (by decide), u_o (by decide), u_o (by decide)]
          · rw [z_u_k (by decide), z_u_k (by decide), u_o (by decide), u_o (by decide)]
          · rw [z_u_k (by decide), z_u_k (by decide), u_o (by decide), u_o (by decide)]
          · rw [z_u_k (by decide), z_u_at]
          · rw [z_u_at, z_u_k (by decide), u_o (by decide), u_o (by decide)]
      · rw [if_neg cf]
        refine ⟨_, rfl, g2, by rw [u_o (by decide), u_o (by decide)], by rw [u_o (by decide), u_o (by decide)], ?_⟩
        have z : z_u (z_u I 103 (48 + i) 0) 103 (72 + i) 1 102 = I 102 := by rw [u_o (by decide), u_o (by decide)]
        unfold m_gh
        rw [z]
        exact ⟨rfl, rfl, fun q => absurd c5 q, fun _ => ⟨rfl, rfl⟩, fun q => absurd q.2 cf, fun _ => ⟨rfl, rfl⟩⟩
  · rw [if_neg c5, if_neg (by decide), if_neg c5]
    refine ⟨_, rfl, m_In_g (m_In_g (r6 0) (by decide) (by decide)) (by decide) (by decide), ?_, ?_, ?_⟩
    · rw [u_o (by decide), u_o (by decide), u_o (by decide)]
    · rw [u_o (by decide), u_o (by decide), u_o (by decide)]
    · have hw : ¬ (t_w S i 6 0).1 i 9 = 1 := by rw [t_w_f (by decide), h9]; decide
      refine ⟨?_, ?_, fun _ => ⟨?_, ?_⟩, fun q => absurd c5 q, fun q => absurd q.1 hw, fun _ => ⟨?_, ?_⟩⟩
      · rw [z_u_k (by decide), z_u_k (by decide), u_o (by decide)]
      · rw [z_u_k (by decide), z_u_k (by decide), u_o (by decide)]
      · rw [z_u_k (by decide), z_u_at]
      · rw [z_u_at, z_u_k (by decide), u_o (by decide)]
      · rw [z_u_k (by decide), z_u_k (by decide), u_o (by decide)]
      · rw [z_u_k (by decide), z_u_k (by decide), u_o (by decide)]
theorem m_tail (hB : m_B (mu 9) E B) (hR : RelL E mu len) (h : m_In B I S) (hi : i < 8) (hk : k < len i) (h9 : S.1 i 9 = 0) : ∃ I', fX13_sings_j147 102 (nI i) (nI (60 * i + k)) I (z_Rm mu) = some I' ∧ m_In B I' (t_cl E len i k (t_br E i k (t_w S i 5 (S.1 i 5 + 1)))) ∧ I' 124 = I 124 ∧ I' 131 = I 131 ∧ m_gh I I' i (¬ S.1 i 5 + 1 < nI (len i)) ((t_cl E len i k (t_br E i k (t_w S i 5 (S.1 i 5 + 1)))).1 i 9 = 1) := by
  obtain ⟨-, a8, -, l60⟩ := m_roll hR hi hk
  have g1 : m_In B (z_u I 103 (40 + i) (S.1 i 5 + 1)) (t_w S i 5 (S.1 i 5 + 1)) := m_In_w h hi (by decide) (by omega)
  have e8 : z_u I 103 (40 + i) (S.1 i 5 + 1) 108 (60 * i + k) = E 108 (60 * i + k) := m_st hB g1 (by decide) (by unfold m_dirt; omega)
  have e4 : z_u I 103 (40 + i) (S.1 i 5 + 1) 103 (32 + i) = S.1 i 4 := by
    rw [z_u_k (by omega)]
    exact m_rd h hi (by decide) (by omega)
  unfold fX13_sings_j147 t_br
  rw [show z_Rm mu 102 7 = 108 from rfl, show z_Rm mu 102 0 = 103 from rfl, n_l40, n_l32, n_l56, z_g_t (k_103 (show 40 + i < 82 by omega))]
  simp only [nI_clamp (show 60 * i + k < 2 ^ 31 by omega), nI_clamp (show 40 + i < 2 ^ 31 by omega), nI_clamp (show 32 + i < 2 ^ 31 by omega), nI_clamp (show 56 + i < 2 ^ 31 by omega), z_g_t (k_103 (show 32 + i < 82 by omega)), z_g_t (k_103 (show 56 + i < 82 by omega)), z_g_t (k_480 (show z_len 1 108 = 480 from rfl) hi (show k < 60 by omega)), z_l_s]
  rw [m_rd h hi (f := 5) (by decide) (show 40 + i = 8 * 5 + i by omega), e8, e4]
  rcases a8 with a8 | a8
  · rw [a8, if_neg (by decide), if_neg (by decide)]
    obtain ⟨I', f1, f2, f3, f4, f5⟩ := m_cl hB hR g1 hi hk (by rw [t_w_f (by decide), h9])
    refine ⟨I', f1, f2, by rw [f3, u_o (by decide)], by rw [f4, u_o (by decide)], ?_⟩
    rw [t_w_at] at f5
    exact m_gh_pre (fun _ _ _ => by rw [u_o (by decide)]) f5
  · rw [a8, if_pos rfl, if_pos rfl, t_w_f (show (4 : Nat) ≠ 5 by decide)]
    have g2 : m_In B (z_u (z_u I 103 (40 + i) (S.1 i 5 + 1)) 103 (56 + i) (S.1 i 4)) (t_w (t_w S i 5 (S.1 i 5 + 1)) i 7 (S.1 i 4)) := m_In_w g1 hi (by decide) (by omega)
    obtain ⟨I', f1, f2, f3, f4, f5⟩ := m_cl hB hR g2 hi hk (by rw [t_w_f (by decide), t_w_f (by decide), h9])
    refine ⟨I', f1, f2, by rw [f3, u_o (by decide), u_o (by decide)], by rw [f4, u_o (by decide), u_o (by decide)], ?_⟩
    rw [t_w_f (by decide), t_w_at] at f5
    exact m_gh_pre (fun _ _ _ => by rw [u_o (by decide), u_o (by decide)]) f5
theorem fX13_max_eq (x y : Int32) : fX13_max x y = some (z_max x y) := by
  unfold fX13_max z_max
  by_cases c : x < y
  · rw [if_pos c, if_pos]
    rw [Int32.le_iff_toInt_le]
    rw [Int32.lt_iff_toInt_lt] at c
    omega
  · rw [if_neg c]
    by_cases c2 : x ≤ y
    · rw [if_pos c2]
      have : x = y := by
        rw [← Int32.toInt_inj]
        rw [Int32.lt_iff_toInt_lt] at c
        rw [Int32.le_iff_toInt_le] at c2
        omega
      rw [this]
    · rw [if_neg c2]
theorem m_sings (hB : m_B (mu 9) E B) (hR : RelL E mu len) (hL : t_Law E (mu 9) X W) (h : m_In B I S) (hfa : ∀ j, j < 8 → j ≠ 5 → j ≠ 6 → I 124 j = fa j) (hi : i < 8) (hk : k < len i) (hk5 : S.1 i 5 = nI k) (h9 : S.1 i 9 = 0) : ∃ I', fX13_sings 102 (nI i) I (z_Rm mu) = some I' ∧ m_In B I' (t_end E len i k (t_spend E W fa i k S)) ∧ (∀ j, j < 8 → j ≠ 5 → j ≠ 6 → I' 124 j = fa j) ∧ I' 131 = I 131 ∧ m_gh I I' i (¬ S.1 i 5 + 1 < nI (len i)) ((t_end E len i k (t_spend E W fa i k S)).1 i 9 = 1) := by
  have hA := (p_law hR.2.2.2.2.2.1).1
  obtain ⟨-, -, ⟨v, hv, e6⟩, l60⟩ := m_roll hR hi hk
  obtain ⟨p1, p2, p3⟩ := t_spend_2 (E := E) (W := W) (fa := fa) (i := i) (k := k) (S := S)
  have hend : t_end E len i k (t_spend E W fa i k S) = t_cl E len i k (t_br E i k (t_w (t_spend E W fa i k (t_s S 2 (S.2 2 + 1))) i 5 ((t_spend E W fa i k (t_s S 2 (S.2 2 + 1))).1 i 5 + 1))) := by
    rw [t_spend_s]
    unfold t_end
    rw [p1]
    rfl
  rw [hend]
  have g3 : m_In B (z_u I 102 43 (S.2 2 + 1)) (t_s S 2 (S.2 2 + 1)) := m_In_c (k := 2) h (Or.inl rfl)
  have n6 : z_u I 102 43 (S.2 2 + 1) 106 (60 * i + k) = nI v := by rw [← e6]; exact m_st hB g3 (by decide) (by unfold m_dirt; omega)
  have n7 : z_u I 102 43 (S.2 2 + 1) 103 (56 + i) = S.1 i 7 := by rw [u_o (by decide)]; exact m_rd h hi (by decide) (by omega)
  have n8 : z_u I 102 43 (S.2 2 + 1) 103 (64 + i) = S.1 i 8 := by rw [u_o (by decide)]; exact m_rd h hi (by decide) (by omega)
  have done : ∀ (J : z_He), m_In B J (t_spend E W fa i k (t_s S 2 (S.2 2 + 1))) → (∀ j, j < 8 → j ≠ 5 → j ≠ 6 → J 124 j = fa j) → J 131 = I 131 → (∀ k, 46 ≤ k → k ≤ 51 → J 102 k = I 102 k) → ∃ I', fX13_sings_j147 102 (nI i) (nI (60 * i + k)) J (z_Rm mu) = some I' ∧ m_In B I' (t_cl E len i k (t_br E i k (t_w (t_spend E W fa i k (t_s S 2 (S.2 2 + 1))) i 5 ((t_spend E W fa i k (t_s S 2 (S.2 2 + 1))).1 i 5 + 1)))) ∧ (∀ j, j < 8 → j ≠ 5 → j ≠ 6 → I' 124 j = fa j) ∧ I' 131 = I 131 ∧ m_gh I I' i (¬ S.1 i 5 + 1 < nI (len i)) ((t_cl E len i k (t_br E i k (t_w (t_spend E W fa i k (t_s S 2 (S.2 2 + 1))) i 5 ((t_spend E W fa i k (t_s S 2 (S.2 2 + 1))).1 i 5 + 1)))).1 i 9 = 1) := by
    intro J j1 j2 j3 j4
    obtain ⟨I', f1, f2, f3, f4, f5⟩ := m_tail hB hR j1 hi hk (by rw [t_spend_s, t_s_1, p2, h9])
    refine ⟨I', f1, f2, fun j h1 h2 h3 => by rw [f3]; exact j2 j h1 h2 h3, by rw [f4, j3], m_gh_pre j4 ?_⟩
    have e5 : (t_spend E W fa i k (t_s S 2 (S.2 2 + 1))).1 i 5 = S.1 i 5 := by rw [t_spend_s, t_s_1, p3]
    rw [e5] at f5 ⊢
    exact f5
  have j79 : (v = 0 ∨ ¬ S.1 i 7 = 0) → ∃ I', fX13_sings_j79 102 (nI i) (nI (60 * i + k)) (z_u I 102 43 (S.2 2 + 1)) (z_Rm mu) = some I' ∧ m_In B I' (t_cl E len i k (t_br E i k (t_w (t_spend E W fa i k (t_s S 2 (S.2 2 + 1))) i 5 ((t_spend E W fa i k (t_s S 2 (S.2 2 + 1))).1 i 5 + 1)))) ∧ (∀ j, j < 8 → j ≠ 5 → j ≠ 6 → I' 124 j = fa j) ∧ I' 131 = I 131 ∧ m_gh I I' i (¬ S.1 i 5 + 1 < nI (len i)) ((t_cl E len i k (t_br E i k (t_w (t_spend E W fa i k (t_s S 2 (S.2 2 + 1))) i 5 ((t_spend E W fa i k (t_s S 2 (S.2 2 + 1))).1 i 5 + 1)))).1 i 9 = 1) := by
    intro hc
    unfold fX13_sings_j79
    rw [show z_Rm mu 102 5 = 106 from rfl, show z_Rm mu 102 0 = 103 from rfl, show z_Rm mu 102 33 = 124 from rfl, n_l56, z_g_t (k_480 (show z_len 1 106 = 480 from rfl) hi (show k < 60 by omega)), nI_clamp (show 60 * i + k < 2 ^ 31 by omega), n6]
    by_cases c0 : v = 0
    · rw [if_pos (by rw [c0]; decide)]
      refine done _ ?_ (fun j h1 h2 h3 => by rw [u_o (by decide)]; exact hfa j h1 h2 h3) (by rw [u_o (by decide)]) (fun k h1 h2 => by rw [z_u_k (by omega)])
      unfold t_spend
      rw [if_pos (by rw [e6, c0]; rfl)]
      exact g3
    · have c7 := hc.resolve_left c0
      rw [if_neg (nI_nle (by omega) (by omega)), z_g_t (k_103 (show 56 + i < 82 by omega)), z_g_t (show z_ok 1 124 5 from n_ok (k := 5) (n := 8) rfl (by decide) (by decide)), nI_clamp (show 56 + i < 2 ^ 31 by omega), n7, z_l_s, show (5 : Int32).toNatClampNeg = 5 from rfl, z_g_t (show z_ok 1 124 6 from n_ok (k := 6) (n := 8) rfl (by decide) (by decide)), z_l_s, show (6 : Int32).toNatClampNeg = 6 from rfl, u_o (show (106 : Nat) ≠ 124 by decide), n6]
      have g4 := m_In_d (b := 124) (k := 6) (v := nI v) (m_In_d (b := 124) (k := 5) (v := S.1 i 7) g3 (Or.inr (Or.inl rfl))) (Or.inr (Or.inl rfl))
      have hf : ∀ j, j < 8 → z_u (z_u (z_u I 102 43 (S.2 2 + 1)) 124 5 (S.1 i 7)) 124 6 (nI v) 124 j = t_f56 fa (S.1 i 7) (nI v) j := by
        intro j hj
        unfold t_f56
        rw [z_u_eq, z_u_eq, u_o (by decide)]
        by_cases c5 : j = 5
        · subst c5; rfl
        · by_cases c6 : j = 6
          · subst c6; rfl
          · rw [if_neg (fun q => c6 q.2), if_neg (fun q => c5 q.2), if_neg c5, if_neg c6]; exact hfa j hj c5 c6
      obtain ⟨J, w1, w2⟩ := hL.2.2.2.2.2 mu _ _ 2 (by decide) (m_In_law hA hB g4) hf
      have w1' : fX13_byLaw 102 (98 : Int32) (20 : Int32) (z_u (z_u (z_u I 102 43 (S.2 2 + 1)) 124 5 (S.1 i 7)) 124 6 (nI v)) (z_Rm mu) = some (W 2 (t_f56 fa (S.1 i 7) (nI v)), J) := w1
      rw [w1', z_b_s]
      dsimp only
      rw [u_o (show (103 : Nat) ≠ 124 by decide), u_o (show (103 : Nat) ≠ 124 by decide), n7, fX13_max_eq, z_b_s, z_l_s]
      refine done _ ?_ (fun j h1 h2 h3 => ?_) ?_ (fun k h1 h2 => ?_)
      · have g5 := m_In_w (k := 56 + i) (f := 7) (v := z_max 0 (S.1 i 7 - W 2 (t_f56 fa (S.1 i 7) (nI v)))) (m_In_fm g4 w2) hi (by decide) (by omega)
        unfold t_spend
        rw [if_neg (by rw [e6]; exact nI_ne0 (by omega) (by omega)), t_s_1, if_neg c7, e6]
        exact g5
      · rw [u_o (by decide), w2 124 (by decide), z_u_k h3, z_u_k h2, u_o (by decide)]; exact hfa j h1 h2 h3
      · rw [u_o (by decide), w2 131 (by decide), u_o (by decide), u_o (by decide), u_o (by decide)]
      · rw [u_o (by decide), w2 102 (by decide), u_o (by decide), u_o (by decide), z_u_k (by omega)]
  unfold fX13_sings
  rw [z_g_t m_ob, show z_Rm mu 102 0 = 103 from rfl, show z_Rm mu 102 5 = 106 from rfl, n_l40, z_g_t (k_103 (show 40 + i < 82 by omega)), nI_clamp (show 40 + i < 2 ^ 31 by omega), m_rd h hi (f := 5) (by decide) (show 40 + i = 8 * 5 + i by omega), hk5, n_l60, z_l_s, z_l_s, h.2.2.2.2.1, z_g_t (k_480 (show z_len 1 106 = 480 from rfl) hi (show k < 60 by omega)), nI_clamp (show 60 * i + k < 2 ^ 31 by omega), n6]
  rw [hk5] at j79 done
  by_cases c0 : v = 0
  · rw [if_pos (by rw [c0]; decide)]
    exact j79 (Or.inl c0)
  · rw [if_neg (nI_nle (by omega) (by omega)), n_l56, n_l64, z_g_t (k_103 (show 56 + i < 82 by omega)), nI_clamp (show 56 + i < 2 ^ 31 by omega), n7]
    by_cases c7 : S.1 i 7 = 0
    · rw [if_pos c7, z_g_t (k_103 (show 64 + i < 82 by omega)), nI_clamp (show 64 + i < 2 ^ 31 by omega), n8, z_l_s, z_l_s, u_o (show (102 : Nat) ≠ 103 by decide), z_u_k (show (44 : Nat) ≠ 43 by decide), h.2.2.2.2.2.1]
      refine done _ ?_ (fun j h1 h2 h3 => ?_) ?_ (fun k h1 h2 => ?_)
      · have g5 := m_In_c (k := 3) (v := S.2 3 + 1) (m_In_w (k := 64 + i) (f := 8) (v := S.1 i 8 + 1) g3 hi (by decide) (by omega)) (Or.inr (Or.inl rfl))
        unfold t_spend
        rw [if_neg (by rw [e6]; exact nI_ne0 (by omega) (by omega)), t_s_1, if_pos c7, t_s_eq, if_neg (by decide)]
        exact g5
      · rw [u_o (by decide), u_o (by decide), u_o (by decide)]; exact hfa j h1 h2 h3
      · rw [u_o (by decide), u_o (by decide), u_o (by decide)]
      · rw [z_u_k (by omega), u_o (by decide), z_u_k (by omega)]
    · rw [if_neg c7]
      exact j79 (Or.inr c7)
end MB
