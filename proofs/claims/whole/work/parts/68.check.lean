/-! check -/
/-- the first place from m on, below m + d, where b differs -/
def k_first (b : Nat → Bool) : Nat → Nat → Int32
  | _, 0 => -1
  | m, d + 1 => if b m then nI m else k_first b (m + 1) d
/-- what a singer's byte must be -/
def k_due (I : Nat → Nat → Int32) (j : Nat) : Int32 := if I 103 j = 1 then I 103 (40 + j) else 0
theorem m_check {I : Nat → Nat → Int32} {mu : Nat → Nat} {n : Nat} (hn : n ≤ 8) : ∀ (d m N : Nat), m + d = n → d < N → z_b (z_lp (fX13_check_b28 102 (nI n) I (z_Rm mu)) N (nI m)) (fun q12 => z_x q12 (fun q14 => some q14) (fun _ => some ((-1 : Int32), I))) = some (k_first (fun j => (I 111 j &&& 255) != k_due I j) m d, I) := by
  intro d
  induction d with
  | zero =>
    intro m N e hN
    obtain ⟨M, rfl⟩ : ∃ M, N = M + 1 := ⟨N - 1, by omega⟩
    unfold z_lp fX13_check_b28
    dsimp only
    rw [if_pos (nI_le (by omega) (by omega))]
    rfl
  | succ d ih =>
    intro m N e hN
    obtain ⟨M, rfl⟩ : ∃ M, N = M + 1 := ⟨N - 1, by omega⟩
    have hb : fX13_check_b28 102 (nI n) I (z_Rm mu) (nI m) = if (I 111 m &&& 255) = k_due I m then some (.inl (nI (m + 1))) else some (.inr (.inl (nI m, I))) := by
      unfold fX13_check_b28 fX13_octet
      dsimp only
      rw [if_neg (nI_ge (by omega) (by omega)), z_g_t m_ob, show z_Rm mu 102 10 = 111 from rfl, z_g_t (n_ok (n := 260) rfl (by omega) (by decide)), z_b_s, m_told (by omega), z_b_s, r_m0, n_l40, z_g_t (k_103 (by omega)), nI_clamp (by omega), nI_clamp (by omega)]
      unfold fX13_check_j59_28 k_due
      simp only [z_l_s, n_s1]
      by_cases c : I 103 m = 1
      · simp only [c, if_true, ite_true]
        rw [if_neg (by decide)]
      · simp only [c, if_false, ite_false]
        rw [if_pos trivial]
    unfold z_lp
    rw [hb]
    show _ = some (if ((I 111 m &&& 255) != k_due I m) = true then nI m else k_first _ (m + 1) d, I)
    by_cases c : (I 111 m &&& 255) = k_due I m
    · rw [if_pos c, if_neg (by simp [c])]
      exact ih (m + 1) M (by omega) (by omega)
    · rw [if_neg c, if_pos (by simp [c])]
      rfl
theorem c_check {I : Nat → Nat → Int32} {mu len : Nat → Nat} {n : Nat} (h : RelL I mu len) (hn : n ≤ 8) (hb : ∀ j, j < n → fX10_byteAt 1 (nI j) I (z_Rm mu) = some (I 111 j &&& 255)) : z_lp (fX12_check_b30 0 I (z_Rm mu)) 300 ((-1 : Int32), nI n - 1) = some (k_first (fun j => (I 111 j &&& 255) != k_due I j) 0 n) := by
  have e := z_lp_tr (body := fX12_check_b30 0 I (z_Rm mu)) (n := n) (x := k_first (fun j => (I 111 j &&& 255) != k_due I j) 0 n) (fun t => (k_first (fun j => (I 111 j &&& 255) != k_due I j) (n - t) t, nI (n - t) - 1)) ?_ ?_ 300 (by omega)
  · exact e
  · intro t ht
    have hm : n - t - 1 < 8 := by omega
    have p1 : nI (n - t) - 1 = nI (n - t - 1) := n_sub (b := 1) (by omega)
    have p2 : nI (n - t - 1) + (-1 : Int32) = nI (n - (t + 1)) - 1 := by
      rw [Int32.sub_eq_add_neg, show n - (t + 1) = n - t - 1 by omega]
    have e0 := h.1.1 0 (n - t - 1) (by decide) hm
    have e5 := h.1.1 5 (n - t - 1) (by decide) hm
    have key : ∀ v, v = k_due I (n - t - 1) → fX12_check_j61_30 0 (k_first (fun j => (I 111 j &&& 255) != k_due I j) (n - t) t) (nI (n - t - 1)) v I (z_Rm mu) = some (.inl (k_first (fun j => (I 111 j &&& 255) != k_due I j) (n - (t + 1)) (t + 1), nI (n - (t + 1)) - 1)) := by
      intro v hv
      subst hv
      unfold fX12_check_j61_30
      rw [show z_Rm mu 0 0 = 1 from rfl, z_g_t (show z_ob 1 10 from rfl), hb _ (by omega), z_b_s]
      simp only [z_l_s, p2]
      rw [show n - (t + 1) = n - t - 1 by omega]
      show _ = some (Sum.inl (if ((I 111 (n - t - 1) &&& 255) != k_due I (n - t - 1)) = true then _ else k_first _ (n - t - 1 + 1) t, _))
      rw [show n - t - 1 + 1 = n - t by omega]
      by_cases c : (I 111 (n - t - 1) &&& 255) = k_due I (n - t - 1)
      · rw [if_pos c, if_neg (by simp [c])]
      · rw [if_neg c, if_pos (by simp [c])]
    unfold fX12_check_b30
    dsimp only
    rw [p1, if_neg (nI_pos (by omega)), r_05, z_g_t o_62, c_told c62 hm, z_b_s, r_620, z_g_t (k_63 hm), nI_clamp (by omega), (z_ls62 mu hm).1, z_g_t (z_ls62 mu hm).2, e0, show 8 * 0 + (n - t - 1) = n - t - 1 by omega]
    rcases (h.2.1.1 _ hm).1 with h0 | h0
    · rw [h0, if_pos (show n_b 0 = 0 from rfl)]
      exact key 0 (by unfold k_due; rw [h0, if_neg (by decide)])
    · rw [h0, if_neg (show ¬ n_b 1 = 0 by decide)]
      refine key _ ?_
      unfold k_due
      rw [h0, if_pos rfl, show 64 + (n - t - 1) = 62 + 2 + (n - t - 1) by omega, e5, show 8 * 5 + (n - t - 1) = 40 + (n - t - 1) by omega]
  · unfold fX12_check_b30
    dsimp only
    rw [Nat.sub_self, if_pos (by decide)]
