def fX13_in (x0 : Int32) (x1 : Int32) (x2 : Int32) : Option (Int32) :=
  if x0 < x1 then (some (0 : Int32)) else (if x2 < x0 then (some (0 : Int32)) else (some (1 : Int32)))
theorem vX13_in {G : z_G} {d : Nat} {Q : Option Value → z_S → z_H → Prop} {x0 : Int32} {x1 : Int32} {x2 : Int32} {I : Nat → Nat → Int32} {R : Nat → Nat → Nat} {q : Int32} (hd : 0 ≤ d) (hf : fX13_in x0 x1 x2 = some q) (hk : Q (some (.int q)) z_SH (I, R)) : z_W G eX13_in d 0 0 0 [some (.int x0), some (.int x1), some (.int x2)] [] z_SH (I, R) Q := by
  unfold fX13_in at hf
  refine z_iload_n dX13_in_0 rfl rfl ?_
  refine z_iload_n dX13_in_1 rfl rfl ?_
  refine z_icmp_lt (tgt := 14) dX13_in_2 (by decide) (fun c1 => ?_) (fun c1 => ?_)
  · have hf := z_if_t hf c1
    refine z_iconst dX13_in_14 kc_0 ?_
    cases hf
    exact z_iret hk ⟨_, rfl, rfl⟩ dX13_in_15
  · have hf := z_if_f hf c1
    refine z_iload_n dX13_in_5 rfl rfl ?_
    refine z_iload_n dX13_in_6 rfl rfl ?_
    refine z_icmp_gt (tgt := 14) dX13_in_7 (by decide) (fun c2 => ?_) (fun c2 => ?_)
    · have hf := z_if_t hf c2
      refine z_iconst dX13_in_14 kc_0 ?_
      cases hf
      exact z_iret hk ⟨_, rfl, rfl⟩ dX13_in_15
    · have hf := z_if_f hf c2
      refine z_iconst dX13_in_10 kc_1 ?_
      refine z_goto (tgt := 15) dX13_in_11 (by decide) ?_
      cases hf
      exact z_iret hk ⟨_, rfl, rfl⟩ dX13_in_15
theorem wX13_in {G : z_G} {d : Nat} {x0 : Int32} {x1 : Int32} {x2 : Int32} {I : Nat → Nat → Int32} {R : Nat → Nat → Nat} {q : Int32} (hd : 0 ≤ d) (hf : fX13_in x0 x1 x2 = some q) : z_M G d 0 0 eX13_in [.int x0, .int x1, .int x2] z_SH (I, R) (z_E (some (.int q)) (I, R)) :=
  y_M_of _ (by decide +kernel) rfl rfl rfl (vX13_in hd hf ⟨rfl, rfl, rfl⟩)
def fX13_min (x0 : Int32) (x1 : Int32) : Option (Int32) :=
  if x1 ≤ x0 then (some x1) else (some x0)
theorem vX13_min {G : z_G} {d : Nat} {Q : Option Value → z_S → z_H → Prop} {x0 : Int32} {x1 : Int32} {I : Nat → Nat → Int32} {R : Nat → Nat → Nat} {q : Int32} (hd : 0 ≤ d) (hf : fX13_min x0 x1 = some q) (hk : Q (some (.int q)) z_SH (I, R)) : z_W G eX13_min d 0 0 0 [some (.int x0), some (.int x1)] [] z_SH (I, R) Q := by
  unfold fX13_min at hf
  refine z_iload_n dX13_min_0 rfl rfl ?_
  refine z_iload_n dX13_min_1 rfl rfl ?_
  refine z_icmp_ge (tgt := 9) dX13_min_2 (by decide) (fun c1 => ?_) (fun c1 => ?_)
  · have hf := z_if_t hf c1
    refine z_iload_n dX13_min_9 rfl rfl ?_
    cases hf
    exact z_iret hk ⟨_, rfl, rfl⟩ dX13_min_10
  · have hf := z_if_f hf c1
    refine z_iload_n dX13_min_5 rfl rfl ?_
    refine z_goto (tgt := 10) dX13_min_6 (by decide) ?_
    cases hf
    exact z_iret hk ⟨_, rfl, rfl⟩ dX13_min_10
theorem wX13_min {G : z_G} {d : Nat} {x0 : Int32} {x1 : Int32} {I : Nat → Nat → Int32} {R : Nat → Nat → Nat} {q : Int32} (hd : 0 ≤ d) (hf : fX13_min x0 x1 = some q) : z_M G d 0 0 eX13_min [.int x0, .int x1] z_SH (I, R) (z_E (some (.int q)) (I, R)) :=
  y_M_of _ (by decide +kernel) rfl rfl rfl (vX13_min hd hf ⟨rfl, rfl, rfl⟩)
def fX13_max (x0 : Int32) (x1 : Int32) : Option (Int32) :=
  if x0 ≤ x1 then (some x1) else (some x0)
theorem vX13_max {G : z_G} {d : Nat} {Q : Option Value → z_S → z_H → Prop} {x0 : Int32} {x1 : Int32} {I : Nat → Nat → Int32} {R : Nat → Nat → Nat} {q : Int32} (hd : 0 ≤ d) (hf : fX13_max x0 x1 = some q) (hk : Q (some (.int q)) z_SH (I, R)) : z_W G eX13_max d 0 0 0 [some (.int x0), some (.int x1)] [] z_SH (I, R) Q := by
  unfold fX13_max at hf
  refine z_iload_n dX13_max_0 rfl rfl ?_
  refine z_iload_n dX13_max_1 rfl rfl ?_
  refine z_icmp_le (tgt := 9) dX13_max_2 (by decide) (fun c1 => ?_) (fun c1 => ?_)
  · have hf := z_if_t hf c1
    refine z_iload_n dX13_max_9 rfl rfl ?_
    cases hf
    exact z_iret hk ⟨_, rfl, rfl⟩ dX13_max_10
  · have hf := z_if_f hf c1
    refine z_iload_n dX13_max_5 rfl rfl ?_
    refine z_goto (tgt := 10) dX13_max_6 (by decide) ?_
    cases hf
    exact z_iret hk ⟨_, rfl, rfl⟩ dX13_max_10
theorem wX13_max {G : z_G} {d : Nat} {x0 : Int32} {x1 : Int32} {I : Nat → Nat → Int32} {R : Nat → Nat → Nat} {q : Int32} (hd : 0 ≤ d) (hf : fX13_max x0 x1 = some q) : z_M G d 0 0 eX13_max [.int x0, .int x1] z_SH (I, R) (z_E (some (.int q)) (I, R)) :=
  y_M_of _ (by decide +kernel) rfl rfl rfl (vX13_max hd hf ⟨rfl, rfl, rfl⟩)
def fX13_size (x0 : Int32) : Option (Int32) :=
  if 0 ≤ x0 then (some x0) else (some (-x0))
theorem vX13_size {G : z_G} {d : Nat} {Q : Option Value → z_S → z_H → Prop} {x0 : Int32} {I : Nat → Nat → Int32} {R : Nat → Nat → Nat} {q : Int32} (hd : 0 ≤ d) (hf : fX13_size x0 = some q) (hk : Q (some (.int q)) z_SH (I, R)) : z_W G eX13_size d 0 0 0 [some (.int x0)] [] z_SH (I, R) Q := by
  unfold fX13_size at hf
  refine z_iload_n dX13_size_0 rfl rfl ?_
  refine z_if_ge (tgt := 9) dX13_size_1 (by decide) (fun c1 => ?_) (fun c1 => ?_)
  · have hf := z_if_t hf c1
    refine z_iload_n dX13_size_9 rfl rfl ?_
    cases hf
    exact z_iret hk ⟨_, rfl, rfl⟩ dX13_size_10
  · have hf := z_if_f hf c1
    refine z_iload_n dX13_size_4 rfl rfl ?_
    refine z_ineg dX13_size_5 ?_
    refine z_goto (tgt := 10) dX13_size_6 (by decide) ?_
    cases hf
    exact z_iret hk ⟨_, rfl, rfl⟩ dX13_size_10
theorem wX13_size {G : z_G} {d : Nat} {x0 : Int32} {I : Nat → Nat → Int32} {R : Nat → Nat → Nat} {q : Int32} (hd : 0 ≤ d) (hf : fX13_size x0 = some q) : z_M G d 0 0 eX13_size [.int x0] z_SH (I, R) (z_E (some (.int q)) (I, R)) :=
  y_M_of _ (by decide +kernel) rfl rfl rfl (vX13_size hd hf ⟨rfl, rfl, rfl⟩)
def fX13_has (x0 : Int32) (x1 : Int32) : Option (Int32) :=
  if ((z_shr x0 x1) &&& (1 : Int32)) = (1 : Int32) then (some (1 : Int32)) else (some (0 : Int32))
theorem vX13_has {G : z_G} {d : Nat} {Q : Option Value → z_S → z_H → Prop} {x0 : Int32} {x1 : Int32} {I : Nat → Nat → Int32} {R : Nat → Nat → Nat} {q : Int32} (hd : 0 ≤ d) (hf : fX13_has x0 x1 = some q) (hk : Q (some (.int q)) z_SH (I, R)) : z_W G eX13_has d 0 0 0 [some (.int x0), some (.int x1)] [] z_SH (I, R) Q := by
  unfold fX13_has at hf
  refine z_iload_n dX13_has_0 rfl rfl ?_
  refine z_iload_n dX13_has_1 rfl rfl ?_
  refine y_ishr dX13_has_2 ?_
  refine z_iconst dX13_has_3 kc_1 ?_
  refine z_iand dX13_has_4 ?_
  refine z_iconst dX13_has_5 kc_1 ?_
  refine z_icmp_ne (tgt := 13) dX13_has_6 (by decide) (fun c1 => ?_) (fun c1 => ?_)
  · have hf := z_if_f hf c1
    refine z_iconst dX13_has_13 kc_0 ?_
    cases hf
    exact z_iret hk ⟨_, rfl, rfl⟩ dX13_has_14
  · have hf := z_if_t hf c1
    refine z_iconst dX13_has_9 kc_1 ?_
    refine z_goto (tgt := 14) dX13_has_10 (by decide) ?_
    cases hf
    exact z_iret hk ⟨_, rfl, rfl⟩ dX13_has_14
theorem wX13_has {G : z_G} {d : Nat} {x0 : Int32} {x1 : Int32} {I : Nat → Nat → Int32} {R : Nat → Nat → Nat} {q : Int32} (hd : 0 ≤ d) (hf : fX13_has x0 x1 = some q) : z_M G d 0 0 eX13_has [.int x0, .int x1] z_SH (I, R) (z_E (some (.int q)) (I, R)) :=
  y_M_of _ (by decide +kernel) rfl rfl rfl (vX13_has hd hf ⟨rfl, rfl, rfl⟩)
def fX13_bits_b4 (z0 : Int32) : (Int32 × Int32) → Option ((Int32 × Int32) ⊕ (Int32)) :=
  fun s => (fun (p1 : Int32) (p2 : Int32) => if (8 : Int32) ≤ p2 then (some (.inr p1)) else (z_l (p1 + ((z_shr z0 p2) &&& (1 : Int32))) (fun t2 => z_l (p2 + (1 : Int32)) (fun t3 => some (.inl (t2, t3)))))) s.1 s.2
theorem wX13_bits_b4 {G : z_G} {d : Nat} {Q : Option Value → z_S → z_H → Prop} {z0 : Int32} {I : Nat → Nat → Int32} {R : Nat → Nat → Nat} (hd : 0 ≤ d)  : ∀ (s : Int32 × Int32) (o : (Int32 × Int32) ⊕ (Int32)), fX13_bits_b4 z0 s = some o → z_or (fun s : Int32 × Int32 => z_W G eX13_bits d 0 0 4 [some (.int z0), some (.int s.1), some (.int s.2)] [] z_SH (I, R) Q) (fun x : Int32 => z_W G eX13_bits d 0 0 24 [none, some (.int x), none] [] z_SH (I, R) Q) o → (fun s : Int32 × Int32 => z_W G eX13_bits d 0 0 4 [some (.int z0), some (.int s.1), some (.int s.2)] [] z_SH (I, R) Q) s := by
  rintro ⟨p1, p2⟩ o hf hk
  show z_W G eX13_bits d 0 0 4 [some (.int z0), some (.int p1), some (.int p2)] [] z_SH (I, R) Q
  unfold fX13_bits_b4 at hf
  try dsimp only at hf
  refine z_iload_n dX13_bits_4 rfl rfl ?_
  refine z_bipush dX13_bits_5 kb_8 ?_
  refine z_icmp_ge (tgt := 24) dX13_bits_7 (by decide) (fun c1 => ?_) (fun c1 => ?_)
  · have hf := z_if_t hf c1
    cases hf
    exact y_sub hk (z_le_n (z_le_c rfl (z_le_n z_le_0)))
  · have hf := z_if_f hf c1
    refine z_iload_n dX13_bits_10 rfl rfl ?_
    refine z_iload_n dX13_bits_11 rfl rfl ?_
    refine z_iload_n dX13_bits_12 rfl rfl ?_
    refine y_ishr dX13_bits_13 ?_
    refine z_iconst dX13_bits_14 kc_1 ?_
    refine z_iand dX13_bits_15 ?_
    refine z_iadd dX13_bits_16 ?_
    refine y_istore_n (fun t2 => [some (.int z0), some (.int t2), some (.int p2)]) dX13_bits_17 rfl (by decide) (fun _ => rfl) (fun t2 et2 => ?_)
    have hf := z_l_el hf et2
    refine y_iinc (fun t3 => [some (.int z0), some (.int t2), some (.int t3)]) dX13_bits_18 rfl kc_1 (by decide) (fun _ => rfl) (fun t3 et3 => ?_)
    have hf := z_l_el hf et3
    refine z_goto (tgt := 4) dX13_bits_21 (by decide) ?_
    cases hf
    exact y_sub hk (z_le_c rfl (z_le_c rfl (z_le_c rfl z_le_0)))
def fX13_bits (x0 : Int32) : Option (Int32) :=
  z_b (z_lp (fX13_bits_b4 x0) 300 ((0 : Int32), (0 : Int32))) (fun q4 => some q4)
theorem vX13_bits {G : z_G} {d : Nat} {Q : Option Value → z_S → z_H → Prop} {x0 : Int32} {I : Nat → Nat → Int32} {R : Nat → Nat → Nat} {q : Int32} (hd : 0 ≤ d) (hf : fX13_bits x0 = some q) (hk : Q (some (.int q)) z_SH (I, R)) : z_W G eX13_bits d 0 0 0 [some (.int x0), none, none] [] z_SH (I, R) Q := by
  unfold fX13_bits at hf
  refine z_iconst dX13_bits_0 kc_0 ?_
  refine y_istore_n0 [some (.int x0), some (.int (0 : Int32)), none] dX13_bits_1 rfl (by decide) rfl ?_
  refine z_iconst dX13_bits_2 kc_0 ?_
  refine y_istore_n0 [some (.int x0), some (.int (0 : Int32)), some (.int (0 : Int32))] dX13_bits_3 rfl (by decide) rfl ?_
  obtain ⟨q4, hq4, hf⟩ := z_b_el hf
  refine y_sub (lv' := [some (.int x0), some (.int (0 : Int32)), some (.int (0 : Int32))]) ?_ (z_le_c rfl (z_le_c rfl (z_le_c rfl z_le_0)))
  refine z_lp_el (P := (fun s : Int32 × Int32 => z_W G eX13_bits d 0 0 4 [some (.int x0), some (.int s.1), some (.int s.2)] [] z_SH (I, R) Q)) (E := (fun x : Int32 => z_W G eX13_bits d 0 0 24 [none, some (.int x), none] [] z_SH (I, R) Q)) (wX13_bits_b4 hd ) 300 ((0 : Int32), (0 : Int32)) q4 hq4 ?_
  show z_W G eX13_bits d 0 0 24 [none, some (.int q4), none] [] z_SH (I, R) _
  refine z_iload_n dX13_bits_24 rfl rfl ?_
  cases hf
  exact z_iret hk ⟨_, rfl, rfl⟩ dX13_bits_25
theorem wX13_bits {G : z_G} {d : Nat} {x0 : Int32} {I : Nat → Nat → Int32} {R : Nat → Nat → Nat} {q : Int32} (hd : 0 ≤ d) (hf : fX13_bits x0 = some q) : z_M G d 0 0 eX13_bits [.int x0] z_SH (I, R) (z_E (some (.int q)) (I, R)) :=
  y_M_of _ (by decide +kernel) rfl rfl rfl (vX13_bits hd hf ⟨rfl, rfl, rfl⟩)
def fX13_copies_b2 (a0 : Nat) (a1 : Nat) : (Int32 × (Nat → Nat → Int32)) → Option ((Int32 × (Nat → Nat → Int32)) ⊕ ((Nat → Nat → Int32))) :=
  fun s => (fun (p2 : Int32) (I : Nat → Nat → Int32) => if (82 : Int32) ≤ p2 then (some (.inr I)) else (z_g (z_ok 1 a0 p2) (z_g (z_ok 1 a1 p2) (z_l (z_u I a1 p2.toNatClampNeg (I a0 p2.toNatClampNeg)) (fun I4 => z_l (p2 + (1 : Int32)) (fun t5 => some (.inl (t5, I4)))))))) s.1 s.2
theorem wX13_copies_b2 {G : z_G} {d : Nat} {Q : Option Value → z_S → z_H → Prop} {a0 : Nat} {a1 : Nat} {R : Nat → Nat → Nat} (hd : 0 ≤ d) (g_a0 : z_ar a0) (g_a1 : z_ar a1) : ∀ (s : Int32 × (Nat → Nat → Int32)) (o : (Int32 × (Nat → Nat → Int32)) ⊕ ((Nat → Nat → Int32))), fX13_copies_b2 a0 a1 s = some o → z_or (fun s : Int32 × (Nat → Nat → Int32) => z_W G eX13_copies d 0 0 2 [some (.ref a0), some (.ref a1), some (.int s.1)] [] z_SH (s.2, R) Q) (fun x : (Nat → Nat → Int32) => z_W G eX13_copies d 0 0 20 [none, none, none] [] z_SH (x, R) Q) o → (fun s : Int32 × (Nat → Nat → Int32) => z_W G eX13_copies d 0 0 2 [some (.ref a0), some (.ref a1), some (.int s.1)] [] z_SH (s.2, R) Q) s := by
  rintro ⟨p2, I⟩ o hf hk
  show z_W G eX13_copies d 0 0 2 [some (.ref a0), some (.ref a1), some (.int p2)] [] z_SH (I, R) Q
  unfold fX13_copies_b2 at hf
  try dsimp only at hf
  refine z_iload_n dX13_copies_2 rfl rfl ?_
  refine z_bipush dX13_copies_3 kb_82 ?_
  refine z_icmp_ge (tgt := 20) dX13_copies_5 (by decide) (fun c1 => ?_) (fun c1 => ?_)
  · have hf := z_if_t hf c1
    cases hf
    exact y_sub hk (z_le_n (z_le_n (z_le_n z_le_0)))
  · have hf := z_if_f hf c1
    refine z_aload_n dX13_copies_8 rfl rfl (z_ar_lt g_a1) ?_
    refine z_iload_n dX13_copies_9 rfl rfl ?_
    refine z_aload_n dX13_copies_10 rfl rfl (z_ar_lt g_a0) ?_
    refine z_iload_n dX13_copies_11 rfl rfl ?_
    obtain ⟨g2, hf⟩ := z_g_el hf
    refine y_iald g2 dX13_copies_12 ?_
    obtain ⟨g3, hf⟩ := z_g_el hf
    refine y_iast g3 dX13_copies_13 (fun I4 eI4 => ?_)
    have hf := z_l_el hf eI4
    refine y_iinc (fun t5 => [some (.ref a0), some (.ref a1), some (.int t5)]) dX13_copies_14 rfl kc_1 (by decide) (fun _ => rfl) (fun t5 et5 => ?_)
    have hf := z_l_el hf et5
    refine z_goto (tgt := 2) dX13_copies_17 (by decide) ?_
    cases hf
    exact y_sub hk (z_le_c rfl (z_le_c rfl (z_le_c rfl z_le_0)))
def fX13_copies (a0 : Nat) (a1 : Nat) (I : Nat → Nat → Int32) : Option ((Nat → Nat → Int32)) :=
  z_g (z_ar a0) (z_g (z_ar a1) (z_b (z_lp (fX13_copies_b2 a0 a1) 300 ((0 : Int32), I)) (fun q6 => some q6)))
theorem vX13_copies {G : z_G} {d : Nat} {Q : Option Value → z_S → z_H → Prop} {a0 : Nat} {a1 : Nat} {I : Nat → Nat → Int32} {R : Nat → Nat → Nat} {q : (Nat → Nat → Int32)} (hd : 0 ≤ d) (hf : fX13_copies a0 a1 I = some q) (hk : Q none z_SH (q, R)) : z_W G eX13_copies d 0 0 0 [some (.ref a0), some (.ref a1), none] [] z_SH (I, R) Q := by
  unfold fX13_copies at hf
  obtain ⟨g_a0, hf⟩ := z_g_el hf
  obtain ⟨g_a1, hf⟩ := z_g_el hf
  refine z_iconst dX13_copies_0 kc_0 ?_
  refine y_istore_n0 [some (.ref a0), some (.ref a1), some (.int (0 : Int32))] dX13_copies_1 rfl (by decide) rfl ?_
  obtain ⟨q6, hq6, hf⟩ := z_b_el hf
  refine y_sub (lv' := [some (.ref a0), some (.ref a1), some (.int (0 : Int32))]) ?_ (z_le_c rfl (z_le_c rfl (z_le_c rfl z_le_0)))
  refine z_lp_el (P := (fun s : Int32 × (Nat → Nat → Int32) => z_W G eX13_copies d 0 0 2 [some (.ref a0), some (.ref a1), some (.int s.1)] [] z_SH (s.2, R) Q)) (E := (fun x : (Nat → Nat → Int32) => z_W G eX13_copies d 0 0 20 [none, none, none] [] z_SH (x, R) Q)) (wX13_copies_b2 hd g_a0 g_a1) 300 ((0 : Int32), I) q6 hq6 ?_
  show z_W G eX13_copies d 0 0 20 [none, none, none] [] z_SH (q6, R) _
  cases hf
  exact z_vret hk rfl dX13_copies_20
theorem wX13_copies {G : z_G} {d : Nat} {a0 : Nat} {a1 : Nat} {I : Nat → Nat → Int32} {R : Nat → Nat → Nat} {q : (Nat → Nat → Int32)} (hd : 0 ≤ d) (hf : fX13_copies a0 a1 I = some q) : z_M G d 0 0 eX13_copies [.ref a0, .ref a1] z_SH (I, R) (z_E none (q, R)) :=
  y_M_of _ (by decide +kernel) rfl rfl rfl (vX13_copies hd hf ⟨rfl, rfl, rfl⟩)
def fX13_isTold (a0 : Nat) (x1 : Int32) (I : Nat → Nat → Int32) (R : Nat → Nat → Nat) : Option (Int32) :=
  z_g (z_ob a0 13) (z_b (fX13_in x1 (0 : Int32) (7 : Int32)) (fun q1 => if q1 = 0 then (some (0 : Int32)) else (z_g (z_ok 1 (R a0 0) ((0 : Int32) + x1)) (if (I (R a0 0) ((0 : Int32) + x1).toNatClampNeg) = (1 : Int32) then (some (1 : Int32)) else (some (0 : Int32))))))
theorem vX13_isTold {G : z_G} {d : Nat} {Q : Option Value → z_S → z_H → Prop} {a0 : Nat} {x1 : Int32} {I : Nat → Nat → Int32} {R : Nat → Nat → Nat} {q : Int32} (hd : 1 ≤ d) (hf : fX13_isTold a0 x1 I R = some q) (hk : Q (some (.int q)) z_SH (I, R)) : z_W G eX13_isTold d 0 0 0 [some (.ref a0), some (.int x1)] [] z_SH (I, R) Q := by
  unfold fX13_isTold at hf
  obtain ⟨g_a0, hf⟩ := z_g_el hf
  refine z_iload_n dX13_isTold_0 rfl rfl ?_
  refine z_iconst dX13_isTold_1 kc_0 ?_
  refine z_bipush dX13_isTold_2 kb_7 ?_
  obtain ⟨q1, hq1, hf⟩ := z_b_el hf
  refine y_cSi (Nat.le_trans (Nat.le_of_ble_eq_true rfl) hd) (wX13_in (z_dl rfl hd) hq1) oX13_in lmX13_114 sX13_in _ rfl rfl (Nat.le_of_ble_eq_true rfl) dX13_isTold_4 ?_
  refine z_if_eq (tgt := 26) dX13_isTold_7 (by decide) (fun c2 => ?_) (fun c2 => ?_)
  · have hf := z_if_t hf c2
    refine z_iconst dX13_isTold_26 kc_0 ?_
    cases hf
    exact z_iret hk ⟨_, rfl, rfl⟩ dX13_isTold_27
  · have hf := z_if_f hf c2
    refine z_aload_n dX13_isTold_10 rfl rfl (z_okl g_a0) ?_
    refine y_getR lfX13_7 rfl g_a0 dX13_isTold_11 ?_
    refine z_iconst dX13_isTold_14 kc_0 ?_
    refine z_iload_n dX13_isTold_15 rfl rfl ?_
    refine z_iadd dX13_isTold_16 ?_
    obtain ⟨g3, hf⟩ := z_g_el hf
    refine y_iald g3 dX13_isTold_17 ?_
    refine z_iconst dX13_isTold_18 kc_1 ?_
    refine z_icmp_ne (tgt := 26) dX13_isTold_19 (by decide) (fun c4 => ?_) (fun c4 => ?_)
    · have hf := z_if_f hf c4
      refine z_iconst dX13_isTold_26 kc_0 ?_
      cases hf
      exact z_iret hk ⟨_, rfl, rfl⟩ dX13_isTold_27
    · have hf := z_if_t hf c4
      refine z_iconst dX13_isTold_22 kc_1 ?_
      refine z_goto (tgt := 27) dX13_isTold_23 (by decide) ?_
      cases hf
      exact z_iret hk ⟨_, rfl, rfl⟩ dX13_isTold_27
theorem wX13_isTold {G : z_G} {d : Nat} {a0 : Nat} {x1 : Int32} {I : Nat → Nat → Int32} {R : Nat → Nat → Nat} {q : Int32} (hd : 1 ≤ d) (hf : fX13_isTold a0 x1 I R = some q) : z_M G d 0 0 eX13_isTold [.ref a0, .int x1] z_SH (I, R) (z_E (some (.int q)) (I, R)) :=
  y_M_of _ (by decide +kernel) rfl rfl rfl (vX13_isTold hd hf ⟨rfl, rfl, rfl⟩)
def fX13_toldSet_b4 (a0 : Nat) (I : Nat → Nat → Int32) (R : Nat → Nat → Nat) : (Int32 × Int32) → Option ((Int32 × Int32) ⊕ (Int32)) :=
  fun s => (fun (p1 : Int32) (p2 : Int32) => if (8 : Int32) ≤ p2 then (some (.inr p1)) else (z_b (fX13_isTold a0 p2 I R) (fun q2 => if q2 = 0 then (z_l (p2 + (1 : Int32)) (fun t4 => some (.inl (p1, t4)))) else (z_l (p1 ||| (z_shl (1 : Int32) p2)) (fun t5 => z_l (p2 + (1 : Int32)) (fun t6 => some (.inl (t5, t6)))))))) s.1 s.2
theorem wX13_toldSet_b4 {G : z_G} {d : Nat} {Q : Option Value → z_S → z_H → Prop} {a0 : Nat} {I : Nat → Nat → Int32} {R : Nat → Nat → Nat} (hd : 2 ≤ d) (g_a0 : z_ob a0 13) : ∀ (s : Int32 × Int32) (o : (Int32 × Int32) ⊕ (Int32)), fX13_toldSet_b4 a0 I R s = some o → z_or (fun s : Int32 × Int32 => z_W G eX13_toldSet d 0 0 4 [some (.ref a0), some (.int s.1), some (.int s.2)] [] z_SH (I, R) Q) (fun x : Int32 => z_W G eX13_toldSet d 0 0 30 [none, some (.int x), none] [] z_SH (I, R) Q) o → (fun s : Int32 × Int32 => z_W G eX13_toldSet d 0 0 4 [some (.ref a0), some (.int s.1), some (.int s.2)] [] z_SH (I, R) Q) s := by
  rintro ⟨p1, p2⟩ o hf hk
  show z_W G eX13_toldSet d 0 0 4 [some (.ref a0), some (.int p1), some (.int p2)] [] z_SH (I, R) Q
  unfold fX13_toldSet_b4 at hf
  try dsimp only at hf
  refine z_iload_n dX13_toldSet_4 rfl rfl ?_
  refine z_bipush dX13_toldSet_5 kb_8 ?_
  refine z_icmp_ge (tgt := 30) dX13_toldSet_7 (by decide) (fun c1 => ?_) (fun c1 => ?_)
  · have hf := z_if_t hf c1
    cases hf
    exact y_sub hk (z_le_n (z_le_c rfl (z_le_n z_le_0)))
  · have hf := z_if_f hf c1
    refine z_aload_n dX13_toldSet_10 rfl rfl (z_okl g_a0) ?_
    refine z_iload_n dX13_toldSet_11 rfl rfl ?_
    obtain ⟨q2, hq2, hf⟩ := z_b_el hf
    refine y_cVi (av := [.int p2]) (Nat.le_trans (Nat.le_of_ble_eq_true rfl) hd) (wX13_isTold (z_dl rfl hd) hq2) oX13_isTold lmX13_118 iX13_isTold g_a0 rfl _ rfl rfl (Nat.le_of_ble_eq_true rfl) dX13_toldSet_12 ?_
    refine z_if_eq (tgt := 24) dX13_toldSet_15 (by decide) (fun c3 => ?_) (fun c3 => ?_)
    · have hf := z_if_t hf c3
      refine y_iinc (fun t4 => [some (.ref a0), some (.int p1), some (.int t4)]) dX13_toldSet_24 rfl kc_1 (by decide) (fun _ => rfl) (fun t4 et4 => ?_)
      have hf := z_l_el hf et4
      refine z_goto (tgt := 4) dX13_toldSet_27 (by decide) ?_
      cases hf
      exact y_sub hk (z_le_c rfl (z_le_c rfl (z_le_c rfl z_le_0)))
    · have hf := z_if_f hf c3
      refine z_iload_n dX13_toldSet_18 rfl rfl ?_
      refine z_iconst dX13_toldSet_19 kc_1 ?_
      refine z_iload_n dX13_toldSet_20 rfl rfl ?_
      refine y_ishl dX13_toldSet_21 ?_
      refine z_ior dX13_toldSet_22 ?_
      refine y_istore_n (fun t5 => [some (.ref a0), some (.int t5), some (.int p2)]) dX13_toldSet_23 rfl (by decide) (fun _ => rfl) (fun t5 et5 => ?_)
      have hf := z_l_el hf et5
      refine y_iinc (fun t6 => [some (.ref a0), some (.int t5), some (.int t6)]) dX13_toldSet_24 rfl kc_1 (by decide) (fun _ => rfl) (fun t6 et6 => ?_)
      have hf := z_l_el hf et6
      refine z_goto (tgt := 4) dX13_toldSet_27 (by decide) ?_
      cases hf
      exact y_sub hk (z_le_c rfl (z_le_c rfl (z_le_c rfl z_le_0)))
def fX13_toldSet (a0 : Nat) (I : Nat → Nat → Int32) (R : Nat → Nat → Nat) : Option (Int32) :=
  z_g (z_ob a0 13) (z_b (z_lp (fX13_toldSet_b4 a0 I R) 300 ((0 : Int32), (0 : Int32))) (fun q7 => some q7))
theorem vX13_toldSet {G : z_G} {d : Nat} {Q : Option Value → z_S → z_H → Prop} {a0 : Nat} {I : Nat → Nat → Int32} {R : Nat → Nat → Nat} {q : Int32} (hd : 2 ≤ d) (hf : fX13_toldSet a0 I R = some q) (hk : Q (some (.int q)) z_SH (I, R)) : z_W G eX13_toldSet d 0 0 0 [some (.ref a0), none, none] [] z_SH (I, R) Q := by
  unfold fX13_toldSet at hf
  obtain ⟨g_a0, hf⟩ := z_g_el hf
  refine z_iconst dX13_toldSet_0 kc_0 ?_
  refine y_istore_n0 [some (.ref a0), some (.int (0 : Int32)), none] dX13_toldSet_1 rfl (by decide) rfl ?_
  refine z_iconst dX13_toldSet_2 kc_0 ?_
  refine y_istore_n0 [some (.ref a0), some (.int (0 : Int32)), some (.int (0 : Int32))] dX13_toldSet_3 rfl (by decide) rfl ?_
  obtain ⟨q7, hq7, hf⟩ := z_b_el hf
  refine y_sub (lv' := [some (.ref a0), some (.int (0 : Int32)), some (.int (0 : Int32))]) ?_ (z_le_c rfl (z_le_c rfl (z_le_c rfl z_le_0)))
  refine z_lp_el (P := (fun s : Int32 × Int32 => z_W G eX13_toldSet d 0 0 4 [some (.ref a0), some (.int s.1), some (.int s.2)] [] z_SH (I, R) Q)) (E := (fun x : Int32 => z_W G eX13_toldSet d 0 0 30 [none, some (.int x), none] [] z_SH (I, R) Q)) (wX13_toldSet_b4 hd g_a0) 300 ((0 : Int32), (0 : Int32)) q7 hq7 ?_
  show z_W G eX13_toldSet d 0 0 30 [none, some (.int q7), none] [] z_SH (I, R) _
  refine z_iload_n dX13_toldSet_30 rfl rfl ?_
  cases hf
  exact z_iret hk ⟨_, rfl, rfl⟩ dX13_toldSet_31
theorem wX13_toldSet {G : z_G} {d : Nat} {a0 : Nat} {I : Nat → Nat → Int32} {R : Nat → Nat → Nat} {q : Int32} (hd : 2 ≤ d) (hf : fX13_toldSet a0 I R = some q) : z_M G d 0 0 eX13_toldSet [.ref a0] z_SH (I, R) (z_E (some (.int q)) (I, R)) :=
  y_M_of _ (by decide +kernel) rfl rfl rfl (vX13_toldSet hd hf ⟨rfl, rfl, rfl⟩)
def fX13_isDone (a0 : Nat) (x1 : Int32) (I : Nat → Nat → Int32) (R : Nat → Nat → Nat) : Option (Int32) :=
  z_g (z_ob a0 13) (z_g (z_ok 1 (R a0 0) ((40 : Int32) + x1)) (z_g (z_ok 1 (R a0 9) x1) (if (I (R a0 0) ((40 : Int32) + x1).toNatClampNeg) < (I (R a0 9) x1.toNatClampNeg) then (some (0 : Int32)) else (some (1 : Int32)))))
theorem vX13_isDone {G : z_G} {d : Nat} {Q : Option Value → z_S → z_H → Prop} {a0 : Nat} {x1 : Int32} {I : Nat → Nat → Int32} {R : Nat → Nat → Nat} {q : Int32} (hd : 0 ≤ d) (hf : fX13_isDone a0 x1 I R = some q) (hk : Q (some (.int q)) z_SH (I, R)) : z_W G eX13_isDone d 0 0 0 [some (.ref a0), some (.int x1)] [] z_SH (I, R) Q := by
  unfold fX13_isDone at hf
  obtain ⟨g_a0, hf⟩ := z_g_el hf
  refine z_aload_n dX13_isDone_0 rfl rfl (z_okl g_a0) ?_
  refine y_getR lfX13_7 rfl g_a0 dX13_isDone_1 ?_
  refine z_bipush dX13_isDone_4 kb_40 ?_
  refine z_iload_n dX13_isDone_6 rfl rfl ?_
  refine z_iadd dX13_isDone_7 ?_
  obtain ⟨g1, hf⟩ := z_g_el hf
  refine y_iald g1 dX13_isDone_8 ?_
  refine z_aload_n dX13_isDone_9 rfl rfl (z_okl g_a0) ?_
  refine y_getR lfX13_31 rfl g_a0 dX13_isDone_10 ?_
  refine z_iload_n dX13_isDone_13 rfl rfl ?_
  obtain ⟨g2, hf⟩ := z_g_el hf
  refine y_iald g2 dX13_isDone_14 ?_
  refine z_icmp_lt (tgt := 22) dX13_isDone_15 (by decide) (fun c3 => ?_) (fun c3 => ?_)
  · have hf := z_if_t hf c3
    refine z_iconst dX13_isDone_22 kc_0 ?_
    cases hf
    exact z_iret hk ⟨_, rfl, rfl⟩ dX13_isDone_23
  · have hf := z_if_f hf c3
    refine z_iconst dX13_isDone_18 kc_1 ?_
    refine z_goto (tgt := 23) dX13_isDone_19 (by decide) ?_
    cases hf
    exact z_iret hk ⟨_, rfl, rfl⟩ dX13_isDone_23
theorem wX13_isDone {G : z_G} {d : Nat} {a0 : Nat} {x1 : Int32} {I : Nat → Nat → Int32} {R : Nat → Nat → Nat} {q : Int32} (hd : 0 ≤ d) (hf : fX13_isDone a0 x1 I R = some q) : z_M G d 0 0 eX13_isDone [.ref a0, .int x1] z_SH (I, R) (z_E (some (.int q)) (I, R)) :=
  y_M_of _ (by decide +kernel) rfl rfl rfl (vX13_isDone hd hf ⟨rfl, rfl, rfl⟩)
def fX13_holdsTo_b5 (a0 : Nat) (z1 : Int32) (z2 : Int32) (I : Nat → Nat → Int32) (R : Nat → Nat → Nat) : (Int32 × Int32) → Option ((Int32 × Int32) ⊕ (Int32)) :=
  fun s => (fun (p3 : Int32) (p4 : Int32) => if z2 ≤ p4 then (some (.inr p3)) else (z_g (z_ok 1 (R a0 6) (((60 : Int32) * z1) + p4)) (z_l (p3 + (I (R a0 6) (((60 : Int32) * z1) + p4).toNatClampNeg)) (fun t3 => z_l (p4 + (1 : Int32)) (fun t4 => some (.inl (t3, t4))))))) s.1 s.2
theorem wX13_holdsTo_b5 {G : z_G} {d : Nat} {Q : Option Value → z_S → z_H → Prop} {a0 : Nat} {z1 : Int32} {z2 : Int32} {I : Nat → Nat → Int32} {R : Nat → Nat → Nat} (hd : 0 ≤ d) (g_a0 : z_ob a0 13) : ∀ (s : Int32 × Int32) (o : (Int32 × Int32) ⊕ (Int32)), fX13_holdsTo_b5 a0 z1 z2 I R s = some o → z_or (fun s : Int32 × Int32 => z_W G eX13_holdsTo d 0 0 5 [some (.ref a0), some (.int z1), some (.int z2), some (.int s.1), some (.int s.2)] [] z_SH (I, R) Q) (fun x : Int32 => z_W G eX13_holdsTo d 0 0 32 [none, none, none, some (.int x), none] [] z_SH (I, R) Q) o → (fun s : Int32 × Int32 => z_W G eX13_holdsTo d 0 0 5 [some (.ref a0), some (.int z1), some (.int z2), some (.int s.1), some (.int s.2)] [] z_SH (I, R) Q) s := by
  rintro ⟨p3, p4⟩ o hf hk
  show z_W G eX13_holdsTo d 0 0 5 [some (.ref a0), some (.int z1), some (.int z2), some (.int p3), some (.int p4)] [] z_SH (I, R) Q
  unfold fX13_holdsTo_b5 at hf
  try dsimp only at hf
  refine z_iload dX13_holdsTo_5 rfl ?_
  refine z_iload_n dX13_holdsTo_7 rfl rfl ?_
  refine z_icmp_ge (tgt := 32) dX13_holdsTo_8 (by decide) (fun c1 => ?_) (fun c1 => ?_)
  · have hf := z_if_t hf c1
    cases hf
    exact y_sub hk (z_le_n (z_le_n (z_le_n (z_le_c rfl (z_le_n z_le_0)))))
  · have hf := z_if_f hf c1
    refine z_iload_n dX13_holdsTo_11 rfl rfl ?_
    refine z_aload_n dX13_holdsTo_12 rfl rfl (z_okl g_a0) ?_
    refine y_getR lfX13_22 rfl g_a0 dX13_holdsTo_13 ?_
    refine z_bipush dX13_holdsTo_16 kb_60 ?_
    refine z_iload_n dX13_holdsTo_18 rfl rfl ?_
    refine z_imul dX13_holdsTo_19 ?_
    refine z_iload dX13_holdsTo_20 rfl ?_
    refine z_iadd dX13_holdsTo_22 ?_
    obtain ⟨g2, hf⟩ := z_g_el hf
    refine y_iald g2 dX13_holdsTo_23 ?_
    refine z_iadd dX13_holdsTo_24 ?_
    refine y_istore_n (fun t3 => [some (.ref a0), some (.int z1), some (.int z2), some (.int t3), some (.int p4)]) dX13_holdsTo_25 rfl (by decide) (fun _ => rfl) (fun t3 et3 => ?_)
    have hf := z_l_el hf et3
    refine y_iinc (fun t4 => [some (.ref a0), some (.int z1), some (.int z2), some (.int t3), some (.int t4)]) dX13_holdsTo_26 rfl kc_1 (by decide) (fun _ => rfl) (fun t4 et4 => ?_)
    have hf := z_l_el hf et4
    refine z_goto (tgt := 5) dX13_holdsTo_29 (by decide) ?_
    cases hf
    exact y_sub hk (z_le_c rfl (z_le_c rfl (z_le_c rfl (z_le_c rfl (z_le_c rfl z_le_0)))))
def fX13_holdsTo (a0 : Nat) (x1 : Int32) (x2 : Int32) (I : Nat → Nat → Int32) (R : Nat → Nat → Nat) : Option (Int32) :=
  z_g (z_ob a0 13) (z_b (z_lp (fX13_holdsTo_b5 a0 x1 x2 I R) 300 ((0 : Int32), (0 : Int32))) (fun q5 => some q5))
theorem vX13_holdsTo {G : z_G} {d : Nat} {Q : Option Value → z_S → z_H → Prop} {a0 : Nat} {x1 : Int32} {x2 : Int32} {I : Nat → Nat → Int32} {R : Nat → Nat → Nat} {q : Int32} (hd : 0 ≤ d) (hf : fX13_holdsTo a0 x1 x2 I R = some q) (hk : Q (some (.int q)) z_SH (I, R)) : z_W G eX13_holdsTo d 0 0 0 [some (.ref a0), some (.int x1), some (.int x2), none, none] [] z_SH (I, R) Q := by
  unfold fX13_holdsTo at hf
  obtain ⟨g_a0, hf⟩ := z_g_el hf
  refine z_iconst dX13_holdsTo_0 kc_0 ?_
  refine y_istore_n0 [some (.ref a0), some (.int x1), some (.int x2), some (.int (0 : Int32)), none] dX13_holdsTo_1 rfl (by decide) rfl ?_
  refine z_iconst dX13_holdsTo_2 kc_0 ?_
  refine y_istore0 [some (.ref a0), some (.int x1), some (.int x2), some (.int (0 : Int32)), some (.int (0 : Int32))] dX13_holdsTo_3 (by decide) rfl ?_
  obtain ⟨q5, hq5, hf⟩ := z_b_el hf
  refine y_sub (lv' := [some (.ref a0), some (.int x1), some (.int x2), some (.int (0 : Int32)), some (.int (0 : Int32))]) ?_ (z_le_c rfl (z_le_c rfl (z_le_c rfl (z_le_c rfl (z_le_c rfl z_le_0)))))
  refine z_lp_el (P := (fun s : Int32 × Int32 => z_W G eX13_holdsTo d 0 0 5 [some (.ref a0), some (.int x1), some (.int x2), some (.int s.1), some (.int s.2)] [] z_SH (I, R) Q)) (E := (fun x : Int32 => z_W G eX13_holdsTo d 0 0 32 [none, none, none, some (.int x), none] [] z_SH (I, R) Q)) (wX13_holdsTo_b5 hd g_a0) 300 ((0 : Int32), (0 : Int32)) q5 hq5 ?_
  show z_W G eX13_holdsTo d 0 0 32 [none, none, none, some (.int q5), none] [] z_SH (I, R) _
  refine z_iload_n dX13_holdsTo_32 rfl rfl ?_
  cases hf
  exact z_iret hk ⟨_, rfl, rfl⟩ dX13_holdsTo_33
theorem wX13_holdsTo {G : z_G} {d : Nat} {a0 : Nat} {x1 : Int32} {x2 : Int32} {I : Nat → Nat → Int32} {R : Nat → Nat → Nat} {q : Int32} (hd : 0 ≤ d) (hf : fX13_holdsTo a0 x1 x2 I R = some q) : z_M G d 0 0 eX13_holdsTo [.ref a0, .int x1, .int x2] z_SH (I, R) (z_E (some (.int q)) (I, R)) :=
  y_M_of _ (by decide +kernel) rfl rfl rfl (vX13_holdsTo hd hf ⟨rfl, rfl, rfl⟩)
def fX13_begins (a0 : Nat) (x1 : Int32) (I : Nat → Nat → Int32) (R : Nat → Nat → Nat) : Option ((Nat → Nat → Int32)) :=
  z_g (z_ob a0 13) (z_g (z_ok 1 (R a0 0) ((40 : Int32) + x1)) (z_l (z_u I (R a0 0) ((40 : Int32) + x1).toNatClampNeg (0 : Int32)) (fun I2 => z_g (z_ok 1 (R a0 0) ((48 : Int32) + x1)) (z_l (z_u I2 (R a0 0) ((48 : Int32) + x1).toNatClampNeg (0 : Int32)) (fun I4 => z_g (z_ok 1 (R a0 0) ((32 : Int32) + x1)) (z_g (z_ok 1 (R a0 0) ((56 : Int32) + x1)) (z_l (z_u I4 (R a0 0) ((56 : Int32) + x1).toNatClampNeg (I4 (R a0 0) ((32 : Int32) + x1).toNatClampNeg)) (fun I7 => z_g (z_ok 1 (R a0 0) ((64 : Int32) + x1)) (z_l (z_u I7 (R a0 0) ((64 : Int32) + x1).toNatClampNeg (0 : Int32)) (fun I9 => z_g (z_ok 1 (R a0 0) ((72 : Int32) + x1)) (z_l (z_u I9 (R a0 0) ((72 : Int32) + x1).toNatClampNeg (0 : Int32)) (fun I11 => some I11))))))))))))
theorem vX13_begins {G : z_G} {d : Nat} {Q : Option Value → z_S → z_H → Prop} {a0 : Nat} {x1 : Int32} {I : Nat → Nat → Int32} {R : Nat → Nat → Nat} {q : (Nat → Nat → Int32)} (hd : 0 ≤ d) (hf : fX13_begins a0 x1 I R = some q) (hk : Q none z_SH (q, R)) : z_W G eX13_begins d 0 0 0 [some (.ref a0), some (.int x1)] [] z_SH (I, R) Q := by
  unfold fX13_begins at hf
  obtain ⟨g_a0, hf⟩ := z_g_el hf
  refine z_aload_n dX13_begins_0 rfl rfl (z_okl g_a0) ?_
  refine y_getR lfX13_7 rfl g_a0 dX13_begins_1 ?_
  refine z_bipush dX13_begins_4 kb_40 ?_
  refine z_iload_n dX13_begins_6 rfl rfl ?_
  refine z_iadd dX13_begins_7 ?_
  refine z_iconst dX13_begins_8 kc_0 ?_
  obtain ⟨g1, hf⟩ := z_g_el hf
  refine y_iast g1 dX13_begins_9 (fun I2 eI2 => ?_)
  have hf := z_l_el hf eI2
  refine z_aload_n dX13_begins_10 rfl rfl (z_okl g_a0) ?_
  refine y_getR lfX13_7 rfl g_a0 dX13_begins_11 ?_
  refine z_bipush dX13_begins_14 kb_48 ?_
  refine z_iload_n dX13_begins_16 rfl rfl ?_
  refine z_iadd dX13_begins_17 ?_
  refine z_iconst dX13_begins_18 kc_0 ?_
  obtain ⟨g3, hf⟩ := z_g_el hf
  refine y_iast g3 dX13_begins_19 (fun I4 eI4 => ?_)
  have hf := z_l_el hf eI4
  refine z_aload_n dX13_begins_20 rfl rfl (z_okl g_a0) ?_
  refine y_getR lfX13_7 rfl g_a0 dX13_begins_21 ?_
  refine z_bipush dX13_begins_24 kb_56 ?_
  refine z_iload_n dX13_begins_26 rfl rfl ?_
  refine z_iadd dX13_begins_27 ?_
  refine z_aload_n dX13_begins_28 rfl rfl (z_okl g_a0) ?_
  refine y_getR lfX13_7 rfl g_a0 dX13_begins_29 ?_
  refine z_bipush dX13_begins_32 kb_32 ?_
  refine z_iload_n dX13_begins_34 rfl rfl ?_
  refine z_iadd dX13_begins_35 ?_
  obtain ⟨g5, hf⟩ := z_g_el hf
  refine y_iald g5 dX13_begins_36 ?_
  obtain ⟨g6, hf⟩ := z_g_el hf
  refine y_iast g6 dX13_begins_37 (fun I7 eI7 => ?_)
  have hf := z_l_el hf eI7
  refine z_aload_n dX13_begins_38 rfl rfl (z_okl g_a0) ?_
  refine y_getR lfX13_7 rfl g_a0 dX13_begins_39 ?_
  refine z_bipush dX13_begins_42 kb_64 ?_
  refine z_iload_n dX13_begins_44 rfl rfl ?_
  refine z_iadd dX13_begins_45 ?_
  refine z_iconst dX13_begins_46 kc_0 ?_
  obtain ⟨g8, hf⟩ := z_g_el hf
  refine y_iast g8 dX13_begins_47 (fun I9 eI9 => ?_)
  have hf := z_l_el hf eI9
  refine z_aload_n dX13_begins_48 rfl rfl (z_okl g_a0) ?_
  refine y_getR lfX13_7 rfl g_a0 dX13_begins_49 ?_
  refine z_bipush dX13_begins_52 kb_72 ?_
  refine z_iload_n dX13_begins_54 rfl rfl ?_
  refine z_iadd dX13_begins_55 ?_
  refine z_iconst dX13_begins_56 kc_0 ?_
  obtain ⟨g10, hf⟩ := z_g_el hf
  refine y_iast g10 dX13_begins_57 (fun I11 eI11 => ?_)
  have hf := z_l_el hf eI11
  cases hf
  exact z_vret hk rfl dX13_begins_58
theorem wX13_begins {G : z_G} {d : Nat} {a0 : Nat} {x1 : Int32} {I : Nat → Nat → Int32} {R : Nat → Nat → Nat} {q : (Nat → Nat → Int32)} (hd : 0 ≤ d) (hf : fX13_begins a0 x1 I R = some q) : z_M G d 0 0 eX13_begins [.ref a0, .int x1] z_SH (I, R) (z_E none (q, R)) :=
  y_M_of _ (by decide +kernel) rfl rfl rfl (vX13_begins hd hf ⟨rfl, rfl, rfl⟩)
def fX13_singer (a0 : Nat) (x1 : Int32) (x2 : Int32) (x3 : Int32) (x4 : Int32) (x5 : Int32) (I : Nat → Nat → Int32) (R : Nat → Nat → Nat) : Option (Int32 × (Nat → Nat → Int32)) :=
  z_g (z_ob a0 13) (z_b (fX13_in x1 (0 : Int32) (7 : Int32)) (fun q1 => if q1 = 0 then (some ((0 : Int32), I)) else (z_b (fX13_in x2 (-20 : Int32) (20 : Int32)) (fun q3 => if q3 = 0 then (some ((0 : Int32), I)) else (z_b (fX13_in x3 (0 : Int32) (15 : Int32)) (fun q5 => if q5 = 0 then (some ((0 : Int32), I)) else (z_b (fX13_in x4 (0 : Int32) (3 : Int32)) (fun q7 => if q7 = 0 then (some ((0 : Int32), I)) else (z_b (fX13_in x5 (1 : Int32) (20 : Int32)) (fun q9 => if q9 = 0 then (some ((0 : Int32), I)) else (z_g (z_ok 1 (R a0 0) ((0 : Int32) + x1)) (z_l (z_u I (R a0 0) ((0 : Int32) + x1).toNatClampNeg (1 : Int32)) (fun I12 => z_g (z_ok 1 (R a0 0) ((8 : Int32) + x1)) (z_l (z_u I12 (R a0 0) ((8 : Int32) + x1).toNatClampNeg x2) (fun I14 => z_g (z_ok 1 (R a0 0) ((16 : Int32) + x1)) (z_l (z_u I14 (R a0 0) ((16 : Int32) + x1).toNatClampNeg x3) (fun I16 => z_g (z_ok 1 (R a0 0) ((24 : Int32) + x1)) (z_l (z_u I16 (R a0 0) ((24 : Int32) + x1).toNatClampNeg x4) (fun I18 => z_g (z_ok 1 (R a0 0) ((32 : Int32) + x1)) (z_l (z_u I18 (R a0 0) ((32 : Int32) + x1).toNatClampNeg x5) (fun I20 => z_b (fX13_begins a0 x1 I20 R) (fun q21 => some ((1 : Int32), q21)))))))))))))))))))))))
set_option maxRecDepth 20000 in
theorem vX13_singer {G : z_G} {d : Nat} {Q : Option Value → z_S → z_H → Prop} {a0 : Nat} {x1 : Int32} {x2 : Int32} {x3 : Int32} {x4 : Int32} {x5 : Int32} {I : Nat → Nat → Int32} {R : Nat → Nat → Nat} {q : Int32 × (Nat → Nat → Int32)} (hd : 1 ≤ d) (hf : fX13_singer a0 x1 x2 x3 x4 x5 I R = some q) (hk : Q (some (.int q.1)) z_SH (q.2, R)) : z_W G eX13_singer d 0 0 0 [some (.ref a0), some (.int x1), some (.int x2), some (.int x3), some (.int x4), some (.int x5)] [] z_SH (I, R) Q := by
  unfold fX13_singer at hf
  obtain ⟨g_a0, hf⟩ := z_g_el hf
  refine z_iload_n dX13_singer_0 rfl rfl ?_
  refine z_iconst dX13_singer_1 kc_0 ?_
  refine z_bipush dX13_singer_2 kb_7 ?_
  obtain ⟨q1, hq1, hf⟩ := z_b_el hf
  refine y_cSi (Nat.le_trans (Nat.le_of_ble_eq_true rfl) hd) (wX13_in (z_dl rfl hd) hq1) oX13_in lmX13_114 sX13_in _ rfl rfl (Nat.le_of_ble_eq_true rfl) dX13_singer_4 ?_
  refine z_if_eq (tgt := 52) dX13_singer_7 (by decide) (fun c2 => ?_) (fun c2 => ?_)
  · have hf := z_if_t hf c2
    refine z_iconst dX13_singer_52 kc_0 ?_
    cases hf
    exact z_iret hk ⟨_, rfl, rfl⟩ dX13_singer_53
  · have hf := z_if_f hf c2
    refine z_iload_n dX13_singer_10 rfl rfl ?_
    refine z_bipush dX13_singer_11 kb_m20 ?_
    refine z_bipush dX13_singer_13 kb_20 ?_
    obtain ⟨q3, hq3, hf⟩ := z_b_el hf
    refine y_cSi (Nat.le_trans (Nat.le_of_ble_eq_true rfl) hd) (wX13_in (z_dl rfl hd) hq3) oX13_in lmX13_114 sX13_in _ rfl rfl (Nat.le_of_ble_eq_true rfl) dX13_singer_15 ?_
    refine z_if_eq (tgt := 52) dX13_singer_18 (by decide) (fun c4 => ?_) (fun c4 => ?_)
    · have hf := z_if_t hf c4
      refine z_iconst dX13_singer_52 kc_0 ?_
      cases hf
      exact z_iret hk ⟨_, rfl, rfl⟩ dX13_singer_53
    · have hf := z_if_f hf c4
      refine z_iload_n dX13_singer_21 rfl rfl ?_
      refine z_iconst dX13_singer_22 kc_0 ?_
      refine z_bipush dX13_singer_23 kb_15 ?_
      obtain ⟨q5, hq5, hf⟩ := z_b_el hf
      refine y_cSi (Nat.le_trans (Nat.le_of_ble_eq_true rfl) hd) (wX13_in (z_dl rfl hd) hq5) oX13_in lmX13_114 sX13_in _ rfl rfl (Nat.le_of_ble_eq_true rfl) dX13_singer_25 ?_
      refine z_if_eq (tgt := 52) dX13_singer_28 (by decide) (fun c6 => ?_) (fun c6 => ?_)
      · have hf := z_if_t hf c6
        refine z_iconst dX13_singer_52 kc_0 ?_
        cases hf
        exact z_iret hk ⟨_, rfl, rfl⟩ dX13_singer_53
      · have hf := z_if_f hf c6
        refine z_iload dX13_singer_31 rfl ?_
        refine z_iconst dX13_singer_33 kc_0 ?_
        refine z_iconst dX13_singer_34 kc_3 ?_
        obtain ⟨q7, hq7, hf⟩ := z_b_el hf
        refine y_cSi (Nat.le_trans (Nat.le_of_ble_eq_true rfl) hd) (wX13_in (z_dl rfl hd) hq7) oX13_in lmX13_114 sX13_in _ rfl rfl (Nat.le_of_ble_eq_true rfl) dX13_singer_35 ?_
        refine z_if_eq (tgt := 52) dX13_singer_38 (by decide) (fun c8 => ?_) (fun c8 => ?_)
        · have hf := z_if_t hf c8
          refine z_iconst dX13_singer_52 kc_0 ?_
          cases hf
          exact z_iret hk ⟨_, rfl, rfl⟩ dX13_singer_53
        · have hf := z_if_f hf c8
          refine z_iload dX13_singer_41 rfl ?_
          refine z_iconst dX13_singer_43 kc_1 ?_
          refine z_bipush dX13_singer_44 kb_20 ?_
          obtain ⟨q9, hq9, hf⟩ := z_b_el hf
          refine y_cSi (Nat.le_trans (Nat.le_of_ble_eq_true rfl) hd) (wX13_in (z_dl rfl hd) hq9) oX13_in lmX13_114 sX13_in _ rfl rfl (Nat.le_of_ble_eq_true rfl) dX13_singer_46 ?_
          refine z_if_ne (tgt := 54) dX13_singer_49 (by decide) (fun c10 => ?_) (fun c10 => ?_)
          · have hf := z_if_f hf c10
            refine z_aload_n dX13_singer_54 rfl rfl (z_okl g_a0) ?_
            refine y_getR lfX13_7 rfl g_a0 dX13_singer_55 ?_
            refine z_iconst dX13_singer_58 kc_0 ?_
            refine z_iload_n dX13_singer_59 rfl rfl ?_
            refine z_iadd dX13_singer_60 ?_
            refine z_iconst dX13_singer_61 kc_1 ?_
            obtain ⟨g11, hf⟩ := z_g_el hf
            refine y_iast g11 dX13_singer_62 (fun I12 eI12 => ?_)
            have hf := z_l_el hf eI12
            refine z_aload_n dX13_singer_63 rfl rfl (z_okl g_a0) ?_
            refine y_getR lfX13_7 rfl g_a0 dX13_singer_64 ?_
            refine z_bipush dX13_singer_67 kb_8 ?_
            refine z_iload_n dX13_singer_69 rfl rfl ?_
            refine z_iadd dX13_singer_70 ?_
            refine z_iload_n dX13_singer_71 rfl rfl ?_
            obtain ⟨g13, hf⟩ := z_g_el hf
            refine y_iast g13 dX13_singer_72 (fun I14 eI14 => ?_)
            have hf := z_l_el hf eI14
            refine z_aload_n dX13_singer_73 rfl rfl (z_okl g_a0) ?_
            refine y_getR lfX13_7 rfl g_a0 dX13_singer_74 ?_
            refine z_bipush dX13_singer_77 kb_16 ?_
            refine z_iload_n dX13_singer_79 rfl rfl ?_
            refine z_iadd dX13_singer_80 ?_
            refine z_iload_n dX13_singer_81 rfl rfl ?_
            obtain ⟨g15, hf⟩ := z_g_el hf
            refine y_iast g15 dX13_singer_82 (fun I16 eI16 => ?_)
            have hf := z_l_el hf eI16
            refine z_aload_n dX13_singer_83 rfl rfl (z_okl g_a0) ?_
            refine y_getR lfX13_7 rfl g_a0 dX13_singer_84 ?_
            refine z_bipush dX13_singer_87 kb_24 ?_
            refine z_iload_n dX13_singer_89 rfl rfl ?_
            refine z_iadd dX13_singer_90 ?_
            refine z_iload dX13_singer_91 rfl ?_
            obtain ⟨g17, hf⟩ := z_g_el hf
            refine y_iast g17 dX13_singer_93 (fun I18 eI18 => ?_)
            have hf := z_l_el hf eI18
            refine z_aload_n dX13_singer_94 rfl rfl (z_okl g_a0) ?_
            refine y_getR lfX13_7 rfl g_a0 dX13_singer_95 ?_
            refine z_bipush dX13_singer_98 kb_32 ?_
            refine z_iload_n dX13_singer_100 rfl rfl ?_
            refine z_iadd dX13_singer_101 ?_
            refine z_iload dX13_singer_102 rfl ?_
            obtain ⟨g19, hf⟩ := z_g_el hf
            refine y_iast g19 dX13_singer_104 (fun I20 eI20 => ?_)
            have hf := z_l_el hf eI20
            refine z_aload_n dX13_singer_105 rfl rfl (z_okl g_a0) ?_
            refine z_iload_n dX13_singer_106 rfl rfl ?_
            obtain ⟨q21, hq21, hf⟩ := z_b_el hf
            refine y_cVv (av := [.int x1]) (Nat.le_trans (Nat.le_of_ble_eq_true rfl) hd) (wX13_begins (z_dl rfl hd) hq21) oX13_begins lmX13_122 iX13_begins g_a0 rfl _ rfl rfl (Nat.le_of_ble_eq_true rfl) dX13_singer_107 ?_
            refine z_iconst dX13_singer_110 kc_1 ?_
            cases hf
            exact z_iret hk ⟨_, rfl, rfl⟩ dX13_singer_111
          · have hf := z_if_t hf c10
            refine z_iconst dX13_singer_52 kc_0 ?_
            cases hf
            exact z_iret hk ⟨_, rfl, rfl⟩ dX13_singer_53
theorem wX13_singer {G : z_G} {d : Nat} {a0 : Nat} {x1 : Int32} {x2 : Int32} {x3 : Int32} {x4 : Int32} {x5 : Int32} {I : Nat → Nat → Int32} {R : Nat → Nat → Nat} {q : Int32 × (Nat → Nat → Int32)} (hd : 1 ≤ d) (hf : fX13_singer a0 x1 x2 x3 x4 x5 I R = some q) : z_M G d 0 0 eX13_singer [.ref a0, .int x1, .int x2, .int x3, .int x4, .int x5] z_SH (I, R) (z_E (some (.int q.1)) (q.2, R)) :=
  y_M_of _ (by decide +kernel) rfl rfl rfl (vX13_singer hd hf ⟨rfl, rfl, rfl⟩)
def fX13_ears (a0 : Nat) (x1 : Int32) (I : Nat → Nat → Int32) : Option (Int32 × (Nat → Nat → Int32)) :=
  z_g (z_ob a0 13) (z_b (fX13_in x1 (0 : Int32) (15 : Int32)) (fun q1 => if q1 = 0 then (some ((0 : Int32), I)) else (z_l (z_u I a0 3 x1) (fun I3 => some ((1 : Int32), I3)))))
theorem vX13_ears {G : z_G} {d : Nat} {Q : Option Value → z_S → z_H → Prop} {a0 : Nat} {x1 : Int32} {I : Nat → Nat → Int32} {R : Nat → Nat → Nat} {q : Int32 × (Nat → Nat → Int32)} (hd : 1 ≤ d) (hf : fX13_ears a0 x1 I = some q) (hk : Q (some (.int q.1)) z_SH (q.2, R)) : z_W G eX13_ears d 0 0 0 [some (.ref a0), some (.int x1)] [] z_SH (I, R) Q := by
  unfold fX13_ears at hf
  obtain ⟨g_a0, hf⟩ := z_g_el hf
  refine z_iload_n dX13_ears_0 rfl rfl ?_
  refine z_iconst dX13_ears_1 kc_0 ?_
  refine z_bipush dX13_ears_2 kb_15 ?_
  obtain ⟨q1, hq1, hf⟩ := z_b_el hf
  refine y_cSi (Nat.le_trans (Nat.le_of_ble_eq_true rfl) hd) (wX13_in (z_dl rfl hd) hq1) oX13_in lmX13_114 sX13_in _ rfl rfl (Nat.le_of_ble_eq_true rfl) dX13_ears_4 ?_
  refine z_if_ne (tgt := 12) dX13_ears_7 (by decide) (fun c2 => ?_) (fun c2 => ?_)
  · have hf := z_if_f hf c2
    refine z_aload_n dX13_ears_12 rfl rfl (z_okl g_a0) ?_
    refine z_iload_n dX13_ears_13 rfl rfl ?_
    refine y_putI lfX13_107 rfl g_a0 rfl rfl rfl dX13_ears_14 (fun I3 eI3 => ?_)
    have hf := z_l_el hf eI3
    refine z_iconst dX13_ears_17 kc_1 ?_
    cases hf
    exact z_iret hk ⟨_, rfl, rfl⟩ dX13_ears_18
  · have hf := z_if_t hf c2
    refine z_iconst dX13_ears_10 kc_0 ?_
    cases hf
    exact z_iret hk ⟨_, rfl, rfl⟩ dX13_ears_11
theorem wX13_ears {G : z_G} {d : Nat} {a0 : Nat} {x1 : Int32} {I : Nat → Nat → Int32} {R : Nat → Nat → Nat} {q : Int32 × (Nat → Nat → Int32)} (hd : 1 ≤ d) (hf : fX13_ears a0 x1 I = some q) : z_M G d 0 0 eX13_ears [.ref a0, .int x1] z_SH (I, R) (z_E (some (.int q.1)) (q.2, R)) :=
  y_M_of _ (by decide +kernel) rfl rfl rfl (vX13_ears hd hf ⟨rfl, rfl, rfl⟩)
def fX13_tempo (a0 : Nat) (x1 : Int32) (I : Nat → Nat → Int32) : Option (Int32 × (Nat → Nat → Int32)) :=
  z_g (z_ob a0 13) (z_b (fX13_in x1 (60 : Int32) (600 : Int32)) (fun q1 => if q1 = 0 then (some ((0 : Int32), I)) else (z_l (z_u I a0 4 x1) (fun I3 => some ((1 : Int32), I3)))))
theorem vX13_tempo {G : z_G} {d : Nat} {Q : Option Value → z_S → z_H → Prop} {a0 : Nat} {x1 : Int32} {I : Nat → Nat → Int32} {R : Nat → Nat → Nat} {q : Int32 × (Nat → Nat → Int32)} (hd : 1 ≤ d) (hf : fX13_tempo a0 x1 I = some q) (hk : Q (some (.int q.1)) z_SH (q.2, R)) : z_W G eX13_tempo d 0 0 0 [some (.ref a0), some (.int x1)] [] z_SH (I, R) Q := by
  unfold fX13_tempo at hf
  obtain ⟨g_a0, hf⟩ := z_g_el hf
  refine z_iload_n dX13_tempo_0 rfl rfl ?_
  refine z_bipush dX13_tempo_1 kb_60 ?_
  refine z_sipush dX13_tempo_3 ks_600 ?_
  obtain ⟨q1, hq1, hf⟩ := z_b_el hf
  refine y_cSi (Nat.le_trans (Nat.le_of_ble_eq_true rfl) hd) (wX13_in (z_dl rfl hd) hq1) oX13_in lmX13_114 sX13_in _ rfl rfl (Nat.le_of_ble_eq_true rfl) dX13_tempo_6 ?_
  refine z_if_ne (tgt := 14) dX13_tempo_9 (by decide) (fun c2 => ?_) (fun c2 => ?_)
  · have hf := z_if_f hf c2
    refine z_aload_n dX13_tempo_14 rfl rfl (z_okl g_a0) ?_
    refine z_iload_n dX13_tempo_15 rfl rfl ?_
    refine y_putI lfX13_111 rfl g_a0 rfl rfl rfl dX13_tempo_16 (fun I3 eI3 => ?_)
    have hf := z_l_el hf eI3
    refine z_iconst dX13_tempo_19 kc_1 ?_
    cases hf
    exact z_iret hk ⟨_, rfl, rfl⟩ dX13_tempo_20
  · have hf := z_if_t hf c2
    refine z_iconst dX13_tempo_12 kc_0 ?_
    cases hf
    exact z_iret hk ⟨_, rfl, rfl⟩ dX13_tempo_13
theorem wX13_tempo {G : z_G} {d : Nat} {a0 : Nat} {x1 : Int32} {I : Nat → Nat → Int32} {R : Nat → Nat → Nat} {q : Int32 × (Nat → Nat → Int32)} (hd : 1 ≤ d) (hf : fX13_tempo a0 x1 I = some q) : z_M G d 0 0 eX13_tempo [.ref a0, .int x1] z_SH (I, R) (z_E (some (.int q.1)) (q.2, R)) :=
  y_M_of _ (by decide +kernel) rfl rfl rfl (vX13_tempo hd hf ⟨rfl, rfl, rfl⟩)
def fX13_anew_b2 (a0 : Nat) (R : Nat → Nat → Nat) : (Int32 × (Nat → Nat → Int32)) → Option ((Int32 × (Nat → Nat → Int32)) ⊕ ((Nat → Nat → Int32))) :=
  fun s => (fun (p1 : Int32) (I : Nat → Nat → Int32) => if (8 : Int32) ≤ p1 then (some (.inr I)) else (z_b (fX13_isTold a0 p1 I R) (fun q2 => if q2 = 0 then (z_l (p1 + (1 : Int32)) (fun t4 => some (.inl (t4, I)))) else (z_b (fX13_begins a0 p1 I R) (fun q5 => z_l (p1 + (1 : Int32)) (fun t6 => some (.inl (t6, q5)))))))) s.1 s.2
theorem wX13_anew_b2 {G : z_G} {d : Nat} {Q : Option Value → z_S → z_H → Prop} {a0 : Nat} {R : Nat → Nat → Nat} (hd : 3 ≤ d) (g_a0 : z_ob a0 13) : ∀ (s : Int32 × (Nat → Nat → Int32)) (o : (Int32 × (Nat → Nat → Int32)) ⊕ ((Nat → Nat → Int32))), fX13_anew_b2 a0 R s = some o → z_or (fun s : Int32 × (Nat → Nat → Int32) => z_W G eX13_anew d 0 0 2 [some (.ref a0), some (.int s.1)] [] z_SH (s.2, R) Q) (fun x : (Nat → Nat → Int32) => z_W G eX13_anew d 0 0 27 [some (.ref a0), none] [] z_SH (x, R) Q) o → (fun s : Int32 × (Nat → Nat → Int32) => z_W G eX13_anew d 0 0 2 [some (.ref a0), some (.int s.1)] [] z_SH (s.2, R) Q) s := by
  rintro ⟨p1, I⟩ o hf hk
  show z_W G eX13_anew d 0 0 2 [some (.ref a0), some (.int p1)] [] z_SH (I, R) Q
  unfold fX13_anew_b2 at hf
  try dsimp only at hf
  refine z_iload_n dX13_anew_2 rfl rfl ?_
  refine z_bipush dX13_anew_3 kb_8 ?_
  refine z_icmp_ge (tgt := 27) dX13_anew_5 (by decide) (fun c1 => ?_) (fun c1 => ?_)
  · have hf := z_if_t hf c1
    cases hf
    exact y_sub hk (z_le_c rfl (z_le_n z_le_0))
  · have hf := z_if_f hf c1
    refine z_aload_n dX13_anew_8 rfl rfl (z_okl g_a0) ?_
    refine z_iload_n dX13_anew_9 rfl rfl ?_
    obtain ⟨q2, hq2, hf⟩ := z_b_el hf
    refine y_cVi (av := [.int p1]) (Nat.le_trans (Nat.le_of_ble_eq_true rfl) hd) (wX13_isTold (z_dl rfl hd) hq2) oX13_isTold lmX13_118 iX13_isTold g_a0 rfl _ rfl rfl (Nat.le_of_ble_eq_true rfl) dX13_anew_10 ?_
    refine z_if_eq (tgt := 21) dX13_anew_13 (by decide) (fun c3 => ?_) (fun c3 => ?_)
    · have hf := z_if_t hf c3
      refine y_iinc (fun t4 => [some (.ref a0), some (.int t4)]) dX13_anew_21 rfl kc_1 (by decide) (fun _ => rfl) (fun t4 et4 => ?_)
      have hf := z_l_el hf et4
      refine z_goto (tgt := 2) dX13_anew_24 (by decide) ?_
      cases hf
      exact y_sub hk (z_le_c rfl (z_le_c rfl z_le_0))
    · have hf := z_if_f hf c3
      refine z_aload_n dX13_anew_16 rfl rfl (z_okl g_a0) ?_
      refine z_iload_n dX13_anew_17 rfl rfl ?_
      obtain ⟨q5, hq5, hf⟩ := z_b_el hf
      refine y_cVv (av := [.int p1]) (Nat.le_trans (Nat.le_of_ble_eq_true rfl) hd) (wX13_begins (z_dl rfl hd) hq5) oX13_begins lmX13_122 iX13_begins g_a0 rfl _ rfl rfl (Nat.le_of_ble_eq_true rfl) dX13_anew_18 ?_
      refine y_iinc (fun t6 => [some (.ref a0), some (.int t6)]) dX13_anew_21 rfl kc_1 (by decide) (fun _ => rfl) (fun t6 et6 => ?_)
      have hf := z_l_el hf et6
      refine z_goto (tgt := 2) dX13_anew_24 (by decide) ?_
      cases hf
      exact y_sub hk (z_le_c rfl (z_le_c rfl z_le_0))
def fX13_anew (a0 : Nat) (I : Nat → Nat → Int32) (R : Nat → Nat → Nat) : Option (Int32 × (Nat → Nat → Int32)) :=
  z_g (z_ob a0 13) (z_b (z_lp (fX13_anew_b2 a0 R) 300 ((0 : Int32), I)) (fun q7 => z_b (fX13_toldSet a0 q7 R) (fun q8 => z_b (fX13_bits q8) (fun q9 => some (q9, q7)))))
theorem vX13_anew {G : z_G} {d : Nat} {Q : Option Value → z_S → z_H → Prop} {a0 : Nat} {I : Nat → Nat → Int32} {R : Nat → Nat → Nat} {q : Int32 × (Nat → Nat → Int32)} (hd : 3 ≤ d) (hf : fX13_anew a0 I R = some q) (hk : Q (some (.int q.1)) z_SH (q.2, R)) : z_W G eX13_anew d 0 0 0 [some (.ref a0), none] [] z_SH (I, R) Q := by
  unfold fX13_anew at hf
  obtain ⟨g_a0, hf⟩ := z_g_el hf
  refine z_iconst dX13_anew_0 kc_0 ?_
  refine y_istore_n0 [some (.ref a0), some (.int (0 : Int32))] dX13_anew_1 rfl (by decide) rfl ?_
  obtain ⟨q7, hq7, hf⟩ := z_b_el hf
  refine y_sub (lv' := [some (.ref a0), some (.int (0 : Int32))]) ?_ (z_le_c rfl (z_le_c rfl z_le_0))
  refine z_lp_el (P := (fun s : Int32 × (Nat → Nat → Int32) => z_W G eX13_anew d 0 0 2 [some (.ref a0), some (.int s.1)] [] z_SH (s.2, R) Q)) (E := (fun x : (Nat → Nat → Int32) => z_W G eX13_anew d 0 0 27 [some (.ref a0), none] [] z_SH (x, R) Q)) (wX13_anew_b2 hd g_a0) 300 ((0 : Int32), I) q7 hq7 ?_
  show z_W G eX13_anew d 0 0 27 [some (.ref a0), none] [] z_SH (q7, R) _
  refine z_aload_n dX13_anew_27 rfl rfl (z_okl g_a0) ?_
  obtain ⟨q8, hq8, hf⟩ := z_b_el hf
  refine y_cVi (av := []) (Nat.le_trans (Nat.le_of_ble_eq_true rfl) hd) (wX13_toldSet (z_dl rfl hd) hq8) oX13_toldSet lmX13_126 iX13_toldSet g_a0 rfl _ rfl rfl (Nat.le_of_ble_eq_true rfl) dX13_anew_28 ?_
  obtain ⟨q9, hq9, hf⟩ := z_b_el hf
  refine y_cSi (Nat.le_trans (Nat.le_of_ble_eq_true rfl) hd) (wX13_bits (z_dl rfl hd) hq9) oX13_bits lmX13_130 sX13_bits _ rfl rfl (Nat.le_of_ble_eq_true rfl) dX13_anew_31 ?_
  cases hf
  exact z_iret hk ⟨_, rfl, rfl⟩ dX13_anew_34
theorem wX13_anew {G : z_G} {d : Nat} {a0 : Nat} {I : Nat → Nat → Int32} {R : Nat → Nat → Nat} {q : Int32 × (Nat → Nat → Int32)} (hd : 3 ≤ d) (hf : fX13_anew a0 I R = some q) : z_M G d 0 0 eX13_anew [.ref a0] z_SH (I, R) (z_E (some (.int q.1)) (q.2, R)) :=
  y_M_of _ (by decide +kernel) rfl rfl rfl (vX13_anew hd hf ⟨rfl, rfl, rfl⟩)
def fX13_hears_j94 (a0 : Nat) (v0 : Int32) (v1 : Int32) (I : Nat → Nat → Int32) (R : Nat → Nat → Nat) : Option (Int32) :=
  z_b (fX13_has v0 v1) (fun q15 => if q15 = 0 then (some (1 : Int32)) else (some (0 : Int32)))
theorem wX13_hears_j94 {G : z_G} {d : Nat} {Q : Option Value → z_S → z_H → Prop} {a0 : Nat} {v0 : Int32} {v1 : Int32} {I : Nat → Nat → Int32} {R : Nat → Nat → Nat} {o : Int32} (hd : 2 ≤ d) (g_a0 : z_ob a0 13) (hf : fX13_hears_j94 a0 v0 v1 I R = some o) (hk : Q (some (.int o)) z_SH (I, R)) : z_W G eX13_hears d 0 0 94 [none, none, none, none, none] [.int v1, .int v0] z_SH (I, R) Q := by
  unfold fX13_hears_j94 at hf
  obtain ⟨q15, hq15, hf⟩ := z_b_el hf
  refine y_cSi (Nat.le_trans (Nat.le_of_ble_eq_true rfl) hd) (wX13_has (z_dl rfl hd) hq15) oX13_has lmX13_137 sX13_has _ rfl rfl (Nat.le_of_ble_eq_true rfl) dX13_hears_94 ?_
  refine z_if_ne (tgt := 104) dX13_hears_97 (by decide) (fun c16 => ?_) (fun c16 => ?_)
  · have hf := z_if_f hf c16
    refine z_iconst dX13_hears_104 kc_0 ?_
    cases hf
    exact z_iret hk ⟨_, rfl, rfl⟩ dX13_hears_105
  · have hf := z_if_t hf c16
    refine z_iconst dX13_hears_100 kc_1 ?_
    refine z_goto (tgt := 105) dX13_hears_101 (by decide) ?_
    cases hf
    exact z_iret hk ⟨_, rfl, rfl⟩ dX13_hears_105
def fX13_hears (a0 : Nat) (x1 : Int32) (x2 : Int32) (I : Nat → Nat → Int32) (R : Nat → Nat → Nat) : Option (Int32) :=
  z_g (z_ob a0 13) (if x1 = x2 then (some (0 : Int32)) else (z_b (fX13_isTold a0 x1 I R) (fun q2 => if q2 = 0 then (some (0 : Int32)) else (z_b (fX13_isTold a0 x2 I R) (fun q4 => if q4 = 0 then (some (0 : Int32)) else (z_g (z_ok 1 (R a0 0) ((16 : Int32) + x2)) (z_g (z_ok 1 (R a0 0) ((16 : Int32) + x1)) (z_l ((I (R a0 0) ((16 : Int32) + x2).toNatClampNeg) - (I (R a0 0) ((16 : Int32) + x1).toNatClampNeg)) (fun t8 => z_b (fX13_size t8) (fun q9 => if q9 ≤ (I a0 3) then (z_g (z_ok 1 (R a0 0) ((24 : Int32) + x1)) (z_l (I (R a0 0) ((24 : Int32) + x1).toNatClampNeg) (fun t12 => if t8 = 0 then (if t12 = (3 : Int32) then (some (0 : Int32)) else (some (1 : Int32))) else (if 0 ≤ t8 then (fX13_hears_j94 a0 t12 (1 : Int32) I R) else (fX13_hears_j94 a0 t12 (0 : Int32) I R))))) else (some (0 : Int32))))))))))))
set_option maxRecDepth 20000 in
theorem vX13_hears {G : z_G} {d : Nat} {Q : Option Value → z_S → z_H → Prop} {a0 : Nat} {x1 : Int32} {x2 : Int32} {I : Nat → Nat → Int32} {R : Nat → Nat → Nat} {q : Int32} (hd : 2 ≤ d) (hf : fX13_hears a0 x1 x2 I R = some q) (hk : Q (some (.int q)) z_SH (I, R)) : z_W G eX13_hears d 0 0 0 [some (.ref a0), some (.int x1), some (.int x2), none, none] [] z_SH (I, R) Q := by
  unfold fX13_hears at hf
  obtain ⟨g_a0, hf⟩ := z_g_el hf
  refine z_iload_n dX13_hears_0 rfl rfl ?_
  refine z_iload_n dX13_hears_1 rfl rfl ?_
  refine z_icmp_eq (tgt := 21) dX13_hears_2 (by decide) (fun c1 => ?_) (fun c1 => ?_)
  · have hf := z_if_t hf c1
    refine z_iconst dX13_hears_21 kc_0 ?_
    cases hf
    exact z_iret hk ⟨_, rfl, rfl⟩ dX13_hears_22
  · have hf := z_if_f hf c1
    refine z_aload_n dX13_hears_5 rfl rfl (z_okl g_a0) ?_
    refine z_iload_n dX13_hears_6 rfl rfl ?_
    obtain ⟨q2, hq2, hf⟩ := z_b_el hf
    refine y_cVi (av := [.int x1]) (Nat.le_trans (Nat.le_of_ble_eq_true rfl) hd) (wX13_isTold (z_dl rfl hd) hq2) oX13_isTold lmX13_118 iX13_isTold g_a0 rfl _ rfl rfl (Nat.le_of_ble_eq_true rfl) dX13_hears_7 ?_
    refine z_if_eq (tgt := 21) dX13_hears_10 (by decide) (fun c3 => ?_) (fun c3 => ?_)
    · have hf := z_if_t hf c3
      refine z_iconst dX13_hears_21 kc_0 ?_
      cases hf
      exact z_iret hk ⟨_, rfl, rfl⟩ dX13_hears_22
    · have hf := z_if_f hf c3
      refine z_aload_n dX13_hears_13 rfl rfl (z_okl g_a0) ?_
      refine z_iload_n dX13_hears_14 rfl rfl ?_
      obtain ⟨q4, hq4, hf⟩ := z_b_el hf
      refine y_cVi (av := [.int x2]) (Nat.le_trans (Nat.le_of_ble_eq_true rfl) hd) (wX13_isTold (z_dl rfl hd) hq4) oX13_isTold lmX13_118 iX13_isTold g_a0 rfl _ rfl rfl (Nat.le_of_ble_eq_true rfl) dX13_hears_15 ?_
      refine z_if_ne (tgt := 23) dX13_hears_18 (by decide) (fun c5 => ?_) (fun c5 => ?_)
      · have hf := z_if_f hf c5
        refine z_aload_n dX13_hears_23 rfl rfl (z_okl g_a0) ?_
        refine y_getR lfX13_7 rfl g_a0 dX13_hears_24 ?_
        refine z_bipush dX13_hears_27 kb_16 ?_
        refine z_iload_n dX13_hears_29 rfl rfl ?_
        refine z_iadd dX13_hears_30 ?_
        obtain ⟨g6, hf⟩ := z_g_el hf
        refine y_iald g6 dX13_hears_31 ?_
        refine z_aload_n dX13_hears_32 rfl rfl (z_okl g_a0) ?_
        refine y_getR lfX13_7 rfl g_a0 dX13_hears_33 ?_
        refine z_bipush dX13_hears_36 kb_16 ?_
        refine z_iload_n dX13_hears_38 rfl rfl ?_
        refine z_iadd dX13_hears_39 ?_
        obtain ⟨g7, hf⟩ := z_g_el hf
        refine y_iald g7 dX13_hears_40 ?_
        refine z_isub dX13_hears_41 ?_
        refine y_istore_n (fun t8 => [some (.ref a0), some (.int x1), some (.int x2), some (.int t8), none]) dX13_hears_42 rfl (by decide) (fun _ => rfl) (fun t8 et8 => ?_)
        have hf := z_l_el hf et8
        refine z_iload_n dX13_hears_43 rfl rfl ?_
        obtain ⟨q9, hq9, hf⟩ := z_b_el hf
        refine y_cSi (Nat.le_trans (Nat.le_of_ble_eq_true rfl) hd) (wX13_size (z_dl rfl hd) hq9) oX13_size lmX13_134 sX13_size _ rfl rfl (Nat.le_of_ble_eq_true rfl) dX13_hears_44 ?_
        refine z_aload_n dX13_hears_47 rfl rfl (z_okl g_a0) ?_
        refine y_getI lfX13_107 rfl g_a0 dX13_hears_48 ?_
        refine z_icmp_le (tgt := 56) dX13_hears_51 (by decide) (fun c10 => ?_) (fun c10 => ?_)
        · have hf := z_if_t hf c10
          refine z_aload_n dX13_hears_56 rfl rfl (z_okl g_a0) ?_
          refine y_getR lfX13_7 rfl g_a0 dX13_hears_57 ?_
          refine z_bipush dX13_hears_60 kb_24 ?_
          refine z_iload_n dX13_hears_62 rfl rfl ?_
          refine z_iadd dX13_hears_63 ?_
          obtain ⟨g11, hf⟩ := z_g_el hf
          refine y_iald g11 dX13_hears_64 ?_
          refine y_istore (fun t12 => [some (.ref a0), some (.int x1), some (.int x2), some (.int t8), some (.int t12)]) dX13_hears_65 (by decide) (fun _ => rfl) (fun t12 et12 => ?_)
          have hf := z_l_el hf et12
          refine z_iload_n dX13_hears_67 rfl rfl ?_
          refine z_if_ne (tgt := 83) dX13_hears_68 (by decide) (fun c13 => ?_) (fun c13 => ?_)
          · have hf := z_if_f hf c13
            refine z_iload dX13_hears_83 rfl ?_
            refine z_iload_n dX13_hears_85 rfl rfl ?_
            refine z_if_ge (tgt := 93) dX13_hears_86 (by decide) (fun c14 => ?_) (fun c14 => ?_)
            · have hf := z_if_t hf c14
              refine z_iconst dX13_hears_93 kc_1 ?_
              exact y_sub (wX13_hears_j94 hd g_a0 hf hk) (z_le_n (z_le_n (z_le_n (z_le_n (z_le_n z_le_0)))))
            · have hf := z_if_f hf c14
              refine z_iconst dX13_hears_89 kc_0 ?_
              refine z_goto (tgt := 94) dX13_hears_90 (by decide) ?_
              exact y_sub (wX13_hears_j94 hd g_a0 hf hk) (z_le_n (z_le_n (z_le_n (z_le_n (z_le_n z_le_0)))))
          · have hf := z_if_t hf c13
            refine z_iload dX13_hears_71 rfl ?_
            refine z_iconst dX13_hears_73 kc_3 ?_
            refine z_icmp_eq (tgt := 81) dX13_hears_74 (by decide) (fun c17 => ?_) (fun c17 => ?_)
            · have hf := z_if_t hf c17
              refine z_iconst dX13_hears_81 kc_0 ?_
              cases hf
              exact z_iret hk ⟨_, rfl, rfl⟩ dX13_hears_82
            · have hf := z_if_f hf c17
              refine z_iconst dX13_hears_77 kc_1 ?_
              refine z_goto (tgt := 82) dX13_hears_78 (by decide) ?_
              cases hf
              exact z_iret hk ⟨_, rfl, rfl⟩ dX13_hears_82
        · have hf := z_if_f hf c10
          refine z_iconst dX13_hears_54 kc_0 ?_
          cases hf
          exact z_iret hk ⟨_, rfl, rfl⟩ dX13_hears_55
      · have hf := z_if_t hf c5
        refine z_iconst dX13_hears_21 kc_0 ?_
        cases hf
        exact z_iret hk ⟨_, rfl, rfl⟩ dX13_hears_22
theorem wX13_hears {G : z_G} {d : Nat} {a0 : Nat} {x1 : Int32} {x2 : Int32} {I : Nat → Nat → Int32} {R : Nat → Nat → Nat} {q : Int32} (hd : 2 ≤ d) (hf : fX13_hears a0 x1 x2 I R = some q) : z_M G d 0 0 eX13_hears [.ref a0, .int x1, .int x2] z_SH (I, R) (z_E (some (.int q)) (I, R)) :=
  y_M_of _ (by decide +kernel) rfl rfl rfl (vX13_hears hd hf ⟨rfl, rfl, rfl⟩)
def fX13_heardBy_b4 (a0 : Nat) (z1 : Int32) (I : Nat → Nat → Int32) (R : Nat → Nat → Nat) : (Int32 × Int32) → Option ((Int32 × Int32) ⊕ (Int32)) :=
  fun s => (fun (p2 : Int32) (p3 : Int32) => if (8 : Int32) ≤ p3 then (some (.inr p2)) else (z_b (fX13_hears a0 z1 p3 I R) (fun q2 => if q2 = 0 then (z_l (p3 + (1 : Int32)) (fun t4 => some (.inl (p2, t4)))) else (z_l (p2 ||| (z_shl (1 : Int32) p3)) (fun t5 => z_l (p3 + (1 : Int32)) (fun t6 => some (.inl (t5, t6)))))))) s.1 s.2
theorem wX13_heardBy_b4 {G : z_G} {d : Nat} {Q : Option Value → z_S → z_H → Prop} {a0 : Nat} {z1 : Int32} {I : Nat → Nat → Int32} {R : Nat → Nat → Nat} (hd : 3 ≤ d) (g_a0 : z_ob a0 13) : ∀ (s : Int32 × Int32) (o : (Int32 × Int32) ⊕ (Int32)), fX13_heardBy_b4 a0 z1 I R s = some o → z_or (fun s : Int32 × Int32 => z_W G eX13_heardBy d 0 0 4 [some (.ref a0), some (.int z1), some (.int s.1), some (.int s.2)] [] z_SH (I, R) Q) (fun x : Int32 => z_W G eX13_heardBy d 0 0 31 [none, none, some (.int x), none] [] z_SH (I, R) Q) o → (fun s : Int32 × Int32 => z_W G eX13_heardBy d 0 0 4 [some (.ref a0), some (.int z1), some (.int s.1), some (.int s.2)] [] z_SH (I, R) Q) s := by
  rintro ⟨p2, p3⟩ o hf hk
  show z_W G eX13_heardBy d 0 0 4 [some (.ref a0), some (.int z1), some (.int p2), some (.int p3)] [] z_SH (I, R) Q
  unfold fX13_heardBy_b4 at hf
  try dsimp only at hf
  refine z_iload_n dX13_heardBy_4 rfl rfl ?_
  refine z_bipush dX13_heardBy_5 kb_8 ?_
  refine z_icmp_ge (tgt := 31) dX13_heardBy_7 (by decide) (fun c1 => ?_) (fun c1 => ?_)
  · have hf := z_if_t hf c1
    cases hf
    exact y_sub hk (z_le_n (z_le_n (z_le_c rfl (z_le_n z_le_0))))
  · have hf := z_if_f hf c1
    refine z_aload_n dX13_heardBy_10 rfl rfl (z_okl g_a0) ?_
    refine z_iload_n dX13_heardBy_11 rfl rfl ?_
    refine z_iload_n dX13_heardBy_12 rfl rfl ?_
    obtain ⟨q2, hq2, hf⟩ := z_b_el hf
    refine y_cVi (av := [.int z1, .int p3]) (Nat.le_trans (Nat.le_of_ble_eq_true rfl) hd) (wX13_hears (z_dl rfl hd) hq2) oX13_hears lmX13_141 iX13_hears g_a0 rfl _ rfl rfl (Nat.le_of_ble_eq_true rfl) dX13_heardBy_13 ?_
    refine z_if_eq (tgt := 25) dX13_heardBy_16 (by decide) (fun c3 => ?_) (fun c3 => ?_)
    · have hf := z_if_t hf c3
      refine y_iinc (fun t4 => [some (.ref a0), some (.int z1), some (.int p2), some (.int t4)]) dX13_heardBy_25 rfl kc_1 (by decide) (fun _ => rfl) (fun t4 et4 => ?_)
      have hf := z_l_el hf et4
      refine z_goto (tgt := 4) dX13_heardBy_28 (by decide) ?_
      cases hf
      exact y_sub hk (z_le_c rfl (z_le_c rfl (z_le_c rfl (z_le_c rfl z_le_0))))
    · have hf := z_if_f hf c3
      refine z_iload_n dX13_heardBy_19 rfl rfl ?_
      refine z_iconst dX13_heardBy_20 kc_1 ?_
      refine z_iload_n dX13_heardBy_21 rfl rfl ?_
      refine y_ishl dX13_heardBy_22 ?_
      refine z_ior dX13_heardBy_23 ?_
      refine y_istore_n (fun t5 => [some (.ref a0), some (.int z1), some (.int t5), some (.int p3)]) dX13_heardBy_24 rfl (by decide) (fun _ => rfl) (fun t5 et5 => ?_)
      have hf := z_l_el hf et5
      refine y_iinc (fun t6 => [some (.ref a0), some (.int z1), some (.int t5), some (.int t6)]) dX13_heardBy_25 rfl kc_1 (by decide) (fun _ => rfl) (fun t6 et6 => ?_)
      have hf := z_l_el hf et6
      refine z_goto (tgt := 4) dX13_heardBy_28 (by decide) ?_
      cases hf
      exact y_sub hk (z_le_c rfl (z_le_c rfl (z_le_c rfl (z_le_c rfl z_le_0))))
def fX13_heardBy (a0 : Nat) (x1 : Int32) (I : Nat → Nat → Int32) (R : Nat → Nat → Nat) : Option (Int32) :=
  z_g (z_ob a0 13) (z_b (z_lp (fX13_heardBy_b4 a0 x1 I R) 300 ((0 : Int32), (0 : Int32))) (fun q7 => some q7))
theorem vX13_heardBy {G : z_G} {d : Nat} {Q : Option Value → z_S → z_H → Prop} {a0 : Nat} {x1 : Int32} {I : Nat → Nat → Int32} {R : Nat → Nat → Nat} {q : Int32} (hd : 3 ≤ d) (hf : fX13_heardBy a0 x1 I R = some q) (hk : Q (some (.int q)) z_SH (I, R)) : z_W G eX13_heardBy d 0 0 0 [some (.ref a0), some (.int x1), none, none] [] z_SH (I, R) Q := by
  unfold fX13_heardBy at hf
  obtain ⟨g_a0, hf⟩ := z_g_el hf
  refine z_iconst dX13_heardBy_0 kc_0 ?_
  refine y_istore_n0 [some (.ref a0), some (.int x1), some (.int (0 : Int32)), none] dX13_heardBy_1 rfl (by decide) rfl ?_
  refine z_iconst dX13_heardBy_2 kc_0 ?_
  refine y_istore_n0 [some (.ref a0), some (.int x1), some (.int (0 : Int32)), some (.int (0 : Int32))] dX13_heardBy_3 rfl (by decide) rfl ?_
  obtain ⟨q7, hq7, hf⟩ := z_b_el hf
  refine y_sub (lv' := [some (.ref a0), some (.int x1), some (.int (0 : Int32)), some (.int (0 : Int32))]) ?_ (z_le_c rfl (z_le_c rfl (z_le_c rfl (z_le_c rfl z_le_0))))
  refine z_lp_el (P := (fun s : Int32 × Int32 => z_W G eX13_heardBy d 0 0 4 [some (.ref a0), some (.int x1), some (.int s.1), some (.int s.2)] [] z_SH (I, R) Q)) (E := (fun x : Int32 => z_W G eX13_heardBy d 0 0 31 [none, none, some (.int x), none] [] z_SH (I, R) Q)) (wX13_heardBy_b4 hd g_a0) 300 ((0 : Int32), (0 : Int32)) q7 hq7 ?_
  show z_W G eX13_heardBy d 0 0 31 [none, none, some (.int q7), none] [] z_SH (I, R) _
  refine z_iload_n dX13_heardBy_31 rfl rfl ?_
  cases hf
  exact z_iret hk ⟨_, rfl, rfl⟩ dX13_heardBy_32
theorem wX13_heardBy {G : z_G} {d : Nat} {a0 : Nat} {x1 : Int32} {I : Nat → Nat → Int32} {R : Nat → Nat → Nat} {q : Int32} (hd : 3 ≤ d) (hf : fX13_heardBy a0 x1 I R = some q) : z_M G d 0 0 eX13_heardBy [.ref a0, .int x1] z_SH (I, R) (z_E (some (.int q)) (I, R)) :=
  y_M_of _ (by decide +kernel) rfl rfl rfl (vX13_heardBy hd hf ⟨rfl, rfl, rfl⟩)
def fX13_types_b2 (a0 : Nat) (z1 : Int32) (R : Nat → Nat → Nat) : (Int32 × (Nat → Nat → Int32)) → Option ((Int32 × (Nat → Nat → Int32)) ⊕ ((Nat → Nat → Int32))) :=
  fun s => (fun (p2 : Int32) (I : Nat → Nat → Int32) => if p2 < 0 then (some (.inr I)) else (z_g (z_ok 2 (R a0 10) (I a0 11)) (z_l (z_u I (R a0 10) (I a0 11).toNatClampNeg (vp_nar .byte ((z_shr z1 ((8 : Int32) * p2)).toInt8.toInt32))) (fun I3 => z_l (z_u I3 a0 11 ((I3 a0 11) + (1 : Int32))) (fun I4 => z_l (p2 + (-1 : Int32)) (fun t5 => some (.inl (t5, I4)))))))) s.1 s.2
theorem wX13_types_b2 {G : z_G} {d : Nat} {Q : Option Value → z_S → z_H → Prop} {a0 : Nat} {z1 : Int32} {R : Nat → Nat → Nat} (hd : 0 ≤ d) (g_a0 : z_ob a0 13) : ∀ (s : Int32 × (Nat → Nat → Int32)) (o : (Int32 × (Nat → Nat → Int32)) ⊕ ((Nat → Nat → Int32))), fX13_types_b2 a0 z1 R s = some o → z_or (fun s : Int32 × (Nat → Nat → Int32) => z_W G eX13_types d 0 0 2 [some (.ref a0), some (.int z1), some (.int s.1)] [] z_SH (s.2, R) Q) (fun x : (Nat → Nat → Int32) => z_W G eX13_types d 0 0 38 [none, none, none] [] z_SH (x, R) Q) o → (fun s : Int32 × (Nat → Nat → Int32) => z_W G eX13_types d 0 0 2 [some (.ref a0), some (.int z1), some (.int s.1)] [] z_SH (s.2, R) Q) s := by
  rintro ⟨p2, I⟩ o hf hk
  show z_W G eX13_types d 0 0 2 [some (.ref a0), some (.int z1), some (.int p2)] [] z_SH (I, R) Q
  unfold fX13_types_b2 at hf
  try dsimp only at hf
  refine z_iload_n dX13_types_2 rfl rfl ?_
  refine z_if_lt (tgt := 38) dX13_types_3 (by decide) (fun c1 => ?_) (fun c1 => ?_)
  · have hf := z_if_t hf c1
    cases hf
    exact y_sub hk (z_le_n (z_le_n (z_le_n z_le_0)))
  · have hf := z_if_f hf c1
    refine z_aload_n dX13_types_6 rfl rfl (z_okl g_a0) ?_
    refine y_getR lfX13_34 rfl g_a0 dX13_types_7 ?_
    refine z_aload_n dX13_types_10 rfl rfl (z_okl g_a0) ?_
    refine y_getI lfX13_144 rfl g_a0 dX13_types_11 ?_
    refine z_iload_n dX13_types_14 rfl rfl ?_
    refine z_bipush dX13_types_15 kb_8 ?_
    refine z_iload_n dX13_types_17 rfl rfl ?_
    refine z_imul dX13_types_18 ?_
    refine y_ishr dX13_types_19 ?_
    refine z_i2b dX13_types_20 ?_
    obtain ⟨g2, hf⟩ := z_g_el hf
    refine y_bast g2 dX13_types_21 (fun I3 eI3 => ?_)
    have hf := z_l_el hf eI3
    refine z_aload_n dX13_types_22 rfl rfl (z_okl g_a0) ?_
    refine z_aload_n dX13_types_23 rfl rfl (z_okl g_a0) ?_
    refine y_getI lfX13_144 rfl g_a0 dX13_types_24 ?_
    refine z_iconst dX13_types_27 kc_1 ?_
    refine z_iadd dX13_types_28 ?_
    refine y_putI lfX13_144 rfl g_a0 rfl rfl rfl dX13_types_29 (fun I4 eI4 => ?_)
    have hf := z_l_el hf eI4
    refine y_iinc (fun t5 => [some (.ref a0), some (.int z1), some (.int t5)]) dX13_types_32 rfl kc_m1 (by decide) (fun _ => rfl) (fun t5 et5 => ?_)
    have hf := z_l_el hf et5
    refine z_goto (tgt := 2) dX13_types_35 (by decide) ?_
    cases hf
    exact y_sub hk (z_le_c rfl (z_le_c rfl (z_le_c rfl z_le_0)))
def fX13_types (a0 : Nat) (x1 : Int32) (I : Nat → Nat → Int32) (R : Nat → Nat → Nat) : Option ((Nat → Nat → Int32)) :=
  z_g (z_ob a0 13) (z_b (z_lp (fX13_types_b2 a0 x1 R) 300 ((3 : Int32), I)) (fun q6 => some q6))
theorem vX13_types {G : z_G} {d : Nat} {Q : Option Value → z_S → z_H → Prop} {a0 : Nat} {x1 : Int32} {I : Nat → Nat → Int32} {R : Nat → Nat → Nat} {q : (Nat → Nat → Int32)} (hd : 0 ≤ d) (hf : fX13_types a0 x1 I R = some q) (hk : Q none z_SH (q, R)) : z_W G eX13_types d 0 0 0 [some (.ref a0), some (.int x1), none] [] z_SH (I, R) Q := by
  unfold fX13_types at hf
  obtain ⟨g_a0, hf⟩ := z_g_el hf
  refine z_iconst dX13_types_0 kc_3 ?_
  refine y_istore_n0 [some (.ref a0), some (.int x1), some (.int (3 : Int32))] dX13_types_1 rfl (by decide) rfl ?_
  obtain ⟨q6, hq6, hf⟩ := z_b_el hf
  refine y_sub (lv' := [some (.ref a0), some (.int x1), some (.int (3 : Int32))]) ?_ (z_le_c rfl (z_le_c rfl (z_le_c rfl z_le_0)))
  refine z_lp_el (P := (fun s : Int32 × (Nat → Nat → Int32) => z_W G eX13_types d 0 0 2 [some (.ref a0), some (.int x1), some (.int s.1)] [] z_SH (s.2, R) Q)) (E := (fun x : (Nat → Nat → Int32) => z_W G eX13_types d 0 0 38 [none, none, none] [] z_SH (x, R) Q)) (wX13_types_b2 hd g_a0) 300 ((3 : Int32), I) q6 hq6 ?_
  show z_W G eX13_types d 0 0 38 [none, none, none] [] z_SH (q6, R) _
  cases hf
  exact z_vret hk rfl dX13_types_38
theorem wX13_types {G : z_G} {d : Nat} {a0 : Nat} {x1 : Int32} {I : Nat → Nat → Int32} {R : Nat → Nat → Nat} {q : (Nat → Nat → Int32)} (hd : 0 ≤ d) (hf : fX13_types a0 x1 I R = some q) : z_M G d 0 0 eX13_types [.ref a0, .int x1] z_SH (I, R) (z_E none (q, R)) :=
  y_M_of _ (by decide +kernel) rfl rfl rfl (vX13_types hd hf ⟨rfl, rfl, rfl⟩)
def fX13_feed (a0 : Nat) (x1 : Int32) (x2 : Int32) (x3 : Int32) (x4 : Int32) (x5 : Int32) (I : Nat → Nat → Int32) (R : Nat → Nat → Nat) : Option (Int32 × (Nat → Nat → Int32)) :=
  z_g (z_ob a0 13) (if ((I a0 11) + (20 : Int32)) ≤ (260 : Int32) then (z_b (fX13_types a0 x1 I R) (fun q2 => z_b (fX13_types a0 x2 q2 R) (fun q3 => z_b (fX13_types a0 x3 q3 R) (fun q4 => z_b (fX13_types a0 x4 q4 R) (fun q5 => z_b (fX13_types a0 x5 q5 R) (fun q6 => some (q6 a0 11, q6))))))) else (some ((-1 : Int32), I)))
theorem vX13_feed {G : z_G} {d : Nat} {Q : Option Value → z_S → z_H → Prop} {a0 : Nat} {x1 : Int32} {x2 : Int32} {x3 : Int32} {x4 : Int32} {x5 : Int32} {I : Nat → Nat → Int32} {R : Nat → Nat → Nat} {q : Int32 × (Nat → Nat → Int32)} (hd : 1 ≤ d) (hf : fX13_feed a0 x1 x2 x3 x4 x5 I R = some q) (hk : Q (some (.int q.1)) z_SH (q.2, R)) : z_W G eX13_feed d 0 0 0 [some (.ref a0), some (.int x1), some (.int x2), some (.int x3), some (.int x4), some (.int x5)] [] z_SH (I, R) Q := by
  unfold fX13_feed at hf
  obtain ⟨g_a0, hf⟩ := z_g_el hf
  refine z_aload_n dX13_feed_0 rfl rfl (z_okl g_a0) ?_
  refine y_getI lfX13_144 rfl g_a0 dX13_feed_1 ?_
  refine z_bipush dX13_feed_4 kb_20 ?_
  refine z_iadd dX13_feed_6 ?_
  refine z_sipush dX13_feed_7 ks_260 ?_
  refine z_icmp_le (tgt := 15) dX13_feed_10 (by decide) (fun c1 => ?_) (fun c1 => ?_)
  · have hf := z_if_t hf c1
    refine z_aload_n dX13_feed_15 rfl rfl (z_okl g_a0) ?_
    refine z_iload_n dX13_feed_16 rfl rfl ?_
    obtain ⟨q2, hq2, hf⟩ := z_b_el hf
    refine y_cVv (av := [.int x1]) (Nat.le_trans (Nat.le_of_ble_eq_true rfl) hd) (wX13_types (z_dl rfl hd) hq2) oX13_types lmX13_147 iX13_types g_a0 rfl _ rfl rfl (Nat.le_of_ble_eq_true rfl) dX13_feed_17 ?_
    refine z_aload_n dX13_feed_20 rfl rfl (z_okl g_a0) ?_
    refine z_iload_n dX13_feed_21 rfl rfl ?_
    obtain ⟨q3, hq3, hf⟩ := z_b_el hf
    refine y_cVv (av := [.int x2]) (Nat.le_trans (Nat.le_of_ble_eq_true rfl) hd) (wX13_types (z_dl rfl hd) hq3) oX13_types lmX13_147 iX13_types g_a0 rfl _ rfl rfl (Nat.le_of_ble_eq_true rfl) dX13_feed_22 ?_
    refine z_aload_n dX13_feed_25 rfl rfl (z_okl g_a0) ?_
    refine z_iload_n dX13_feed_26 rfl rfl ?_
    obtain ⟨q4, hq4, hf⟩ := z_b_el hf
    refine y_cVv (av := [.int x3]) (Nat.le_trans (Nat.le_of_ble_eq_true rfl) hd) (wX13_types (z_dl rfl hd) hq4) oX13_types lmX13_147 iX13_types g_a0 rfl _ rfl rfl (Nat.le_of_ble_eq_true rfl) dX13_feed_27 ?_
    refine z_aload_n dX13_feed_30 rfl rfl (z_okl g_a0) ?_
    refine z_iload dX13_feed_31 rfl ?_
    obtain ⟨q5, hq5, hf⟩ := z_b_el hf
    refine y_cVv (av := [.int x4]) (Nat.le_trans (Nat.le_of_ble_eq_true rfl) hd) (wX13_types (z_dl rfl hd) hq5) oX13_types lmX13_147 iX13_types g_a0 rfl _ rfl rfl (Nat.le_of_ble_eq_true rfl) dX13_feed_33 ?_
    refine z_aload_n dX13_feed_36 rfl rfl (z_okl g_a0) ?_
    refine z_iload dX13_feed_37 rfl ?_
    obtain ⟨q6, hq6, hf⟩ := z_b_el hf
    refine y_cVv (av := [.int x5]) (Nat.le_trans (Nat.le_of_ble_eq_true rfl) hd) (wX13_types (z_dl rfl hd) hq6) oX13_types lmX13_147 iX13_types g_a0 rfl _ rfl rfl (Nat.le_of_ble_eq_true rfl) dX13_feed_39 ?_
    refine z_aload_n dX13_feed_42 rfl rfl (z_okl g_a0) ?_
    refine y_getI lfX13_144 rfl g_a0 dX13_feed_43 ?_
    cases hf
    exact z_iret hk ⟨_, rfl, rfl⟩ dX13_feed_46
  · have hf := z_if_f hf c1
    refine z_iconst dX13_feed_13 kc_m1 ?_
    cases hf
    exact z_iret hk ⟨_, rfl, rfl⟩ dX13_feed_14
theorem wX13_feed {G : z_G} {d : Nat} {a0 : Nat} {x1 : Int32} {x2 : Int32} {x3 : Int32} {x4 : Int32} {x5 : Int32} {I : Nat → Nat → Int32} {R : Nat → Nat → Nat} {q : Int32 × (Nat → Nat → Int32)} (hd : 1 ≤ d) (hf : fX13_feed a0 x1 x2 x3 x4 x5 I R = some q) : z_M G d 0 0 eX13_feed [.ref a0, .int x1, .int x2, .int x3, .int x4, .int x5] z_SH (I, R) (z_E (some (.int q.1)) (q.2, R)) :=
  y_M_of _ (by decide +kernel) rfl rfl rfl (vX13_feed hd hf ⟨rfl, rfl, rfl⟩)
def fX13_octet (a0 : Nat) (x1 : Int32) (I : Nat → Nat → Int32) (R : Nat → Nat → Nat) : Option (Int32) :=
  z_g (z_ob a0 13) (z_g (z_ok 2 (R a0 10) x1) (some ((I (R a0 10) x1.toNatClampNeg) &&& (255 : Int32))))
theorem vX13_octet {G : z_G} {d : Nat} {Q : Option Value → z_S → z_H → Prop} {a0 : Nat} {x1 : Int32} {I : Nat → Nat → Int32} {R : Nat → Nat → Nat} {q : Int32} (hd : 0 ≤ d) (hf : fX13_octet a0 x1 I R = some q) (hk : Q (some (.int q)) z_SH (I, R)) : z_W G eX13_octet d 0 0 0 [some (.ref a0), some (.int x1)] [] z_SH (I, R) Q := by
  unfold fX13_octet at hf
  obtain ⟨g_a0, hf⟩ := z_g_el hf
  refine z_aload_n dX13_octet_0 rfl rfl (z_okl g_a0) ?_
  refine y_getR lfX13_34 rfl g_a0 dX13_octet_1 ?_
  refine z_iload_n dX13_octet_4 rfl rfl ?_
  obtain ⟨g1, hf⟩ := z_g_el hf
  refine y_bald g1 dX13_octet_5 ?_
  refine z_sipush dX13_octet_6 ks_255 ?_
  refine z_iand dX13_octet_9 ?_
  cases hf
  exact z_iret hk ⟨_, rfl, rfl⟩ dX13_octet_10
theorem wX13_octet {G : z_G} {d : Nat} {a0 : Nat} {x1 : Int32} {I : Nat → Nat → Int32} {R : Nat → Nat → Nat} {q : Int32} (hd : 0 ≤ d) (hf : fX13_octet a0 x1 I R = some q) : z_M G d 0 0 eX13_octet [.ref a0, .int x1] z_SH (I, R) (z_E (some (.int q)) (I, R)) :=
  y_M_of _ (by decide +kernel) rfl rfl rfl (vX13_octet hd hf ⟨rfl, rfl, rfl⟩)
def fX13_here (a0 : Nat) (I : Nat → Nat → Int32) (R : Nat → Nat → Nat) : Option (Int32) :=
  z_g (z_ob a0 13) (if (I a0 13) ≤ (I a0 12) then (some (-1 : Int32)) else (z_g (z_ok 2 (R a0 10) (I a0 12)) (some ((I (R a0 10) (I a0 12).toNatClampNeg) &&& (255 : Int32)))))
theorem vX13_here {G : z_G} {d : Nat} {Q : Option Value → z_S → z_H → Prop} {a0 : Nat} {I : Nat → Nat → Int32} {R : Nat → Nat → Nat} {q : Int32} (hd : 0 ≤ d) (hf : fX13_here a0 I R = some q) (hk : Q (some (.int q)) z_SH (I, R)) : z_W G eX13_here d 0 0 0 [some (.ref a0)] [] z_SH (I, R) Q := by
  unfold fX13_here at hf
  obtain ⟨g_a0, hf⟩ := z_g_el hf
  refine z_aload_n dX13_here_0 rfl rfl (z_okl g_a0) ?_
  refine y_getI lfX13_150 rfl g_a0 dX13_here_1 ?_
  refine z_aload_n dX13_here_4 rfl rfl (z_okl g_a0) ?_
  refine y_getI lfX13_153 rfl g_a0 dX13_here_5 ?_
  refine z_icmp_ge (tgt := 27) dX13_here_8 (by decide) (fun c1 => ?_) (fun c1 => ?_)
  · have hf := z_if_t hf c1
    refine z_iconst dX13_here_27 kc_m1 ?_
    cases hf
    exact z_iret hk ⟨_, rfl, rfl⟩ dX13_here_28
  · have hf := z_if_f hf c1
    refine z_aload_n dX13_here_11 rfl rfl (z_okl g_a0) ?_
    refine y_getR lfX13_34 rfl g_a0 dX13_here_12 ?_
    refine z_aload_n dX13_here_15 rfl rfl (z_okl g_a0) ?_
    refine y_getI lfX13_150 rfl g_a0 dX13_here_16 ?_
    obtain ⟨g2, hf⟩ := z_g_el hf
    refine y_bald g2 dX13_here_19 ?_
    refine z_sipush dX13_here_20 ks_255 ?_
    refine z_iand dX13_here_23 ?_
    refine z_goto (tgt := 28) dX13_here_24 (by decide) ?_
    cases hf
    exact z_iret hk ⟨_, rfl, rfl⟩ dX13_here_28
theorem wX13_here {G : z_G} {d : Nat} {a0 : Nat} {I : Nat → Nat → Int32} {R : Nat → Nat → Nat} {q : Int32} (hd : 0 ≤ d) (hf : fX13_here a0 I R = some q) : z_M G d 0 0 eX13_here [.ref a0] z_SH (I, R) (z_E (some (.int q)) (I, R)) :=
  y_M_of _ (by decide +kernel) rfl rfl rfl (vX13_here hd hf ⟨rfl, rfl, rfl⟩)
def fX13_isDigit (a0 : Nat) (I : Nat → Nat → Int32) (R : Nat → Nat → Nat) : Option (Int32) :=
  z_g (z_ob a0 13) (z_b (fX13_here a0 I R) (fun q1 => if q1 < (48 : Int32) then (some (0 : Int32)) else (z_b (fX13_here a0 I R) (fun q3 => if (57 : Int32) < q3 then (some (0 : Int32)) else (some (1 : Int32))))))
theorem vX13_isDigit {G : z_G} {d : Nat} {Q : Option Value → z_S → z_H → Prop} {a0 : Nat} {I : Nat → Nat → Int32} {R : Nat → Nat → Nat} {q : Int32} (hd : 1 ≤ d) (hf : fX13_isDigit a0 I R = some q) (hk : Q (some (.int q)) z_SH (I, R)) : z_W G eX13_isDigit d 0 0 0 [some (.ref a0)] [] z_SH (I, R) Q := by
  unfold fX13_isDigit at hf
  obtain ⟨g_a0, hf⟩ := z_g_el hf
  refine z_aload_n dX13_isDigit_0 rfl rfl (z_okl g_a0) ?_
  obtain ⟨q1, hq1, hf⟩ := z_b_el hf
  refine y_cVi (av := []) (Nat.le_trans (Nat.le_of_ble_eq_true rfl) hd) (wX13_here (z_dl rfl hd) hq1) oX13_here lmX13_156 iX13_here g_a0 rfl _ rfl rfl (Nat.le_of_ble_eq_true rfl) dX13_isDigit_1 ?_
  refine z_bipush dX13_isDigit_4 kb_48 ?_
  refine z_icmp_lt (tgt := 22) dX13_isDigit_6 (by decide) (fun c2 => ?_) (fun c2 => ?_)
  · have hf := z_if_t hf c2
    refine z_iconst dX13_isDigit_22 kc_0 ?_
    cases hf
    exact z_iret hk ⟨_, rfl, rfl⟩ dX13_isDigit_23
  · have hf := z_if_f hf c2
    refine z_aload_n dX13_isDigit_9 rfl rfl (z_okl g_a0) ?_
    obtain ⟨q3, hq3, hf⟩ := z_b_el hf
    refine y_cVi (av := []) (Nat.le_trans (Nat.le_of_ble_eq_true rfl) hd) (wX13_here (z_dl rfl hd) hq3) oX13_here lmX13_156 iX13_here g_a0 rfl _ rfl rfl (Nat.le_of_ble_eq_true rfl) dX13_isDigit_10 ?_
    refine z_bipush dX13_isDigit_13 kb_57 ?_
    refine z_icmp_gt (tgt := 22) dX13_isDigit_15 (by decide) (fun c4 => ?_) (fun c4 => ?_)
    · have hf := z_if_t hf c4
      refine z_iconst dX13_isDigit_22 kc_0 ?_
      cases hf
      exact z_iret hk ⟨_, rfl, rfl⟩ dX13_isDigit_23
    · have hf := z_if_f hf c4
      refine z_iconst dX13_isDigit_18 kc_1 ?_
      refine z_goto (tgt := 23) dX13_isDigit_19 (by decide) ?_
      cases hf
      exact z_iret hk ⟨_, rfl, rfl⟩ dX13_isDigit_23
theorem wX13_isDigit {G : z_G} {d : Nat} {a0 : Nat} {I : Nat → Nat → Int32} {R : Nat → Nat → Nat} {q : Int32} (hd : 1 ≤ d) (hf : fX13_isDigit a0 I R = some q) : z_M G d 0 0 eX13_isDigit [.ref a0] z_SH (I, R) (z_E (some (.int q)) (I, R)) :=
  y_M_of _ (by decide +kernel) rfl rfl rfl (vX13_isDigit hd hf ⟨rfl, rfl, rfl⟩)
def fX13_wrongAt (a0 : Nat) (x1 : Int32) (x2 : Int32) (I : Nat → Nat → Int32) : Option (Int32 × (Nat → Nat → Int32)) :=
  z_g (z_ob a0 13) (z_l (z_u I a0 14 (((-1000 : Int32) * x1) - x2)) (fun I1 => some ((0 : Int32), I1)))
theorem vX13_wrongAt {G : z_G} {d : Nat} {Q : Option Value → z_S → z_H → Prop} {a0 : Nat} {x1 : Int32} {x2 : Int32} {I : Nat → Nat → Int32} {R : Nat → Nat → Nat} {q : Int32 × (Nat → Nat → Int32)} (hd : 0 ≤ d) (hf : fX13_wrongAt a0 x1 x2 I = some q) (hk : Q (some (.int q.1)) z_SH (q.2, R)) : z_W G eX13_wrongAt d 0 0 0 [some (.ref a0), some (.int x1), some (.int x2)] [] z_SH (I, R) Q := by
  unfold fX13_wrongAt at hf
  obtain ⟨g_a0, hf⟩ := z_g_el hf
  refine z_aload_n dX13_wrongAt_0 rfl rfl (z_okl g_a0) ?_
  refine z_sipush dX13_wrongAt_1 ks_m1000 ?_
  refine z_iload_n dX13_wrongAt_4 rfl rfl ?_
  refine z_imul dX13_wrongAt_5 ?_
  refine z_iload_n dX13_wrongAt_6 rfl rfl ?_
  refine z_isub dX13_wrongAt_7 ?_
  refine y_putI lfX13_159 rfl g_a0 rfl rfl rfl dX13_wrongAt_8 (fun I1 eI1 => ?_)
  have hf := z_l_el hf eI1
  refine z_iconst dX13_wrongAt_11 kc_0 ?_
  cases hf
  exact z_iret hk ⟨_, rfl, rfl⟩ dX13_wrongAt_12
theorem wX13_wrongAt {G : z_G} {d : Nat} {a0 : Nat} {x1 : Int32} {x2 : Int32} {I : Nat → Nat → Int32} {R : Nat → Nat → Nat} {q : Int32 × (Nat → Nat → Int32)} (hd : 0 ≤ d) (hf : fX13_wrongAt a0 x1 x2 I = some q) : z_M G d 0 0 eX13_wrongAt [.ref a0, .int x1, .int x2] z_SH (I, R) (z_E (some (.int q.1)) (q.2, R)) :=
  y_M_of _ (by decide +kernel) rfl rfl rfl (vX13_wrongAt hd hf ⟨rfl, rfl, rfl⟩)
def fX13_takes (a0 : Nat) (x1 : Int32) (I : Nat → Nat → Int32) (R : Nat → Nat → Nat) : Option (Int32 × (Nat → Nat → Int32)) :=
  z_g (z_ob a0 13) (z_b (fX13_here a0 I R) (fun q1 => if q1 = x1 then (z_l (z_u I a0 12 ((I a0 12) + (1 : Int32))) (fun I3 => some ((1 : Int32), I3))) else (z_b (fX13_wrongAt a0 (1 : Int32) (I a0 12) I) (fun q4 => z_g (q4.1 = 0 ∨ q4.1 = 1) (some (q4.1, q4.2))))))
theorem vX13_takes {G : z_G} {d : Nat} {Q : Option Value → z_S → z_H → Prop} {a0 : Nat} {x1 : Int32} {I : Nat → Nat → Int32} {R : Nat → Nat → Nat} {q : Int32 × (Nat → Nat → Int32)} (hd : 1 ≤ d) (hf : fX13_takes a0 x1 I R = some q) (hk : Q (some (.int q.1)) z_SH (q.2, R)) : z_W G eX13_takes d 0 0 0 [some (.ref a0), some (.int x1)] [] z_SH (I, R) Q := by
  unfold fX13_takes at hf
  obtain ⟨g_a0, hf⟩ := z_g_el hf
  refine z_aload_n dX13_takes_0 rfl rfl (z_okl g_a0) ?_
  obtain ⟨q1, hq1, hf⟩ := z_b_el hf
  refine y_cVi (av := []) (Nat.le_trans (Nat.le_of_ble_eq_true rfl) hd) (wX13_here (z_dl rfl hd) hq1) oX13_here lmX13_156 iX13_here g_a0 rfl _ rfl rfl (Nat.le_of_ble_eq_true rfl) dX13_takes_1 ?_
  refine z_iload_n dX13_takes_4 rfl rfl ?_
  refine z_icmp_eq (tgt := 18) dX13_takes_5 (by decide) (fun c2 => ?_) (fun c2 => ?_)
  · have hf := z_if_t hf c2
    refine z_aload_n dX13_takes_18 rfl rfl (z_okl g_a0) ?_
    refine z_aload_n dX13_takes_19 rfl rfl (z_okl g_a0) ?_
    refine y_getI lfX13_150 rfl g_a0 dX13_takes_20 ?_
    refine z_iconst dX13_takes_23 kc_1 ?_
    refine z_iadd dX13_takes_24 ?_
    refine y_putI lfX13_150 rfl g_a0 rfl rfl rfl dX13_takes_25 (fun I3 eI3 => ?_)
    have hf := z_l_el hf eI3
    refine z_iconst dX13_takes_28 kc_1 ?_
    cases hf
    exact z_iret hk ⟨_, rfl, rfl⟩ dX13_takes_29
  · have hf := z_if_f hf c2
    refine z_aload_n dX13_takes_8 rfl rfl (z_okl g_a0) ?_
    refine z_iconst dX13_takes_9 kc_1 ?_
    refine z_aload_n dX13_takes_10 rfl rfl (z_okl g_a0) ?_
    refine y_getI lfX13_150 rfl g_a0 dX13_takes_11 ?_
    obtain ⟨q4, hq4, hf⟩ := z_b_el hf
    refine y_cVi (av := [.int (1 : Int32), .int (I a0 12)]) (Nat.le_trans (Nat.le_of_ble_eq_true rfl) hd) (wX13_wrongAt (z_dl rfl hd) hq4) oX13_wrongAt lmX13_162 iX13_wrongAt g_a0 rfl _ rfl rfl (Nat.le_of_ble_eq_true rfl) dX13_takes_14 ?_
    obtain ⟨g5, hf⟩ := z_g_el hf
    cases hf
    exact z_iret hk ⟨_, rfl, z_bn g5⟩ dX13_takes_17
theorem wX13_takes {G : z_G} {d : Nat} {a0 : Nat} {x1 : Int32} {I : Nat → Nat → Int32} {R : Nat → Nat → Nat} {q : Int32 × (Nat → Nat → Int32)} (hd : 1 ≤ d) (hf : fX13_takes a0 x1 I R = some q) : z_M G d 0 0 eX13_takes [.ref a0, .int x1] z_SH (I, R) (z_E (some (.int q.1)) (q.2, R)) :=
  y_M_of _ (by decide +kernel) rfl rfl rfl (vX13_takes hd hf ⟨rfl, rfl, rfl⟩)
def fX13_readsNumber_b10 (a0 : Nat) (z1 : Int32) (R : Nat → Nat → Nat) : ((Nat → Nat → Int32)) → Option (((Nat → Nat → Int32)) ⊕ ((Int32 × (Nat → Nat → Int32)) ⊕ ((Nat → Nat → Int32)))) :=
  fun s => (fun (I : Nat → Nat → Int32) => z_b (fX13_isDigit a0 I R) (fun q3 => if q3 = 0 then (some (.inr (.inl ((1 : Int32), I)))) else (if (I a0 12) = (z1 + (5 : Int32)) then (some (.inr (.inr I))) else (z_b (fX13_here a0 I R) (fun q6 => z_l (z_u I a0 15 ((((10 : Int32) * (I a0 15)) + q6) - (48 : Int32))) (fun I7 => z_l (z_u I7 a0 12 ((I7 a0 12) + (1 : Int32))) (fun I8 => some (.inl I8)))))))) s
theorem wX13_readsNumber_b10 {G : z_G} {d : Nat} {Q : Option Value → z_S → z_H → Prop} {a0 : Nat} {z1 : Int32} {R : Nat → Nat → Nat} (hd : 2 ≤ d) (g_a0 : z_ob a0 13) : ∀ (s : (Nat → Nat → Int32)) (o : ((Nat → Nat → Int32)) ⊕ ((Int32 × (Nat → Nat → Int32)) ⊕ ((Nat → Nat → Int32)))), fX13_readsNumber_b10 a0 z1 R s = some o → z_or (fun s : (Nat → Nat → Int32) => z_W G eX13_readsNumber d 0 0 10 [some (.ref a0), some (.int z1)] [] z_SH (s, R) Q) (z_or (fun r : Int32 × (Nat → Nat → Int32) => Q (some (.int r.1)) z_SH (r.2, R)) (fun x : (Nat → Nat → Int32) => z_W G eX13_readsNumber d 0 0 27 [some (.ref a0), none] [] z_SH (x, R) Q)) o → (fun s : (Nat → Nat → Int32) => z_W G eX13_readsNumber d 0 0 10 [some (.ref a0), some (.int z1)] [] z_SH (s, R) Q) s := by
  intro I o hf hk
  show z_W G eX13_readsNumber d 0 0 10 [some (.ref a0), some (.int z1)] [] z_SH (I, R) Q
  unfold fX13_readsNumber_b10 at hf
  try dsimp only at hf
  refine z_aload_n dX13_readsNumber_10 rfl rfl (z_okl g_a0) ?_
  obtain ⟨q3, hq3, hf⟩ := z_b_el hf
  refine y_cVi (av := []) (Nat.le_trans (Nat.le_of_ble_eq_true rfl) hd) (wX13_isDigit (z_dl rfl hd) hq3) oX13_isDigit lmX13_168 iX13_isDigit g_a0 rfl _ rfl rfl (Nat.le_of_ble_eq_true rfl) dX13_readsNumber_11 ?_
  refine z_if_eq (tgt := 69) dX13_readsNumber_14 (by decide) (fun c4 => ?_) (fun c4 => ?_)
  · have hf := z_if_t hf c4
    refine z_iconst dX13_readsNumber_69 kc_1 ?_
    cases hf
    exact z_iret hk ⟨_, rfl, rfl⟩ dX13_readsNumber_70
  · have hf := z_if_f hf c4
    refine z_aload_n dX13_readsNumber_17 rfl rfl (z_okl g_a0) ?_
    refine y_getI lfX13_150 rfl g_a0 dX13_readsNumber_18 ?_
    refine z_iload_n dX13_readsNumber_21 rfl rfl ?_
    refine z_iconst dX13_readsNumber_22 kc_5 ?_
    refine z_iadd dX13_readsNumber_23 ?_
    refine z_icmp_ne (tgt := 37) dX13_readsNumber_24 (by decide) (fun c5 => ?_) (fun c5 => ?_)
    · have hf := z_if_f hf c5
      refine z_aload_n dX13_readsNumber_37 rfl rfl (z_okl g_a0) ?_
      refine z_bipush dX13_readsNumber_38 kb_10 ?_
      refine z_aload_n dX13_readsNumber_40 rfl rfl (z_okl g_a0) ?_
      refine y_getI lfX13_165 rfl g_a0 dX13_readsNumber_41 ?_
      refine z_imul dX13_readsNumber_44 ?_
      refine z_aload_n dX13_readsNumber_45 rfl rfl (z_okl g_a0) ?_
      obtain ⟨q6, hq6, hf⟩ := z_b_el hf
      refine y_cVi (av := []) (Nat.le_trans (Nat.le_of_ble_eq_true rfl) hd) (wX13_here (z_dl rfl hd) hq6) oX13_here lmX13_156 iX13_here g_a0 rfl _ rfl rfl (Nat.le_of_ble_eq_true rfl) dX13_readsNumber_46 ?_
      refine z_iadd dX13_readsNumber_49 ?_
      refine z_bipush dX13_readsNumber_50 kb_48 ?_
      refine z_isub dX13_readsNumber_52 ?_
      refine y_putI lfX13_165 rfl g_a0 rfl rfl rfl dX13_readsNumber_53 (fun I7 eI7 => ?_)
      have hf := z_l_el hf eI7
      refine z_aload_n dX13_readsNumber_56 rfl rfl (z_okl g_a0) ?_
      refine z_aload_n dX13_readsNumber_57 rfl rfl (z_okl g_a0) ?_
      refine y_getI lfX13_150 rfl g_a0 dX13_readsNumber_58 ?_
      refine z_iconst dX13_readsNumber_61 kc_1 ?_
      refine z_iadd dX13_readsNumber_62 ?_
      refine y_putI lfX13_150 rfl g_a0 rfl rfl rfl dX13_readsNumber_63 (fun I8 eI8 => ?_)
      have hf := z_l_el hf eI8
      refine z_goto (tgt := 10) dX13_readsNumber_66 (by decide) ?_
      cases hf
      exact y_sub hk (z_le_c rfl (z_le_c rfl z_le_0))
    · have hf := z_if_t hf c5
      cases hf
      exact y_sub hk (z_le_c rfl (z_le_n z_le_0))
def fX13_readsNumber (a0 : Nat) (I : Nat → Nat → Int32) (R : Nat → Nat → Nat) : Option (Int32 × (Nat → Nat → Int32)) :=
  z_g (z_ob a0 13) (z_l (I a0 12) (fun t1 => z_l (z_u I a0 15 (0 : Int32)) (fun I2 => z_b (z_lp (fX13_readsNumber_b10 a0 t1 R) 300 I2) (fun q9 => z_x q9 (fun q11 => some q11) (fun q10 => z_b (fX13_wrongAt a0 (2 : Int32) (q10 a0 12) q10) (fun q12 => z_g (q12.1 = 0 ∨ q12.1 = 1) (some (q12.1, q12.2))))))))
theorem vX13_readsNumber {G : z_G} {d : Nat} {Q : Option Value → z_S → z_H → Prop} {a0 : Nat} {I : Nat → Nat → Int32} {R : Nat → Nat → Nat} {q : Int32 × (Nat → Nat → Int32)} (hd : 2 ≤ d) (hf : fX13_readsNumber a0 I R = some q) (hk : Q (some (.int q.1)) z_SH (q.2, R)) : z_W G eX13_readsNumber d 0 0 0 [some (.ref a0), none] [] z_SH (I, R) Q := by
  unfold fX13_readsNumber at hf
  obtain ⟨g_a0, hf⟩ := z_g_el hf
  refine z_aload_n dX13_readsNumber_0 rfl rfl (z_okl g_a0) ?_
  refine y_getI lfX13_150 rfl g_a0 dX13_readsNumber_1 ?_
  refine y_istore_n (fun t1 => [some (.ref a0), some (.int t1)]) dX13_readsNumber_4 rfl (by decide) (fun _ => rfl) (fun t1 et1 => ?_)
  have hf := z_l_el hf et1
  refine z_aload_n dX13_readsNumber_5 rfl rfl (z_okl g_a0) ?_
  refine z_iconst dX13_readsNumber_6 kc_0 ?_
  refine y_putI lfX13_165 rfl g_a0 rfl rfl rfl dX13_readsNumber_7 (fun I2 eI2 => ?_)
  have hf := z_l_el hf eI2
  obtain ⟨q9, hq9, hf⟩ := z_b_el hf
  refine y_sub (lv' := [some (.ref a0), some (.int t1)]) ?_ (z_le_c rfl (z_le_c rfl z_le_0))
  refine z_lp_el (P := (fun s : (Nat → Nat → Int32) => z_W G eX13_readsNumber d 0 0 10 [some (.ref a0), some (.int t1)] [] z_SH (s, R) Q)) (E := (z_or (fun r : Int32 × (Nat → Nat → Int32) => Q (some (.int r.1)) z_SH (r.2, R)) (fun x : (Nat → Nat → Int32) => z_W G eX13_readsNumber d 0 0 27 [some (.ref a0), none] [] z_SH (x, R) Q))) (wX13_readsNumber_b10 hd g_a0) 300 I2 q9 hq9 ?_
  rcases q9 with q11 | q10
  · have hf := z_x_l hf
    cases hf
    exact hk
  · have hf := z_x_r hf
    show z_W G eX13_readsNumber d 0 0 27 [some (.ref a0), none] [] z_SH (q10, R) _
    refine z_aload_n dX13_readsNumber_27 rfl rfl (z_okl g_a0) ?_
    refine z_iconst dX13_readsNumber_28 kc_2 ?_
    refine z_aload_n dX13_readsNumber_29 rfl rfl (z_okl g_a0) ?_
    refine y_getI lfX13_150 rfl g_a0 dX13_readsNumber_30 ?_
    obtain ⟨q12, hq12, hf⟩ := z_b_el hf
    refine y_cVi (av := [.int (2 : Int32), .int (q10 a0 12)]) (Nat.le_trans (Nat.le_of_ble_eq_true rfl) hd) (wX13_wrongAt (z_dl rfl hd) hq12) oX13_wrongAt lmX13_162 iX13_wrongAt g_a0 rfl _ rfl rfl (Nat.le_of_ble_eq_true rfl) dX13_readsNumber_33 ?_
    obtain ⟨g13, hf⟩ := z_g_el hf
    cases hf
    exact z_iret hk ⟨_, rfl, z_bn g13⟩ dX13_readsNumber_36
theorem wX13_readsNumber {G : z_G} {d : Nat} {a0 : Nat} {I : Nat → Nat → Int32} {R : Nat → Nat → Nat} {q : Int32 × (Nat → Nat → Int32)} (hd : 2 ≤ d) (hf : fX13_readsNumber a0 I R = some q) : z_M G d 0 0 eX13_readsNumber [.ref a0] z_SH (I, R) (z_E (some (.int q.1)) (q.2, R)) :=
  y_M_of _ (by decide +kernel) rfl rfl rfl (vX13_readsNumber hd hf ⟨rfl, rfl, rfl⟩)
def fX13_notes (a0 : Nat) (x1 : Int32) (x2 : Int32) (I : Nat → Nat → Int32) (R : Nat → Nat → Nat) : Option ((Nat → Nat → Int32)) :=
  z_g (z_ob a0 13) (z_g (z_ok 1 (R a0 21) (I a0 17)) (z_l (z_u I (R a0 21) (I a0 17).toNatClampNeg (((1048576 : Int32) * x1) + x2)) (fun I2 => z_l (z_u I2 a0 17 ((I2 a0 17) + (1 : Int32))) (fun I3 => some I3))))
theorem vX13_notes {G : z_G} {d : Nat} {Q : Option Value → z_S → z_H → Prop} {a0 : Nat} {x1 : Int32} {x2 : Int32} {I : Nat → Nat → Int32} {R : Nat → Nat → Nat} {q : (Nat → Nat → Int32)} (hd : 0 ≤ d) (hf : fX13_notes a0 x1 x2 I R = some q) (hk : Q none z_SH (q, R)) : z_W G eX13_notes d 0 0 0 [some (.ref a0), some (.int x1), some (.int x2)] [] z_SH (I, R) Q := by
  unfold fX13_notes at hf
  obtain ⟨g_a0, hf⟩ := z_g_el hf
  refine z_aload_n dX13_notes_0 rfl rfl (z_okl g_a0) ?_
  refine y_getR lfX13_38 rfl g_a0 dX13_notes_1 ?_
  refine z_aload_n dX13_notes_4 rfl rfl (z_okl g_a0) ?_
  refine y_getI lfX13_172 rfl g_a0 dX13_notes_5 ?_
  refine z_ldc dX13_notes_8 lkX13_175 ?_
  refine z_iload_n dX13_notes_10 rfl rfl ?_
  refine z_imul dX13_notes_11 ?_
  refine z_iload_n dX13_notes_12 rfl rfl ?_
  refine z_iadd dX13_notes_13 ?_
  obtain ⟨g1, hf⟩ := z_g_el hf
  refine y_iast g1 dX13_notes_14 (fun I2 eI2 => ?_)
  have hf := z_l_el hf eI2
  refine z_aload_n dX13_notes_15 rfl rfl (z_okl g_a0) ?_
  refine z_aload_n dX13_notes_16 rfl rfl (z_okl g_a0) ?_
  refine y_getI lfX13_172 rfl g_a0 dX13_notes_17 ?_
  refine z_iconst dX13_notes_20 kc_1 ?_
  refine z_iadd dX13_notes_21 ?_
  refine y_putI lfX13_172 rfl g_a0 rfl rfl rfl dX13_notes_22 (fun I3 eI3 => ?_)
  have hf := z_l_el hf eI3
  cases hf
  exact z_vret hk rfl dX13_notes_25
theorem wX13_notes {G : z_G} {d : Nat} {a0 : Nat} {x1 : Int32} {x2 : Int32} {I : Nat → Nat → Int32} {R : Nat → Nat → Nat} {q : (Nat → Nat → Int32)} (hd : 0 ≤ d) (hf : fX13_notes a0 x1 x2 I R = some q) : z_M G d 0 0 eX13_notes [.ref a0, .int x1, .int x2] z_SH (I, R) (z_E none (q, R)) :=
  y_M_of _ (by decide +kernel) rfl rfl rfl (vX13_notes hd hf ⟨rfl, rfl, rfl⟩)
def fX13_opens (a0 : Nat) (x1 : Int32) (I : Nat → Nat → Int32) (R : Nat → Nat → Nat) : Option (Int32 × (Nat → Nat → Int32)) :=
  z_g (z_ob a0 13) (if (I a0 16) = (6 : Int32) then (z_b (fX13_wrongAt a0 (5 : Int32) (I a0 12) I) (fun q7 => z_g (q7.1 = 0 ∨ q7.1 = 1) (some (q7.1, q7.2)))) else (z_l (z_u I a0 16 ((I a0 16) + (1 : Int32))) (fun I2 => z_g (z_ok 1 (R a0 22) (I2 a0 18)) (z_l (z_u I2 (R a0 22) (I2 a0 18).toNatClampNeg ((1048576 : Int32) * x1)) (fun I4 => z_l (z_u I4 a0 18 ((I4 a0 18) + (1 : Int32))) (fun I5 => z_l (z_u I5 a0 12 ((I5 a0 12) + (1 : Int32))) (fun I6 => some ((1 : Int32), I6))))))))
theorem vX13_opens {G : z_G} {d : Nat} {Q : Option Value → z_S → z_H → Prop} {a0 : Nat} {x1 : Int32} {I : Nat → Nat → Int32} {R : Nat → Nat → Nat} {q : Int32 × (Nat → Nat → Int32)} (hd : 1 ≤ d) (hf : fX13_opens a0 x1 I R = some q) (hk : Q (some (.int q.1)) z_SH (q.2, R)) : z_W G eX13_opens d 0 0 0 [some (.ref a0), some (.int x1)] [] z_SH (I, R) Q := by
  unfold fX13_opens at hf
  obtain ⟨g_a0, hf⟩ := z_g_el hf
  refine z_aload_n dX13_opens_0 rfl rfl (z_okl g_a0) ?_
  refine y_getI lfX13_176 rfl g_a0 dX13_opens_1 ?_
  refine z_bipush dX13_opens_4 kb_6 ?_
  refine z_icmp_ne (tgt := 19) dX13_opens_6 (by decide) (fun c1 => ?_) (fun c1 => ?_)
  · have hf := z_if_f hf c1
    refine z_aload_n dX13_opens_19 rfl rfl (z_okl g_a0) ?_
    refine z_aload_n dX13_opens_20 rfl rfl (z_okl g_a0) ?_
    refine y_getI lfX13_176 rfl g_a0 dX13_opens_21 ?_
    refine z_iconst dX13_opens_24 kc_1 ?_
    refine z_iadd dX13_opens_25 ?_
    refine y_putI lfX13_176 rfl g_a0 rfl rfl rfl dX13_opens_26 (fun I2 eI2 => ?_)
    have hf := z_l_el hf eI2
    refine z_aload_n dX13_opens_29 rfl rfl (z_okl g_a0) ?_
    refine y_getR lfX13_41 rfl g_a0 dX13_opens_30 ?_
    refine z_aload_n dX13_opens_33 rfl rfl (z_okl g_a0) ?_
    refine y_getI lfX13_179 rfl g_a0 dX13_opens_34 ?_
    refine z_ldc dX13_opens_37 lkX13_175 ?_
    refine z_iload_n dX13_opens_39 rfl rfl ?_
    refine z_imul dX13_opens_40 ?_
    obtain ⟨g3, hf⟩ := z_g_el hf
    refine y_iast g3 dX13_opens_41 (fun I4 eI4 => ?_)
    have hf := z_l_el hf eI4
    refine z_aload_n dX13_opens_42 rfl rfl (z_okl g_a0) ?_
    refine z_aload_n dX13_opens_43 rfl rfl (z_okl g_a0) ?_
    refine y_getI lfX13_179 rfl g_a0 dX13_opens_44 ?_
    refine z_iconst dX13_opens_47 kc_1 ?_
    refine z_iadd dX13_opens_48 ?_
    refine y_putI lfX13_179 rfl g_a0 rfl rfl rfl dX13_opens_49 (fun I5 eI5 => ?_)
    have hf := z_l_el hf eI5
    refine z_aload_n dX13_opens_52 rfl rfl (z_okl g_a0) ?_
    refine z_aload_n dX13_opens_53 rfl rfl (z_okl g_a0) ?_
    refine y_getI lfX13_150 rfl g_a0 dX13_opens_54 ?_
    refine z_iconst dX13_opens_57 kc_1 ?_
    refine z_iadd dX13_opens_58 ?_
    refine y_putI lfX13_150 rfl g_a0 rfl rfl rfl dX13_opens_59 (fun I6 eI6 => ?_)
    have hf := z_l_el hf eI6
    refine z_iconst dX13_opens_62 kc_1 ?_
    cases hf
    exact z_iret hk ⟨_, rfl, rfl⟩ dX13_opens_63
  · have hf := z_if_t hf c1
    refine z_aload_n dX13_opens_9 rfl rfl (z_okl g_a0) ?_
    refine z_iconst dX13_opens_10 kc_5 ?_
    refine z_aload_n dX13_opens_11 rfl rfl (z_okl g_a0) ?_
    refine y_getI lfX13_150 rfl g_a0 dX13_opens_12 ?_
    obtain ⟨q7, hq7, hf⟩ := z_b_el hf
    refine y_cVi (av := [.int (5 : Int32), .int (I a0 12)]) (Nat.le_trans (Nat.le_of_ble_eq_true rfl) hd) (wX13_wrongAt (z_dl rfl hd) hq7) oX13_wrongAt lmX13_162 iX13_wrongAt g_a0 rfl _ rfl rfl (Nat.le_of_ble_eq_true rfl) dX13_opens_15 ?_
    obtain ⟨g8, hf⟩ := z_g_el hf
    cases hf
    exact z_iret hk ⟨_, rfl, z_bn g8⟩ dX13_opens_18
theorem wX13_opens {G : z_G} {d : Nat} {a0 : Nat} {x1 : Int32} {I : Nat → Nat → Int32} {R : Nat → Nat → Nat} {q : Int32 × (Nat → Nat → Int32)} (hd : 1 ≤ d) (hf : fX13_opens a0 x1 I R = some q) : z_M G d 0 0 eX13_opens [.ref a0, .int x1] z_SH (I, R) (z_E (some (.int q.1)) (q.2, R)) :=
  y_M_of _ (by decide +kernel) rfl rfl rfl (vX13_opens hd hf ⟨rfl, rfl, rfl⟩)
def fX13_waitTop (a0 : Nat) (I : Nat → Nat → Int32) (R : Nat → Nat → Nat) : Option (Int32) :=
  z_g (z_ob a0 13) (if (I a0 18) = 0 then (some (-1 : Int32)) else (z_g (z_ok 1 (R a0 22) ((I a0 18) - (1 : Int32))) (some ((I (R a0 22) ((I a0 18) - (1 : Int32)).toNatClampNeg) / (1048576 : Int32)))))
theorem vX13_waitTop {G : z_G} {d : Nat} {Q : Option Value → z_S → z_H → Prop} {a0 : Nat} {I : Nat → Nat → Int32} {R : Nat → Nat → Nat} {q : Int32} (hd : 0 ≤ d) (hf : fX13_waitTop a0 I R = some q) (hk : Q (some (.int q)) z_SH (I, R)) : z_W G eX13_waitTop d 0 0 0 [some (.ref a0)] [] z_SH (I, R) Q := by
  unfold fX13_waitTop at hf
  obtain ⟨g_a0, hf⟩ := z_g_el hf
  refine z_aload_n dX13_waitTop_0 rfl rfl (z_okl g_a0) ?_
  refine y_getI lfX13_179 rfl g_a0 dX13_waitTop_1 ?_
  refine z_if_ne (tgt := 11) dX13_waitTop_4 (by decide) (fun c1 => ?_) (fun c1 => ?_)
  · have hf := z_if_f hf c1
    refine z_aload_n dX13_waitTop_11 rfl rfl (z_okl g_a0) ?_
    refine y_getR lfX13_41 rfl g_a0 dX13_waitTop_12 ?_
    refine z_aload_n dX13_waitTop_15 rfl rfl (z_okl g_a0) ?_
    refine y_getI lfX13_179 rfl g_a0 dX13_waitTop_16 ?_
    refine z_iconst dX13_waitTop_19 kc_1 ?_
    refine z_isub dX13_waitTop_20 ?_
    obtain ⟨g2, hf⟩ := z_g_el hf
    refine y_iald g2 dX13_waitTop_21 ?_
    refine z_ldc dX13_waitTop_22 lkX13_175 ?_
    refine z_idiv dX13_waitTop_24 (by decide) ?_
    cases hf
    exact z_iret hk ⟨_, rfl, rfl⟩ dX13_waitTop_25
  · have hf := z_if_t hf c1
    refine z_iconst dX13_waitTop_7 kc_m1 ?_
    refine z_goto (tgt := 25) dX13_waitTop_8 (by decide) ?_
    cases hf
    exact z_iret hk ⟨_, rfl, rfl⟩ dX13_waitTop_25
theorem wX13_waitTop {G : z_G} {d : Nat} {a0 : Nat} {I : Nat → Nat → Int32} {R : Nat → Nat → Nat} {q : Int32} (hd : 0 ≤ d) (hf : fX13_waitTop a0 I R = some q) : z_M G d 0 0 eX13_waitTop [.ref a0] z_SH (I, R) (z_E (some (.int q)) (I, R)) :=
  y_M_of _ (by decide +kernel) rfl rfl rfl (vX13_waitTop hd hf ⟨rfl, rfl, rfl⟩)
def fX13_factOf (x0 : Int32) : Option (Int32) :=
  if x0 = (97 : Int32) then (some (3 : Int32)) else (if x0 = (98 : Int32) then (some (-1 : Int32)) else (if x0 = (99 : Int32) then (some (-1 : Int32)) else (if x0 = (100 : Int32) then (some (1 : Int32)) else (if x0 = (101 : Int32) then (some (-1 : Int32)) else (if x0 = (102 : Int32) then (some (-1 : Int32)) else (if x0 = (103 : Int32) then (some (-1 : Int32)) else (if x0 = (104 : Int32) then (some (-1 : Int32)) else (if x0 = (105 : Int32) then (some (-1 : Int32)) else (if x0 = (106 : Int32) then (some (-1 : Int32)) else (if x0 = (107 : Int32) then (some (6 : Int32)) else (if x0 = (108 : Int32) then (some (5 : Int32)) else (if x0 = (109 : Int32) then (some (-1 : Int32)) else (if x0 = (110 : Int32) then (some (4 : Int32)) else (if x0 = (111 : Int32) then (some (-1 : Int32)) else (if x0 = (112 : Int32) then (some (2 : Int32)) else (if x0 = (113 : Int32) then (some (-1 : Int32)) else (if x0 = (114 : Int32) then (some (-1 : Int32)) else (if x0 = (115 : Int32) then (some (0 : Int32)) else (if x0 = (116 : Int32) then (some (7 : Int32)) else (some (-1 : Int32)))))))))))))))))))))
theorem vX13_factOf {G : z_G} {d : Nat} {Q : Option Value → z_S → z_H → Prop} {x0 : Int32} {I : Nat → Nat → Int32} {R : Nat → Nat → Nat} {q : Int32} (hd : 0 ≤ d) (hf : fX13_factOf x0 = some q) (hk : Q (some (.int q)) z_SH (I, R)) : z_W G eX13_factOf d 0 0 0 [some (.int x0)] [] z_SH (I, R) Q := by
  unfold fX13_factOf at hf
  refine z_iload_n dX13_factOf_0 rfl rfl ?_
  by_cases c1 : x0 = (97 : Int32)
  · have hf := z_if_t hf c1
    refine z_tabIn (off := 101) (tgt := 102) dX13_factOf_1 (by rw [c1]; decide) (by rw [c1]; decide) (by rw [c1]; rfl) (by decide) ?_
    refine z_iconst dX13_factOf_102 kc_3 ?_
    cases hf
    exact z_iret hk ⟨_, rfl, rfl⟩ dX13_factOf_103
  · have hf := z_if_f hf c1
    by_cases c2 : x0 = (98 : Int32)
    · have hf := z_if_t hf c2
      refine z_tabIn (off := 113) (tgt := 114) dX13_factOf_1 (by rw [c2]; decide) (by rw [c2]; decide) (by rw [c2]; rfl) (by decide) ?_
      refine z_iconst dX13_factOf_114 kc_m1 ?_
      cases hf
      exact z_iret hk ⟨_, rfl, rfl⟩ dX13_factOf_115
    · have hf := z_if_f hf c2
      by_cases c3 : x0 = (99 : Int32)
      · have hf := z_if_t hf c3
        refine z_tabIn (off := 113) (tgt := 114) dX13_factOf_1 (by rw [c3]; decide) (by rw [c3]; decide) (by rw [c3]; rfl) (by decide) ?_
        refine z_iconst dX13_factOf_114 kc_m1 ?_
        cases hf
        exact z_iret hk ⟨_, rfl, rfl⟩ dX13_factOf_115
      · have hf := z_if_f hf c3
        by_cases c4 : x0 = (100 : Int32)
        · have hf := z_if_t hf c4
          refine z_tabIn (off := 97) (tgt := 98) dX13_factOf_1 (by rw [c4]; decide) (by rw [c4]; decide) (by rw [c4]; rfl) (by decide) ?_
          refine z_iconst dX13_factOf_98 kc_1 ?_
          cases hf
          exact z_iret hk ⟨_, rfl, rfl⟩ dX13_factOf_99
        · have hf := z_if_f hf c4
          by_cases c5 : x0 = (101 : Int32)
          · have hf := z_if_t hf c5
            refine z_tabIn (off := 113) (tgt := 114) dX13_factOf_1 (by rw [c5]; decide) (by rw [c5]; decide) (by rw [c5]; rfl) (by decide) ?_
            refine z_iconst dX13_factOf_114 kc_m1 ?_
            cases hf
            exact z_iret hk ⟨_, rfl, rfl⟩ dX13_factOf_115
          · have hf := z_if_f hf c5
            by_cases c6 : x0 = (102 : Int32)
            · have hf := z_if_t hf c6
              refine z_tabIn (off := 113) (tgt := 114) dX13_factOf_1 (by rw [c6]; decide) (by rw [c6]; decide) (by rw [c6]; rfl) (by decide) ?_
              refine z_iconst dX13_factOf_114 kc_m1 ?_
              cases hf
              exact z_iret hk ⟨_, rfl, rfl⟩ dX13_factOf_115
            · have hf := z_if_f hf c6
              by_cases c7 : x0 = (103 : Int32)
              · have hf := z_if_t hf c7
                refine z_tabIn (off := 113) (tgt := 114) dX13_factOf_1 (by rw [c7]; decide) (by rw [c7]; decide) (by rw [c7]; rfl) (by decide) ?_
                refine z_iconst dX13_factOf_114 kc_m1 ?_
                cases hf
                exact z_iret hk ⟨_, rfl, rfl⟩ dX13_factOf_115
              · have hf := z_if_f hf c7
                by_cases c8 : x0 = (104 : Int32)
                · have hf := z_if_t hf c8
                  refine z_tabIn (off := 113) (tgt := 114) dX13_factOf_1 (by rw [c8]; decide) (by rw [c8]; decide) (by rw [c8]; rfl) (by decide) ?_
                  refine z_iconst dX13_factOf_114 kc_m1 ?_
                  cases hf
                  exact z_iret hk ⟨_, rfl, rfl⟩ dX13_factOf_115
                · have hf := z_if_f hf c8
                  by_cases c9 : x0 = (105 : Int32)
                  · have hf := z_if_t hf c9
                    refine z_tabIn (off := 113) (tgt := 114) dX13_factOf_1 (by rw [c9]; decide) (by rw [c9]; decide) (by rw [c9]; rfl) (by decide) ?_
                    refine z_iconst dX13_factOf_114 kc_m1 ?_
                    cases hf
                    exact z_iret hk ⟨_, rfl, rfl⟩ dX13_factOf_115
                  · have hf := z_if_f hf c9
                    by_cases c10 : x0 = (106 : Int32)
                    · have hf := z_if_t hf c10
                      refine z_tabIn (off := 113) (tgt := 114) dX13_factOf_1 (by rw [c10]; decide) (by rw [c10]; decide) (by rw [c10]; rfl) (by decide) ?_
                      refine z_iconst dX13_factOf_114 kc_m1 ?_
                      cases hf
                      exact z_iret hk ⟨_, rfl, rfl⟩ dX13_factOf_115
                    · have hf := z_if_f hf c10
                      by_cases c11 : x0 = (107 : Int32)
                      · have hf := z_if_t hf c11
                        refine z_tabIn (off := 107) (tgt := 108) dX13_factOf_1 (by rw [c11]; decide) (by rw [c11]; decide) (by rw [c11]; rfl) (by decide) ?_
                        refine z_bipush dX13_factOf_108 kb_6 ?_
                        cases hf
                        exact z_iret hk ⟨_, rfl, rfl⟩ dX13_factOf_110
                      · have hf := z_if_f hf c11
                        by_cases c12 : x0 = (108 : Int32)
                        · have hf := z_if_t hf c12
                          refine z_tabIn (off := 105) (tgt := 106) dX13_factOf_1 (by rw [c12]; decide) (by rw [c12]; decide) (by rw [c12]; rfl) (by decide) ?_
                          refine z_iconst dX13_factOf_106 kc_5 ?_
                          cases hf
                          exact z_iret hk ⟨_, rfl, rfl⟩ dX13_factOf_107
                        · have hf := z_if_f hf c12
                          by_cases c13 : x0 = (109 : Int32)
                          · have hf := z_if_t hf c13
                            refine z_tabIn (off := 113) (tgt := 114) dX13_factOf_1 (by rw [c13]; decide) (by rw [c13]; decide) (by rw [c13]; rfl) (by decide) ?_
                            refine z_iconst dX13_factOf_114 kc_m1 ?_
                            cases hf
                            exact z_iret hk ⟨_, rfl, rfl⟩ dX13_factOf_115
                          · have hf := z_if_f hf c13
                            by_cases c14 : x0 = (110 : Int32)
                            · have hf := z_if_t hf c14
                              refine z_tabIn (off := 103) (tgt := 104) dX13_factOf_1 (by rw [c14]; decide) (by rw [c14]; decide) (by rw [c14]; rfl) (by decide) ?_
                              refine z_iconst dX13_factOf_104 kc_4 ?_
                              cases hf
                              exact z_iret hk ⟨_, rfl, rfl⟩ dX13_factOf_105
                            · have hf := z_if_f hf c14
                              by_cases c15 : x0 = (111 : Int32)
                              · have hf := z_if_t hf c15
                                refine z_tabIn (off := 113) (tgt := 114) dX13_factOf_1 (by rw [c15]; decide) (by rw [c15]; decide) (by rw [c15]; rfl) (by decide) ?_
                                refine z_iconst dX13_factOf_114 kc_m1 ?_
                                cases hf
                                exact z_iret hk ⟨_, rfl, rfl⟩ dX13_factOf_115
                              · have hf := z_if_f hf c15
                                by_cases c16 : x0 = (112 : Int32)
                                · have hf := z_if_t hf c16
                                  refine z_tabIn (off := 99) (tgt := 100) dX13_factOf_1 (by rw [c16]; decide) (by rw [c16]; decide) (by rw [c16]; rfl) (by decide) ?_
                                  refine z_iconst dX13_factOf_100 kc_2 ?_
                                  cases hf
                                  exact z_iret hk ⟨_, rfl, rfl⟩ dX13_factOf_101
                                · have hf := z_if_f hf c16
                                  by_cases c17 : x0 = (113 : Int32)
                                  · have hf := z_if_t hf c17
                                    refine z_tabIn (off := 113) (tgt := 114) dX13_factOf_1 (by rw [c17]; decide) (by rw [c17]; decide) (by rw [c17]; rfl) (by decide) ?_
                                    refine z_iconst dX13_factOf_114 kc_m1 ?_
                                    cases hf
                                    exact z_iret hk ⟨_, rfl, rfl⟩ dX13_factOf_115
                                  · have hf := z_if_f hf c17
                                    by_cases c18 : x0 = (114 : Int32)
                                    · have hf := z_if_t hf c18
                                      refine z_tabIn (off := 113) (tgt := 114) dX13_factOf_1 (by rw [c18]; decide) (by rw [c18]; decide) (by rw [c18]; rfl) (by decide) ?_
                                      refine z_iconst dX13_factOf_114 kc_m1 ?_
                                      cases hf
                                      exact z_iret hk ⟨_, rfl, rfl⟩ dX13_factOf_115
                                    · have hf := z_if_f hf c18
                                      by_cases c19 : x0 = (115 : Int32)
                                      · have hf := z_if_t hf c19
                                        refine z_tabIn (off := 95) (tgt := 96) dX13_factOf_1 (by rw [c19]; decide) (by rw [c19]; decide) (by rw [c19]; rfl) (by decide) ?_
                                        refine z_iconst dX13_factOf_96 kc_0 ?_
                                        cases hf
                                        exact z_iret hk ⟨_, rfl, rfl⟩ dX13_factOf_97
                                      · have hf := z_if_f hf c19
                                        by_cases c20 : x0 = (116 : Int32)
                                        · have hf := z_if_t hf c20
                                          refine z_tabIn (off := 110) (tgt := 111) dX13_factOf_1 (by rw [c20]; decide) (by rw [c20]; decide) (by rw [c20]; rfl) (by decide) ?_
                                          refine z_bipush dX13_factOf_111 kb_7 ?_
                                          cases hf
                                          exact z_iret hk ⟨_, rfl, rfl⟩ dX13_factOf_113
                                        · have hf := z_if_f hf c20
                                          have nc1 : ¬ (x0).toInt = 97 := z_toInt_ne c1
                                          have nc2 : ¬ (x0).toInt = 98 := z_toInt_ne c2
                                          have nc3 : ¬ (x0).toInt = 99 := z_toInt_ne c3
                                          have nc4 : ¬ (x0).toInt = 100 := z_toInt_ne c4
                                          have nc5 : ¬ (x0).toInt = 101 := z_toInt_ne c5
                                          have nc6 : ¬ (x0).toInt = 102 := z_toInt_ne c6
                                          have nc7 : ¬ (x0).toInt = 103 := z_toInt_ne c7
                                          have nc8 : ¬ (x0).toInt = 104 := z_toInt_ne c8
                                          have nc9 : ¬ (x0).toInt = 105 := z_toInt_ne c9
                                          have nc10 : ¬ (x0).toInt = 106 := z_toInt_ne c10
                                          have nc11 : ¬ (x0).toInt = 107 := z_toInt_ne c11
                                          have nc12 : ¬ (x0).toInt = 108 := z_toInt_ne c12
                                          have nc13 : ¬ (x0).toInt = 109 := z_toInt_ne c13
                                          have nc14 : ¬ (x0).toInt = 110 := z_toInt_ne c14
                                          have nc15 : ¬ (x0).toInt = 111 := z_toInt_ne c15
                                          have nc16 : ¬ (x0).toInt = 112 := z_toInt_ne c16
                                          have nc17 : ¬ (x0).toInt = 113 := z_toInt_ne c17
                                          have nc18 : ¬ (x0).toInt = 114 := z_toInt_ne c18
                                          have nc19 : ¬ (x0).toInt = 115 := z_toInt_ne c19
                                          have nc20 : ¬ (x0).toInt = 116 := z_toInt_ne c20
                                          refine z_tabOut (tgt := 114) dX13_factOf_1 (by omega) (by decide) ?_
                                          refine z_iconst dX13_factOf_114 kc_m1 ?_
                                          cases hf
                                          exact z_iret hk ⟨_, rfl, rfl⟩ dX13_factOf_115
theorem wX13_factOf {G : z_G} {d : Nat} {x0 : Int32} {I : Nat → Nat → Int32} {R : Nat → Nat → Nat} {q : Int32} (hd : 0 ≤ d) (hf : fX13_factOf x0 = some q) : z_M G d 0 0 eX13_factOf [.int x0] z_SH (I, R) (z_E (some (.int q)) (I, R)) :=
  y_M_of _ (by decide +kernel) rfl rfl rfl (vX13_factOf hd hf ⟨rfl, rfl, rfl⟩)
def fX13_sumSign (x0 : Int32) : Option (Int32) :=
  if x0 = (43 : Int32) then (some (2 : Int32)) else (if x0 = (45 : Int32) then (some (3 : Int32)) else (if x0 = (42 : Int32) then (some (4 : Int32)) else (if x0 = (47 : Int32) then (some (5 : Int32)) else (if x0 = (37 : Int32) then (some (6 : Int32)) else (some (-1 : Int32))))))
theorem vX13_sumSign {G : z_G} {d : Nat} {Q : Option Value → z_S → z_H → Prop} {x0 : Int32} {I : Nat → Nat → Int32} {R : Nat → Nat → Nat} {q : Int32} (hd : 0 ≤ d) (hf : fX13_sumSign x0 = some q) (hk : Q (some (.int q)) z_SH (I, R)) : z_W G eX13_sumSign d 0 0 0 [some (.int x0)] [] z_SH (I, R) Q := by
  unfold fX13_sumSign at hf
  refine z_iload_n dX13_sumSign_0 rfl rfl ?_
  refine z_bipush dX13_sumSign_1 kb_43 ?_
  refine z_icmp_ne (tgt := 10) dX13_sumSign_3 (by decide) (fun c1 => ?_) (fun c1 => ?_)
  · have hf := z_if_f hf c1
    refine z_iload_n dX13_sumSign_10 rfl rfl ?_
    refine z_bipush dX13_sumSign_11 kb_45 ?_
    refine z_icmp_ne (tgt := 20) dX13_sumSign_13 (by decide) (fun c2 => ?_) (fun c2 => ?_)
    · have hf := z_if_f hf c2
      refine z_iload_n dX13_sumSign_20 rfl rfl ?_
      refine z_bipush dX13_sumSign_21 kb_42 ?_
      refine z_icmp_ne (tgt := 30) dX13_sumSign_23 (by decide) (fun c3 => ?_) (fun c3 => ?_)
      · have hf := z_if_f hf c3
        refine z_iload_n dX13_sumSign_30 rfl rfl ?_
        refine z_bipush dX13_sumSign_31 kb_47 ?_
        refine z_icmp_ne (tgt := 40) dX13_sumSign_33 (by decide) (fun c4 => ?_) (fun c4 => ?_)
        · have hf := z_if_f hf c4
          refine z_iload_n dX13_sumSign_40 rfl rfl ?_
          refine z_bipush dX13_sumSign_41 kb_37 ?_
          refine z_icmp_ne (tgt := 51) dX13_sumSign_43 (by decide) (fun c5 => ?_) (fun c5 => ?_)
          · have hf := z_if_f hf c5
            refine z_iconst dX13_sumSign_51 kc_m1 ?_
            cases hf
            exact z_iret hk ⟨_, rfl, rfl⟩ dX13_sumSign_52
          · have hf := z_if_t hf c5
            refine z_bipush dX13_sumSign_46 kb_6 ?_
            refine z_goto (tgt := 52) dX13_sumSign_48 (by decide) ?_
            cases hf
            exact z_iret hk ⟨_, rfl, rfl⟩ dX13_sumSign_52
        · have hf := z_if_t hf c4
          refine z_iconst dX13_sumSign_36 kc_5 ?_
          refine z_goto (tgt := 52) dX13_sumSign_37 (by decide) ?_
          cases hf
          exact z_iret hk ⟨_, rfl, rfl⟩ dX13_sumSign_52
      · have hf := z_if_t hf c3
        refine z_iconst dX13_sumSign_26 kc_4 ?_
        refine z_goto (tgt := 52) dX13_sumSign_27 (by decide) ?_
        cases hf
        exact z_iret hk ⟨_, rfl, rfl⟩ dX13_sumSign_52
    · have hf := z_if_t hf c2
      refine z_iconst dX13_sumSign_16 kc_3 ?_
      refine z_goto (tgt := 52) dX13_sumSign_17 (by decide) ?_
      cases hf
      exact z_iret hk ⟨_, rfl, rfl⟩ dX13_sumSign_52
  · have hf := z_if_t hf c1
    refine z_iconst dX13_sumSign_6 kc_2 ?_
    refine z_goto (tgt := 52) dX13_sumSign_7 (by decide) ?_
    cases hf
    exact z_iret hk ⟨_, rfl, rfl⟩ dX13_sumSign_52
theorem wX13_sumSign {G : z_G} {d : Nat} {x0 : Int32} {I : Nat → Nat → Int32} {R : Nat → Nat → Nat} {q : Int32} (hd : 0 ≤ d) (hf : fX13_sumSign x0 = some q) : z_M G d 0 0 eX13_sumSign [.int x0] z_SH (I, R) (z_E (some (.int q)) (I, R)) :=
  y_M_of _ (by decide +kernel) rfl rfl rfl (vX13_sumSign hd hf ⟨rfl, rfl, rfl⟩)
def fX13_closesSums_j37_0 (a0 : Nat) (z1 : Int32) (I : Nat → Nat → Int32) (R : Nat → Nat → Nat) : Option (((Nat → Nat → Int32)) ⊕ ((Nat → Nat → Int32))) :=
  z_b (fX13_waitTop a0 I R) (fun q6 => z_b (fX13_notes a0 q6 (0 : Int32) I R) (fun q7 => z_l (z_u q7 a0 18 ((q7 a0 18) - (1 : Int32))) (fun I8 => some (.inl I8))))
theorem wX13_closesSums_j37_0 {G : z_G} {d : Nat} {Q : Option Value → z_S → z_H → Prop} {a0 : Nat} {z1 : Int32} {I : Nat → Nat → Int32} {R : Nat → Nat → Nat} {o : ((Nat → Nat → Int32)) ⊕ ((Nat → Nat → Int32))} (hd : 1 ≤ d) (g_a0 : z_ob a0 13) (hf : fX13_closesSums_j37_0 a0 z1 I R = some o) (hk : z_or (fun s : (Nat → Nat → Int32) => z_W G eX13_closesSums d 0 0 0 [some (.ref a0), some (.int z1)] [] z_SH (s, R) Q) (fun x : (Nat → Nat → Int32) => z_W G eX13_closesSums d 0 0 59 [none, none] [] z_SH (x, R) Q) o) : z_W G eX13_closesSums d 0 0 37 [some (.ref a0), some (.int z1)] [] z_SH (I, R) Q := by
  unfold fX13_closesSums_j37_0 at hf
  refine z_aload_n dX13_closesSums_37 rfl rfl (z_okl g_a0) ?_
  refine z_aload_n dX13_closesSums_38 rfl rfl (z_okl g_a0) ?_
  obtain ⟨q6, hq6, hf⟩ := z_b_el hf
  refine y_cVi (av := []) (Nat.le_trans (Nat.le_of_ble_eq_true rfl) hd) (wX13_waitTop (z_dl rfl hd) hq6) oX13_waitTop lmX13_182 iX13_waitTop g_a0 rfl _ rfl rfl (Nat.le_of_ble_eq_true rfl) dX13_closesSums_39 ?_
  refine z_iconst dX13_closesSums_42 kc_0 ?_
  obtain ⟨q7, hq7, hf⟩ := z_b_el hf
  refine y_cVv (av := [.int q6, .int (0 : Int32)]) (Nat.le_trans (Nat.le_of_ble_eq_true rfl) hd) (wX13_notes (z_dl rfl hd) hq7) oX13_notes lmX13_185 iX13_notes g_a0 rfl _ rfl rfl (Nat.le_of_ble_eq_true rfl) dX13_closesSums_43 ?_
  refine z_aload_n dX13_closesSums_46 rfl rfl (z_okl g_a0) ?_
  refine z_aload_n dX13_closesSums_47 rfl rfl (z_okl g_a0) ?_
  refine y_getI lfX13_179 rfl g_a0 dX13_closesSums_48 ?_
  refine z_iconst dX13_closesSums_51 kc_1 ?_
  refine z_isub dX13_closesSums_52 ?_
  refine y_putI lfX13_179 rfl g_a0 rfl rfl rfl dX13_closesSums_53 (fun I8 eI8 => ?_)
  have hf := z_l_el hf eI8
  refine z_goto (tgt := 0) dX13_closesSums_56 (by decide) ?_
  cases hf
  exact y_sub hk (z_le_c rfl (z_le_c rfl z_le_0))
def fX13_closesSums_j17_0 (a0 : Nat) (z1 : Int32) (I : Nat → Nat → Int32) (R : Nat → Nat → Nat) : Option (((Nat → Nat → Int32)) ⊕ ((Nat → Nat → Int32))) :=
  if z1 = 0 then (some (.inr I)) else (z_b (fX13_waitTop a0 I R) (fun q4 => if q4 = (2 : Int32) then (fX13_closesSums_j37_0 a0 z1 I R) else (z_b (fX13_waitTop a0 I R) (fun q9 => if q9 = (3 : Int32) then (fX13_closesSums_j37_0 a0 z1 I R) else (some (.inr I))))))
theorem wX13_closesSums_j17_0 {G : z_G} {d : Nat} {Q : Option Value → z_S → z_H → Prop} {a0 : Nat} {z1 : Int32} {I : Nat → Nat → Int32} {R : Nat → Nat → Nat} {o : ((Nat → Nat → Int32)) ⊕ ((Nat → Nat → Int32))} (hd : 1 ≤ d) (g_a0 : z_ob a0 13) (hf : fX13_closesSums_j17_0 a0 z1 I R = some o) (hk : z_or (fun s : (Nat → Nat → Int32) => z_W G eX13_closesSums d 0 0 0 [some (.ref a0), some (.int z1)] [] z_SH (s, R) Q) (fun x : (Nat → Nat → Int32) => z_W G eX13_closesSums d 0 0 59 [none, none] [] z_SH (x, R) Q) o) : z_W G eX13_closesSums d 0 0 17 [some (.ref a0), some (.int z1)] [] z_SH (I, R) Q := by
  unfold fX13_closesSums_j17_0 at hf
  refine z_iload_n dX13_closesSums_17 rfl rfl ?_
  refine z_if_eq (tgt := 59) dX13_closesSums_18 (by decide) (fun c3 => ?_) (fun c3 => ?_)
  · have hf := z_if_t hf c3
    cases hf
    exact y_sub hk (z_le_n (z_le_n z_le_0))
  · have hf := z_if_f hf c3
    refine z_aload_n dX13_closesSums_21 rfl rfl (z_okl g_a0) ?_
    obtain ⟨q4, hq4, hf⟩ := z_b_el hf
    refine y_cVi (av := []) (Nat.le_trans (Nat.le_of_ble_eq_true rfl) hd) (wX13_waitTop (z_dl rfl hd) hq4) oX13_waitTop lmX13_182 iX13_waitTop g_a0 rfl _ rfl rfl (Nat.le_of_ble_eq_true rfl) dX13_closesSums_22 ?_
    refine z_iconst dX13_closesSums_25 kc_2 ?_
    refine z_icmp_eq (tgt := 37) dX13_closesSums_26 (by decide) (fun c5 => ?_) (fun c5 => ?_)
    · have hf := z_if_t hf c5
      exact y_sub (wX13_closesSums_j37_0 hd g_a0 hf hk) (z_le_c rfl (z_le_c rfl z_le_0))
    · have hf := z_if_f hf c5
      refine z_aload_n dX13_closesSums_29 rfl rfl (z_okl g_a0) ?_
      obtain ⟨q9, hq9, hf⟩ := z_b_el hf
      refine y_cVi (av := []) (Nat.le_trans (Nat.le_of_ble_eq_true rfl) hd) (wX13_waitTop (z_dl rfl hd) hq9) oX13_waitTop lmX13_182 iX13_waitTop g_a0 rfl _ rfl rfl (Nat.le_of_ble_eq_true rfl) dX13_closesSums_30 ?_
      refine z_iconst dX13_closesSums_33 kc_3 ?_
      refine z_icmp_ne (tgt := 59) dX13_closesSums_34 (by decide) (fun c10 => ?_) (fun c10 => ?_)
      · have hf := z_if_f hf c10
        cases hf
        exact y_sub hk (z_le_n (z_le_n z_le_0))
      · have hf := z_if_t hf c10
        exact y_sub (wX13_closesSums_j37_0 hd g_a0 hf hk) (z_le_c rfl (z_le_c rfl z_le_0))
def fX13_closesSums_b0 (a0 : Nat) (z1 : Int32) (R : Nat → Nat → Nat) : ((Nat → Nat → Int32)) → Option (((Nat → Nat → Int32)) ⊕ ((Nat → Nat → Int32))) :=
  fun s => (fun (I : Nat → Nat → Int32) => z_b (fX13_waitTop a0 I R) (fun q1 => if q1 < (4 : Int32) then (fX13_closesSums_j17_0 a0 z1 I R) else (z_b (fX13_waitTop a0 I R) (fun q11 => if q11 ≤ (6 : Int32) then (fX13_closesSums_j37_0 a0 z1 I R) else (fX13_closesSums_j17_0 a0 z1 I R))))) s
theorem wX13_closesSums_b0 {G : z_G} {d : Nat} {Q : Option Value → z_S → z_H → Prop} {a0 : Nat} {z1 : Int32} {R : Nat → Nat → Nat} (hd : 1 ≤ d) (g_a0 : z_ob a0 13) : ∀ (s : (Nat → Nat → Int32)) (o : ((Nat → Nat → Int32)) ⊕ ((Nat → Nat → Int32))), fX13_closesSums_b0 a0 z1 R s = some o → z_or (fun s : (Nat → Nat → Int32) => z_W G eX13_closesSums d 0 0 0 [some (.ref a0), some (.int z1)] [] z_SH (s, R) Q) (fun x : (Nat → Nat → Int32) => z_W G eX13_closesSums d 0 0 59 [none, none] [] z_SH (x, R) Q) o → (fun s : (Nat → Nat → Int32) => z_W G eX13_closesSums d 0 0 0 [some (.ref a0), some (.int z1)] [] z_SH (s, R) Q) s := by
  intro I o hf hk
  show z_W G eX13_closesSums d 0 0 0 [some (.ref a0), some (.int z1)] [] z_SH (I, R) Q
  unfold fX13_closesSums_b0 at hf
  try dsimp only at hf
  refine z_aload_n dX13_closesSums_0 rfl rfl (z_okl g_a0) ?_
  obtain ⟨q1, hq1, hf⟩ := z_b_el hf
  refine y_cVi (av := []) (Nat.le_trans (Nat.le_of_ble_eq_true rfl) hd) (wX13_waitTop (z_dl rfl hd) hq1) oX13_waitTop lmX13_182 iX13_waitTop g_a0 rfl _ rfl rfl (Nat.le_of_ble_eq_true rfl) dX13_closesSums_1 ?_
  refine z_iconst dX13_closesSums_4 kc_4 ?_
  refine z_icmp_lt (tgt := 17) dX13_closesSums_5 (by decide) (fun c2 => ?_) (fun c2 => ?_)
  · have hf := z_if_t hf c2
    exact y_sub (wX13_closesSums_j17_0 hd g_a0 hf hk) (z_le_c rfl (z_le_c rfl z_le_0))
  · have hf := z_if_f hf c2
    refine z_aload_n dX13_closesSums_8 rfl rfl (z_okl g_a0) ?_
    obtain ⟨q11, hq11, hf⟩ := z_b_el hf
    refine y_cVi (av := []) (Nat.le_trans (Nat.le_of_ble_eq_true rfl) hd) (wX13_waitTop (z_dl rfl hd) hq11) oX13_waitTop lmX13_182 iX13_waitTop g_a0 rfl _ rfl rfl (Nat.le_of_ble_eq_true rfl) dX13_closesSums_9 ?_
    refine z_bipush dX13_closesSums_12 kb_6 ?_
    refine z_icmp_le (tgt := 37) dX13_closesSums_14 (by decide) (fun c12 => ?_) (fun c12 => ?_)
    · have hf := z_if_t hf c12
      exact y_sub (wX13_closesSums_j37_0 hd g_a0 hf hk) (z_le_c rfl (z_le_c rfl z_le_0))
    · have hf := z_if_f hf c12
      exact y_sub (wX13_closesSums_j17_0 hd g_a0 hf hk) (z_le_c rfl (z_le_c rfl z_le_0))
def fX13_closesSums (a0 : Nat) (x1 : Int32) (I : Nat → Nat → Int32) (R : Nat → Nat → Nat) : Option ((Nat → Nat → Int32)) :=
  z_g (z_ob a0 13) (z_b (z_lp (fX13_closesSums_b0 a0 x1 R) 300 I) (fun q13 => some q13))
theorem vX13_closesSums {G : z_G} {d : Nat} {Q : Option Value → z_S → z_H → Prop} {a0 : Nat} {x1 : Int32} {I : Nat → Nat → Int32} {R : Nat → Nat → Nat} {q : (Nat → Nat → Int32)} (hd : 1 ≤ d) (hf : fX13_closesSums a0 x1 I R = some q) (hk : Q none z_SH (q, R)) : z_W G eX13_closesSums d 0 0 0 [some (.ref a0), some (.int x1)] [] z_SH (I, R) Q := by
  unfold fX13_closesSums at hf
  obtain ⟨g_a0, hf⟩ := z_g_el hf
  obtain ⟨q13, hq13, hf⟩ := z_b_el hf
  refine y_sub (lv' := [some (.ref a0), some (.int x1)]) ?_ (z_le_c rfl (z_le_c rfl z_le_0))
  refine z_lp_el (P := (fun s : (Nat → Nat → Int32) => z_W G eX13_closesSums d 0 0 0 [some (.ref a0), some (.int x1)] [] z_SH (s, R) Q)) (E := (fun x : (Nat → Nat → Int32) => z_W G eX13_closesSums d 0 0 59 [none, none] [] z_SH (x, R) Q)) (wX13_closesSums_b0 hd g_a0) 300 I q13 hq13 ?_
  show z_W G eX13_closesSums d 0 0 59 [none, none] [] z_SH (q13, R) _
  cases hf
  exact z_vret hk rfl dX13_closesSums_59
theorem wX13_closesSums {G : z_G} {d : Nat} {a0 : Nat} {x1 : Int32} {I : Nat → Nat → Int32} {R : Nat → Nat → Nat} {q : (Nat → Nat → Int32)} (hd : 1 ≤ d) (hf : fX13_closesSums a0 x1 I R = some q) : z_M G d 0 0 eX13_closesSums [.ref a0, .int x1] z_SH (I, R) (z_E none (q, R)) :=
  y_M_of _ (by decide +kernel) rfl rfl rfl (vX13_closesSums hd hf ⟨rfl, rfl, rfl⟩)
def fX13_readsFactor_b0 (a0 : Nat) (R : Nat → Nat → Nat) : ((Nat → Nat → Int32)) → Option (((Nat → Nat → Int32)) ⊕ ((Int32 × (Nat → Nat → Int32)) ⊕ ((Nat → Nat → Int32)))) :=
  fun s => (fun (I : Nat → Nat → Int32) => z_b (fX13_here a0 I R) (fun q1 => if q1 = (91 : Int32) then (z_b (fX13_opens a0 (14 : Int32) I R) (fun q3 => if q3.1 = 0 then (some (.inr (.inl ((0 : Int32), q3.2)))) else (some (.inl q3.2)))) else (some (.inr (.inr I))))) s
theorem wX13_readsFactor_b0 {G : z_G} {d : Nat} {Q : Option Value → z_S → z_H → Prop} {a0 : Nat} {R : Nat → Nat → Nat} (hd : 3 ≤ d) (g_a0 : z_ob a0 13) : ∀ (s : (Nat → Nat → Int32)) (o : ((Nat → Nat → Int32)) ⊕ ((Int32 × (Nat → Nat → Int32)) ⊕ ((Nat → Nat → Int32)))), fX13_readsFactor_b0 a0 R s = some o → z_or (fun s : (Nat → Nat → Int32) => z_W G eX13_readsFactor d 0 0 0 [some (.ref a0), none] [] z_SH (s, R) Q) (z_or (fun r : Int32 × (Nat → Nat → Int32) => Q (some (.int r.1)) z_SH (r.2, R)) (fun x : (Nat → Nat → Int32) => z_W G eX13_readsFactor d 0 0 20 [some (.ref a0), none] [] z_SH (x, R) Q)) o → (fun s : (Nat → Nat → Int32) => z_W G eX13_readsFactor d 0 0 0 [some (.ref a0), none] [] z_SH (s, R) Q) s := by
  intro I o hf hk
  show z_W G eX13_readsFactor d 0 0 0 [some (.ref a0), none] [] z_SH (I, R) Q
  unfold fX13_readsFactor_b0 at hf
  try dsimp only at hf
  refine z_aload_n dX13_readsFactor_0 rfl rfl (z_okl g_a0) ?_
  obtain ⟨q1, hq1, hf⟩ := z_b_el hf
  refine y_cVi (av := []) (Nat.le_trans (Nat.le_of_ble_eq_true rfl) hd) (wX13_here (z_dl rfl hd) hq1) oX13_here lmX13_156 iX13_here g_a0 rfl _ rfl rfl (Nat.le_of_ble_eq_true rfl) dX13_readsFactor_1 ?_
  refine z_bipush dX13_readsFactor_4 kb_91 ?_
  refine z_icmp_ne (tgt := 20) dX13_readsFactor_6 (by decide) (fun c2 => ?_) (fun c2 => ?_)
  · have hf := z_if_f hf c2
    cases hf
    exact y_sub hk (z_le_c rfl (z_le_n z_le_0))
  · have hf := z_if_t hf c2
    refine z_aload_n dX13_readsFactor_9 rfl rfl (z_okl g_a0) ?_
    refine z_bipush dX13_readsFactor_10 kb_14 ?_
    obtain ⟨q3, hq3, hf⟩ := z_b_el hf
    refine y_cVi (av := [.int (14 : Int32)]) (Nat.le_trans (Nat.le_of_ble_eq_true rfl) hd) (wX13_opens (z_dl rfl hd) hq3) oX13_opens lmX13_189 iX13_opens g_a0 rfl _ rfl rfl (Nat.le_of_ble_eq_true rfl) dX13_readsFactor_12 ?_
    refine z_if_ne (tgt := 0) dX13_readsFactor_15 (by decide) (fun c4 => ?_) (fun c4 => ?_)
    · have hf := z_if_f hf c4
      cases hf
      exact y_sub hk (z_le_c rfl (z_le_n z_le_0))
    · have hf := z_if_t hf c4
      refine z_iconst dX13_readsFactor_18 kc_0 ?_
      cases hf
      exact z_iret hk ⟨_, rfl, rfl⟩ dX13_readsFactor_19
def fX13_readsFactor (a0 : Nat) (I : Nat → Nat → Int32) (R : Nat → Nat → Nat) : Option (Int32 × (Nat → Nat → Int32)) :=
  z_g (z_ob a0 13) (z_b (z_lp (fX13_readsFactor_b0 a0 R) 300 I) (fun q5 => z_x q5 (fun q7 => some q7) (fun q6 => z_b (fX13_isDigit a0 q6 R) (fun q8 => if q8 = 0 then (z_b (fX13_here a0 q6 R) (fun q10 => z_b (fX13_factOf q10) (fun q11 => if q11 = (-1 : Int32) then (z_b (fX13_wrongAt a0 (1 : Int32) (q6 a0 12) q6) (fun q15 => z_g (q15.1 = 0 ∨ q15.1 = 1) (some (q15.1, q15.2)))) else (z_b (fX13_notes a0 (1 : Int32) q11 q6 R) (fun q13 => z_l (z_u q13 a0 12 ((q13 a0 12) + (1 : Int32))) (fun I14 => some ((1 : Int32), I14))))))) else (z_b (fX13_readsNumber a0 q6 R) (fun q17 => if q17.1 = 0 then (some ((0 : Int32), q17.2)) else (z_b (fX13_notes a0 (0 : Int32) (q17.2 a0 15) q17.2 R) (fun q19 => some ((1 : Int32), q19)))))))))
theorem vX13_readsFactor {G : z_G} {d : Nat} {Q : Option Value → z_S → z_H → Prop} {a0 : Nat} {I : Nat → Nat → Int32} {R : Nat → Nat → Nat} {q : Int32 × (Nat → Nat → Int32)} (hd : 3 ≤ d) (hf : fX13_readsFactor a0 I R = some q) (hk : Q (some (.int q.1)) z_SH (q.2, R)) : z_W G eX13_readsFactor d 0 0 0 [some (.ref a0), none] [] z_SH (I, R) Q := by
  unfold fX13_readsFactor at hf
  obtain ⟨g_a0, hf⟩ := z_g_el hf
  obtain ⟨q5, hq5, hf⟩ := z_b_el hf
  refine y_sub (lv' := [some (.ref a0), none]) ?_ (z_le_c rfl (z_le_n z_le_0))
  refine z_lp_el (P := (fun s : (Nat → Nat → Int32) => z_W G eX13_readsFactor d 0 0 0 [some (.ref a0), none] [] z_SH (s, R) Q)) (E := (z_or (fun r : Int32 × (Nat → Nat → Int32) => Q (some (.int r.1)) z_SH (r.2, R)) (fun x : (Nat → Nat → Int32) => z_W G eX13_readsFactor d 0 0 20 [some (.ref a0), none] [] z_SH (x, R) Q))) (wX13_readsFactor_b0 hd g_a0) 300 I q5 hq5 ?_
  rcases q5 with q7 | q6
  · have hf := z_x_l hf
    cases hf
    exact hk
  · have hf := z_x_r hf
    show z_W G eX13_readsFactor d 0 0 20 [some (.ref a0), none] [] z_SH (q6, R) _
    refine z_aload_n dX13_readsFactor_20 rfl rfl (z_okl g_a0) ?_
    obtain ⟨q8, hq8, hf⟩ := z_b_el hf
    refine y_cVi (av := []) (Nat.le_trans (Nat.le_of_ble_eq_true rfl) hd) (wX13_isDigit (z_dl rfl hd) hq8) oX13_isDigit lmX13_168 iX13_isDigit g_a0 rfl _ rfl rfl (Nat.le_of_ble_eq_true rfl) dX13_readsFactor_21 ?_
    refine z_if_eq (tgt := 47) dX13_readsFactor_24 (by decide) (fun c9 => ?_) (fun c9 => ?_)
    · have hf := z_if_t hf c9
      refine z_aload_n dX13_readsFactor_47 rfl rfl (z_okl g_a0) ?_
      obtain ⟨q10, hq10, hf⟩ := z_b_el hf
      refine y_cVi (av := []) (Nat.le_trans (Nat.le_of_ble_eq_true rfl) hd) (wX13_here (z_dl rfl hd) hq10) oX13_here lmX13_156 iX13_here g_a0 rfl _ rfl rfl (Nat.le_of_ble_eq_true rfl) dX13_readsFactor_48 ?_
      obtain ⟨q11, hq11, hf⟩ := z_b_el hf
      refine y_cSi (Nat.le_trans (Nat.le_of_ble_eq_true rfl) hd) (wX13_factOf (z_dl rfl hd) hq11) oX13_factOf lmX13_195 sX13_factOf _ rfl rfl (Nat.le_of_ble_eq_true rfl) dX13_readsFactor_51 ?_
      refine y_istore_n0 [some (.ref a0), some (.int q11)] dX13_readsFactor_54 rfl (by decide) rfl ?_
      refine z_iload_n dX13_readsFactor_55 rfl rfl ?_
      refine z_iconst dX13_readsFactor_56 kc_m1 ?_
      refine z_icmp_ne (tgt := 70) dX13_readsFactor_57 (by decide) (fun c12 => ?_) (fun c12 => ?_)
      · have hf := z_if_f hf c12
        refine z_aload_n dX13_readsFactor_70 rfl rfl (z_okl g_a0) ?_
        refine z_iconst dX13_readsFactor_71 kc_1 ?_
        refine z_iload_n dX13_readsFactor_72 rfl rfl ?_
        obtain ⟨q13, hq13, hf⟩ := z_b_el hf
        refine y_cVv (av := [.int (1 : Int32), .int q11]) (Nat.le_trans (Nat.le_of_ble_eq_true rfl) hd) (wX13_notes (z_dl rfl hd) hq13) oX13_notes lmX13_185 iX13_notes g_a0 rfl _ rfl rfl (Nat.le_of_ble_eq_true rfl) dX13_readsFactor_73 ?_
        refine z_aload_n dX13_readsFactor_76 rfl rfl (z_okl g_a0) ?_
        refine z_aload_n dX13_readsFactor_77 rfl rfl (z_okl g_a0) ?_
        refine y_getI lfX13_150 rfl g_a0 dX13_readsFactor_78 ?_
        refine z_iconst dX13_readsFactor_81 kc_1 ?_
        refine z_iadd dX13_readsFactor_82 ?_
        refine y_putI lfX13_150 rfl g_a0 rfl rfl rfl dX13_readsFactor_83 (fun I14 eI14 => ?_)
        have hf := z_l_el hf eI14
        refine z_iconst dX13_readsFactor_86 kc_1 ?_
        cases hf
        exact z_iret hk ⟨_, rfl, rfl⟩ dX13_readsFactor_87
      · have hf := z_if_t hf c12
        refine z_aload_n dX13_readsFactor_60 rfl rfl (z_okl g_a0) ?_
        refine z_iconst dX13_readsFactor_61 kc_1 ?_
        refine z_aload_n dX13_readsFactor_62 rfl rfl (z_okl g_a0) ?_
        refine y_getI lfX13_150 rfl g_a0 dX13_readsFactor_63 ?_
        obtain ⟨q15, hq15, hf⟩ := z_b_el hf
        refine y_cVi (av := [.int (1 : Int32), .int (q6 a0 12)]) (Nat.le_trans (Nat.le_of_ble_eq_true rfl) hd) (wX13_wrongAt (z_dl rfl hd) hq15) oX13_wrongAt lmX13_162 iX13_wrongAt g_a0 rfl _ rfl rfl (Nat.le_of_ble_eq_true rfl) dX13_readsFactor_66 ?_
        obtain ⟨g16, hf⟩ := z_g_el hf
        cases hf
        exact z_iret hk ⟨_, rfl, z_bn g16⟩ dX13_readsFactor_69
    · have hf := z_if_f hf c9
      refine z_aload_n dX13_readsFactor_27 rfl rfl (z_okl g_a0) ?_
      obtain ⟨q17, hq17, hf⟩ := z_b_el hf
      refine y_cVi (av := []) (Nat.le_trans (Nat.le_of_ble_eq_true rfl) hd) (wX13_readsNumber (z_dl rfl hd) hq17) oX13_readsNumber lmX13_192 iX13_readsNumber g_a0 rfl _ rfl rfl (Nat.le_of_ble_eq_true rfl) dX13_readsFactor_28 ?_
      refine z_if_ne (tgt := 36) dX13_readsFactor_31 (by decide) (fun c18 => ?_) (fun c18 => ?_)
      · have hf := z_if_f hf c18
        refine z_aload_n dX13_readsFactor_36 rfl rfl (z_okl g_a0) ?_
        refine z_iconst dX13_readsFactor_37 kc_0 ?_
        refine z_aload_n dX13_readsFactor_38 rfl rfl (z_okl g_a0) ?_
        refine y_getI lfX13_165 rfl g_a0 dX13_readsFactor_39 ?_
        obtain ⟨q19, hq19, hf⟩ := z_b_el hf
        refine y_cVv (av := [.int (0 : Int32), .int (q17.2 a0 15)]) (Nat.le_trans (Nat.le_of_ble_eq_true rfl) hd) (wX13_notes (z_dl rfl hd) hq19) oX13_notes lmX13_185 iX13_notes g_a0 rfl _ rfl rfl (Nat.le_of_ble_eq_true rfl) dX13_readsFactor_42 ?_
        refine z_iconst dX13_readsFactor_45 kc_1 ?_
        cases hf
        exact z_iret hk ⟨_, rfl, rfl⟩ dX13_readsFactor_46
      · have hf := z_if_t hf c18
        refine z_iconst dX13_readsFactor_34 kc_0 ?_
        cases hf
        exact z_iret hk ⟨_, rfl, rfl⟩ dX13_readsFactor_35
theorem wX13_readsFactor {G : z_G} {d : Nat} {a0 : Nat} {I : Nat → Nat → Int32} {R : Nat → Nat → Nat} {q : Int32 × (Nat → Nat → Int32)} (hd : 3 ≤ d) (hf : fX13_readsFactor a0 I R = some q) : z_M G d 0 0 eX13_readsFactor [.ref a0] z_SH (I, R) (z_E (some (.int q.1)) (q.2, R)) :=
  y_M_of _ (by decide +kernel) rfl rfl rfl (vX13_readsFactor hd hf ⟨rfl, rfl, rfl⟩)
def fX13_hasOpenSum_b2 (a0 : Nat) (I : Nat → Nat → Int32) (R : Nat → Nat → Nat) : (Int32) → Option ((Int32) ⊕ ((Int32) ⊕ (Unit))) :=
  fun s => (fun (p2 : Int32) => if (I a0 18) ≤ p2 then (some (.inr (.inr (())))) else (z_g (z_ok 1 (R a0 22) p2) (if ((I (R a0 22) p2.toNatClampNeg) / (1048576 : Int32)) = (14 : Int32) then (some (.inr (.inl (1 : Int32)))) else (z_l (p2 + (1 : Int32)) (fun t4 => some (.inl t4)))))) s
theorem wX13_hasOpenSum_b2 {G : z_G} {d : Nat} {Q : Option Value → z_S → z_H → Prop} {a0 : Nat} {I : Nat → Nat → Int32} {R : Nat → Nat → Nat} (hd : 0 ≤ d) (g_a0 : z_ob a0 13) : ∀ (s : Int32) (o : (Int32) ⊕ ((Int32) ⊕ (Unit))), fX13_hasOpenSum_b2 a0 I R s = some o → z_or (fun s : Int32 => z_W G eX13_hasOpenSum d 0 0 2 [some (.ref a0), none, some (.int s)] [] z_SH (I, R) Q) (z_or (fun r : Int32 => Q (some (.int r)) z_SH (I, R)) (fun x : Unit => z_W G eX13_hasOpenSum d 0 0 32 [none, none, none] [] z_SH (I, R) Q)) o → (fun s : Int32 => z_W G eX13_hasOpenSum d 0 0 2 [some (.ref a0), none, some (.int s)] [] z_SH (I, R) Q) s := by
  intro p2 o hf hk
  show z_W G eX13_hasOpenSum d 0 0 2 [some (.ref a0), none, some (.int p2)] [] z_SH (I, R) Q
  unfold fX13_hasOpenSum_b2 at hf
  try dsimp only at hf
  refine z_iload_n dX13_hasOpenSum_2 rfl rfl ?_
  refine z_aload_n dX13_hasOpenSum_3 rfl rfl (z_okl g_a0) ?_
  refine y_getI lfX13_179 rfl g_a0 dX13_hasOpenSum_4 ?_
  refine z_icmp_ge (tgt := 32) dX13_hasOpenSum_7 (by decide) (fun c1 => ?_) (fun c1 => ?_)
  · have hf := z_if_t hf c1
    cases hf
    exact y_sub hk (z_le_n (z_le_n (z_le_n z_le_0)))
  · have hf := z_if_f hf c1
    refine z_aload_n dX13_hasOpenSum_10 rfl rfl (z_okl g_a0) ?_
    refine y_getR lfX13_41 rfl g_a0 dX13_hasOpenSum_11 ?_
    refine z_iload_n dX13_hasOpenSum_14 rfl rfl ?_
    obtain ⟨g2, hf⟩ := z_g_el hf
    refine y_iald g2 dX13_hasOpenSum_15 ?_
    refine z_ldc dX13_hasOpenSum_16 lkX13_175 ?_
    refine z_idiv dX13_hasOpenSum_18 (by decide) ?_
    refine z_bipush dX13_hasOpenSum_19 kb_14 ?_
    refine z_icmp_ne (tgt := 26) dX13_hasOpenSum_21 (by decide) (fun c3 => ?_) (fun c3 => ?_)
    · have hf := z_if_f hf c3
      refine y_iinc (fun t4 => [some (.ref a0), none, some (.int t4)]) dX13_hasOpenSum_26 rfl kc_1 (by decide) (fun _ => rfl) (fun t4 et4 => ?_)
      have hf := z_l_el hf et4
      refine z_goto (tgt := 2) dX13_hasOpenSum_29 (by decide) ?_
      cases hf
      exact y_sub hk (z_le_c rfl (z_le_n (z_le_c rfl z_le_0)))
    · have hf := z_if_t hf c3
      refine z_iconst dX13_hasOpenSum_24 kc_1 ?_
      cases hf
      exact z_iret hk ⟨_, rfl, rfl⟩ dX13_hasOpenSum_25
def fX13_hasOpenSum (a0 : Nat) (x1 : Int32) (I : Nat → Nat → Int32) (R : Nat → Nat → Nat) : Option (Int32) :=
  z_g (z_ob a0 13) (z_b (z_lp (fX13_hasOpenSum_b2 a0 I R) 300 x1) (fun q5 => z_x q5 (fun q7 => some q7) (fun q6 => some (0 : Int32))))
theorem vX13_hasOpenSum {G : z_G} {d : Nat} {Q : Option Value → z_S → z_H → Prop} {a0 : Nat} {x1 : Int32} {I : Nat → Nat → Int32} {R : Nat → Nat → Nat} {q : Int32} (hd : 0 ≤ d) (hf : fX13_hasOpenSum a0 x1 I R = some q) (hk : Q (some (.int q)) z_SH (I, R)) : z_W G eX13_hasOpenSum d 0 0 0 [some (.ref a0), some (.int x1), none] [] z_SH (I, R) Q := by
  unfold fX13_hasOpenSum at hf
  obtain ⟨g_a0, hf⟩ := z_g_el hf
  refine z_iload_n dX13_hasOpenSum_0 rfl rfl ?_
  refine y_istore_n0 [some (.ref a0), some (.int x1), some (.int x1)] dX13_hasOpenSum_1 rfl (by decide) rfl ?_
  obtain ⟨q5, hq5, hf⟩ := z_b_el hf
  refine y_sub (lv' := [some (.ref a0), none, some (.int x1)]) ?_ (z_le_c rfl (z_le_n (z_le_c rfl z_le_0)))
  refine z_lp_el (P := (fun s : Int32 => z_W G eX13_hasOpenSum d 0 0 2 [some (.ref a0), none, some (.int s)] [] z_SH (I, R) Q)) (E := (z_or (fun r : Int32 => Q (some (.int r)) z_SH (I, R)) (fun x : Unit => z_W G eX13_hasOpenSum d 0 0 32 [none, none, none] [] z_SH (I, R) Q))) (wX13_hasOpenSum_b2 hd g_a0) 300 x1 q5 hq5 ?_
  rcases q5 with q7 | q6
  · have hf := z_x_l hf
    cases hf
    exact hk
  · have hf := z_x_r hf
    show z_W G eX13_hasOpenSum d 0 0 32 [none, none, none] [] z_SH (I, R) _
    refine z_iconst dX13_hasOpenSum_32 kc_0 ?_
    cases hf
    exact z_iret hk ⟨_, rfl, rfl⟩ dX13_hasOpenSum_33
theorem wX13_hasOpenSum {G : z_G} {d : Nat} {a0 : Nat} {x1 : Int32} {I : Nat → Nat → Int32} {R : Nat → Nat → Nat} {q : Int32} (hd : 0 ≤ d) (hf : fX13_hasOpenSum a0 x1 I R = some q) : z_M G d 0 0 eX13_hasOpenSum [.ref a0, .int x1] z_SH (I, R) (z_E (some (.int q)) (I, R)) :=
  y_M_of _ (by decide +kernel) rfl rfl rfl (vX13_hasOpenSum hd hf ⟨rfl, rfl, rfl⟩)
def fX13_readsSum_j38_14 (a0 : Nat) (z1 : Int32) (y2 : Int32) (v0 : Nat) (v1 : Int32) (I : Nat → Nat → Int32) (R : Nat → Nat → Nat) : Option (((Nat → Nat → Int32)) ⊕ ((Int32 × (Nat → Nat → Int32)) ⊕ ((Nat → Nat → Int32)))) :=
  z_g (z_ob v0 13) (z_b (fX13_closesSums v0 v1 I R) (fun q16 => z_g (z_ok 1 (R a0 22) (q16 a0 18)) (z_l (z_u q16 (R a0 22) (q16 a0 18).toNatClampNeg ((1048576 : Int32) * y2)) (fun I19 => z_l (z_u I19 a0 18 ((I19 a0 18) + (1 : Int32))) (fun I20 => z_l (z_u I20 a0 12 ((I20 a0 12) + (1 : Int32))) (fun I21 => z_b (fX13_readsFactor a0 I21 R) (fun q22 => if q22.1 = 0 then (some (.inr (.inl ((0 : Int32), q22.2)))) else (some (.inl q22.2)))))))))
theorem wX13_readsSum_j38_14 {G : z_G} {d : Nat} {Q : Option Value → z_S → z_H → Prop} {a0 : Nat} {z1 : Int32} {y2 : Int32} {v0 : Nat} {v1 : Int32} {I : Nat → Nat → Int32} {R : Nat → Nat → Nat} {o : ((Nat → Nat → Int32)) ⊕ ((Int32 × (Nat → Nat → Int32)) ⊕ ((Nat → Nat → Int32)))} (hd : 4 ≤ d) (g_a0 : z_ob a0 13) (hf : fX13_readsSum_j38_14 a0 z1 y2 v0 v1 I R = some o) (hk : z_or (fun s : (Nat → Nat → Int32) => z_W G eX13_readsSum d 0 0 14 [some (.ref a0), some (.int z1), none] [] z_SH (s, R) Q) (z_or (fun r : Int32 × (Nat → Nat → Int32) => Q (some (.int r.1)) z_SH (r.2, R)) (fun x : (Nat → Nat → Int32) => z_W G eX13_readsSum d 0 0 138 [some (.ref a0), some (.int z1), none] [] z_SH (x, R) Q)) o) : z_W G eX13_readsSum d 0 0 38 [some (.ref a0), some (.int z1), some (.int y2)] [.int v1, .ref v0] z_SH (I, R) Q := by
  unfold fX13_readsSum_j38_14 at hf
  obtain ⟨g17, hf⟩ := z_g_el hf
  obtain ⟨q16, hq16, hf⟩ := z_b_el hf
  refine y_cVv (av := [.int v1]) (Nat.le_trans (Nat.le_of_ble_eq_true rfl) hd) (wX13_closesSums (z_dl rfl hd) hq16) oX13_closesSums lmX13_204 iX13_closesSums g17 rfl _ rfl rfl (Nat.le_of_ble_eq_true rfl) dX13_readsSum_38 ?_
  refine z_aload_n dX13_readsSum_41 rfl rfl (z_okl g_a0) ?_
  refine y_getR lfX13_41 rfl g_a0 dX13_readsSum_42 ?_
  refine z_aload_n dX13_readsSum_45 rfl rfl (z_okl g_a0) ?_
  refine y_getI lfX13_179 rfl g_a0 dX13_readsSum_46 ?_
  refine z_ldc dX13_readsSum_49 lkX13_175 ?_
  refine z_iload_n dX13_readsSum_51 rfl rfl ?_
  refine z_imul dX13_readsSum_52 ?_
  obtain ⟨g18, hf⟩ := z_g_el hf
  refine y_iast g18 dX13_readsSum_53 (fun I19 eI19 => ?_)
  have hf := z_l_el hf eI19
  refine z_aload_n dX13_readsSum_54 rfl rfl (z_okl g_a0) ?_
  refine z_aload_n dX13_readsSum_55 rfl rfl (z_okl g_a0) ?_
  refine y_getI lfX13_179 rfl g_a0 dX13_readsSum_56 ?_
  refine z_iconst dX13_readsSum_59 kc_1 ?_
  refine z_iadd dX13_readsSum_60 ?_
  refine y_putI lfX13_179 rfl g_a0 rfl rfl rfl dX13_readsSum_61 (fun I20 eI20 => ?_)
  have hf := z_l_el hf eI20
  refine z_aload_n dX13_readsSum_64 rfl rfl (z_okl g_a0) ?_
  refine z_aload_n dX13_readsSum_65 rfl rfl (z_okl g_a0) ?_
  refine y_getI lfX13_150 rfl g_a0 dX13_readsSum_66 ?_
  refine z_iconst dX13_readsSum_69 kc_1 ?_
  refine z_iadd dX13_readsSum_70 ?_
  refine y_putI lfX13_150 rfl g_a0 rfl rfl rfl dX13_readsSum_71 (fun I21 eI21 => ?_)
  have hf := z_l_el hf eI21
  refine z_aload_n dX13_readsSum_74 rfl rfl (z_okl g_a0) ?_
  obtain ⟨q22, hq22, hf⟩ := z_b_el hf
  refine y_cVi (av := []) (Nat.le_trans (Nat.le_of_ble_eq_true rfl) hd) (wX13_readsFactor (z_dl rfl hd) hq22) oX13_readsFactor lmX13_198 iX13_readsFactor g_a0 rfl _ rfl rfl (Nat.le_of_ble_eq_true rfl) dX13_readsSum_75 ?_
  refine z_if_ne (tgt := 163) dX13_readsSum_78 (by decide) (fun c23 => ?_) (fun c23 => ?_)
  · have hf := z_if_f hf c23
    refine z_goto (tgt := 14) dX13_readsSum_163 (by decide) ?_
    cases hf
    exact y_sub hk (z_le_c rfl (z_le_c rfl (z_le_n z_le_0)))
  · have hf := z_if_t hf c23
    refine z_iconst dX13_readsSum_81 kc_0 ?_
    cases hf
    exact z_iret hk ⟨_, rfl, rfl⟩ dX13_readsSum_82
def fX13_readsSum_b14 (a0 : Nat) (z1 : Int32) (R : Nat → Nat → Nat) : ((Nat → Nat → Int32)) → Option (((Nat → Nat → Int32)) ⊕ ((Int32 × (Nat → Nat → Int32)) ⊕ ((Nat → Nat → Int32)))) :=
  fun s => (fun (I : Nat → Nat → Int32) => z_b (fX13_here a0 I R) (fun q4 => z_b (fX13_sumSign q4) (fun q5 => if q5 = (-1 : Int32) then (z_b (fX13_here a0 I R) (fun q7 => if q7 = (93 : Int32) then (z_b (fX13_hasOpenSum a0 z1 I R) (fun q9 => if q9 = 0 then (some (.inr (.inr I))) else (z_b (fX13_closesSums a0 (1 : Int32) I R) (fun q11 => z_l (z_u q11 a0 18 ((q11 a0 18) - (1 : Int32))) (fun I12 => z_l (z_u I12 a0 16 ((I12 a0 16) - (1 : Int32))) (fun I13 => z_l (z_u I13 a0 12 ((I13 a0 12) + (1 : Int32))) (fun I14 => some (.inl I14)))))))) else (some (.inr (.inr I))))) else (if (4 : Int32) ≤ q5 then (fX13_readsSum_j38_14 a0 z1 q5 a0 (0 : Int32) I R) else (fX13_readsSum_j38_14 a0 z1 q5 a0 (1 : Int32) I R))))) s
theorem wX13_readsSum_b14 {G : z_G} {d : Nat} {Q : Option Value → z_S → z_H → Prop} {a0 : Nat} {z1 : Int32} {R : Nat → Nat → Nat} (hd : 4 ≤ d) (g_a0 : z_ob a0 13) : ∀ (s : (Nat → Nat → Int32)) (o : ((Nat → Nat → Int32)) ⊕ ((Int32 × (Nat → Nat → Int32)) ⊕ ((Nat → Nat → Int32)))), fX13_readsSum_b14 a0 z1 R s = some o → z_or (fun s : (Nat → Nat → Int32) => z_W G eX13_readsSum d 0 0 14 [some (.ref a0), some (.int z1), none] [] z_SH (s, R) Q) (z_or (fun r : Int32 × (Nat → Nat → Int32) => Q (some (.int r.1)) z_SH (r.2, R)) (fun x : (Nat → Nat → Int32) => z_W G eX13_readsSum d 0 0 138 [some (.ref a0), some (.int z1), none] [] z_SH (x, R) Q)) o → (fun s : (Nat → Nat → Int32) => z_W G eX13_readsSum d 0 0 14 [some (.ref a0), some (.int z1), none] [] z_SH (s, R) Q) s := by
  intro I o hf hk
  show z_W G eX13_readsSum d 0 0 14 [some (.ref a0), some (.int z1), none] [] z_SH (I, R) Q
  unfold fX13_readsSum_b14 at hf
  try dsimp only at hf
  refine z_aload_n dX13_readsSum_14 rfl rfl (z_okl g_a0) ?_
  obtain ⟨q4, hq4, hf⟩ := z_b_el hf
  refine y_cVi (av := []) (Nat.le_trans (Nat.le_of_ble_eq_true rfl) hd) (wX13_here (z_dl rfl hd) hq4) oX13_here lmX13_156 iX13_here g_a0 rfl _ rfl rfl (Nat.le_of_ble_eq_true rfl) dX13_readsSum_15 ?_
  obtain ⟨q5, hq5, hf⟩ := z_b_el hf
  refine y_cSi (Nat.le_trans (Nat.le_of_ble_eq_true rfl) hd) (wX13_sumSign (z_dl rfl hd) hq5) oX13_sumSign lmX13_201 sX13_sumSign _ rfl rfl (Nat.le_of_ble_eq_true rfl) dX13_readsSum_18 ?_
  refine y_istore_n0 [some (.ref a0), some (.int z1), some (.int q5)] dX13_readsSum_21 rfl (by decide) rfl ?_
  refine z_iload_n dX13_readsSum_22 rfl rfl ?_
  refine z_iconst dX13_readsSum_23 kc_m1 ?_
  refine z_icmp_eq (tgt := 83) dX13_readsSum_24 (by decide) (fun c6 => ?_) (fun c6 => ?_)
  · have hf := z_if_t hf c6
    refine z_aload_n dX13_readsSum_83 rfl rfl (z_okl g_a0) ?_
    obtain ⟨q7, hq7, hf⟩ := z_b_el hf
    refine y_cVi (av := []) (Nat.le_trans (Nat.le_of_ble_eq_true rfl) hd) (wX13_here (z_dl rfl hd) hq7) oX13_here lmX13_156 iX13_here g_a0 rfl _ rfl rfl (Nat.le_of_ble_eq_true rfl) dX13_readsSum_84 ?_
    refine z_bipush dX13_readsSum_87 kb_93 ?_
    refine z_icmp_ne (tgt := 138) dX13_readsSum_89 (by decide) (fun c8 => ?_) (fun c8 => ?_)
    · have hf := z_if_f hf c8
      cases hf
      exact y_sub hk (z_le_c rfl (z_le_c rfl (z_le_n z_le_0)))
    · have hf := z_if_t hf c8
      refine z_aload_n dX13_readsSum_92 rfl rfl (z_okl g_a0) ?_
      refine z_iload_n dX13_readsSum_93 rfl rfl ?_
      obtain ⟨q9, hq9, hf⟩ := z_b_el hf
      refine y_cVi (av := [.int z1]) (Nat.le_trans (Nat.le_of_ble_eq_true rfl) hd) (wX13_hasOpenSum (z_dl rfl hd) hq9) oX13_hasOpenSum lmX13_208 iX13_hasOpenSum g_a0 rfl _ rfl rfl (Nat.le_of_ble_eq_true rfl) dX13_readsSum_94 ?_
      refine z_if_eq (tgt := 138) dX13_readsSum_97 (by decide) (fun c10 => ?_) (fun c10 => ?_)
      · have hf := z_if_t hf c10
        cases hf
        exact y_sub hk (z_le_c rfl (z_le_c rfl (z_le_n z_le_0)))
      · have hf := z_if_f hf c10
        refine z_aload_n dX13_readsSum_100 rfl rfl (z_okl g_a0) ?_
        refine z_iconst dX13_readsSum_101 kc_1 ?_
        obtain ⟨q11, hq11, hf⟩ := z_b_el hf
        refine y_cVv (av := [.int (1 : Int32)]) (Nat.le_trans (Nat.le_of_ble_eq_true rfl) hd) (wX13_closesSums (z_dl rfl hd) hq11) oX13_closesSums lmX13_204 iX13_closesSums g_a0 rfl _ rfl rfl (Nat.le_of_ble_eq_true rfl) dX13_readsSum_102 ?_
        refine z_aload_n dX13_readsSum_105 rfl rfl (z_okl g_a0) ?_
        refine z_aload_n dX13_readsSum_106 rfl rfl (z_okl g_a0) ?_
        refine y_getI lfX13_179 rfl g_a0 dX13_readsSum_107 ?_
        refine z_iconst dX13_readsSum_110 kc_1 ?_
        refine z_isub dX13_readsSum_111 ?_
        refine y_putI lfX13_179 rfl g_a0 rfl rfl rfl dX13_readsSum_112 (fun I12 eI12 => ?_)
        have hf := z_l_el hf eI12
        refine z_aload_n dX13_readsSum_115 rfl rfl (z_okl g_a0) ?_
        refine z_aload_n dX13_readsSum_116 rfl rfl (z_okl g_a0) ?_
        refine y_getI lfX13_176 rfl g_a0 dX13_readsSum_117 ?_
        refine z_iconst dX13_readsSum_120 kc_1 ?_
        refine z_isub dX13_readsSum_121 ?_
        refine y_putI lfX13_176 rfl g_a0 rfl rfl rfl dX13_readsSum_122 (fun I13 eI13 => ?_)
        have hf := z_l_el hf eI13
        refine z_aload_n dX13_readsSum_125 rfl rfl (z_okl g_a0) ?_
        refine z_aload_n dX13_readsSum_126 rfl rfl (z_okl g_a0) ?_
        refine y_getI lfX13_150 rfl g_a0 dX13_readsSum_127 ?_
        refine z_iconst dX13_readsSum_130 kc_1 ?_
        refine z_iadd dX13_readsSum_131 ?_
        refine y_putI lfX13_150 rfl g_a0 rfl rfl rfl dX13_readsSum_132 (fun I14 eI14 => ?_)
        have hf := z_l_el hf eI14
        refine z_goto (tgt := 163) dX13_readsSum_135 (by decide) ?_
        refine z_goto (tgt := 14) dX13_readsSum_163 (by decide) ?_
        cases hf
        exact y_sub hk (z_le_c rfl (z_le_c rfl (z_le_n z_le_0)))
  · have hf := z_if_f hf c6
    refine z_aload_n dX13_readsSum_27 rfl rfl (z_okl g_a0) ?_
    refine z_iload_n dX13_readsSum_28 rfl rfl ?_
    refine z_iconst dX13_readsSum_29 kc_4 ?_
    refine z_icmp_ge (tgt := 37) dX13_readsSum_30 (by decide) (fun c15 => ?_) (fun c15 => ?_)
    · have hf := z_if_t hf c15
      refine z_iconst dX13_readsSum_37 kc_0 ?_
      exact y_sub (wX13_readsSum_j38_14 hd g_a0 hf hk) (z_le_c rfl (z_le_c rfl (z_le_c rfl z_le_0)))
    · have hf := z_if_f hf c15
      refine z_iconst dX13_readsSum_33 kc_1 ?_
      refine z_goto (tgt := 38) dX13_readsSum_34 (by decide) ?_
      exact y_sub (wX13_readsSum_j38_14 hd g_a0 hf hk) (z_le_c rfl (z_le_c rfl (z_le_c rfl z_le_0)))
def fX13_readsSum_j138 (a0 : Nat) (y1 : Int32) (I : Nat → Nat → Int32) (R : Nat → Nat → Nat) : Option (Int32 × (Nat → Nat → Int32)) :=
  z_b (fX13_hasOpenSum a0 y1 I R) (fun q27 => if q27 = 0 then (z_b (fX13_closesSums a0 (1 : Int32) I R) (fun q29 => some ((1 : Int32), q29))) else (z_b (fX13_wrongAt a0 (1 : Int32) (I a0 12) I) (fun q30 => z_g (q30.1 = 0 ∨ q30.1 = 1) (some (q30.1, q30.2)))))
theorem wX13_readsSum_j138 {G : z_G} {d : Nat} {Q : Option Value → z_S → z_H → Prop} {a0 : Nat} {y1 : Int32} {I : Nat → Nat → Int32} {R : Nat → Nat → Nat} {o : Int32 × (Nat → Nat → Int32)} (hd : 4 ≤ d) (g_a0 : z_ob a0 13) (hf : fX13_readsSum_j138 a0 y1 I R = some o) (hk : Q (some (.int o.1)) z_SH (o.2, R)) : z_W G eX13_readsSum d 0 0 138 [some (.ref a0), some (.int y1), none] [] z_SH (I, R) Q := by
  unfold fX13_readsSum_j138 at hf
  refine z_aload_n dX13_readsSum_138 rfl rfl (z_okl g_a0) ?_
  refine z_iload_n dX13_readsSum_139 rfl rfl ?_
  obtain ⟨q27, hq27, hf⟩ := z_b_el hf
  refine y_cVi (av := [.int y1]) (Nat.le_trans (Nat.le_of_ble_eq_true rfl) hd) (wX13_hasOpenSum (z_dl rfl hd) hq27) oX13_hasOpenSum lmX13_208 iX13_hasOpenSum g_a0 rfl _ rfl rfl (Nat.le_of_ble_eq_true rfl) dX13_readsSum_140 ?_
  refine z_if_eq (tgt := 156) dX13_readsSum_143 (by decide) (fun c28 => ?_) (fun c28 => ?_)
  · have hf := z_if_t hf c28
    refine z_aload_n dX13_readsSum_156 rfl rfl (z_okl g_a0) ?_
    refine z_iconst dX13_readsSum_157 kc_1 ?_
    obtain ⟨q29, hq29, hf⟩ := z_b_el hf
    refine y_cVv (av := [.int (1 : Int32)]) (Nat.le_trans (Nat.le_of_ble_eq_true rfl) hd) (wX13_closesSums (z_dl rfl hd) hq29) oX13_closesSums lmX13_204 iX13_closesSums g_a0 rfl _ rfl rfl (Nat.le_of_ble_eq_true rfl) dX13_readsSum_158 ?_
    refine z_iconst dX13_readsSum_161 kc_1 ?_
    cases hf
    exact z_iret hk ⟨_, rfl, rfl⟩ dX13_readsSum_162
  · have hf := z_if_f hf c28
    refine z_aload_n dX13_readsSum_146 rfl rfl (z_okl g_a0) ?_
    refine z_iconst dX13_readsSum_147 kc_1 ?_
    refine z_aload_n dX13_readsSum_148 rfl rfl (z_okl g_a0) ?_
    refine y_getI lfX13_150 rfl g_a0 dX13_readsSum_149 ?_
    obtain ⟨q30, hq30, hf⟩ := z_b_el hf
    refine y_cVi (av := [.int (1 : Int32), .int (I a0 12)]) (Nat.le_trans (Nat.le_of_ble_eq_true rfl) hd) (wX13_wrongAt (z_dl rfl hd) hq30) oX13_wrongAt lmX13_162 iX13_wrongAt g_a0 rfl _ rfl rfl (Nat.le_of_ble_eq_true rfl) dX13_readsSum_152 ?_
    obtain ⟨g31, hf⟩ := z_g_el hf
    cases hf
    exact z_iret hk ⟨_, rfl, z_bn g31⟩ dX13_readsSum_155
def fX13_readsSum (a0 : Nat) (I : Nat → Nat → Int32) (R : Nat → Nat → Nat) : Option (Int32 × (Nat → Nat → Int32)) :=
  z_g (z_ob a0 13) (z_l (I a0 18) (fun t1 => z_b (fX13_readsFactor a0 I R) (fun q2 => if q2.1 = 0 then (some ((0 : Int32), q2.2)) else (z_b (z_lp (fX13_readsSum_b14 a0 t1 R) 300 q2.2) (fun q24 => z_x q24 (fun q26 => some q26) (fun q25 => fX13_readsSum_j138 a0 t1 q25 R))))))
set_option maxRecDepth 20000 in
theorem vX13_readsSum {G : z_G} {d : Nat} {Q : Option Value → z_S → z_H → Prop} {a0 : Nat} {I : Nat → Nat → Int32} {R : Nat → Nat → Nat} {q : Int32 × (Nat → Nat → Int32)} (hd : 4 ≤ d) (hf : fX13_readsSum a0 I R = some q) (hk : Q (some (.int q.1)) z_SH (q.2, R)) : z_W G eX13_readsSum d 0 0 0 [some (.ref a0), none, none] [] z_SH (I, R) Q := by
  unfold fX13_readsSum at hf
  obtain ⟨g_a0, hf⟩ := z_g_el hf
  refine z_aload_n dX13_readsSum_0 rfl rfl (z_okl g_a0) ?_
  refine y_getI lfX13_179 rfl g_a0 dX13_readsSum_1 ?_
  refine y_istore_n (fun t1 => [some (.ref a0), some (.int t1), none]) dX13_readsSum_4 rfl (by decide) (fun _ => rfl) (fun t1 et1 => ?_)
  have hf := z_l_el hf et1
  refine z_aload_n dX13_readsSum_5 rfl rfl (z_okl g_a0) ?_
  obtain ⟨q2, hq2, hf⟩ := z_b_el hf
  refine y_cVi (av := []) (Nat.le_trans (Nat.le_of_ble_eq_true rfl) hd) (wX13_readsFactor (z_dl rfl hd) hq2) oX13_readsFactor lmX13_198 iX13_readsFactor g_a0 rfl _ rfl rfl (Nat.le_of_ble_eq_true rfl) dX13_readsSum_6 ?_
  refine z_if_ne (tgt := 14) dX13_readsSum_9 (by decide) (fun c3 => ?_) (fun c3 => ?_)
  · have hf := z_if_f hf c3
    obtain ⟨q24, hq24, hf⟩ := z_b_el hf
    refine y_sub (lv' := [some (.ref a0), some (.int t1), none]) ?_ (z_le_c rfl (z_le_c rfl (z_le_n z_le_0)))
    refine z_lp_el (P := (fun s : (Nat → Nat → Int32) => z_W G eX13_readsSum d 0 0 14 [some (.ref a0), some (.int t1), none] [] z_SH (s, R) Q)) (E := (z_or (fun r : Int32 × (Nat → Nat → Int32) => Q (some (.int r.1)) z_SH (r.2, R)) (fun x : (Nat → Nat → Int32) => z_W G eX13_readsSum d 0 0 138 [some (.ref a0), some (.int t1), none] [] z_SH (x, R) Q))) (wX13_readsSum_b14 hd g_a0) 300 q2.2 q24 hq24 ?_
    rcases q24 with q26 | q25
    · have hf := z_x_l hf
      cases hf
      exact hk
    · have hf := z_x_r hf
      show z_W G eX13_readsSum d 0 0 138 [some (.ref a0), some (.int t1), none] [] z_SH (q25, R) _
      exact y_sub (wX13_readsSum_j138 hd g_a0 hf hk) (z_le_c rfl (z_le_c rfl (z_le_n z_le_0)))
  · have hf := z_if_t hf c3
    refine z_iconst dX13_readsSum_12 kc_0 ?_
    cases hf
    exact z_iret hk ⟨_, rfl, rfl⟩ dX13_readsSum_13
theorem wX13_readsSum {G : z_G} {d : Nat} {a0 : Nat} {I : Nat → Nat → Int32} {R : Nat → Nat → Nat} {q : Int32 × (Nat → Nat → Int32)} (hd : 4 ≤ d) (hf : fX13_readsSum a0 I R = some q) : z_M G d 0 0 eX13_readsSum [.ref a0] z_SH (I, R) (z_E (some (.int q.1)) (q.2, R)) :=
  y_M_of _ (by decide +kernel) rfl rfl rfl (vX13_readsSum hd hf ⟨rfl, rfl, rfl⟩)
def fX13_endsPiece_b0 (a0 : Nat) (R : Nat → Nat → Nat) : ((Nat → Nat → Int32)) → Option (((Nat → Nat → Int32)) ⊕ ((Nat → Nat → Int32))) :=
  fun s => (fun (I : Nat → Nat → Int32) => z_b (fX13_waitTop a0 I R) (fun q1 => if q1 = (10 : Int32) then (z_b (fX13_notes a0 (10 : Int32) (0 : Int32) I R) (fun q3 => z_l (z_u q3 a0 18 ((q3 a0 18) - (1 : Int32))) (fun I4 => z_l (z_u I4 a0 16 ((I4 a0 16) - (1 : Int32))) (fun I5 => some (.inl I5))))) else (some (.inr I)))) s
theorem wX13_endsPiece_b0 {G : z_G} {d : Nat} {Q : Option Value → z_S → z_H → Prop} {a0 : Nat} {R : Nat → Nat → Nat} (hd : 1 ≤ d) (g_a0 : z_ob a0 13) : ∀ (s : (Nat → Nat → Int32)) (o : ((Nat → Nat → Int32)) ⊕ ((Nat → Nat → Int32))), fX13_endsPiece_b0 a0 R s = some o → z_or (fun s : (Nat → Nat → Int32) => z_W G eX13_endsPiece d 0 0 0 [some (.ref a0)] [] z_SH (s, R) Q) (fun x : (Nat → Nat → Int32) => z_W G eX13_endsPiece d 0 0 39 [none] [] z_SH (x, R) Q) o → (fun s : (Nat → Nat → Int32) => z_W G eX13_endsPiece d 0 0 0 [some (.ref a0)] [] z_SH (s, R) Q) s := by
  intro I o hf hk
  show z_W G eX13_endsPiece d 0 0 0 [some (.ref a0)] [] z_SH (I, R) Q
  unfold fX13_endsPiece_b0 at hf
  try dsimp only at hf
  refine z_aload_n dX13_endsPiece_0 rfl rfl (z_okl g_a0) ?_
  obtain ⟨q1, hq1, hf⟩ := z_b_el hf
  refine y_cVi (av := []) (Nat.le_trans (Nat.le_of_ble_eq_true rfl) hd) (wX13_waitTop (z_dl rfl hd) hq1) oX13_waitTop lmX13_182 iX13_waitTop g_a0 rfl _ rfl rfl (Nat.le_of_ble_eq_true rfl) dX13_endsPiece_1 ?_
  refine z_bipush dX13_endsPiece_4 kb_10 ?_
  refine z_icmp_ne (tgt := 39) dX13_endsPiece_6 (by decide) (fun c2 => ?_) (fun c2 => ?_)
  · have hf := z_if_f hf c2
    cases hf
    exact y_sub hk (z_le_n z_le_0)
  · have hf := z_if_t hf c2
    refine z_aload_n dX13_endsPiece_9 rfl rfl (z_okl g_a0) ?_
    refine z_bipush dX13_endsPiece_10 kb_10 ?_
    refine z_iconst dX13_endsPiece_12 kc_0 ?_
    obtain ⟨q3, hq3, hf⟩ := z_b_el hf
    refine y_cVv (av := [.int (10 : Int32), .int (0 : Int32)]) (Nat.le_trans (Nat.le_of_ble_eq_true rfl) hd) (wX13_notes (z_dl rfl hd) hq3) oX13_notes lmX13_185 iX13_notes g_a0 rfl _ rfl rfl (Nat.le_of_ble_eq_true rfl) dX13_endsPiece_13 ?_
    refine z_aload_n dX13_endsPiece_16 rfl rfl (z_okl g_a0) ?_
    refine z_aload_n dX13_endsPiece_17 rfl rfl (z_okl g_a0) ?_
    refine y_getI lfX13_179 rfl g_a0 dX13_endsPiece_18 ?_
    refine z_iconst dX13_endsPiece_21 kc_1 ?_
    refine z_isub dX13_endsPiece_22 ?_
    refine y_putI lfX13_179 rfl g_a0 rfl rfl rfl dX13_endsPiece_23 (fun I4 eI4 => ?_)
    have hf := z_l_el hf eI4
    refine z_aload_n dX13_endsPiece_26 rfl rfl (z_okl g_a0) ?_
    refine z_aload_n dX13_endsPiece_27 rfl rfl (z_okl g_a0) ?_
    refine y_getI lfX13_176 rfl g_a0 dX13_endsPiece_28 ?_
    refine z_iconst dX13_endsPiece_31 kc_1 ?_
    refine z_isub dX13_endsPiece_32 ?_
    refine y_putI lfX13_176 rfl g_a0 rfl rfl rfl dX13_endsPiece_33 (fun I5 eI5 => ?_)
    have hf := z_l_el hf eI5
    refine z_goto (tgt := 0) dX13_endsPiece_36 (by decide) ?_
    cases hf
    exact y_sub hk (z_le_c rfl z_le_0)
def fX13_endsPiece (a0 : Nat) (I : Nat → Nat → Int32) (R : Nat → Nat → Nat) : Option ((Nat → Nat → Int32)) :=
  z_g (z_ob a0 13) (z_b (z_lp (fX13_endsPiece_b0 a0 R) 300 I) (fun q6 => some q6))
theorem vX13_endsPiece {G : z_G} {d : Nat} {Q : Option Value → z_S → z_H → Prop} {a0 : Nat} {I : Nat → Nat → Int32} {R : Nat → Nat → Nat} {q : (Nat → Nat → Int32)} (hd : 1 ≤ d) (hf : fX13_endsPiece a0 I R = some q) (hk : Q none z_SH (q, R)) : z_W G eX13_endsPiece d 0 0 0 [some (.ref a0)] [] z_SH (I, R) Q := by
  unfold fX13_endsPiece at hf
  obtain ⟨g_a0, hf⟩ := z_g_el hf
  obtain ⟨q6, hq6, hf⟩ := z_b_el hf
  refine y_sub (lv' := [some (.ref a0)]) ?_ (z_le_c rfl z_le_0)
  refine z_lp_el (P := (fun s : (Nat → Nat → Int32) => z_W G eX13_endsPiece d 0 0 0 [some (.ref a0)] [] z_SH (s, R) Q)) (E := (fun x : (Nat → Nat → Int32) => z_W G eX13_endsPiece d 0 0 39 [none] [] z_SH (x, R) Q)) (wX13_endsPiece_b0 hd g_a0) 300 I q6 hq6 ?_
  show z_W G eX13_endsPiece d 0 0 39 [none] [] z_SH (q6, R) _
  cases hf
  exact z_vret hk rfl dX13_endsPiece_39
theorem wX13_endsPiece {G : z_G} {d : Nat} {a0 : Nat} {I : Nat → Nat → Int32} {R : Nat → Nat → Nat} {q : (Nat → Nat → Int32)} (hd : 1 ≤ d) (hf : fX13_endsPiece a0 I R = some q) : z_M G d 0 0 eX13_endsPiece [.ref a0] z_SH (I, R) (z_E none (q, R)) :=
  y_M_of _ (by decide +kernel) rfl rfl rfl (vX13_endsPiece hd hf ⟨rfl, rfl, rfl⟩)
def fX13_lands_j22_0 (a0 : Nat) (z1 : Int32) (I : Nat → Nat → Int32) (R : Nat → Nat → Nat) : Option (((Nat → Nat → Int32)) ⊕ ((Nat → Nat → Int32))) :=
  z_g (z_ok 1 (R a0 22) ((I a0 18) - (1 : Int32))) (z_l (z_rem (I (R a0 22) ((I a0 18) - (1 : Int32)).toNatClampNeg) (1048576 : Int32)) (fun t4 => z_g (z_ok 1 (R a0 21) t4) (z_l (z_u I (R a0 21) t4.toNatClampNeg (((1048576 : Int32) * ((I (R a0 21) t4.toNatClampNeg) / (1048576 : Int32))) + (I a0 17))) (fun I6 => z_l (z_u I6 a0 18 ((I6 a0 18) - (1 : Int32))) (fun I7 => some (.inl I7))))))
theorem wX13_lands_j22_0 {G : z_G} {d : Nat} {Q : Option Value → z_S → z_H → Prop} {a0 : Nat} {z1 : Int32} {I : Nat → Nat → Int32} {R : Nat → Nat → Nat} {o : ((Nat → Nat → Int32)) ⊕ ((Nat → Nat → Int32))} (hd : 1 ≤ d) (g_a0 : z_ob a0 13) (hf : fX13_lands_j22_0 a0 z1 I R = some o) (hk : z_or (fun s : (Nat → Nat → Int32) => z_W G eX13_lands d 0 0 0 [some (.ref a0), some (.int z1), none] [] z_SH (s, R) Q) (fun x : (Nat → Nat → Int32) => z_W G eX13_lands d 0 0 73 [none, none, none] [] z_SH (x, R) Q) o) : z_W G eX13_lands d 0 0 22 [some (.ref a0), some (.int z1), none] [] z_SH (I, R) Q := by
  unfold fX13_lands_j22_0 at hf
  refine z_aload_n dX13_lands_22 rfl rfl (z_okl g_a0) ?_
  refine y_getR lfX13_41 rfl g_a0 dX13_lands_23 ?_
  refine z_aload_n dX13_lands_26 rfl rfl (z_okl g_a0) ?_
  refine y_getI lfX13_179 rfl g_a0 dX13_lands_27 ?_
  refine z_iconst dX13_lands_30 kc_1 ?_
  refine z_isub dX13_lands_31 ?_
  obtain ⟨g3, hf⟩ := z_g_el hf
  refine y_iald g3 dX13_lands_32 ?_
  refine z_ldc dX13_lands_33 lkX13_175 ?_
  refine y_irem dX13_lands_35 (by decide) ?_
  refine y_istore_n (fun t4 => [some (.ref a0), some (.int z1), some (.int t4)]) dX13_lands_36 rfl (by decide) (fun _ => rfl) (fun t4 et4 => ?_)
  have hf := z_l_el hf et4
  refine z_aload_n dX13_lands_37 rfl rfl (z_okl g_a0) ?_
  refine y_getR lfX13_38 rfl g_a0 dX13_lands_38 ?_
  refine z_iload_n dX13_lands_41 rfl rfl ?_
  refine z_ldc dX13_lands_42 lkX13_175 ?_
  refine z_aload_n dX13_lands_44 rfl rfl (z_okl g_a0) ?_
  refine y_getR lfX13_38 rfl g_a0 dX13_lands_45 ?_
  refine z_iload_n dX13_lands_48 rfl rfl ?_
  obtain ⟨g5, hf⟩ := z_g_el hf
  refine y_iald g5 dX13_lands_49 ?_
  refine z_ldc dX13_lands_50 lkX13_175 ?_
  refine z_idiv dX13_lands_52 (by decide) ?_
  refine z_imul dX13_lands_53 ?_
  refine z_aload_n dX13_lands_54 rfl rfl (z_okl g_a0) ?_
  refine y_getI lfX13_172 rfl g_a0 dX13_lands_55 ?_
  refine z_iadd dX13_lands_58 ?_
  refine y_iast g5 dX13_lands_59 (fun I6 eI6 => ?_)
  have hf := z_l_el hf eI6
  refine z_aload_n dX13_lands_60 rfl rfl (z_okl g_a0) ?_
  refine z_aload_n dX13_lands_61 rfl rfl (z_okl g_a0) ?_
  refine y_getI lfX13_179 rfl g_a0 dX13_lands_62 ?_
  refine z_iconst dX13_lands_65 kc_1 ?_
  refine z_isub dX13_lands_66 ?_
  refine y_putI lfX13_179 rfl g_a0 rfl rfl rfl dX13_lands_67 (fun I7 eI7 => ?_)
  have hf := z_l_el hf eI7
  refine z_goto (tgt := 0) dX13_lands_70 (by decide) ?_
  cases hf
  exact y_sub hk (z_le_c rfl (z_le_c rfl (z_le_n z_le_0)))
def fX13_lands_b0 (a0 : Nat) (z1 : Int32) (R : Nat → Nat → Nat) : ((Nat → Nat → Int32)) → Option (((Nat → Nat → Int32)) ⊕ ((Nat → Nat → Int32))) :=
  fun s => (fun (I : Nat → Nat → Int32) => z_b (fX13_waitTop a0 I R) (fun q1 => if q1 = (11 : Int32) then (fX13_lands_j22_0 a0 z1 I R) else (if z1 = 0 then (some (.inr I)) else (z_b (fX13_waitTop a0 I R) (fun q9 => if q9 = (12 : Int32) then (fX13_lands_j22_0 a0 z1 I R) else (some (.inr I))))))) s
theorem wX13_lands_b0 {G : z_G} {d : Nat} {Q : Option Value → z_S → z_H → Prop} {a0 : Nat} {z1 : Int32} {R : Nat → Nat → Nat} (hd : 1 ≤ d) (g_a0 : z_ob a0 13) : ∀ (s : (Nat → Nat → Int32)) (o : ((Nat → Nat → Int32)) ⊕ ((Nat → Nat → Int32))), fX13_lands_b0 a0 z1 R s = some o → z_or (fun s : (Nat → Nat → Int32) => z_W G eX13_lands d 0 0 0 [some (.ref a0), some (.int z1), none] [] z_SH (s, R) Q) (fun x : (Nat → Nat → Int32) => z_W G eX13_lands d 0 0 73 [none, none, none] [] z_SH (x, R) Q) o → (fun s : (Nat → Nat → Int32) => z_W G eX13_lands d 0 0 0 [some (.ref a0), some (.int z1), none] [] z_SH (s, R) Q) s := by
  intro I o hf hk
  show z_W G eX13_lands d 0 0 0 [some (.ref a0), some (.int z1), none] [] z_SH (I, R) Q
  unfold fX13_lands_b0 at hf
  try dsimp only at hf
  refine z_aload_n dX13_lands_0 rfl rfl (z_okl g_a0) ?_
  obtain ⟨q1, hq1, hf⟩ := z_b_el hf
  refine y_cVi (av := []) (Nat.le_trans (Nat.le_of_ble_eq_true rfl) hd) (wX13_waitTop (z_dl rfl hd) hq1) oX13_waitTop lmX13_182 iX13_waitTop g_a0 rfl _ rfl rfl (Nat.le_of_ble_eq_true rfl) dX13_lands_1 ?_
  refine z_bipush dX13_lands_4 kb_11 ?_
  refine z_icmp_eq (tgt := 22) dX13_lands_6 (by decide) (fun c2 => ?_) (fun c2 => ?_)
  · have hf := z_if_t hf c2
    exact y_sub (wX13_lands_j22_0 hd g_a0 hf hk) (z_le_c rfl (z_le_c rfl (z_le_n z_le_0)))
  · have hf := z_if_f hf c2
    refine z_iload_n dX13_lands_9 rfl rfl ?_
    refine z_if_eq (tgt := 73) dX13_lands_10 (by decide) (fun c8 => ?_) (fun c8 => ?_)
    · have hf := z_if_t hf c8
      cases hf
      exact y_sub hk (z_le_n (z_le_n (z_le_n z_le_0)))
    · have hf := z_if_f hf c8
      refine z_aload_n dX13_lands_13 rfl rfl (z_okl g_a0) ?_
      obtain ⟨q9, hq9, hf⟩ := z_b_el hf
      refine y_cVi (av := []) (Nat.le_trans (Nat.le_of_ble_eq_true rfl) hd) (wX13_waitTop (z_dl rfl hd) hq9) oX13_waitTop lmX13_182 iX13_waitTop g_a0 rfl _ rfl rfl (Nat.le_of_ble_eq_true rfl) dX13_lands_14 ?_
      refine z_bipush dX13_lands_17 kb_12 ?_
      refine z_icmp_ne (tgt := 73) dX13_lands_19 (by decide) (fun c10 => ?_) (fun c10 => ?_)
      · have hf := z_if_f hf c10
        cases hf
        exact y_sub hk (z_le_n (z_le_n (z_le_n z_le_0)))
      · have hf := z_if_t hf c10
        exact y_sub (wX13_lands_j22_0 hd g_a0 hf hk) (z_le_c rfl (z_le_c rfl (z_le_n z_le_0)))
def fX13_lands (a0 : Nat) (x1 : Int32) (I : Nat → Nat → Int32) (R : Nat → Nat → Nat) : Option ((Nat → Nat → Int32)) :=
  z_g (z_ob a0 13) (z_b (z_lp (fX13_lands_b0 a0 x1 R) 300 I) (fun q11 => some q11))
theorem vX13_lands {G : z_G} {d : Nat} {Q : Option Value → z_S → z_H → Prop} {a0 : Nat} {x1 : Int32} {I : Nat → Nat → Int32} {R : Nat → Nat → Nat} {q : (Nat → Nat → Int32)} (hd : 1 ≤ d) (hf : fX13_lands a0 x1 I R = some q) (hk : Q none z_SH (q, R)) : z_W G eX13_lands d 0 0 0 [some (.ref a0), some (.int x1), none] [] z_SH (I, R) Q := by
  unfold fX13_lands at hf
  obtain ⟨g_a0, hf⟩ := z_g_el hf
  obtain ⟨q11, hq11, hf⟩ := z_b_el hf
  refine y_sub (lv' := [some (.ref a0), some (.int x1), none]) ?_ (z_le_c rfl (z_le_c rfl (z_le_n z_le_0)))
  refine z_lp_el (P := (fun s : (Nat → Nat → Int32) => z_W G eX13_lands d 0 0 0 [some (.ref a0), some (.int x1), none] [] z_SH (s, R) Q)) (E := (fun x : (Nat → Nat → Int32) => z_W G eX13_lands d 0 0 73 [none, none, none] [] z_SH (x, R) Q)) (wX13_lands_b0 hd g_a0) 300 I q11 hq11 ?_
  show z_W G eX13_lands d 0 0 73 [none, none, none] [] z_SH (q11, R) _
  cases hf
  exact z_vret hk rfl dX13_lands_73
theorem wX13_lands {G : z_G} {d : Nat} {a0 : Nat} {x1 : Int32} {I : Nat → Nat → Int32} {R : Nat → Nat → Nat} {q : (Nat → Nat → Int32)} (hd : 1 ≤ d) (hf : fX13_lands a0 x1 I R = some q) : z_M G d 0 0 eX13_lands [.ref a0, .int x1] z_SH (I, R) (z_E none (q, R)) :=
  y_M_of _ (by decide +kernel) rfl rfl rfl (vX13_lands hd hf ⟨rfl, rfl, rfl⟩)
def fX13_jumps (a0 : Nat) (x1 : Int32) (I : Nat → Nat → Int32) (R : Nat → Nat → Nat) : Option ((Nat → Nat → Int32)) :=
  z_g (z_ob a0 13) (z_g (z_ok 1 (R a0 22) (I a0 18)) (z_l (z_u I (R a0 22) (I a0 18).toNatClampNeg (((1048576 : Int32) * x1) + (I a0 17))) (fun I2 => z_l (z_u I2 a0 18 ((I2 a0 18) + (1 : Int32))) (fun I3 => z_b (fX13_notes a0 x1 (0 : Int32) I3 R) (fun q4 => z_l (z_u q4 a0 12 ((q4 a0 12) + (1 : Int32))) (fun I5 => some I5))))))
theorem vX13_jumps {G : z_G} {d : Nat} {Q : Option Value → z_S → z_H → Prop} {a0 : Nat} {x1 : Int32} {I : Nat → Nat → Int32} {R : Nat → Nat → Nat} {q : (Nat → Nat → Int32)} (hd : 1 ≤ d) (hf : fX13_jumps a0 x1 I R = some q) (hk : Q none z_SH (q, R)) : z_W G eX13_jumps d 0 0 0 [some (.ref a0), some (.int x1)] [] z_SH (I, R) Q := by
  unfold fX13_jumps at hf
  obtain ⟨g_a0, hf⟩ := z_g_el hf
  refine z_aload_n dX13_jumps_0 rfl rfl (z_okl g_a0) ?_
  refine y_getR lfX13_41 rfl g_a0 dX13_jumps_1 ?_
  refine z_aload_n dX13_jumps_4 rfl rfl (z_okl g_a0) ?_
  refine y_getI lfX13_179 rfl g_a0 dX13_jumps_5 ?_
  refine z_ldc dX13_jumps_8 lkX13_175 ?_
  refine z_iload_n dX13_jumps_10 rfl rfl ?_
  refine z_imul dX13_jumps_11 ?_
  refine z_aload_n dX13_jumps_12 rfl rfl (z_okl g_a0) ?_
  refine y_getI lfX13_172 rfl g_a0 dX13_jumps_13 ?_
  refine z_iadd dX13_jumps_16 ?_
  obtain ⟨g1, hf⟩ := z_g_el hf
  refine y_iast g1 dX13_jumps_17 (fun I2 eI2 => ?_)
  have hf := z_l_el hf eI2
  refine z_aload_n dX13_jumps_18 rfl rfl (z_okl g_a0) ?_
  refine z_aload_n dX13_jumps_19 rfl rfl (z_okl g_a0) ?_
  refine y_getI lfX13_179 rfl g_a0 dX13_jumps_20 ?_
  refine z_iconst dX13_jumps_23 kc_1 ?_
  refine z_iadd dX13_jumps_24 ?_
  refine y_putI lfX13_179 rfl g_a0 rfl rfl rfl dX13_jumps_25 (fun I3 eI3 => ?_)
  have hf := z_l_el hf eI3
  refine z_aload_n dX13_jumps_28 rfl rfl (z_okl g_a0) ?_
  refine z_iload_n dX13_jumps_29 rfl rfl ?_
  refine z_iconst dX13_jumps_30 kc_0 ?_
  obtain ⟨q4, hq4, hf⟩ := z_b_el hf
  refine y_cVv (av := [.int x1, .int (0 : Int32)]) (Nat.le_trans (Nat.le_of_ble_eq_true rfl) hd) (wX13_notes (z_dl rfl hd) hq4) oX13_notes lmX13_185 iX13_notes g_a0 rfl _ rfl rfl (Nat.le_of_ble_eq_true rfl) dX13_jumps_31 ?_
  refine z_aload_n dX13_jumps_34 rfl rfl (z_okl g_a0) ?_
  refine z_aload_n dX13_jumps_35 rfl rfl (z_okl g_a0) ?_
  refine y_getI lfX13_150 rfl g_a0 dX13_jumps_36 ?_
  refine z_iconst dX13_jumps_39 kc_1 ?_
  refine z_iadd dX13_jumps_40 ?_
  refine y_putI lfX13_150 rfl g_a0 rfl rfl rfl dX13_jumps_41 (fun I5 eI5 => ?_)
  have hf := z_l_el hf eI5
  cases hf
  exact z_vret hk rfl dX13_jumps_44
theorem wX13_jumps {G : z_G} {d : Nat} {a0 : Nat} {x1 : Int32} {I : Nat → Nat → Int32} {R : Nat → Nat → Nat} {q : (Nat → Nat → Int32)} (hd : 1 ≤ d) (hf : fX13_jumps a0 x1 I R = some q) : z_M G d 0 0 eX13_jumps [.ref a0, .int x1] z_SH (I, R) (z_E none (q, R)) :=
  y_M_of _ (by decide +kernel) rfl rfl rfl (vX13_jumps hd hf ⟨rfl, rfl, rfl⟩)
def fX13_readsCompared_j52 (a0 : Nat) (v0 : Int32) (I : Nat → Nat → Int32) (R : Nat → Nat → Nat) : Option (Int32 × (Nat → Nat → Int32)) :=
  if v0 = (-1 : Int32) then (z_b (fX13_wrongAt a0 (1 : Int32) (I a0 12) I) (fun q15 => z_g (q15.1 = 0 ∨ q15.1 = 1) (some (q15.1, q15.2)))) else (z_l (z_u I a0 12 ((I a0 12) + (1 : Int32))) (fun I10 => z_b (fX13_readsSum a0 I10 R) (fun q11 => if q11.1 = 0 then (some ((0 : Int32), q11.2)) else (z_b (fX13_notes a0 v0 (0 : Int32) q11.2 R) (fun q13 => z_b (fX13_endsPiece a0 q13 R) (fun q14 => some ((1 : Int32), q14)))))))
theorem wX13_readsCompared_j52 {G : z_G} {d : Nat} {Q : Option Value → z_S → z_H → Prop} {a0 : Nat} {v0 : Int32} {I : Nat → Nat → Int32} {R : Nat → Nat → Nat} {o : Int32 × (Nat → Nat → Int32)} (hd : 5 ≤ d) (g_a0 : z_ob a0 13) (hf : fX13_readsCompared_j52 a0 v0 I R = some o) (hk : Q (some (.int o.1)) z_SH (o.2, R)) : z_W G eX13_readsCompared d 0 0 52 [some (.ref a0), none] [.int v0] z_SH (I, R) Q := by
  unfold fX13_readsCompared_j52 at hf
  refine y_istore_n0 [some (.ref a0), some (.int v0)] dX13_readsCompared_52 rfl (by decide) rfl ?_
  refine z_iload_n dX13_readsCompared_53 rfl rfl ?_
  refine z_iconst dX13_readsCompared_54 kc_m1 ?_
  refine z_icmp_ne (tgt := 68) dX13_readsCompared_55 (by decide) (fun c9 => ?_) (fun c9 => ?_)
  · have hf := z_if_f hf c9
    refine z_aload_n dX13_readsCompared_68 rfl rfl (z_okl g_a0) ?_
    refine z_aload_n dX13_readsCompared_69 rfl rfl (z_okl g_a0) ?_
    refine y_getI lfX13_150 rfl g_a0 dX13_readsCompared_70 ?_
    refine z_iconst dX13_readsCompared_73 kc_1 ?_
    refine z_iadd dX13_readsCompared_74 ?_
    refine y_putI lfX13_150 rfl g_a0 rfl rfl rfl dX13_readsCompared_75 (fun I10 eI10 => ?_)
    have hf := z_l_el hf eI10
    refine z_aload_n dX13_readsCompared_78 rfl rfl (z_okl g_a0) ?_
    obtain ⟨q11, hq11, hf⟩ := z_b_el hf
    refine y_cVi (av := []) (Nat.le_trans (Nat.le_of_ble_eq_true rfl) hd) (wX13_readsSum (z_dl rfl hd) hq11) oX13_readsSum lmX13_211 iX13_readsSum g_a0 rfl _ rfl rfl (Nat.le_of_ble_eq_true rfl) dX13_readsCompared_79 ?_
    refine z_if_ne (tgt := 87) dX13_readsCompared_82 (by decide) (fun c12 => ?_) (fun c12 => ?_)
    · have hf := z_if_f hf c12
      refine z_aload_n dX13_readsCompared_87 rfl rfl (z_okl g_a0) ?_
      refine z_iload_n dX13_readsCompared_88 rfl rfl ?_
      refine z_iconst dX13_readsCompared_89 kc_0 ?_
      obtain ⟨q13, hq13, hf⟩ := z_b_el hf
      refine y_cVv (av := [.int v0, .int (0 : Int32)]) (Nat.le_trans (Nat.le_of_ble_eq_true rfl) hd) (wX13_notes (z_dl rfl hd) hq13) oX13_notes lmX13_185 iX13_notes g_a0 rfl _ rfl rfl (Nat.le_of_ble_eq_true rfl) dX13_readsCompared_90 ?_
      refine z_aload_n dX13_readsCompared_93 rfl rfl (z_okl g_a0) ?_
      obtain ⟨q14, hq14, hf⟩ := z_b_el hf
      refine y_cVv (av := []) (Nat.le_trans (Nat.le_of_ble_eq_true rfl) hd) (wX13_endsPiece (z_dl rfl hd) hq14) oX13_endsPiece lmX13_214 iX13_endsPiece g_a0 rfl _ rfl rfl (Nat.le_of_ble_eq_true rfl) dX13_readsCompared_94 ?_
      refine z_iconst dX13_readsCompared_97 kc_1 ?_
      cases hf
      exact z_iret hk ⟨_, rfl, rfl⟩ dX13_readsCompared_98
    · have hf := z_if_t hf c12
      refine z_iconst dX13_readsCompared_85 kc_0 ?_
      cases hf
      exact z_iret hk ⟨_, rfl, rfl⟩ dX13_readsCompared_86
  · have hf := z_if_t hf c9
    refine z_aload_n dX13_readsCompared_58 rfl rfl (z_okl g_a0) ?_
    refine z_iconst dX13_readsCompared_59 kc_1 ?_
    refine z_aload_n dX13_readsCompared_60 rfl rfl (z_okl g_a0) ?_
    refine y_getI lfX13_150 rfl g_a0 dX13_readsCompared_61 ?_
    obtain ⟨q15, hq15, hf⟩ := z_b_el hf
    refine y_cVi (av := [.int (1 : Int32), .int (I a0 12)]) (Nat.le_trans (Nat.le_of_ble_eq_true rfl) hd) (wX13_wrongAt (z_dl rfl hd) hq15) oX13_wrongAt lmX13_162 iX13_wrongAt g_a0 rfl _ rfl rfl (Nat.le_of_ble_eq_true rfl) dX13_readsCompared_64 ?_
    obtain ⟨g16, hf⟩ := z_g_el hf
    cases hf
    exact z_iret hk ⟨_, rfl, z_bn g16⟩ dX13_readsCompared_67
def fX13_readsCompared (a0 : Nat) (I : Nat → Nat → Int32) (R : Nat → Nat → Nat) : Option (Int32 × (Nat → Nat → Int32)) :=
  z_g (z_ob a0 13) (z_b (fX13_readsSum a0 I R) (fun q1 => if q1.1 = 0 then (some ((0 : Int32), q1.2)) else (z_b (fX13_here a0 q1.2 R) (fun q3 => if q3 = (60 : Int32) then (fX13_readsCompared_j52 a0 (7 : Int32) q1.2 R) else (z_b (fX13_here a0 q1.2 R) (fun q5 => if q5 = (62 : Int32) then (fX13_readsCompared_j52 a0 (8 : Int32) q1.2 R) else (z_b (fX13_here a0 q1.2 R) (fun q7 => if q7 = (61 : Int32) then (fX13_readsCompared_j52 a0 (9 : Int32) q1.2 R) else (fX13_readsCompared_j52 a0 (-1 : Int32) q1.2 R)))))))))
theorem vX13_readsCompared {G : z_G} {d : Nat} {Q : Option Value → z_S → z_H → Prop} {a0 : Nat} {I : Nat → Nat → Int32} {R : Nat → Nat → Nat} {q : Int32 × (Nat → Nat → Int32)} (hd : 5 ≤ d) (hf : fX13_readsCompared a0 I R = some q) (hk : Q (some (.int q.1)) z_SH (q.2, R)) : z_W G eX13_readsCompared d 0 0 0 [some (.ref a0), none] [] z_SH (I, R) Q := by
  unfold fX13_readsCompared at hf
  obtain ⟨g_a0, hf⟩ := z_g_el hf
  refine z_aload_n dX13_readsCompared_0 rfl rfl (z_okl g_a0) ?_
  obtain ⟨q1, hq1, hf⟩ := z_b_el hf
  refine y_cVi (av := []) (Nat.le_trans (Nat.le_of_ble_eq_true rfl) hd) (wX13_readsSum (z_dl rfl hd) hq1) oX13_readsSum lmX13_211 iX13_readsSum g_a0 rfl _ rfl rfl (Nat.le_of_ble_eq_true rfl) dX13_readsCompared_1 ?_
  refine z_if_ne (tgt := 9) dX13_readsCompared_4 (by decide) (fun c2 => ?_) (fun c2 => ?_)
  · have hf := z_if_f hf c2
    refine z_aload_n dX13_readsCompared_9 rfl rfl (z_okl g_a0) ?_
    obtain ⟨q3, hq3, hf⟩ := z_b_el hf
    refine y_cVi (av := []) (Nat.le_trans (Nat.le_of_ble_eq_true rfl) hd) (wX13_here (z_dl rfl hd) hq3) oX13_here lmX13_156 iX13_here g_a0 rfl _ rfl rfl (Nat.le_of_ble_eq_true rfl) dX13_readsCompared_10 ?_
    refine z_bipush dX13_readsCompared_13 kb_60 ?_
    refine z_icmp_ne (tgt := 23) dX13_readsCompared_15 (by decide) (fun c4 => ?_) (fun c4 => ?_)
    · have hf := z_if_f hf c4
      refine z_aload_n dX13_readsCompared_23 rfl rfl (z_okl g_a0) ?_
      obtain ⟨q5, hq5, hf⟩ := z_b_el hf
      refine y_cVi (av := []) (Nat.le_trans (Nat.le_of_ble_eq_true rfl) hd) (wX13_here (z_dl rfl hd) hq5) oX13_here lmX13_156 iX13_here g_a0 rfl _ rfl rfl (Nat.le_of_ble_eq_true rfl) dX13_readsCompared_24 ?_
      refine z_bipush dX13_readsCompared_27 kb_62 ?_
      refine z_icmp_ne (tgt := 37) dX13_readsCompared_29 (by decide) (fun c6 => ?_) (fun c6 => ?_)
      · have hf := z_if_f hf c6
        refine z_aload_n dX13_readsCompared_37 rfl rfl (z_okl g_a0) ?_
        obtain ⟨q7, hq7, hf⟩ := z_b_el hf
        refine y_cVi (av := []) (Nat.le_trans (Nat.le_of_ble_eq_true rfl) hd) (wX13_here (z_dl rfl hd) hq7) oX13_here lmX13_156 iX13_here g_a0 rfl _ rfl rfl (Nat.le_of_ble_eq_true rfl) dX13_readsCompared_38 ?_
        refine z_bipush dX13_readsCompared_41 kb_61 ?_
        refine z_icmp_ne (tgt := 51) dX13_readsCompared_43 (by decide) (fun c8 => ?_) (fun c8 => ?_)
        · have hf := z_if_f hf c8
          refine z_iconst dX13_readsCompared_51 kc_m1 ?_
          exact y_sub (wX13_readsCompared_j52 hd g_a0 hf hk) (z_le_c rfl (z_le_n z_le_0))
        · have hf := z_if_t hf c8
          refine z_bipush dX13_readsCompared_46 kb_9 ?_
          refine z_goto (tgt := 52) dX13_readsCompared_48 (by decide) ?_
          exact y_sub (wX13_readsCompared_j52 hd g_a0 hf hk) (z_le_c rfl (z_le_n z_le_0))
      · have hf := z_if_t hf c6
        refine z_bipush dX13_readsCompared_32 kb_8 ?_
        refine z_goto (tgt := 52) dX13_readsCompared_34 (by decide) ?_
        exact y_sub (wX13_readsCompared_j52 hd g_a0 hf hk) (z_le_c rfl (z_le_n z_le_0))
    · have hf := z_if_t hf c4
      refine z_bipush dX13_readsCompared_18 kb_7 ?_
      refine z_goto (tgt := 52) dX13_readsCompared_20 (by decide) ?_
      exact y_sub (wX13_readsCompared_j52 hd g_a0 hf hk) (z_le_c rfl (z_le_n z_le_0))
  · have hf := z_if_t hf c2
    refine z_iconst dX13_readsCompared_7 kc_0 ?_
    cases hf
    exact z_iret hk ⟨_, rfl, rfl⟩ dX13_readsCompared_8
theorem wX13_readsCompared {G : z_G} {d : Nat} {a0 : Nat} {I : Nat → Nat → Int32} {R : Nat → Nat → Nat} {q : Int32 × (Nat → Nat → Int32)} (hd : 5 ≤ d) (hf : fX13_readsCompared a0 I R = some q) : z_M G d 0 0 eX13_readsCompared [.ref a0] z_SH (I, R) (z_E (some (.int q.1)) (q.2, R)) :=
  y_M_of _ (by decide +kernel) rfl rfl rfl (vX13_readsCompared hd hf ⟨rfl, rfl, rfl⟩)
def fX13_readsCondition_j75_40 (a0 : Nat) (v0 : Nat) (v1 : Int32) (I : Nat → Nat → Int32) (R : Nat → Nat → Nat) : Option (((Nat → Nat → Int32)) ⊕ ((Int32 × (Nat → Nat → Int32)) ⊕ ((Nat → Nat → Int32)))) :=
  z_g (z_ob v0 13) (z_b (fX13_opens v0 v1 I R) (fun q11 => if q11.1 = 0 then (some (.inr (.inl ((0 : Int32), q11.2)))) else (some (.inl q11.2))))
theorem wX13_readsCondition_j75_40 {G : z_G} {d : Nat} {Q : Option Value → z_S → z_H → Prop} {a0 : Nat} {v0 : Nat} {v1 : Int32} {I : Nat → Nat → Int32} {R : Nat → Nat → Nat} {o : ((Nat → Nat → Int32)) ⊕ ((Int32 × (Nat → Nat → Int32)) ⊕ ((Nat → Nat → Int32)))} (hd : 6 ≤ d) (g_a0 : z_ob a0 13) (hf : fX13_readsCondition_j75_40 a0 v0 v1 I R = some o) (hk : z_or (fun s : (Nat → Nat → Int32) => z_W G eX13_readsCondition d 0 0 40 [some (.ref a0)] [] z_SH (s, R) Q) (z_or (fun r : Int32 × (Nat → Nat → Int32) => Q (some (.int r.1)) z_SH (r.2, R)) (fun x : (Nat → Nat → Int32) => z_W G eX13_readsCondition d 0 0 170 [some (.ref a0)] [] z_SH (x, R) Q)) o) : z_W G eX13_readsCondition d 0 0 75 [some (.ref a0)] [.int v1, .ref v0] z_SH (I, R) Q := by
  unfold fX13_readsCondition_j75_40 at hf
  obtain ⟨g12, hf⟩ := z_g_el hf
  obtain ⟨q11, hq11, hf⟩ := z_b_el hf
  refine y_cVi (av := [.int v1]) (Nat.le_trans (Nat.le_of_ble_eq_true rfl) hd) (wX13_opens (z_dl rfl hd) hq11) oX13_opens lmX13_189 iX13_opens g12 rfl _ rfl rfl (Nat.le_of_ble_eq_true rfl) dX13_readsCondition_75 ?_
  refine z_if_ne (tgt := 40) dX13_readsCondition_78 (by decide) (fun c13 => ?_) (fun c13 => ?_)
  · have hf := z_if_f hf c13
    cases hf
    exact y_sub hk (z_le_c rfl z_le_0)
  · have hf := z_if_t hf c13
    refine z_iconst dX13_readsCondition_81 kc_0 ?_
    cases hf
    exact z_iret hk ⟨_, rfl, rfl⟩ dX13_readsCondition_82
def fX13_readsCondition_j58_40 (a0 : Nat) (I : Nat → Nat → Int32) (R : Nat → Nat → Nat) : Option (((Nat → Nat → Int32)) ⊕ ((Int32 × (Nat → Nat → Int32)) ⊕ ((Nat → Nat → Int32)))) :=
  z_b (fX13_here a0 I R) (fun q9 => if q9 = (33 : Int32) then (fX13_readsCondition_j75_40 a0 a0 (10 : Int32) I R) else (fX13_readsCondition_j75_40 a0 a0 (13 : Int32) I R))
theorem wX13_readsCondition_j58_40 {G : z_G} {d : Nat} {Q : Option Value → z_S → z_H → Prop} {a0 : Nat} {I : Nat → Nat → Int32} {R : Nat → Nat → Nat} {o : ((Nat → Nat → Int32)) ⊕ ((Int32 × (Nat → Nat → Int32)) ⊕ ((Nat → Nat → Int32)))} (hd : 6 ≤ d) (g_a0 : z_ob a0 13) (hf : fX13_readsCondition_j58_40 a0 I R = some o) (hk : z_or (fun s : (Nat → Nat → Int32) => z_W G eX13_readsCondition d 0 0 40 [some (.ref a0)] [] z_SH (s, R) Q) (z_or (fun r : Int32 × (Nat → Nat → Int32) => Q (some (.int r.1)) z_SH (r.2, R)) (fun x : (Nat → Nat → Int32) => z_W G eX13_readsCondition d 0 0 170 [some (.ref a0)] [] z_SH (x, R) Q)) o) : z_W G eX13_readsCondition d 0 0 58 [some (.ref a0)] [] z_SH (I, R) Q := by
  unfold fX13_readsCondition_j58_40 at hf
  refine z_aload_n dX13_readsCondition_58 rfl rfl (z_okl g_a0) ?_
  refine z_aload_n dX13_readsCondition_59 rfl rfl (z_okl g_a0) ?_
  obtain ⟨q9, hq9, hf⟩ := z_b_el hf
  refine y_cVi (av := []) (Nat.le_trans (Nat.le_of_ble_eq_true rfl) hd) (wX13_here (z_dl rfl hd) hq9) oX13_here lmX13_156 iX13_here g_a0 rfl _ rfl rfl (Nat.le_of_ble_eq_true rfl) dX13_readsCondition_60 ?_
  refine z_bipush dX13_readsCondition_63 kb_33 ?_
  refine z_icmp_ne (tgt := 73) dX13_readsCondition_65 (by decide) (fun c10 => ?_) (fun c10 => ?_)
  · have hf := z_if_f hf c10
    refine z_bipush dX13_readsCondition_73 kb_13 ?_
    exact y_sub (wX13_readsCondition_j75_40 hd g_a0 hf hk) (z_le_c rfl z_le_0)
  · have hf := z_if_t hf c10
    refine z_bipush dX13_readsCondition_68 kb_10 ?_
    refine z_goto (tgt := 75) dX13_readsCondition_70 (by decide) ?_
    exact y_sub (wX13_readsCondition_j75_40 hd g_a0 hf hk) (z_le_c rfl z_le_0)
def fX13_readsCondition_b92 (a0 : Nat) (R : Nat → Nat → Nat) : ((Nat → Nat → Int32)) → Option (((Nat → Nat → Int32)) ⊕ ((Int32 × (Nat → Nat → Int32)) ⊕ ((Nat → Nat → Int32)))) :=
  fun s => (fun (I : Nat → Nat → Int32) => z_b (fX13_here a0 I R) (fun q18 => if q18 = (41 : Int32) then (z_b (fX13_lands a0 (1 : Int32) I R) (fun q20 => z_l (z_u q20 a0 18 ((q20 a0 18) - (1 : Int32))) (fun I21 => z_l (z_u I21 a0 16 ((I21 a0 16) - (1 : Int32))) (fun I22 => z_l (z_u I22 a0 12 ((I22 a0 12) + (1 : Int32))) (fun I23 => if (I23 a0 18) = 0 then (some (.inr (.inl ((1 : Int32), I23)))) else (z_b (fX13_endsPiece a0 I23 R) (fun q25 => some (.inl q25)))))))) else (some (.inr (.inr I))))) s
theorem wX13_readsCondition_b92 {G : z_G} {d : Nat} {Q : Option Value → z_S → z_H → Prop} {a0 : Nat} {R : Nat → Nat → Nat} (hd : 6 ≤ d) (g_a0 : z_ob a0 13) : ∀ (s : (Nat → Nat → Int32)) (o : ((Nat → Nat → Int32)) ⊕ ((Int32 × (Nat → Nat → Int32)) ⊕ ((Nat → Nat → Int32)))), fX13_readsCondition_b92 a0 R s = some o → z_or (fun s : (Nat → Nat → Int32) => z_W G eX13_readsCondition d 0 0 92 [some (.ref a0)] [] z_SH (s, R) Q) (z_or (fun r : Int32 × (Nat → Nat → Int32) => Q (some (.int r.1)) z_SH (r.2, R)) (fun x : (Nat → Nat → Int32) => z_W G eX13_readsCondition d 0 0 152 [some (.ref a0)] [] z_SH (x, R) Q)) o → (fun s : (Nat → Nat → Int32) => z_W G eX13_readsCondition d 0 0 92 [some (.ref a0)] [] z_SH (s, R) Q) s := by
  intro I o hf hk
  show z_W G eX13_readsCondition d 0 0 92 [some (.ref a0)] [] z_SH (I, R) Q
  unfold fX13_readsCondition_b92 at hf
  try dsimp only at hf
  refine z_aload_n dX13_readsCondition_92 rfl rfl (z_okl g_a0) ?_
  obtain ⟨q18, hq18, hf⟩ := z_b_el hf
  refine y_cVi (av := []) (Nat.le_trans (Nat.le_of_ble_eq_true rfl) hd) (wX13_here (z_dl rfl hd) hq18) oX13_here lmX13_156 iX13_here g_a0 rfl _ rfl rfl (Nat.le_of_ble_eq_true rfl) dX13_readsCondition_93 ?_
  refine z_bipush dX13_readsCondition_96 kb_41 ?_
  refine z_icmp_ne (tgt := 152) dX13_readsCondition_98 (by decide) (fun c19 => ?_) (fun c19 => ?_)
  · have hf := z_if_f hf c19
    cases hf
    exact y_sub hk (z_le_c rfl z_le_0)
  · have hf := z_if_t hf c19
    refine z_aload_n dX13_readsCondition_101 rfl rfl (z_okl g_a0) ?_
    refine z_iconst dX13_readsCondition_102 kc_1 ?_
    obtain ⟨q20, hq20, hf⟩ := z_b_el hf
    refine y_cVv (av := [.int (1 : Int32)]) (Nat.le_trans (Nat.le_of_ble_eq_true rfl) hd) (wX13_lands (z_dl rfl hd) hq20) oX13_lands lmX13_220 iX13_lands g_a0 rfl _ rfl rfl (Nat.le_of_ble_eq_true rfl) dX13_readsCondition_103 ?_
    refine z_aload_n dX13_readsCondition_106 rfl rfl (z_okl g_a0) ?_
    refine z_aload_n dX13_readsCondition_107 rfl rfl (z_okl g_a0) ?_
    refine y_getI lfX13_179 rfl g_a0 dX13_readsCondition_108 ?_
    refine z_iconst dX13_readsCondition_111 kc_1 ?_
    refine z_isub dX13_readsCondition_112 ?_
    refine y_putI lfX13_179 rfl g_a0 rfl rfl rfl dX13_readsCondition_113 (fun I21 eI21 => ?_)
    have hf := z_l_el hf eI21
    refine z_aload_n dX13_readsCondition_116 rfl rfl (z_okl g_a0) ?_
    refine z_aload_n dX13_readsCondition_117 rfl rfl (z_okl g_a0) ?_
    refine y_getI lfX13_176 rfl g_a0 dX13_readsCondition_118 ?_
    refine z_iconst dX13_readsCondition_121 kc_1 ?_
    refine z_isub dX13_readsCondition_122 ?_
    refine y_putI lfX13_176 rfl g_a0 rfl rfl rfl dX13_readsCondition_123 (fun I22 eI22 => ?_)
    have hf := z_l_el hf eI22
    refine z_aload_n dX13_readsCondition_126 rfl rfl (z_okl g_a0) ?_
    refine z_aload_n dX13_readsCondition_127 rfl rfl (z_okl g_a0) ?_
    refine y_getI lfX13_150 rfl g_a0 dX13_readsCondition_128 ?_
    refine z_iconst dX13_readsCondition_131 kc_1 ?_
    refine z_iadd dX13_readsCondition_132 ?_
    refine y_putI lfX13_150 rfl g_a0 rfl rfl rfl dX13_readsCondition_133 (fun I23 eI23 => ?_)
    have hf := z_l_el hf eI23
    refine z_aload_n dX13_readsCondition_136 rfl rfl (z_okl g_a0) ?_
    refine y_getI lfX13_179 rfl g_a0 dX13_readsCondition_137 ?_
    refine z_if_ne (tgt := 145) dX13_readsCondition_140 (by decide) (fun c24 => ?_) (fun c24 => ?_)
    · have hf := z_if_f hf c24
      refine z_aload_n dX13_readsCondition_145 rfl rfl (z_okl g_a0) ?_
      obtain ⟨q25, hq25, hf⟩ := z_b_el hf
      refine y_cVv (av := []) (Nat.le_trans (Nat.le_of_ble_eq_true rfl) hd) (wX13_endsPiece (z_dl rfl hd) hq25) oX13_endsPiece lmX13_214 iX13_endsPiece g_a0 rfl _ rfl rfl (Nat.le_of_ble_eq_true rfl) dX13_readsCondition_146 ?_
      refine z_goto (tgt := 92) dX13_readsCondition_149 (by decide) ?_
      cases hf
      exact y_sub hk (z_le_c rfl z_le_0)
    · have hf := z_if_t hf c24
      refine z_iconst dX13_readsCondition_143 kc_1 ?_
      cases hf
      exact z_iret hk ⟨_, rfl, rfl⟩ dX13_readsCondition_144
def fX13_readsCondition_j215_40 (a0 : Nat) (v0 : Nat) (v1 : Int32) (I : Nat → Nat → Int32) (R : Nat → Nat → Nat) : Option (((Nat → Nat → Int32)) ⊕ ((Int32 × (Nat → Nat → Int32)) ⊕ ((Nat → Nat → Int32)))) :=
  z_g (z_ob v0 13) (z_b (fX13_jumps v0 v1 I R) (fun q37 => some (.inl q37)))
theorem wX13_readsCondition_j215_40 {G : z_G} {d : Nat} {Q : Option Value → z_S → z_H → Prop} {a0 : Nat} {v0 : Nat} {v1 : Int32} {I : Nat → Nat → Int32} {R : Nat → Nat → Nat} {o : ((Nat → Nat → Int32)) ⊕ ((Int32 × (Nat → Nat → Int32)) ⊕ ((Nat → Nat → Int32)))} (hd : 6 ≤ d) (g_a0 : z_ob a0 13) (hf : fX13_readsCondition_j215_40 a0 v0 v1 I R = some o) (hk : z_or (fun s : (Nat → Nat → Int32) => z_W G eX13_readsCondition d 0 0 40 [some (.ref a0)] [] z_SH (s, R) Q) (z_or (fun r : Int32 × (Nat → Nat → Int32) => Q (some (.int r.1)) z_SH (r.2, R)) (fun x : (Nat → Nat → Int32) => z_W G eX13_readsCondition d 0 0 170 [some (.ref a0)] [] z_SH (x, R) Q)) o) : z_W G eX13_readsCondition d 0 0 215 [some (.ref a0)] [.int v1, .ref v0] z_SH (I, R) Q := by
  unfold fX13_readsCondition_j215_40 at hf
  obtain ⟨g38, hf⟩ := z_g_el hf
  obtain ⟨q37, hq37, hf⟩ := z_b_el hf
  refine y_cVv (av := [.int v1]) (Nat.le_trans (Nat.le_of_ble_eq_true rfl) hd) (wX13_jumps (z_dl rfl hd) hq37) oX13_jumps lmX13_223 iX13_jumps g38 rfl _ rfl rfl (Nat.le_of_ble_eq_true rfl) dX13_readsCondition_215 ?_
  refine z_goto (tgt := 40) dX13_readsCondition_218 (by decide) ?_
  cases hf
  exact y_sub hk (z_le_c rfl z_le_0)
def fX13_readsCondition_j195_40 (a0 : Nat) (v0 : Nat) (v1 : Int32) (I : Nat → Nat → Int32) (R : Nat → Nat → Nat) : Option (((Nat → Nat → Int32)) ⊕ ((Int32 × (Nat → Nat → Int32)) ⊕ ((Nat → Nat → Int32)))) :=
  z_g (z_ob v0 13) (z_b (fX13_lands v0 v1 I R) (fun q33 => z_b (fX13_here a0 q33 R) (fun q35 => if q35 = (38 : Int32) then (fX13_readsCondition_j215_40 a0 a0 (11 : Int32) q33 R) else (fX13_readsCondition_j215_40 a0 a0 (12 : Int32) q33 R))))
theorem wX13_readsCondition_j195_40 {G : z_G} {d : Nat} {Q : Option Value → z_S → z_H → Prop} {a0 : Nat} {v0 : Nat} {v1 : Int32} {I : Nat → Nat → Int32} {R : Nat → Nat → Nat} {o : ((Nat → Nat → Int32)) ⊕ ((Int32 × (Nat → Nat → Int32)) ⊕ ((Nat → Nat → Int32)))} (hd : 6 ≤ d) (g_a0 : z_ob a0 13) (hf : fX13_readsCondition_j195_40 a0 v0 v1 I R = some o) (hk : z_or (fun s : (Nat → Nat → Int32) => z_W G eX13_readsCondition d 0 0 40 [some (.ref a0)] [] z_SH (s, R) Q) (z_or (fun r : Int32 × (Nat → Nat → Int32) => Q (some (.int r.1)) z_SH (r.2, R)) (fun x : (Nat → Nat → Int32) => z_W G eX13_readsCondition d 0 0 170 [some (.ref a0)] [] z_SH (x, R) Q)) o) : z_W G eX13_readsCondition d 0 0 195 [some (.ref a0)] [.int v1, .ref v0] z_SH (I, R) Q := by
  unfold fX13_readsCondition_j195_40 at hf
  obtain ⟨g34, hf⟩ := z_g_el hf
  obtain ⟨q33, hq33, hf⟩ := z_b_el hf
  refine y_cVv (av := [.int v1]) (Nat.le_trans (Nat.le_of_ble_eq_true rfl) hd) (wX13_lands (z_dl rfl hd) hq33) oX13_lands lmX13_220 iX13_lands g34 rfl _ rfl rfl (Nat.le_of_ble_eq_true rfl) dX13_readsCondition_195 ?_
  refine z_aload_n dX13_readsCondition_198 rfl rfl (z_okl g_a0) ?_
  refine z_aload_n dX13_readsCondition_199 rfl rfl (z_okl g_a0) ?_
  obtain ⟨q35, hq35, hf⟩ := z_b_el hf
  refine y_cVi (av := []) (Nat.le_trans (Nat.le_of_ble_eq_true rfl) hd) (wX13_here (z_dl rfl hd) hq35) oX13_here lmX13_156 iX13_here g_a0 rfl _ rfl rfl (Nat.le_of_ble_eq_true rfl) dX13_readsCondition_200 ?_
  refine z_bipush dX13_readsCondition_203 kb_38 ?_
  refine z_icmp_ne (tgt := 213) dX13_readsCondition_205 (by decide) (fun c36 => ?_) (fun c36 => ?_)
  · have hf := z_if_f hf c36
    refine z_bipush dX13_readsCondition_213 kb_12 ?_
    exact y_sub (wX13_readsCondition_j215_40 hd g_a0 hf hk) (z_le_c rfl z_le_0)
  · have hf := z_if_t hf c36
    refine z_bipush dX13_readsCondition_208 kb_11 ?_
    refine z_goto (tgt := 215) dX13_readsCondition_210 (by decide) ?_
    exact y_sub (wX13_readsCondition_j215_40 hd g_a0 hf hk) (z_le_c rfl z_le_0)
def fX13_readsCondition_j180_40 (a0 : Nat) (I : Nat → Nat → Int32) (R : Nat → Nat → Nat) : Option (((Nat → Nat → Int32)) ⊕ ((Int32 × (Nat → Nat → Int32)) ⊕ ((Nat → Nat → Int32)))) :=
  z_b (fX13_here a0 I R) (fun q31 => if q31 = (124 : Int32) then (fX13_readsCondition_j195_40 a0 a0 (1 : Int32) I R) else (fX13_readsCondition_j195_40 a0 a0 (0 : Int32) I R))
theorem wX13_readsCondition_j180_40 {G : z_G} {d : Nat} {Q : Option Value → z_S → z_H → Prop} {a0 : Nat} {I : Nat → Nat → Int32} {R : Nat → Nat → Nat} {o : ((Nat → Nat → Int32)) ⊕ ((Int32 × (Nat → Nat → Int32)) ⊕ ((Nat → Nat → Int32)))} (hd : 6 ≤ d) (g_a0 : z_ob a0 13) (hf : fX13_readsCondition_j180_40 a0 I R = some o) (hk : z_or (fun s : (Nat → Nat → Int32) => z_W G eX13_readsCondition d 0 0 40 [some (.ref a0)] [] z_SH (s, R) Q) (z_or (fun r : Int32 × (Nat → Nat → Int32) => Q (some (.int r.1)) z_SH (r.2, R)) (fun x : (Nat → Nat → Int32) => z_W G eX13_readsCondition d 0 0 170 [some (.ref a0)] [] z_SH (x, R) Q)) o) : z_W G eX13_readsCondition d 0 0 180 [some (.ref a0)] [] z_SH (I, R) Q := by
  unfold fX13_readsCondition_j180_40 at hf
  refine z_aload_n dX13_readsCondition_180 rfl rfl (z_okl g_a0) ?_
  refine z_aload_n dX13_readsCondition_181 rfl rfl (z_okl g_a0) ?_
  obtain ⟨q31, hq31, hf⟩ := z_b_el hf
  refine y_cVi (av := []) (Nat.le_trans (Nat.le_of_ble_eq_true rfl) hd) (wX13_here (z_dl rfl hd) hq31) oX13_here lmX13_156 iX13_here g_a0 rfl _ rfl rfl (Nat.le_of_ble_eq_true rfl) dX13_readsCondition_182 ?_
  refine z_bipush dX13_readsCondition_185 kb_124 ?_
  refine z_icmp_ne (tgt := 194) dX13_readsCondition_187 (by decide) (fun c32 => ?_) (fun c32 => ?_)
  · have hf := z_if_f hf c32
    refine z_iconst dX13_readsCondition_194 kc_0 ?_
    exact y_sub (wX13_readsCondition_j195_40 hd g_a0 hf hk) (z_le_c rfl z_le_0)
  · have hf := z_if_t hf c32
    refine z_iconst dX13_readsCondition_190 kc_1 ?_
    refine z_goto (tgt := 195) dX13_readsCondition_191 (by decide) ?_
    exact y_sub (wX13_readsCondition_j195_40 hd g_a0 hf hk) (z_le_c rfl z_le_0)
def fX13_readsCondition_b40 (a0 : Nat) (R : Nat → Nat → Nat) : ((Nat → Nat → Int32)) → Option (((Nat → Nat → Int32)) ⊕ ((Int32 × (Nat → Nat → Int32)) ⊕ ((Nat → Nat → Int32)))) :=
  fun s => (fun (I : Nat → Nat → Int32) => z_b (fX13_here a0 I R) (fun q7 => if q7 = (33 : Int32) then (fX13_readsCondition_j58_40 a0 I R) else (z_b (fX13_here a0 I R) (fun q14 => if q14 = (40 : Int32) then (fX13_readsCondition_j58_40 a0 I R) else (z_b (fX13_readsCompared a0 I R) (fun q16 => if q16.1 = 0 then (some (.inr (.inl ((0 : Int32), q16.2)))) else (z_b (z_lp (fX13_readsCondition_b92 a0 R) 300 q16.2) (fun q26 => z_x q26 (fun q28 => some (.inr (.inl q28))) (fun q27 => z_b (fX13_here a0 q27 R) (fun q29 => if q29 = (38 : Int32) then (fX13_readsCondition_j180_40 a0 q27 R) else (z_b (fX13_here a0 q27 R) (fun q39 => if q39 = (124 : Int32) then (fX13_readsCondition_j180_40 a0 q27 R) else (some (.inr (.inr q27))))))))))))))) s
theorem wX13_readsCondition_b40 {G : z_G} {d : Nat} {Q : Option Value → z_S → z_H → Prop} {a0 : Nat} {R : Nat → Nat → Nat} (hd : 6 ≤ d) (g_a0 : z_ob a0 13) : ∀ (s : (Nat → Nat → Int32)) (o : ((Nat → Nat → Int32)) ⊕ ((Int32 × (Nat → Nat → Int32)) ⊕ ((Nat → Nat → Int32)))), fX13_readsCondition_b40 a0 R s = some o → z_or (fun s : (Nat → Nat → Int32) => z_W G eX13_readsCondition d 0 0 40 [some (.ref a0)] [] z_SH (s, R) Q) (z_or (fun r : Int32 × (Nat → Nat → Int32) => Q (some (.int r.1)) z_SH (r.2, R)) (fun x : (Nat → Nat → Int32) => z_W G eX13_readsCondition d 0 0 170 [some (.ref a0)] [] z_SH (x, R) Q)) o → (fun s : (Nat → Nat → Int32) => z_W G eX13_readsCondition d 0 0 40 [some (.ref a0)] [] z_SH (s, R) Q) s := by
  intro I o hf hk
  show z_W G eX13_readsCondition d 0 0 40 [some (.ref a0)] [] z_SH (I, R) Q
  unfold fX13_readsCondition_b40 at hf
  try dsimp only at hf
  refine z_aload_n dX13_readsCondition_40 rfl rfl (z_okl g_a0) ?_
  obtain ⟨q7, hq7, hf⟩ := z_b_el hf
  refine y_cVi (av := []) (Nat.le_trans (Nat.le_of_ble_eq_true rfl) hd) (wX13_here (z_dl rfl hd) hq7) oX13_here lmX13_156 iX13_here g_a0 rfl _ rfl rfl (Nat.le_of_ble_eq_true rfl) dX13_readsCondition_41 ?_
  refine z_bipush dX13_readsCondition_44 kb_33 ?_
  refine z_icmp_eq (tgt := 58) dX13_readsCondition_46 (by decide) (fun c8 => ?_) (fun c8 => ?_)
  · have hf := z_if_t hf c8
    exact y_sub (wX13_readsCondition_j58_40 hd g_a0 hf hk) (z_le_c rfl z_le_0)
  · have hf := z_if_f hf c8
    refine z_aload_n dX13_readsCondition_49 rfl rfl (z_okl g_a0) ?_
    obtain ⟨q14, hq14, hf⟩ := z_b_el hf
    refine y_cVi (av := []) (Nat.le_trans (Nat.le_of_ble_eq_true rfl) hd) (wX13_here (z_dl rfl hd) hq14) oX13_here lmX13_156 iX13_here g_a0 rfl _ rfl rfl (Nat.le_of_ble_eq_true rfl) dX13_readsCondition_50 ?_
    refine z_bipush dX13_readsCondition_53 kb_40 ?_
    refine z_icmp_ne (tgt := 83) dX13_readsCondition_55 (by decide) (fun c15 => ?_) (fun c15 => ?_)
    · have hf := z_if_f hf c15
      refine z_aload_n dX13_readsCondition_83 rfl rfl (z_okl g_a0) ?_
      obtain ⟨q16, hq16, hf⟩ := z_b_el hf
      refine y_cVi (av := []) (Nat.le_trans (Nat.le_of_ble_eq_true rfl) hd) (wX13_readsCompared (z_dl rfl hd) hq16) oX13_readsCompared lmX13_217 iX13_readsCompared g_a0 rfl _ rfl rfl (Nat.le_of_ble_eq_true rfl) dX13_readsCondition_84 ?_
      refine z_if_ne (tgt := 92) dX13_readsCondition_87 (by decide) (fun c17 => ?_) (fun c17 => ?_)
      · have hf := z_if_f hf c17
        obtain ⟨q26, hq26, hf⟩ := z_b_el hf
        refine y_sub (lv' := [some (.ref a0)]) ?_ (z_le_c rfl z_le_0)
        refine z_lp_el (P := (fun s : (Nat → Nat → Int32) => z_W G eX13_readsCondition d 0 0 92 [some (.ref a0)] [] z_SH (s, R) Q)) (E := (z_or (fun r : Int32 × (Nat → Nat → Int32) => Q (some (.int r.1)) z_SH (r.2, R)) (fun x : (Nat → Nat → Int32) => z_W G eX13_readsCondition d 0 0 152 [some (.ref a0)] [] z_SH (x, R) Q))) (wX13_readsCondition_b92 hd g_a0) 300 q16.2 q26 hq26 ?_
        rcases q26 with q28 | q27
        · have hf := z_x_l hf
          cases hf
          exact hk
        · have hf := z_x_r hf
          show z_W G eX13_readsCondition d 0 0 152 [some (.ref a0)] [] z_SH (q27, R) _
          refine z_aload_n dX13_readsCondition_152 rfl rfl (z_okl g_a0) ?_
          obtain ⟨q29, hq29, hf⟩ := z_b_el hf
          refine y_cVi (av := []) (Nat.le_trans (Nat.le_of_ble_eq_true rfl) hd) (wX13_here (z_dl rfl hd) hq29) oX13_here lmX13_156 iX13_here g_a0 rfl _ rfl rfl (Nat.le_of_ble_eq_true rfl) dX13_readsCondition_153 ?_
          refine z_bipush dX13_readsCondition_156 kb_38 ?_
          refine z_icmp_eq (tgt := 180) dX13_readsCondition_158 (by decide) (fun c30 => ?_) (fun c30 => ?_)
          · have hf := z_if_t hf c30
            exact y_sub (wX13_readsCondition_j180_40 hd g_a0 hf hk) (z_le_c rfl z_le_0)
          · have hf := z_if_f hf c30
            refine z_aload_n dX13_readsCondition_161 rfl rfl (z_okl g_a0) ?_
            obtain ⟨q39, hq39, hf⟩ := z_b_el hf
            refine y_cVi (av := []) (Nat.le_trans (Nat.le_of_ble_eq_true rfl) hd) (wX13_here (z_dl rfl hd) hq39) oX13_here lmX13_156 iX13_here g_a0 rfl _ rfl rfl (Nat.le_of_ble_eq_true rfl) dX13_readsCondition_162 ?_
            refine z_bipush dX13_readsCondition_165 kb_124 ?_
            refine z_icmp_eq (tgt := 180) dX13_readsCondition_167 (by decide) (fun c40 => ?_) (fun c40 => ?_)
            · have hf := z_if_t hf c40
              exact y_sub (wX13_readsCondition_j180_40 hd g_a0 hf hk) (z_le_c rfl z_le_0)
            · have hf := z_if_f hf c40
              cases hf
              exact y_sub hk (z_le_c rfl z_le_0)
      · have hf := z_if_t hf c17
        refine z_iconst dX13_readsCondition_90 kc_0 ?_
        cases hf
        exact z_iret hk ⟨_, rfl, rfl⟩ dX13_readsCondition_91
    · have hf := z_if_t hf c15
      exact y_sub (wX13_readsCondition_j58_40 hd g_a0 hf hk) (z_le_c rfl z_le_0)
def fX13_readsCondition (a0 : Nat) (I : Nat → Nat → Int32) (R : Nat → Nat → Nat) : Option (Int32 × (Nat → Nat → Int32)) :=
  z_g (z_ob a0 13) (z_b (fX13_here a0 I R) (fun q1 => if q1 = (40 : Int32) then (z_l (z_u I a0 16 (0 : Int32)) (fun I3 => z_l (z_u I3 a0 18 (0 : Int32)) (fun I4 => z_b (fX13_opens a0 (13 : Int32) I4 R) (fun q5 => if q5.1 = 0 then (some ((0 : Int32), q5.2)) else (z_b (z_lp (fX13_readsCondition_b40 a0 R) 300 q5.2) (fun q41 => z_x q41 (fun q43 => some q43) (fun q42 => z_b (fX13_wrongAt a0 (1 : Int32) (q42 a0 12) q42) (fun q44 => z_g (q44.1 = 0 ∨ q44.1 = 1) (some (q44.1, q44.2)))))))))) else (z_b (fX13_wrongAt a0 (1 : Int32) (I a0 12) I) (fun q46 => z_g (q46.1 = 0 ∨ q46.1 = 1) (some (q46.1, q46.2))))))
set_option maxRecDepth 20000 in
theorem vX13_readsCondition {G : z_G} {d : Nat} {Q : Option Value → z_S → z_H → Prop} {a0 : Nat} {I : Nat → Nat → Int32} {R : Nat → Nat → Nat} {q : Int32 × (Nat → Nat → Int32)} (hd : 6 ≤ d) (hf : fX13_readsCondition a0 I R = some q) (hk : Q (some (.int q.1)) z_SH (q.2, R)) : z_W G eX13_readsCondition d 0 0 0 [some (.ref a0)] [] z_SH (I, R) Q := by
  unfold fX13_readsCondition at hf
  obtain ⟨g_a0, hf⟩ := z_g_el hf
  refine z_aload_n dX13_readsCondition_0 rfl rfl (z_okl g_a0) ?_
  obtain ⟨q1, hq1, hf⟩ := z_b_el hf
  refine y_cVi (av := []) (Nat.le_trans (Nat.le_of_ble_eq_true rfl) hd) (wX13_here (z_dl rfl hd) hq1) oX13_here lmX13_156 iX13_here g_a0 rfl _ rfl rfl (Nat.le_of_ble_eq_true rfl) dX13_readsCondition_1 ?_
  refine z_bipush dX13_readsCondition_4 kb_40 ?_
  refine z_icmp_eq (tgt := 19) dX13_readsCondition_6 (by decide) (fun c2 => ?_) (fun c2 => ?_)
  · have hf := z_if_t hf c2
    refine z_aload_n dX13_readsCondition_19 rfl rfl (z_okl g_a0) ?_
    refine z_iconst dX13_readsCondition_20 kc_0 ?_
    refine y_putI lfX13_176 rfl g_a0 rfl rfl rfl dX13_readsCondition_21 (fun I3 eI3 => ?_)
    have hf := z_l_el hf eI3
    refine z_aload_n dX13_readsCondition_24 rfl rfl (z_okl g_a0) ?_
    refine z_iconst dX13_readsCondition_25 kc_0 ?_
    refine y_putI lfX13_179 rfl g_a0 rfl rfl rfl dX13_readsCondition_26 (fun I4 eI4 => ?_)
    have hf := z_l_el hf eI4
    refine z_aload_n dX13_readsCondition_29 rfl rfl (z_okl g_a0) ?_
    refine z_bipush dX13_readsCondition_30 kb_13 ?_
    obtain ⟨q5, hq5, hf⟩ := z_b_el hf
    refine y_cVi (av := [.int (13 : Int32)]) (Nat.le_trans (Nat.le_of_ble_eq_true rfl) hd) (wX13_opens (z_dl rfl hd) hq5) oX13_opens lmX13_189 iX13_opens g_a0 rfl _ rfl rfl (Nat.le_of_ble_eq_true rfl) dX13_readsCondition_32 ?_
    refine z_if_ne (tgt := 40) dX13_readsCondition_35 (by decide) (fun c6 => ?_) (fun c6 => ?_)
    · have hf := z_if_f hf c6
      obtain ⟨q41, hq41, hf⟩ := z_b_el hf
      refine y_sub (lv' := [some (.ref a0)]) ?_ (z_le_c rfl z_le_0)
      refine z_lp_el (P := (fun s : (Nat → Nat → Int32) => z_W G eX13_readsCondition d 0 0 40 [some (.ref a0)] [] z_SH (s, R) Q)) (E := (z_or (fun r : Int32 × (Nat → Nat → Int32) => Q (some (.int r.1)) z_SH (r.2, R)) (fun x : (Nat → Nat → Int32) => z_W G eX13_readsCondition d 0 0 170 [some (.ref a0)] [] z_SH (x, R) Q))) (wX13_readsCondition_b40 hd g_a0) 300 q5.2 q41 hq41 ?_
      rcases q41 with q43 | q42
      · have hf := z_x_l hf
        cases hf
        exact hk
      · have hf := z_x_r hf
        show z_W G eX13_readsCondition d 0 0 170 [some (.ref a0)] [] z_SH (q42, R) _
        refine z_aload_n dX13_readsCondition_170 rfl rfl (z_okl g_a0) ?_
        refine z_iconst dX13_readsCondition_171 kc_1 ?_
        refine z_aload_n dX13_readsCondition_172 rfl rfl (z_okl g_a0) ?_
        refine y_getI lfX13_150 rfl g_a0 dX13_readsCondition_173 ?_
        obtain ⟨q44, hq44, hf⟩ := z_b_el hf
        refine y_cVi (av := [.int (1 : Int32), .int (q42 a0 12)]) (Nat.le_trans (Nat.le_of_ble_eq_true rfl) hd) (wX13_wrongAt (z_dl rfl hd) hq44) oX13_wrongAt lmX13_162 iX13_wrongAt g_a0 rfl _ rfl rfl (Nat.le_of_ble_eq_true rfl) dX13_readsCondition_176 ?_
        obtain ⟨g45, hf⟩ := z_g_el hf
        cases hf
        exact z_iret hk ⟨_, rfl, z_bn g45⟩ dX13_readsCondition_179
    · have hf := z_if_t hf c6
      refine z_iconst dX13_readsCondition_38 kc_0 ?_
      cases hf
      exact z_iret hk ⟨_, rfl, rfl⟩ dX13_readsCondition_39
  · have hf := z_if_f hf c2
    refine z_aload_n dX13_readsCondition_9 rfl rfl (z_okl g_a0) ?_
    refine z_iconst dX13_readsCondition_10 kc_1 ?_
    refine z_aload_n dX13_readsCondition_11 rfl rfl (z_okl g_a0) ?_
    refine y_getI lfX13_150 rfl g_a0 dX13_readsCondition_12 ?_
    obtain ⟨q46, hq46, hf⟩ := z_b_el hf
    refine y_cVi (av := [.int (1 : Int32), .int (I a0 12)]) (Nat.le_trans (Nat.le_of_ble_eq_true rfl) hd) (wX13_wrongAt (z_dl rfl hd) hq46) oX13_wrongAt lmX13_162 iX13_wrongAt g_a0 rfl _ rfl rfl (Nat.le_of_ble_eq_true rfl) dX13_readsCondition_15 ?_
    obtain ⟨g47, hf⟩ := z_g_el hf
    cases hf
    exact z_iret hk ⟨_, rfl, z_bn g47⟩ dX13_readsCondition_18
theorem wX13_readsCondition {G : z_G} {d : Nat} {a0 : Nat} {I : Nat → Nat → Int32} {R : Nat → Nat → Nat} {q : Int32 × (Nat → Nat → Int32)} (hd : 6 ≤ d) (hf : fX13_readsCondition a0 I R = some q) : z_M G d 0 0 eX13_readsCondition [.ref a0] z_SH (I, R) (z_E (some (.int q.1)) (q.2, R)) :=
  y_M_of _ (by decide +kernel) rfl rfl rfl (vX13_readsCondition hd hf ⟨rfl, rfl, rfl⟩)
def fX13_readsRule_j122 (a0 : Nat) (I : Nat → Nat → Int32) (R : Nat → Nat → Nat) : Option (Int32 × (Nat → Nat → Int32)) :=
  z_g (z_ok 1 (R a0 25) (I a0 19)) (z_l (z_u I (R a0 25) (I a0 19).toNatClampNeg (I a0 17)) (fun I13 => z_b (fX13_readsCondition a0 I13 R) (fun q14 => if q14.1 = 0 then (some ((0 : Int32), q14.2)) else (z_g (z_ok 1 (R a0 26) (q14.2 a0 19)) (z_l (z_u q14.2 (R a0 26) (q14.2 a0 19).toNatClampNeg (q14.2 a0 17)) (fun I17 => z_l (z_u I17 a0 19 ((I17 a0 19) + (1 : Int32))) (fun I18 => some ((1 : Int32), I18))))))))
theorem wX13_readsRule_j122 {G : z_G} {d : Nat} {Q : Option Value → z_S → z_H → Prop} {a0 : Nat} {I : Nat → Nat → Int32} {R : Nat → Nat → Nat} {o : Int32 × (Nat → Nat → Int32)} (hd : 7 ≤ d) (g_a0 : z_ob a0 13) (hf : fX13_readsRule_j122 a0 I R = some o) (hk : Q (some (.int o.1)) z_SH (o.2, R)) : z_W G eX13_readsRule d 0 0 122 [some (.ref a0), none] [] z_SH (I, R) Q := by
  unfold fX13_readsRule_j122 at hf
  refine z_aload_n dX13_readsRule_122 rfl rfl (z_okl g_a0) ?_
  refine y_getR lfX13_50 rfl g_a0 dX13_readsRule_123 ?_
  refine z_aload_n dX13_readsRule_126 rfl rfl (z_okl g_a0) ?_
  refine y_getI lfX13_226 rfl g_a0 dX13_readsRule_127 ?_
  refine z_aload_n dX13_readsRule_130 rfl rfl (z_okl g_a0) ?_
  refine y_getI lfX13_172 rfl g_a0 dX13_readsRule_131 ?_
  obtain ⟨g12, hf⟩ := z_g_el hf
  refine y_iast g12 dX13_readsRule_134 (fun I13 eI13 => ?_)
  have hf := z_l_el hf eI13
  refine z_aload_n dX13_readsRule_135 rfl rfl (z_okl g_a0) ?_
  obtain ⟨q14, hq14, hf⟩ := z_b_el hf
  refine y_cVi (av := []) (Nat.le_trans (Nat.le_of_ble_eq_true rfl) hd) (wX13_readsCondition (z_dl rfl hd) hq14) oX13_readsCondition lmX13_229 iX13_readsCondition g_a0 rfl _ rfl rfl (Nat.le_of_ble_eq_true rfl) dX13_readsRule_136 ?_
  refine z_if_ne (tgt := 144) dX13_readsRule_139 (by decide) (fun c15 => ?_) (fun c15 => ?_)
  · have hf := z_if_f hf c15
    refine z_aload_n dX13_readsRule_144 rfl rfl (z_okl g_a0) ?_
    refine y_getR lfX13_53 rfl g_a0 dX13_readsRule_145 ?_
    refine z_aload_n dX13_readsRule_148 rfl rfl (z_okl g_a0) ?_
    refine y_getI lfX13_226 rfl g_a0 dX13_readsRule_149 ?_
    refine z_aload_n dX13_readsRule_152 rfl rfl (z_okl g_a0) ?_
    refine y_getI lfX13_172 rfl g_a0 dX13_readsRule_153 ?_
    obtain ⟨g16, hf⟩ := z_g_el hf
    refine y_iast g16 dX13_readsRule_156 (fun I17 eI17 => ?_)
    have hf := z_l_el hf eI17
    refine z_aload_n dX13_readsRule_157 rfl rfl (z_okl g_a0) ?_
    refine z_aload_n dX13_readsRule_158 rfl rfl (z_okl g_a0) ?_
    refine y_getI lfX13_226 rfl g_a0 dX13_readsRule_159 ?_
    refine z_iconst dX13_readsRule_162 kc_1 ?_
    refine z_iadd dX13_readsRule_163 ?_
    refine y_putI lfX13_226 rfl g_a0 rfl rfl rfl dX13_readsRule_164 (fun I18 eI18 => ?_)
    have hf := z_l_el hf eI18
    refine z_iconst dX13_readsRule_167 kc_1 ?_
    cases hf
    exact z_iret hk ⟨_, rfl, rfl⟩ dX13_readsRule_168
  · have hf := z_if_t hf c15
    refine z_iconst dX13_readsRule_142 kc_0 ?_
    cases hf
    exact z_iret hk ⟨_, rfl, rfl⟩ dX13_readsRule_143
def fX13_readsRule_j45 (a0 : Nat) (y1 : Int32) (I : Nat → Nat → Int32) (R : Nat → Nat → Nat) : Option (Int32 × (Nat → Nat → Int32)) :=
  if (I a0 19) = (16 : Int32) then (z_b (fX13_wrongAt a0 (4 : Int32) (I a0 12) I) (fun q21 => z_g (q21.1 = 0 ∨ q21.1 = 1) (some (q21.1, q21.2)))) else (z_g (z_ok 1 (R a0 23) (I a0 19)) (z_l (z_u I (R a0 23) (I a0 19).toNatClampNeg y1) (fun I5 => z_l (z_u I5 a0 12 ((I5 a0 12) + (1 : Int32))) (fun I6 => z_g (z_ok 1 (R a0 24) (I6 a0 19)) (z_l (z_u I6 (R a0 24) (I6 a0 19).toNatClampNeg (I6 a0 17)) (fun I8 => z_l (z_u I8 a0 16 (0 : Int32)) (fun I9 => z_l (z_u I9 a0 18 (0 : Int32)) (fun I10 => if y1 = (120 : Int32) then (fX13_readsRule_j122 a0 I10 R) else (z_b (fX13_readsSum a0 I10 R) (fun q19 => if q19.1 = 0 then (some ((0 : Int32), q19.2)) else (fX13_readsRule_j122 a0 q19.2 R)))))))))))
theorem wX13_readsRule_j45 {G : z_G} {d : Nat} {Q : Option Value → z_S → z_H → Prop} {a0 : Nat} {y1 : Int32} {I : Nat → Nat → Int32} {R : Nat → Nat → Nat} {o : Int32 × (Nat → Nat → Int32)} (hd : 7 ≤ d) (g_a0 : z_ob a0 13) (hf : fX13_readsRule_j45 a0 y1 I R = some o) (hk : Q (some (.int o.1)) z_SH (o.2, R)) : z_W G eX13_readsRule d 0 0 45 [some (.ref a0), some (.int y1)] [] z_SH (I, R) Q := by
  unfold fX13_readsRule_j45 at hf
  refine z_aload_n dX13_readsRule_45 rfl rfl (z_okl g_a0) ?_
  refine y_getI lfX13_226 rfl g_a0 dX13_readsRule_46 ?_
  refine z_bipush dX13_readsRule_49 kb_16 ?_
  refine z_icmp_ne (tgt := 64) dX13_readsRule_51 (by decide) (fun c3 => ?_) (fun c3 => ?_)
  · have hf := z_if_f hf c3
    refine z_aload_n dX13_readsRule_64 rfl rfl (z_okl g_a0) ?_
    refine y_getR lfX13_44 rfl g_a0 dX13_readsRule_65 ?_
    refine z_aload_n dX13_readsRule_68 rfl rfl (z_okl g_a0) ?_
    refine y_getI lfX13_226 rfl g_a0 dX13_readsRule_69 ?_
    refine z_iload_n dX13_readsRule_72 rfl rfl ?_
    obtain ⟨g4, hf⟩ := z_g_el hf
    refine y_iast g4 dX13_readsRule_73 (fun I5 eI5 => ?_)
    have hf := z_l_el hf eI5
    refine z_aload_n dX13_readsRule_74 rfl rfl (z_okl g_a0) ?_
    refine z_aload_n dX13_readsRule_75 rfl rfl (z_okl g_a0) ?_
    refine y_getI lfX13_150 rfl g_a0 dX13_readsRule_76 ?_
    refine z_iconst dX13_readsRule_79 kc_1 ?_
    refine z_iadd dX13_readsRule_80 ?_
    refine y_putI lfX13_150 rfl g_a0 rfl rfl rfl dX13_readsRule_81 (fun I6 eI6 => ?_)
    have hf := z_l_el hf eI6
    refine z_aload_n dX13_readsRule_84 rfl rfl (z_okl g_a0) ?_
    refine y_getR lfX13_47 rfl g_a0 dX13_readsRule_85 ?_
    refine z_aload_n dX13_readsRule_88 rfl rfl (z_okl g_a0) ?_
    refine y_getI lfX13_226 rfl g_a0 dX13_readsRule_89 ?_
    refine z_aload_n dX13_readsRule_92 rfl rfl (z_okl g_a0) ?_
    refine y_getI lfX13_172 rfl g_a0 dX13_readsRule_93 ?_
    obtain ⟨g7, hf⟩ := z_g_el hf
    refine y_iast g7 dX13_readsRule_96 (fun I8 eI8 => ?_)
    have hf := z_l_el hf eI8
    refine z_aload_n dX13_readsRule_97 rfl rfl (z_okl g_a0) ?_
    refine z_iconst dX13_readsRule_98 kc_0 ?_
    refine y_putI lfX13_176 rfl g_a0 rfl rfl rfl dX13_readsRule_99 (fun I9 eI9 => ?_)
    have hf := z_l_el hf eI9
    refine z_aload_n dX13_readsRule_102 rfl rfl (z_okl g_a0) ?_
    refine z_iconst dX13_readsRule_103 kc_0 ?_
    refine y_putI lfX13_179 rfl g_a0 rfl rfl rfl dX13_readsRule_104 (fun I10 eI10 => ?_)
    have hf := z_l_el hf eI10
    refine z_iload_n dX13_readsRule_107 rfl rfl ?_
    refine z_bipush dX13_readsRule_108 kb_120 ?_
    refine z_icmp_eq (tgt := 122) dX13_readsRule_110 (by decide) (fun c11 => ?_) (fun c11 => ?_)
    · have hf := z_if_t hf c11
      exact y_sub (wX13_readsRule_j122 hd g_a0 hf hk) (z_le_c rfl (z_le_n z_le_0))
    · have hf := z_if_f hf c11
      refine z_aload_n dX13_readsRule_113 rfl rfl (z_okl g_a0) ?_
      obtain ⟨q19, hq19, hf⟩ := z_b_el hf
      refine y_cVi (av := []) (Nat.le_trans (Nat.le_of_ble_eq_true rfl) hd) (wX13_readsSum (z_dl rfl hd) hq19) oX13_readsSum lmX13_211 iX13_readsSum g_a0 rfl _ rfl rfl (Nat.le_of_ble_eq_true rfl) dX13_readsRule_114 ?_
      refine z_if_ne (tgt := 122) dX13_readsRule_117 (by decide) (fun c20 => ?_) (fun c20 => ?_)
      · have hf := z_if_f hf c20
        exact y_sub (wX13_readsRule_j122 hd g_a0 hf hk) (z_le_c rfl (z_le_n z_le_0))
      · have hf := z_if_t hf c20
        refine z_iconst dX13_readsRule_120 kc_0 ?_
        cases hf
        exact z_iret hk ⟨_, rfl, rfl⟩ dX13_readsRule_121
  · have hf := z_if_t hf c3
    refine z_aload_n dX13_readsRule_54 rfl rfl (z_okl g_a0) ?_
    refine z_iconst dX13_readsRule_55 kc_4 ?_
    refine z_aload_n dX13_readsRule_56 rfl rfl (z_okl g_a0) ?_
    refine y_getI lfX13_150 rfl g_a0 dX13_readsRule_57 ?_
    obtain ⟨q21, hq21, hf⟩ := z_b_el hf
    refine y_cVi (av := [.int (4 : Int32), .int (I a0 12)]) (Nat.le_trans (Nat.le_of_ble_eq_true rfl) hd) (wX13_wrongAt (z_dl rfl hd) hq21) oX13_wrongAt lmX13_162 iX13_wrongAt g_a0 rfl _ rfl rfl (Nat.le_of_ble_eq_true rfl) dX13_readsRule_60 ?_
    obtain ⟨g22, hf⟩ := z_g_el hf
    cases hf
    exact z_iret hk ⟨_, rfl, z_bn g22⟩ dX13_readsRule_63
def fX13_readsRule (a0 : Nat) (I : Nat → Nat → Int32) (R : Nat → Nat → Nat) : Option (Int32 × (Nat → Nat → Int32)) :=
  z_g (z_ob a0 13) (z_b (fX13_here a0 I R) (fun q1 => if q1 = (117 : Int32) then (fX13_readsRule_j45 a0 q1 I R) else (if q1 = (118 : Int32) then (fX13_readsRule_j45 a0 q1 I R) else (if q1 = (98 : Int32) then (fX13_readsRule_j45 a0 q1 I R) else (if q1 = (99 : Int32) then (fX13_readsRule_j45 a0 q1 I R) else (if q1 = (120 : Int32) then (fX13_readsRule_j45 a0 q1 I R) else (z_b (fX13_wrongAt a0 (1 : Int32) (I a0 12) I) (fun q27 => z_g (q27.1 = 0 ∨ q27.1 = 1) (some (q27.1, q27.2))))))))))
set_option maxRecDepth 20000 in
theorem vX13_readsRule {G : z_G} {d : Nat} {Q : Option Value → z_S → z_H → Prop} {a0 : Nat} {I : Nat → Nat → Int32} {R : Nat → Nat → Nat} {q : Int32 × (Nat → Nat → Int32)} (hd : 7 ≤ d) (hf : fX13_readsRule a0 I R = some q) (hk : Q (some (.int q.1)) z_SH (q.2, R)) : z_W G eX13_readsRule d 0 0 0 [some (.ref a0), none] [] z_SH (I, R) Q := by
  unfold fX13_readsRule at hf
  obtain ⟨g_a0, hf⟩ := z_g_el hf
  refine z_aload_n dX13_readsRule_0 rfl rfl (z_okl g_a0) ?_
  obtain ⟨q1, hq1, hf⟩ := z_b_el hf
  refine y_cVi (av := []) (Nat.le_trans (Nat.le_of_ble_eq_true rfl) hd) (wX13_here (z_dl rfl hd) hq1) oX13_here lmX13_156 iX13_here g_a0 rfl _ rfl rfl (Nat.le_of_ble_eq_true rfl) dX13_readsRule_1 ?_
  refine y_istore_n0 [some (.ref a0), some (.int q1)] dX13_readsRule_4 rfl (by decide) rfl ?_
  refine z_iload_n dX13_readsRule_5 rfl rfl ?_
  refine z_bipush dX13_readsRule_6 kb_117 ?_
  refine z_icmp_eq (tgt := 45) dX13_readsRule_8 (by decide) (fun c2 => ?_) (fun c2 => ?_)
  · have hf := z_if_t hf c2
    exact y_sub (wX13_readsRule_j45 hd g_a0 hf hk) (z_le_c rfl (z_le_c rfl z_le_0))
  · have hf := z_if_f hf c2
    refine z_iload_n dX13_readsRule_11 rfl rfl ?_
    refine z_bipush dX13_readsRule_12 kb_118 ?_
    refine z_icmp_eq (tgt := 45) dX13_readsRule_14 (by decide) (fun c23 => ?_) (fun c23 => ?_)
    · have hf := z_if_t hf c23
      exact y_sub (wX13_readsRule_j45 hd g_a0 hf hk) (z_le_c rfl (z_le_c rfl z_le_0))
    · have hf := z_if_f hf c23
      refine z_iload_n dX13_readsRule_17 rfl rfl ?_
      refine z_bipush dX13_readsRule_18 kb_98 ?_
      refine z_icmp_eq (tgt := 45) dX13_readsRule_20 (by decide) (fun c24 => ?_) (fun c24 => ?_)
      · have hf := z_if_t hf c24
        exact y_sub (wX13_readsRule_j45 hd g_a0 hf hk) (z_le_c rfl (z_le_c rfl z_le_0))
      · have hf := z_if_f hf c24
        refine z_iload_n dX13_readsRule_23 rfl rfl ?_
        refine z_bipush dX13_readsRule_24 kb_99 ?_
        refine z_icmp_eq (tgt := 45) dX13_readsRule_26 (by decide) (fun c25 => ?_) (fun c25 => ?_)
        · have hf := z_if_t hf c25
          exact y_sub (wX13_readsRule_j45 hd g_a0 hf hk) (z_le_c rfl (z_le_c rfl z_le_0))
        · have hf := z_if_f hf c25
          refine z_iload_n dX13_readsRule_29 rfl rfl ?_
          refine z_bipush dX13_readsRule_30 kb_120 ?_
          refine z_icmp_eq (tgt := 45) dX13_readsRule_32 (by decide) (fun c26 => ?_) (fun c26 => ?_)
          · have hf := z_if_t hf c26
            exact y_sub (wX13_readsRule_j45 hd g_a0 hf hk) (z_le_c rfl (z_le_c rfl z_le_0))
          · have hf := z_if_f hf c26
            refine z_aload_n dX13_readsRule_35 rfl rfl (z_okl g_a0) ?_
            refine z_iconst dX13_readsRule_36 kc_1 ?_
            refine z_aload_n dX13_readsRule_37 rfl rfl (z_okl g_a0) ?_
            refine y_getI lfX13_150 rfl g_a0 dX13_readsRule_38 ?_
            obtain ⟨q27, hq27, hf⟩ := z_b_el hf
            refine y_cVi (av := [.int (1 : Int32), .int (I a0 12)]) (Nat.le_trans (Nat.le_of_ble_eq_true rfl) hd) (wX13_wrongAt (z_dl rfl hd) hq27) oX13_wrongAt lmX13_162 iX13_wrongAt g_a0 rfl _ rfl rfl (Nat.le_of_ble_eq_true rfl) dX13_readsRule_41 ?_
            obtain ⟨g28, hf⟩ := z_g_el hf
            cases hf
            exact z_iret hk ⟨_, rfl, z_bn g28⟩ dX13_readsRule_44
theorem wX13_readsRule {G : z_G} {d : Nat} {a0 : Nat} {I : Nat → Nat → Int32} {R : Nat → Nat → Nat} {q : Int32 × (Nat → Nat → Int32)} (hd : 7 ≤ d) (hf : fX13_readsRule a0 I R = some q) : z_M G d 0 0 eX13_readsRule [.ref a0] z_SH (I, R) (z_E (some (.int q.1)) (q.2, R)) :=
  y_M_of _ (by decide +kernel) rfl rfl rfl (vX13_readsRule hd hf ⟨rfl, rfl, rfl⟩)
def fX13_beginsText (a0 : Nat) (x1 : Int32) (I : Nat → Nat → Int32) : Option ((Nat → Nat → Int32)) :=
  z_g (z_ob a0 13) (z_l (z_u I a0 12 (0 : Int32)) (fun I1 => z_l (z_u I1 a0 13 x1) (fun I2 => z_l (z_u I2 a0 17 (0 : Int32)) (fun I3 => z_l (z_u I3 a0 19 (0 : Int32)) (fun I4 => some I4)))))
theorem vX13_beginsText {G : z_G} {d : Nat} {Q : Option Value → z_S → z_H → Prop} {a0 : Nat} {x1 : Int32} {I : Nat → Nat → Int32} {R : Nat → Nat → Nat} {q : (Nat → Nat → Int32)} (hd : 0 ≤ d) (hf : fX13_beginsText a0 x1 I = some q) (hk : Q none z_SH (q, R)) : z_W G eX13_beginsText d 0 0 0 [some (.ref a0), some (.int x1)] [] z_SH (I, R) Q := by
  unfold fX13_beginsText at hf
  obtain ⟨g_a0, hf⟩ := z_g_el hf
  refine z_aload_n dX13_beginsText_0 rfl rfl (z_okl g_a0) ?_
  refine z_iconst dX13_beginsText_1 kc_0 ?_
  refine y_putI lfX13_150 rfl g_a0 rfl rfl rfl dX13_beginsText_2 (fun I1 eI1 => ?_)
  have hf := z_l_el hf eI1
  refine z_aload_n dX13_beginsText_5 rfl rfl (z_okl g_a0) ?_
  refine z_iload_n dX13_beginsText_6 rfl rfl ?_
  refine y_putI lfX13_153 rfl g_a0 rfl rfl rfl dX13_beginsText_7 (fun I2 eI2 => ?_)
  have hf := z_l_el hf eI2
  refine z_aload_n dX13_beginsText_10 rfl rfl (z_okl g_a0) ?_
  refine z_iconst dX13_beginsText_11 kc_0 ?_
  refine y_putI lfX13_172 rfl g_a0 rfl rfl rfl dX13_beginsText_12 (fun I3 eI3 => ?_)
  have hf := z_l_el hf eI3
  refine z_aload_n dX13_beginsText_15 rfl rfl (z_okl g_a0) ?_
  refine z_iconst dX13_beginsText_16 kc_0 ?_
  refine y_putI lfX13_226 rfl g_a0 rfl rfl rfl dX13_beginsText_17 (fun I4 eI4 => ?_)
  have hf := z_l_el hf eI4
  cases hf
  exact z_vret hk rfl dX13_beginsText_20
theorem wX13_beginsText {G : z_G} {d : Nat} {a0 : Nat} {x1 : Int32} {I : Nat → Nat → Int32} {R : Nat → Nat → Nat} {q : (Nat → Nat → Int32)} (hd : 0 ≤ d) (hf : fX13_beginsText a0 x1 I = some q) : z_M G d 0 0 eX13_beginsText [.ref a0, .int x1] z_SH (I, R) (z_E none (q, R)) :=
  y_M_of _ (by decide +kernel) rfl rfl rfl (vX13_beginsText hd hf ⟨rfl, rfl, rfl⟩)
