def fX5_length (a0 : Nat) (I : Nat → Nat → Int32) : Option (Int32) :=
  z_g (z_ob a0 5) (some (I a0 3))
theorem vX5_length {G : z_G} {d : Nat} {Q : Option Value → z_S → z_H → Prop} {a0 : Nat} {I : Nat → Nat → Int32} {R : Nat → Nat → Nat} {q : Int32} (hd : 0 ≤ d) (hf : fX5_length a0 I = some q) (hk : Q (some (.int q)) z_SH (I, R)) : z_W G eX5_length d 0 0 0 [some (.ref a0)] [] z_SH (I, R) Q := by
  unfold fX5_length at hf
  obtain ⟨g_a0, hf⟩ := z_g_el hf
  refine z_aload_n dX5_length_0 rfl rfl (z_okl g_a0) ?_
  refine y_getI lfX5_19 rfl g_a0 dX5_length_1 ?_
  cases hf
  exact z_iret hk ⟨_, rfl, rfl⟩ dX5_length_4
theorem wX5_length {G : z_G} {d : Nat} {a0 : Nat} {I : Nat → Nat → Int32} {R : Nat → Nat → Nat} {q : Int32} (hd : 0 ≤ d) (hf : fX5_length a0 I = some q) : z_M G d 0 0 eX5_length [.ref a0] z_SH (I, R) (z_E (some (.int q)) (I, R)) :=
  y_M_of _ (by decide +kernel) rfl rfl rfl (vX5_length hd hf ⟨rfl, rfl, rfl⟩)
def fX5_has (a0 : Nat) (x1 : Int32) (I : Nat → Nat → Int32) : Option (Int32) :=
  z_g (z_ob a0 5) (if x1 < 0 then (some (0 : Int32)) else (if (I a0 3) ≤ x1 then (some (0 : Int32)) else (some (1 : Int32))))
theorem vX5_has {G : z_G} {d : Nat} {Q : Option Value → z_S → z_H → Prop} {a0 : Nat} {x1 : Int32} {I : Nat → Nat → Int32} {R : Nat → Nat → Nat} {q : Int32} (hd : 0 ≤ d) (hf : fX5_has a0 x1 I = some q) (hk : Q (some (.int q)) z_SH (I, R)) : z_W G eX5_has d 0 0 0 [some (.ref a0), some (.int x1)] [] z_SH (I, R) Q := by
  unfold fX5_has at hf
  obtain ⟨g_a0, hf⟩ := z_g_el hf
  refine z_iload_n dX5_has_0 rfl rfl ?_
  refine z_if_lt (tgt := 16) dX5_has_1 (by decide) (fun c1 => ?_) (fun c1 => ?_)
  · have hf := z_if_t hf c1
    refine z_iconst dX5_has_16 kc_0 ?_
    cases hf
    exact z_iret hk ⟨_, rfl, rfl⟩ dX5_has_17
  · have hf := z_if_f hf c1
    refine z_iload_n dX5_has_4 rfl rfl ?_
    refine z_aload_n dX5_has_5 rfl rfl (z_okl g_a0) ?_
    refine y_getI lfX5_19 rfl g_a0 dX5_has_6 ?_
    refine z_icmp_ge (tgt := 16) dX5_has_9 (by decide) (fun c2 => ?_) (fun c2 => ?_)
    · have hf := z_if_t hf c2
      refine z_iconst dX5_has_16 kc_0 ?_
      cases hf
      exact z_iret hk ⟨_, rfl, rfl⟩ dX5_has_17
    · have hf := z_if_f hf c2
      refine z_iconst dX5_has_12 kc_1 ?_
      refine z_goto (tgt := 17) dX5_has_13 (by decide) ?_
      cases hf
      exact z_iret hk ⟨_, rfl, rfl⟩ dX5_has_17
theorem wX5_has {G : z_G} {d : Nat} {a0 : Nat} {x1 : Int32} {I : Nat → Nat → Int32} {R : Nat → Nat → Nat} {q : Int32} (hd : 0 ≤ d) (hf : fX5_has a0 x1 I = some q) : z_M G d 0 0 eX5_has [.ref a0, .int x1] z_SH (I, R) (z_E (some (.int q)) (I, R)) :=
  y_M_of _ (by decide +kernel) rfl rfl rfl (vX5_has hd hf ⟨rfl, rfl, rfl⟩)
def fX5_begins (a0 : Nat) (x1 : Int32) (I : Nat → Nat → Int32) (R : Nat → Nat → Nat) : Option (Int32) :=
  z_g (z_ob a0 5) (z_b (fX5_has a0 x1 I) (fun q1 => if q1 = 0 then (some (0 : Int32)) else (z_g (z_ok 1 (R a0 1) x1) (if ((I (R a0 1) x1.toNatClampNeg) &&& (4 : Int32)) = 0 then (some (0 : Int32)) else (some (1 : Int32))))))
theorem vX5_begins {G : z_G} {d : Nat} {Q : Option Value → z_S → z_H → Prop} {a0 : Nat} {x1 : Int32} {I : Nat → Nat → Int32} {R : Nat → Nat → Nat} {q : Int32} (hd : 1 ≤ d) (hf : fX5_begins a0 x1 I R = some q) (hk : Q (some (.int q)) z_SH (I, R)) : z_W G eX5_begins d 0 0 0 [some (.ref a0), some (.int x1)] [] z_SH (I, R) Q := by
  unfold fX5_begins at hf
  obtain ⟨g_a0, hf⟩ := z_g_el hf
  refine z_aload_n dX5_begins_0 rfl rfl (z_okl g_a0) ?_
  refine z_iload_n dX5_begins_1 rfl rfl ?_
  obtain ⟨q1, hq1, hf⟩ := z_b_el hf
  refine y_cVi (av := [.int x1]) (Nat.le_trans (Nat.le_of_ble_eq_true rfl) hd) (wX5_has (z_dl rfl hd) hq1) oX5_has lmX5_23 iX5_has g_a0 rfl _ rfl rfl (Nat.le_of_ble_eq_true rfl) dX5_begins_2 ?_
  refine z_if_eq (tgt := 23) dX5_begins_5 (by decide) (fun c2 => ?_) (fun c2 => ?_)
  · have hf := z_if_t hf c2
    refine z_iconst dX5_begins_23 kc_0 ?_
    cases hf
    exact z_iret hk ⟨_, rfl, rfl⟩ dX5_begins_24
  · have hf := z_if_f hf c2
    refine z_aload_n dX5_begins_8 rfl rfl (z_okl g_a0) ?_
    refine y_getR lfX5_13 rfl g_a0 dX5_begins_9 ?_
    refine z_iload_n dX5_begins_12 rfl rfl ?_
    obtain ⟨g3, hf⟩ := z_g_el hf
    refine y_iald g3 dX5_begins_13 ?_
    refine z_iconst dX5_begins_14 kc_4 ?_
    refine z_iand dX5_begins_15 ?_
    refine z_if_eq (tgt := 23) dX5_begins_16 (by decide) (fun c4 => ?_) (fun c4 => ?_)
    · have hf := z_if_t hf c4
      refine z_iconst dX5_begins_23 kc_0 ?_
      cases hf
      exact z_iret hk ⟨_, rfl, rfl⟩ dX5_begins_24
    · have hf := z_if_f hf c4
      refine z_iconst dX5_begins_19 kc_1 ?_
      refine z_goto (tgt := 24) dX5_begins_20 (by decide) ?_
      cases hf
      exact z_iret hk ⟨_, rfl, rfl⟩ dX5_begins_24
theorem wX5_begins {G : z_G} {d : Nat} {a0 : Nat} {x1 : Int32} {I : Nat → Nat → Int32} {R : Nat → Nat → Nat} {q : Int32} (hd : 1 ≤ d) (hf : fX5_begins a0 x1 I R = some q) : z_M G d 0 0 eX5_begins [.ref a0, .int x1] z_SH (I, R) (z_E (some (.int q)) (I, R)) :=
  y_M_of _ (by decide +kernel) rfl rfl rfl (vX5_begins hd hf ⟨rfl, rfl, rfl⟩)
def fX5_beginsSound (a0 : Nat) (x1 : Int32) (I : Nat → Nat → Int32) (R : Nat → Nat → Nat) : Option (Int32) :=
  z_g (z_ob a0 5) (z_b (fX5_begins a0 x1 I R) (fun q1 => if q1 = 0 then (some (0 : Int32)) else (z_g (z_ok 1 (R a0 0) x1) (if (I (R a0 0) x1.toNatClampNeg) = 0 then (some (0 : Int32)) else (some (1 : Int32))))))
theorem vX5_beginsSound {G : z_G} {d : Nat} {Q : Option Value → z_S → z_H → Prop} {a0 : Nat} {x1 : Int32} {I : Nat → Nat → Int32} {R : Nat → Nat → Nat} {q : Int32} (hd : 2 ≤ d) (hf : fX5_beginsSound a0 x1 I R = some q) (hk : Q (some (.int q)) z_SH (I, R)) : z_W G eX5_beginsSound d 0 0 0 [some (.ref a0), some (.int x1)] [] z_SH (I, R) Q := by
  unfold fX5_beginsSound at hf
  obtain ⟨g_a0, hf⟩ := z_g_el hf
  refine z_aload_n dX5_beginsSound_0 rfl rfl (z_okl g_a0) ?_
  refine z_iload_n dX5_beginsSound_1 rfl rfl ?_
  obtain ⟨q1, hq1, hf⟩ := z_b_el hf
  refine y_cVi (av := [.int x1]) (Nat.le_trans (Nat.le_of_ble_eq_true rfl) hd) (wX5_begins (z_dl rfl hd) hq1) oX5_begins lmX5_27 iX5_begins g_a0 rfl _ rfl rfl (Nat.le_of_ble_eq_true rfl) dX5_beginsSound_2 ?_
  refine z_if_eq (tgt := 21) dX5_beginsSound_5 (by decide) (fun c2 => ?_) (fun c2 => ?_)
  · have hf := z_if_t hf c2
    refine z_iconst dX5_beginsSound_21 kc_0 ?_
    cases hf
    exact z_iret hk ⟨_, rfl, rfl⟩ dX5_beginsSound_22
  · have hf := z_if_f hf c2
    refine z_aload_n dX5_beginsSound_8 rfl rfl (z_okl g_a0) ?_
    refine y_getR lfX5_9 rfl g_a0 dX5_beginsSound_9 ?_
    refine z_iload_n dX5_beginsSound_12 rfl rfl ?_
    obtain ⟨g3, hf⟩ := z_g_el hf
    refine y_iald g3 dX5_beginsSound_13 ?_
    refine z_if_eq (tgt := 21) dX5_beginsSound_14 (by decide) (fun c4 => ?_) (fun c4 => ?_)
    · have hf := z_if_t hf c4
      refine z_iconst dX5_beginsSound_21 kc_0 ?_
      cases hf
      exact z_iret hk ⟨_, rfl, rfl⟩ dX5_beginsSound_22
    · have hf := z_if_f hf c4
      refine z_iconst dX5_beginsSound_17 kc_1 ?_
      refine z_goto (tgt := 22) dX5_beginsSound_18 (by decide) ?_
      cases hf
      exact z_iret hk ⟨_, rfl, rfl⟩ dX5_beginsSound_22
theorem wX5_beginsSound {G : z_G} {d : Nat} {a0 : Nat} {x1 : Int32} {I : Nat → Nat → Int32} {R : Nat → Nat → Nat} {q : Int32} (hd : 2 ≤ d) (hf : fX5_beginsSound a0 x1 I R = some q) : z_M G d 0 0 eX5_beginsSound [.ref a0, .int x1] z_SH (I, R) (z_E (some (.int q)) (I, R)) :=
  y_M_of _ (by decide +kernel) rfl rfl rfl (vX5_beginsSound hd hf ⟨rfl, rfl, rfl⟩)
def fX5_noteAt (a0 : Nat) (x1 : Int32) (I : Nat → Nat → Int32) (R : Nat → Nat → Nat) : Option (Int32) :=
  z_g (z_ob a0 5) (z_b (fX5_has a0 x1 I) (fun q1 => if q1 = 0 then (some (0 : Int32)) else (z_g (z_ok 1 (R a0 0) x1) (some (I (R a0 0) x1.toNatClampNeg)))))
theorem vX5_noteAt {G : z_G} {d : Nat} {Q : Option Value → z_S → z_H → Prop} {a0 : Nat} {x1 : Int32} {I : Nat → Nat → Int32} {R : Nat → Nat → Nat} {q : Int32} (hd : 1 ≤ d) (hf : fX5_noteAt a0 x1 I R = some q) (hk : Q (some (.int q)) z_SH (I, R)) : z_W G eX5_noteAt d 0 0 0 [some (.ref a0), some (.int x1)] [] z_SH (I, R) Q := by
  unfold fX5_noteAt at hf
  obtain ⟨g_a0, hf⟩ := z_g_el hf
  refine z_aload_n dX5_noteAt_0 rfl rfl (z_okl g_a0) ?_
  refine z_iload_n dX5_noteAt_1 rfl rfl ?_
  obtain ⟨q1, hq1, hf⟩ := z_b_el hf
  refine y_cVi (av := [.int x1]) (Nat.le_trans (Nat.le_of_ble_eq_true rfl) hd) (wX5_has (z_dl rfl hd) hq1) oX5_has lmX5_23 iX5_has g_a0 rfl _ rfl rfl (Nat.le_of_ble_eq_true rfl) dX5_noteAt_2 ?_
  refine z_if_eq (tgt := 17) dX5_noteAt_5 (by decide) (fun c2 => ?_) (fun c2 => ?_)
  · have hf := z_if_t hf c2
    refine z_iconst dX5_noteAt_17 kc_0 ?_
    cases hf
    exact z_iret hk ⟨_, rfl, rfl⟩ dX5_noteAt_18
  · have hf := z_if_f hf c2
    refine z_aload_n dX5_noteAt_8 rfl rfl (z_okl g_a0) ?_
    refine y_getR lfX5_9 rfl g_a0 dX5_noteAt_9 ?_
    refine z_iload_n dX5_noteAt_12 rfl rfl ?_
    obtain ⟨g3, hf⟩ := z_g_el hf
    refine y_iald g3 dX5_noteAt_13 ?_
    refine z_goto (tgt := 18) dX5_noteAt_14 (by decide) ?_
    cases hf
    exact z_iret hk ⟨_, rfl, rfl⟩ dX5_noteAt_18
theorem wX5_noteAt {G : z_G} {d : Nat} {a0 : Nat} {x1 : Int32} {I : Nat → Nat → Int32} {R : Nat → Nat → Nat} {q : Int32} (hd : 1 ≤ d) (hf : fX5_noteAt a0 x1 I R = some q) : z_M G d 0 0 eX5_noteAt [.ref a0, .int x1] z_SH (I, R) (z_E (some (.int q)) (I, R)) :=
  y_M_of _ (by decide +kernel) rfl rfl rfl (vX5_noteAt hd hf ⟨rfl, rfl, rfl⟩)
def fX0_list_j52_7 (a0 : Nat) (a1 : Nat) (y2 : Int32) (I : Nat → Nat → Int32) (R : Nat → Nat → Nat) : Option ((Int32 × (Nat → Nat → Int32)) ⊕ ((Nat → Nat → Int32))) :=
  if (I a0 3) ≤ 0 then (z_l (y2 + (1 : Int32)) (fun t7 => some (.inl (t7, I)))) else (z_b (fX5_noteAt a1 y2 I R) (fun q8 => if q8 = 0 then (z_l (y2 + (1 : Int32)) (fun t10 => some (.inl (t10, I)))) else (z_g (z_ok 1 (R a0 0) ((I a0 3) - (1 : Int32))) (z_l (z_u I (R a0 0) ((I a0 3) - (1 : Int32)).toNatClampNeg ((I (R a0 0) ((I a0 3) - (1 : Int32)).toNatClampNeg) + (1 : Int32))) (fun I12 => z_g (z_ok 1 (R a0 1) ((I12 a0 3) - (1 : Int32))) (z_l (z_u I12 (R a0 1) ((I12 a0 3) - (1 : Int32)).toNatClampNeg (y2 + (1 : Int32))) (fun I14 => z_l (y2 + (1 : Int32)) (fun t15 => some (.inl (t15, I14))))))))))
theorem wX0_list_j52_7 {G : z_G} {d : Nat} {Q : Option Value → z_S → z_H → Prop} {a0 : Nat} {a1 : Nat} {y2 : Int32} {I : Nat → Nat → Int32} {R : Nat → Nat → Nat} {o : (Int32 × (Nat → Nat → Int32)) ⊕ ((Nat → Nat → Int32))} (hd : 3 ≤ d) (g_a0 : z_ob a0 0) (g_a1 : z_ob a1 5) (hf : fX0_list_j52_7 a0 a1 y2 I R = some o) (hk : z_or (fun s : Int32 × (Nat → Nat → Int32) => z_W G eX0_list d 0 0 7 [some (.ref a0), some (.ref a1), some (.int s.1)] [] z_SH (s.2, R) Q) (fun x : (Nat → Nat → Int32) => z_W G eX0_list d 0 0 102 [none, none, none] [] z_SH (x, R) Q) o) : z_W G eX0_list d 0 0 52 [some (.ref a0), some (.ref a1), some (.int y2)] [] z_SH (I, R) Q := by
  unfold fX0_list_j52_7 at hf
  refine z_aload_n dX0_list_52 rfl rfl (z_okl g_a0) ?_
  refine y_getI lfX0_30 rfl g_a0 dX0_list_53 ?_
  refine z_if_le (tgt := 96) dX0_list_56 (by decide) (fun c6 => ?_) (fun c6 => ?_)
  · have hf := z_if_t hf c6
    refine y_iinc (fun t7 => [some (.ref a0), some (.ref a1), some (.int t7)]) dX0_list_96 rfl kc_1 (by decide) (fun _ => rfl) (fun t7 et7 => ?_)
    have hf := z_l_el hf et7
    refine z_goto (tgt := 7) dX0_list_99 (by decide) ?_
    cases hf
    exact y_sub hk (z_le_c rfl (z_le_c rfl (z_le_c rfl z_le_0)))
  · have hf := z_if_f hf c6
    refine z_aload_n dX0_list_59 rfl rfl (z_okl g_a1) ?_
    refine z_iload_n dX0_list_60 rfl rfl ?_
    obtain ⟨q8, hq8, hf⟩ := z_b_el hf
    refine y_cVi (av := [.int y2]) (Nat.le_trans (Nat.le_of_ble_eq_true rfl) hd) (wX5_noteAt (z_dl rfl hd) hq8) oX5_noteAt lmX0_52 iX5_noteAt g_a1 rfl _ rfl rfl (Nat.le_of_ble_eq_true rfl) dX0_list_61 ?_
    refine z_if_eq (tgt := 96) dX0_list_64 (by decide) (fun c9 => ?_) (fun c9 => ?_)
    · have hf := z_if_t hf c9
      refine y_iinc (fun t10 => [some (.ref a0), some (.ref a1), some (.int t10)]) dX0_list_96 rfl kc_1 (by decide) (fun _ => rfl) (fun t10 et10 => ?_)
      have hf := z_l_el hf et10
      refine z_goto (tgt := 7) dX0_list_99 (by decide) ?_
      cases hf
      exact y_sub hk (z_le_c rfl (z_le_c rfl (z_le_c rfl z_le_0)))
    · have hf := z_if_f hf c9
      refine z_aload_n dX0_list_67 rfl rfl (z_okl g_a0) ?_
      refine y_getR lfX0_11 rfl g_a0 dX0_list_68 ?_
      refine z_aload_n dX0_list_71 rfl rfl (z_okl g_a0) ?_
      refine y_getI lfX0_30 rfl g_a0 dX0_list_72 ?_
      refine z_iconst dX0_list_75 kc_1 ?_
      refine z_isub dX0_list_76 ?_
      refine z_dup2 dX0_list_77 rfl rfl ?_
      obtain ⟨g11, hf⟩ := z_g_el hf
      refine y_iald g11 dX0_list_78 ?_
      refine z_iconst dX0_list_79 kc_1 ?_
      refine z_iadd dX0_list_80 ?_
      refine y_iast g11 dX0_list_81 (fun I12 eI12 => ?_)
      have hf := z_l_el hf eI12
      refine z_aload_n dX0_list_82 rfl rfl (z_okl g_a0) ?_
      refine y_getR lfX0_17 rfl g_a0 dX0_list_83 ?_
      refine z_aload_n dX0_list_86 rfl rfl (z_okl g_a0) ?_
      refine y_getI lfX0_30 rfl g_a0 dX0_list_87 ?_
      refine z_iconst dX0_list_90 kc_1 ?_
      refine z_isub dX0_list_91 ?_
      refine z_iload_n dX0_list_92 rfl rfl ?_
      refine z_iconst dX0_list_93 kc_1 ?_
      refine z_iadd dX0_list_94 ?_
      obtain ⟨g13, hf⟩ := z_g_el hf
      refine y_iast g13 dX0_list_95 (fun I14 eI14 => ?_)
      have hf := z_l_el hf eI14
      refine y_iinc (fun t15 => [some (.ref a0), some (.ref a1), some (.int t15)]) dX0_list_96 rfl kc_1 (by decide) (fun _ => rfl) (fun t15 et15 => ?_)
      have hf := z_l_el hf et15
      refine z_goto (tgt := 7) dX0_list_99 (by decide) ?_
      cases hf
      exact y_sub hk (z_le_c rfl (z_le_c rfl (z_le_c rfl z_le_0)))
def fX0_list_b7 (a0 : Nat) (a1 : Nat) (R : Nat → Nat → Nat) : (Int32 × (Nat → Nat → Int32)) → Option ((Int32 × (Nat → Nat → Int32)) ⊕ ((Nat → Nat → Int32))) :=
  fun s => (fun (p2 : Int32) (I : Nat → Nat → Int32) => z_b (fX5_length a1 I) (fun q2 => if q2 ≤ p2 then (some (.inr I)) else (z_b (fX5_beginsSound a1 p2 I R) (fun q4 => if q4 = 0 then (fX0_list_j52_7 a0 a1 p2 I R) else (if (60 : Int32) ≤ (I a0 3) then (fX0_list_j52_7 a0 a1 p2 I R) else (z_g (z_ok 1 (R a0 0) (I a0 3)) (z_l (z_u I (R a0 0) (I a0 3).toNatClampNeg (0 : Int32)) (fun I18 => z_l (z_u I18 a0 3 ((I18 a0 3) + (1 : Int32))) (fun I19 => fX0_list_j52_7 a0 a1 p2 I19 R))))))))) s.1 s.2
theorem wX0_list_b7 {G : z_G} {d : Nat} {Q : Option Value → z_S → z_H → Prop} {a0 : Nat} {a1 : Nat} {R : Nat → Nat → Nat} (hd : 3 ≤ d) (g_a0 : z_ob a0 0) (g_a1 : z_ob a1 5) : ∀ (s : Int32 × (Nat → Nat → Int32)) (o : (Int32 × (Nat → Nat → Int32)) ⊕ ((Nat → Nat → Int32))), fX0_list_b7 a0 a1 R s = some o → z_or (fun s : Int32 × (Nat → Nat → Int32) => z_W G eX0_list d 0 0 7 [some (.ref a0), some (.ref a1), some (.int s.1)] [] z_SH (s.2, R) Q) (fun x : (Nat → Nat → Int32) => z_W G eX0_list d 0 0 102 [none, none, none] [] z_SH (x, R) Q) o → (fun s : Int32 × (Nat → Nat → Int32) => z_W G eX0_list d 0 0 7 [some (.ref a0), some (.ref a1), some (.int s.1)] [] z_SH (s.2, R) Q) s := by
  rintro ⟨p2, I⟩ o hf hk
  show z_W G eX0_list d 0 0 7 [some (.ref a0), some (.ref a1), some (.int p2)] [] z_SH (I, R) Q
  unfold fX0_list_b7 at hf
  try dsimp only at hf
  refine z_iload_n dX0_list_7 rfl rfl ?_
  refine z_aload_n dX0_list_8 rfl rfl (z_okl g_a1) ?_
  obtain ⟨q2, hq2, hf⟩ := z_b_el hf
  refine y_cVi (av := []) (Nat.le_trans (Nat.le_of_ble_eq_true rfl) hd) (wX5_length (z_dl rfl hd) hq2) oX5_length lmX0_44 iX5_length g_a1 rfl _ rfl rfl (Nat.le_of_ble_eq_true rfl) dX0_list_9 ?_
  refine z_icmp_ge (tgt := 102) dX0_list_12 (by decide) (fun c3 => ?_) (fun c3 => ?_)
  · have hf := z_if_t hf c3
    cases hf
    exact y_sub hk (z_le_n (z_le_n (z_le_n z_le_0)))
  · have hf := z_if_f hf c3
    refine z_aload_n dX0_list_15 rfl rfl (z_okl g_a1) ?_
    refine z_iload_n dX0_list_16 rfl rfl ?_
    obtain ⟨q4, hq4, hf⟩ := z_b_el hf
    refine y_cVi (av := [.int p2]) (Nat.le_trans (Nat.le_of_ble_eq_true rfl) hd) (wX5_beginsSound (z_dl rfl hd) hq4) oX5_beginsSound lmX0_48 iX5_beginsSound g_a1 rfl _ rfl rfl (Nat.le_of_ble_eq_true rfl) dX0_list_17 ?_
    refine z_if_eq (tgt := 52) dX0_list_20 (by decide) (fun c5 => ?_) (fun c5 => ?_)
    · have hf := z_if_t hf c5
      exact y_sub (wX0_list_j52_7 hd g_a0 g_a1 hf hk) (z_le_c rfl (z_le_c rfl (z_le_c rfl z_le_0)))
    · have hf := z_if_f hf c5
      refine z_aload_n dX0_list_23 rfl rfl (z_okl g_a0) ?_
      refine y_getI lfX0_30 rfl g_a0 dX0_list_24 ?_
      refine z_bipush dX0_list_27 kb_60 ?_
      refine z_icmp_ge (tgt := 52) dX0_list_29 (by decide) (fun c16 => ?_) (fun c16 => ?_)
      · have hf := z_if_t hf c16
        exact y_sub (wX0_list_j52_7 hd g_a0 g_a1 hf hk) (z_le_c rfl (z_le_c rfl (z_le_c rfl z_le_0)))
      · have hf := z_if_f hf c16
        refine z_aload_n dX0_list_32 rfl rfl (z_okl g_a0) ?_
        refine y_getR lfX0_11 rfl g_a0 dX0_list_33 ?_
        refine z_aload_n dX0_list_36 rfl rfl (z_okl g_a0) ?_
        refine y_getI lfX0_30 rfl g_a0 dX0_list_37 ?_
        refine z_iconst dX0_list_40 kc_0 ?_
        obtain ⟨g17, hf⟩ := z_g_el hf
        refine y_iast g17 dX0_list_41 (fun I18 eI18 => ?_)
        have hf := z_l_el hf eI18
        refine z_aload_n dX0_list_42 rfl rfl (z_okl g_a0) ?_
        refine z_dup dX0_list_43 rfl ?_
        refine y_getI lfX0_30 rfl g_a0 dX0_list_44 ?_
        refine z_iconst dX0_list_47 kc_1 ?_
        refine z_iadd dX0_list_48 ?_
        refine y_putI lfX0_30 rfl g_a0 rfl rfl rfl dX0_list_49 (fun I19 eI19 => ?_)
        have hf := z_l_el hf eI19
        exact y_sub (wX0_list_j52_7 hd g_a0 g_a1 hf hk) (z_le_c rfl (z_le_c rfl (z_le_c rfl z_le_0)))
def fX0_list (a0 : Nat) (a1 : Nat) (I : Nat → Nat → Int32) (R : Nat → Nat → Nat) : Option ((Nat → Nat → Int32)) :=
  z_g (z_ob a0 0) (z_g (z_ob a1 5) (z_l (z_u I a0 3 (0 : Int32)) (fun I1 => z_b (z_lp (fX0_list_b7 a0 a1 R) 300 ((0 : Int32), I1)) (fun q20 => some q20))))
theorem vX0_list {G : z_G} {d : Nat} {Q : Option Value → z_S → z_H → Prop} {a0 : Nat} {a1 : Nat} {I : Nat → Nat → Int32} {R : Nat → Nat → Nat} {q : (Nat → Nat → Int32)} (hd : 3 ≤ d) (hf : fX0_list a0 a1 I R = some q) (hk : Q none z_SH (q, R)) : z_W G eX0_list d 0 0 0 [some (.ref a0), some (.ref a1), none] [] z_SH (I, R) Q := by
  unfold fX0_list at hf
  obtain ⟨g_a0, hf⟩ := z_g_el hf
  obtain ⟨g_a1, hf⟩ := z_g_el hf
  refine z_aload_n dX0_list_0 rfl rfl (z_okl g_a0) ?_
  refine z_iconst dX0_list_1 kc_0 ?_
  refine y_putI lfX0_30 rfl g_a0 rfl rfl rfl dX0_list_2 (fun I1 eI1 => ?_)
  have hf := z_l_el hf eI1
  refine z_iconst dX0_list_5 kc_0 ?_
  refine y_istore_n0 [some (.ref a0), some (.ref a1), some (.int (0 : Int32))] dX0_list_6 rfl (by decide) rfl ?_
  obtain ⟨q20, hq20, hf⟩ := z_b_el hf
  refine y_sub (lv' := [some (.ref a0), some (.ref a1), some (.int (0 : Int32))]) ?_ (z_le_c rfl (z_le_c rfl (z_le_c rfl z_le_0)))
  refine z_lp_el (P := (fun s : Int32 × (Nat → Nat → Int32) => z_W G eX0_list d 0 0 7 [some (.ref a0), some (.ref a1), some (.int s.1)] [] z_SH (s.2, R) Q)) (E := (fun x : (Nat → Nat → Int32) => z_W G eX0_list d 0 0 102 [none, none, none] [] z_SH (x, R) Q)) (wX0_list_b7 hd g_a0 g_a1) 300 ((0 : Int32), I1) q20 hq20 ?_
  show z_W G eX0_list d 0 0 102 [none, none, none] [] z_SH (q20, R) _
  cases hf
  exact z_vret hk rfl dX0_list_102
theorem wX0_list {G : z_G} {d : Nat} {a0 : Nat} {a1 : Nat} {I : Nat → Nat → Int32} {R : Nat → Nat → Nat} {q : (Nat → Nat → Int32)} (hd : 3 ≤ d) (hf : fX0_list a0 a1 I R = some q) : z_M G d 0 0 eX0_list [.ref a0, .ref a1] z_SH (I, R) (z_E none (q, R)) :=
  y_M_of _ (by decide +kernel) rfl rfl rfl (vX0_list hd hf ⟨rfl, rfl, rfl⟩)
def fX0_fewestFrom_j68_12 (a0 : Nat) (z1 : Int32) (z2 : Int32) (y4 : Int32) (y5 : Int32) (v0 : Int32) (v1 : Int32) (I : Nat → Nat → Int32) (R : Nat → Nat → Nat) : Option ((Int32 × Int32 × Int32) ⊕ (Int32)) :=
  z_l (z_min v0 v1) (fun t10 => z_l (y5 + (1 : Int32)) (fun t11 => some (.inl (t10, y4, t11))))
theorem wX0_fewestFrom_j68_12 {G : z_G} {d : Nat} {Q : Option Value → z_S → z_H → Prop} {a0 : Nat} {z1 : Int32} {z2 : Int32} {y4 : Int32} {y5 : Int32} {v0 : Int32} {v1 : Int32} {I : Nat → Nat → Int32} {R : Nat → Nat → Nat} {o : (Int32 × Int32 × Int32) ⊕ (Int32)} (hd : 1 ≤ d) (g_a0 : z_ob a0 0) (hf : fX0_fewestFrom_j68_12 a0 z1 z2 y4 y5 v0 v1 I R = some o) (hk : z_or (fun s : Int32 × Int32 × Int32 => z_W G eX0_fewestFrom d 0 0 12 [some (.ref a0), some (.int z1), some (.int z2), some (.int s.1), some (.int s.2.1), some (.int s.2.2)] [] z_SH (I, R) Q) (fun x : Int32 => z_W G eX0_fewestFrom d 0 0 78 [none, none, none, some (.int x), none, none] [] z_SH (I, R) Q) o) : z_W G eX0_fewestFrom d 0 0 68 [some (.ref a0), some (.int z1), some (.int z2), none, some (.int y4), some (.int y5)] [.int v1, .int v0] z_SH (I, R) Q := by
  unfold fX0_fewestFrom_j68_12 at hf
  refine y_min (Nat.le_trans (Nat.le_of_ble_eq_true rfl) hd) lmX0_56 (Nat.le_of_ble_eq_true rfl) dX0_fewestFrom_68 ?_
  refine y_istore_n (fun t10 => [some (.ref a0), some (.int z1), some (.int z2), some (.int t10), some (.int y4), some (.int y5)]) dX0_fewestFrom_71 rfl (by decide) (fun _ => rfl) (fun t10 et10 => ?_)
  have hf := z_l_el hf et10
  refine y_iinc (fun t11 => [some (.ref a0), some (.int z1), some (.int z2), some (.int t10), some (.int y4), some (.int t11)]) dX0_fewestFrom_72 rfl kc_1 (by decide) (fun _ => rfl) (fun t11 et11 => ?_)
  have hf := z_l_el hf et11
  refine z_goto (tgt := 12) dX0_fewestFrom_75 (by decide) ?_
  cases hf
  exact y_sub hk (z_le_c rfl (z_le_c rfl (z_le_c rfl (z_le_c rfl (z_le_c rfl (z_le_c rfl z_le_0))))))
def fX0_fewestFrom_b12 (a0 : Nat) (z1 : Int32) (z2 : Int32) (I : Nat → Nat → Int32) (R : Nat → Nat → Nat) : (Int32 × Int32 × Int32) → Option ((Int32 × Int32 × Int32) ⊕ (Int32)) :=
  fun s => (fun (p3 : Int32) (p4 : Int32) (p5 : Int32) => if (I a0 3) < p5 then (some (.inr p3)) else (if z1 < 0 then (some (.inr p3)) else (z_g (z_ok 1 (R a0 0) (p5 - (1 : Int32))) (z_l (p4 + (I (R a0 0) (p5 - (1 : Int32)).toNatClampNeg)) (fun t5 => if z2 < t5 then (z_l (p5 + (1 : Int32)) (fun t7 => some (.inl (p3, t5, t7)))) else (if p5 = (I a0 3) then (fX0_fewestFrom_j68_12 a0 z1 z2 t5 p5 p3 (0 : Int32) I R) else (z_g (z_ok 1 (R a0 2) p5) (fX0_fewestFrom_j68_12 a0 z1 z2 t5 p5 p3 ((1 : Int32) + (I (R a0 2) p5.toNatClampNeg)) I R)))))))) s.1 s.2.1 s.2.2
theorem wX0_fewestFrom_b12 {G : z_G} {d : Nat} {Q : Option Value → z_S → z_H → Prop} {a0 : Nat} {z1 : Int32} {z2 : Int32} {I : Nat → Nat → Int32} {R : Nat → Nat → Nat} (hd : 1 ≤ d) (g_a0 : z_ob a0 0) : ∀ (s : Int32 × Int32 × Int32) (o : (Int32 × Int32 × Int32) ⊕ (Int32)), fX0_fewestFrom_b12 a0 z1 z2 I R s = some o → z_or (fun s : Int32 × Int32 × Int32 => z_W G eX0_fewestFrom d 0 0 12 [some (.ref a0), some (.int z1), some (.int z2), some (.int s.1), some (.int s.2.1), some (.int s.2.2)] [] z_SH (I, R) Q) (fun x : Int32 => z_W G eX0_fewestFrom d 0 0 78 [none, none, none, some (.int x), none, none] [] z_SH (I, R) Q) o → (fun s : Int32 × Int32 × Int32 => z_W G eX0_fewestFrom d 0 0 12 [some (.ref a0), some (.int z1), some (.int z2), some (.int s.1), some (.int s.2.1), some (.int s.2.2)] [] z_SH (I, R) Q) s := by
  rintro ⟨p3, p4, p5⟩ o hf hk
  show z_W G eX0_fewestFrom d 0 0 12 [some (.ref a0), some (.int z1), some (.int z2), some (.int p3), some (.int p4), some (.int p5)] [] z_SH (I, R) Q
  unfold fX0_fewestFrom_b12 at hf
  try dsimp only at hf
  refine z_iload dX0_fewestFrom_12 rfl ?_
  refine z_aload_n dX0_fewestFrom_14 rfl rfl (z_okl g_a0) ?_
  refine y_getI lfX0_30 rfl g_a0 dX0_fewestFrom_15 ?_
  refine z_icmp_gt (tgt := 78) dX0_fewestFrom_18 (by decide) (fun c2 => ?_) (fun c2 => ?_)
  · have hf := z_if_t hf c2
    cases hf
    exact y_sub hk (z_le_n (z_le_n (z_le_n (z_le_c rfl (z_le_n (z_le_n z_le_0))))))
  · have hf := z_if_f hf c2
    refine z_iload_n dX0_fewestFrom_21 rfl rfl ?_
    refine z_if_lt (tgt := 78) dX0_fewestFrom_22 (by decide) (fun c3 => ?_) (fun c3 => ?_)
    · have hf := z_if_t hf c3
      cases hf
      exact y_sub hk (z_le_n (z_le_n (z_le_n (z_le_c rfl (z_le_n (z_le_n z_le_0))))))
    · have hf := z_if_f hf c3
      refine z_iload dX0_fewestFrom_25 rfl ?_
      refine z_aload_n dX0_fewestFrom_27 rfl rfl (z_okl g_a0) ?_
      refine y_getR lfX0_11 rfl g_a0 dX0_fewestFrom_28 ?_
      refine z_iload dX0_fewestFrom_31 rfl ?_
      refine z_iconst dX0_fewestFrom_33 kc_1 ?_
      refine z_isub dX0_fewestFrom_34 ?_
      obtain ⟨g4, hf⟩ := z_g_el hf
      refine y_iald g4 dX0_fewestFrom_35 ?_
      refine z_iadd dX0_fewestFrom_36 ?_
      refine y_istore (fun t5 => [some (.ref a0), some (.int z1), some (.int z2), some (.int p3), some (.int t5), some (.int p5)]) dX0_fewestFrom_37 (by decide) (fun _ => rfl) (fun t5 et5 => ?_)
      have hf := z_l_el hf et5
      refine z_iload dX0_fewestFrom_39 rfl ?_
      refine z_iload_n dX0_fewestFrom_41 rfl rfl ?_
      refine z_icmp_gt (tgt := 72) dX0_fewestFrom_42 (by decide) (fun c6 => ?_) (fun c6 => ?_)
      · have hf := z_if_t hf c6
        refine y_iinc (fun t7 => [some (.ref a0), some (.int z1), some (.int z2), some (.int p3), some (.int t5), some (.int t7)]) dX0_fewestFrom_72 rfl kc_1 (by decide) (fun _ => rfl) (fun t7 et7 => ?_)
        have hf := z_l_el hf et7
        refine z_goto (tgt := 12) dX0_fewestFrom_75 (by decide) ?_
        cases hf
        exact y_sub hk (z_le_c rfl (z_le_c rfl (z_le_c rfl (z_le_c rfl (z_le_c rfl (z_le_c rfl z_le_0))))))
      · have hf := z_if_f hf c6
        refine z_iload_n dX0_fewestFrom_45 rfl rfl ?_
        refine z_iload dX0_fewestFrom_46 rfl ?_
        refine z_aload_n dX0_fewestFrom_48 rfl rfl (z_okl g_a0) ?_
        refine y_getI lfX0_30 rfl g_a0 dX0_fewestFrom_49 ?_
        refine z_icmp_ne (tgt := 59) dX0_fewestFrom_52 (by decide) (fun c8 => ?_) (fun c8 => ?_)
        · have hf := z_if_f hf c8
          refine z_iconst dX0_fewestFrom_59 kc_1 ?_
          refine z_aload_n dX0_fewestFrom_60 rfl rfl (z_okl g_a0) ?_
          refine y_getR lfX0_20 rfl g_a0 dX0_fewestFrom_61 ?_
          refine z_iload dX0_fewestFrom_64 rfl ?_
          obtain ⟨g9, hf⟩ := z_g_el hf
          refine y_iald g9 dX0_fewestFrom_66 ?_
          refine z_iadd dX0_fewestFrom_67 ?_
          exact y_sub (wX0_fewestFrom_j68_12 hd g_a0 hf hk) (z_le_c rfl (z_le_c rfl (z_le_c rfl (z_le_n (z_le_c rfl (z_le_c rfl z_le_0))))))
        · have hf := z_if_t hf c8
          refine z_iconst dX0_fewestFrom_55 kc_0 ?_
          refine z_goto (tgt := 68) dX0_fewestFrom_56 (by decide) ?_
          exact y_sub (wX0_fewestFrom_j68_12 hd g_a0 hf hk) (z_le_c rfl (z_le_c rfl (z_le_c rfl (z_le_n (z_le_c rfl (z_le_c rfl z_le_0))))))
def fX0_fewestFrom_j78 (a0 : Nat) (y3 : Int32) (I : Nat → Nat → Int32) (R : Nat → Nat → Nat) : Option (Int32) :=
  some (z_min y3 (1000 : Int32))
theorem wX0_fewestFrom_j78 {G : z_G} {d : Nat} {Q : Option Value → z_S → z_H → Prop} {a0 : Nat} {y3 : Int32} {I : Nat → Nat → Int32} {R : Nat → Nat → Nat} {o : Int32} (hd : 1 ≤ d) (g_a0 : z_ob a0 0) (hf : fX0_fewestFrom_j78 a0 y3 I R = some o) (hk : Q (some (.int o)) z_SH (I, R)) : z_W G eX0_fewestFrom d 0 0 78 [none, none, none, some (.int y3), none, none] [] z_SH (I, R) Q := by
  unfold fX0_fewestFrom_j78 at hf
  refine z_iload_n dX0_fewestFrom_78 rfl rfl ?_
  refine z_sipush dX0_fewestFrom_79 ks_1000 ?_
  refine y_min (Nat.le_trans (Nat.le_of_ble_eq_true rfl) hd) lmX0_56 (Nat.le_of_ble_eq_true rfl) dX0_fewestFrom_82 ?_
  cases hf
  exact z_iret hk ⟨_, rfl, rfl⟩ dX0_fewestFrom_85
def fX0_fewestFrom (a0 : Nat) (x1 : Int32) (x2 : Int32) (I : Nat → Nat → Int32) (R : Nat → Nat → Nat) : Option (Int32) :=
  z_g (z_ob a0 0) (z_l (x1 + (1 : Int32)) (fun t1 => z_b (z_lp (fX0_fewestFrom_b12 a0 x1 x2 I R) 300 ((1000 : Int32), (0 : Int32), t1)) (fun q12 => fX0_fewestFrom_j78 a0 q12 I R)))
theorem vX0_fewestFrom {G : z_G} {d : Nat} {Q : Option Value → z_S → z_H → Prop} {a0 : Nat} {x1 : Int32} {x2 : Int32} {I : Nat → Nat → Int32} {R : Nat → Nat → Nat} {q : Int32} (hd : 1 ≤ d) (hf : fX0_fewestFrom a0 x1 x2 I R = some q) (hk : Q (some (.int q)) z_SH (I, R)) : z_W G eX0_fewestFrom d 0 0 0 [some (.ref a0), some (.int x1), some (.int x2), none, none, none] [] z_SH (I, R) Q := by
  unfold fX0_fewestFrom at hf
  obtain ⟨g_a0, hf⟩ := z_g_el hf
  refine z_sipush dX0_fewestFrom_0 ks_1000 ?_
  refine y_istore_n0 [some (.ref a0), some (.int x1), some (.int x2), some (.int (1000 : Int32)), none, none] dX0_fewestFrom_3 rfl (by decide) rfl ?_
  refine z_iconst dX0_fewestFrom_4 kc_0 ?_
  refine y_istore0 [some (.ref a0), some (.int x1), some (.int x2), some (.int (1000 : Int32)), some (.int (0 : Int32)), none] dX0_fewestFrom_5 (by decide) rfl ?_
  refine z_iload_n dX0_fewestFrom_7 rfl rfl ?_
  refine z_iconst dX0_fewestFrom_8 kc_1 ?_
  refine z_iadd dX0_fewestFrom_9 ?_
  refine y_istore (fun t1 => [some (.ref a0), some (.int x1), some (.int x2), some (.int (1000 : Int32)), some (.int (0 : Int32)), some (.int t1)]) dX0_fewestFrom_10 (by decide) (fun _ => rfl) (fun t1 et1 => ?_)
  have hf := z_l_el hf et1
  obtain ⟨q12, hq12, hf⟩ := z_b_el hf
  refine y_sub (lv' := [some (.ref a0), some (.int x1), some (.int x2), some (.int (1000 : Int32)), some (.int (0 : Int32)), some (.int t1)]) ?_ (z_le_c rfl (z_le_c rfl (z_le_c rfl (z_le_c rfl (z_le_c rfl (z_le_c rfl z_le_0))))))
  refine z_lp_el (P := (fun s : Int32 × Int32 × Int32 => z_W G eX0_fewestFrom d 0 0 12 [some (.ref a0), some (.int x1), some (.int x2), some (.int s.1), some (.int s.2.1), some (.int s.2.2)] [] z_SH (I, R) Q)) (E := (fun x : Int32 => z_W G eX0_fewestFrom d 0 0 78 [none, none, none, some (.int x), none, none] [] z_SH (I, R) Q)) (wX0_fewestFrom_b12 hd g_a0) 300 ((1000 : Int32), (0 : Int32), t1) q12 hq12 ?_
  show z_W G eX0_fewestFrom d 0 0 78 [none, none, none, some (.int q12), none, none] [] z_SH (I, R) _
  exact y_sub (wX0_fewestFrom_j78 hd g_a0 hf hk) (z_le_n (z_le_n (z_le_n (z_le_c rfl (z_le_n (z_le_n z_le_0))))))
theorem wX0_fewestFrom {G : z_G} {d : Nat} {a0 : Nat} {x1 : Int32} {x2 : Int32} {I : Nat → Nat → Int32} {R : Nat → Nat → Nat} {q : Int32} (hd : 1 ≤ d) (hf : fX0_fewestFrom a0 x1 x2 I R = some q) : z_M G d 0 0 eX0_fewestFrom [.ref a0, .int x1, .int x2] z_SH (I, R) (z_E (some (.int q)) (I, R)) :=
  y_M_of _ (by decide +kernel) rfl rfl rfl (vX0_fewestFrom hd hf ⟨rfl, rfl, rfl⟩)
def fX0_choose_b2 (a0 : Nat) (R : Nat → Nat → Nat) : (Int32 × (Nat → Nat → Int32)) → Option ((Int32 × (Nat → Nat → Int32)) ⊕ ((Nat → Nat → Int32))) :=
  fun s => (fun (p1 : Int32) (I : Nat → Nat → Int32) => if (I a0 3) ≤ p1 then (some (.inr I)) else (z_g (z_ok 1 (R a0 2) p1) (z_g (z_ok 1 (R a0 2) (p1 - (1 : Int32))) (if (I (R a0 2) (p1 - (1 : Int32)).toNatClampNeg) ≤ (I (R a0 2) p1.toNatClampNeg) then (z_l (p1 + (1 : Int32)) (fun t5 => some (.inl (t5, I)))) else (if (60 : Int32) ≤ (I a0 5) then (z_l (p1 + (1 : Int32)) (fun t7 => some (.inl (t7, I)))) else (z_g (z_ok 1 (R a0 1) (p1 - (1 : Int32))) (z_g (z_ok 1 (R a0 4) (I a0 5)) (z_l (z_u I (R a0 4) (I a0 5).toNatClampNeg (I (R a0 1) (p1 - (1 : Int32)).toNatClampNeg)) (fun I10 => z_l (z_u I10 a0 5 ((I10 a0 5) + (1 : Int32))) (fun I11 => z_l (p1 + (1 : Int32)) (fun t12 => some (.inl (t12, I11))))))))))))) s.1 s.2
theorem wX0_choose_b2 {G : z_G} {d : Nat} {Q : Option Value → z_S → z_H → Prop} {a0 : Nat} {R : Nat → Nat → Nat} (hd : 0 ≤ d) (g_a0 : z_ob a0 0) : ∀ (s : Int32 × (Nat → Nat → Int32)) (o : (Int32 × (Nat → Nat → Int32)) ⊕ ((Nat → Nat → Int32))), fX0_choose_b2 a0 R s = some o → z_or (fun s : Int32 × (Nat → Nat → Int32) => z_W G eX0_choose d 0 0 2 [some (.ref a0), some (.int s.1)] [] z_SH (s.2, R) Q) (fun x : (Nat → Nat → Int32) => z_W G eX0_choose d 0 0 69 [none, none] [] z_SH (x, R) Q) o → (fun s : Int32 × (Nat → Nat → Int32) => z_W G eX0_choose d 0 0 2 [some (.ref a0), some (.int s.1)] [] z_SH (s.2, R) Q) s := by
  rintro ⟨p1, I⟩ o hf hk
  show z_W G eX0_choose d 0 0 2 [some (.ref a0), some (.int p1)] [] z_SH (I, R) Q
  unfold fX0_choose_b2 at hf
  try dsimp only at hf
  refine z_iload_n dX0_choose_2 rfl rfl ?_
  refine z_aload_n dX0_choose_3 rfl rfl (z_okl g_a0) ?_
  refine y_getI lfX0_30 rfl g_a0 dX0_choose_4 ?_
  refine z_icmp_ge (tgt := 69) dX0_choose_7 (by decide) (fun c1 => ?_) (fun c1 => ?_)
  · have hf := z_if_t hf c1
    cases hf
    exact y_sub hk (z_le_n (z_le_n z_le_0))
  · have hf := z_if_f hf c1
    refine z_aload_n dX0_choose_10 rfl rfl (z_okl g_a0) ?_
    refine y_getR lfX0_20 rfl g_a0 dX0_choose_11 ?_
    refine z_iload_n dX0_choose_14 rfl rfl ?_
    obtain ⟨g2, hf⟩ := z_g_el hf
    refine y_iald g2 dX0_choose_15 ?_
    refine z_aload_n dX0_choose_16 rfl rfl (z_okl g_a0) ?_
    refine y_getR lfX0_20 rfl g_a0 dX0_choose_17 ?_
    refine z_iload_n dX0_choose_20 rfl rfl ?_
    refine z_iconst dX0_choose_21 kc_1 ?_
    refine z_isub dX0_choose_22 ?_
    obtain ⟨g3, hf⟩ := z_g_el hf
    refine y_iald g3 dX0_choose_23 ?_
    refine z_icmp_ge (tgt := 63) dX0_choose_24 (by decide) (fun c4 => ?_) (fun c4 => ?_)
    · have hf := z_if_t hf c4
      refine y_iinc (fun t5 => [some (.ref a0), some (.int t5)]) dX0_choose_63 rfl kc_1 (by decide) (fun _ => rfl) (fun t5 et5 => ?_)
      have hf := z_l_el hf et5
      refine z_goto (tgt := 2) dX0_choose_66 (by decide) ?_
      cases hf
      exact y_sub hk (z_le_c rfl (z_le_c rfl z_le_0))
    · have hf := z_if_f hf c4
      refine z_aload_n dX0_choose_27 rfl rfl (z_okl g_a0) ?_
      refine y_getI lfX0_38 rfl g_a0 dX0_choose_28 ?_
      refine z_bipush dX0_choose_31 kb_60 ?_
      refine z_icmp_ge (tgt := 63) dX0_choose_33 (by decide) (fun c6 => ?_) (fun c6 => ?_)
      · have hf := z_if_t hf c6
        refine y_iinc (fun t7 => [some (.ref a0), some (.int t7)]) dX0_choose_63 rfl kc_1 (by decide) (fun _ => rfl) (fun t7 et7 => ?_)
        have hf := z_l_el hf et7
        refine z_goto (tgt := 2) dX0_choose_66 (by decide) ?_
        cases hf
        exact y_sub hk (z_le_c rfl (z_le_c rfl z_le_0))
      · have hf := z_if_f hf c6
        refine z_aload_n dX0_choose_36 rfl rfl (z_okl g_a0) ?_
        refine y_getR lfX0_23 rfl g_a0 dX0_choose_37 ?_
        refine z_aload_n dX0_choose_40 rfl rfl (z_okl g_a0) ?_
        refine y_getI lfX0_38 rfl g_a0 dX0_choose_41 ?_
        refine z_aload_n dX0_choose_44 rfl rfl (z_okl g_a0) ?_
        refine y_getR lfX0_17 rfl g_a0 dX0_choose_45 ?_
        refine z_iload_n dX0_choose_48 rfl rfl ?_
        refine z_iconst dX0_choose_49 kc_1 ?_
        refine z_isub dX0_choose_50 ?_
        obtain ⟨g8, hf⟩ := z_g_el hf
        refine y_iald g8 dX0_choose_51 ?_
        obtain ⟨g9, hf⟩ := z_g_el hf
        refine y_iast g9 dX0_choose_52 (fun I10 eI10 => ?_)
        have hf := z_l_el hf eI10
        refine z_aload_n dX0_choose_53 rfl rfl (z_okl g_a0) ?_
        refine z_dup dX0_choose_54 rfl ?_
        refine y_getI lfX0_38 rfl g_a0 dX0_choose_55 ?_
        refine z_iconst dX0_choose_58 kc_1 ?_
        refine z_iadd dX0_choose_59 ?_
        refine y_putI lfX0_38 rfl g_a0 rfl rfl rfl dX0_choose_60 (fun I11 eI11 => ?_)
        have hf := z_l_el hf eI11
        refine y_iinc (fun t12 => [some (.ref a0), some (.int t12)]) dX0_choose_63 rfl kc_1 (by decide) (fun _ => rfl) (fun t12 et12 => ?_)
        have hf := z_l_el hf et12
        refine z_goto (tgt := 2) dX0_choose_66 (by decide) ?_
        cases hf
        exact y_sub hk (z_le_c rfl (z_le_c rfl z_le_0))
def fX0_choose (a0 : Nat) (I : Nat → Nat → Int32) (R : Nat → Nat → Nat) : Option ((Nat → Nat → Int32)) :=
  z_g (z_ob a0 0) (z_b (z_lp (fX0_choose_b2 a0 R) 300 ((1 : Int32), I)) (fun q13 => some q13))
theorem vX0_choose {G : z_G} {d : Nat} {Q : Option Value → z_S → z_H → Prop} {a0 : Nat} {I : Nat → Nat → Int32} {R : Nat → Nat → Nat} {q : (Nat → Nat → Int32)} (hd : 0 ≤ d) (hf : fX0_choose a0 I R = some q) (hk : Q none z_SH (q, R)) : z_W G eX0_choose d 0 0 0 [some (.ref a0), none] [] z_SH (I, R) Q := by
  unfold fX0_choose at hf
  obtain ⟨g_a0, hf⟩ := z_g_el hf
  refine z_iconst dX0_choose_0 kc_1 ?_
  refine y_istore_n0 [some (.ref a0), some (.int (1 : Int32))] dX0_choose_1 rfl (by decide) rfl ?_
  obtain ⟨q13, hq13, hf⟩ := z_b_el hf
  refine y_sub (lv' := [some (.ref a0), some (.int (1 : Int32))]) ?_ (z_le_c rfl (z_le_c rfl z_le_0))
  refine z_lp_el (P := (fun s : Int32 × (Nat → Nat → Int32) => z_W G eX0_choose d 0 0 2 [some (.ref a0), some (.int s.1)] [] z_SH (s.2, R) Q)) (E := (fun x : (Nat → Nat → Int32) => z_W G eX0_choose d 0 0 69 [none, none] [] z_SH (x, R) Q)) (wX0_choose_b2 hd g_a0) 300 ((1 : Int32), I) q13 hq13 ?_
  show z_W G eX0_choose d 0 0 69 [none, none] [] z_SH (q13, R) _
  cases hf
  exact z_vret hk rfl dX0_choose_69
theorem wX0_choose {G : z_G} {d : Nat} {a0 : Nat} {I : Nat → Nat → Int32} {R : Nat → Nat → Nat} {q : (Nat → Nat → Int32)} (hd : 0 ≤ d) (hf : fX0_choose a0 I R = some q) : z_M G d 0 0 eX0_choose [.ref a0] z_SH (I, R) (z_E none (q, R)) :=
  y_M_of _ (by decide +kernel) rfl rfl rfl (vX0_choose hd hf ⟨rfl, rfl, rfl⟩)
def fX0_plan_b12 (a0 : Nat) (a1 : Nat) (z2 : Int32) (R : Nat → Nat → Nat) : (Int32 × (Nat → Nat → Int32)) → Option ((Int32 × (Nat → Nat → Int32)) ⊕ ((Nat → Nat → Int32))) :=
  fun s => (fun (p3 : Int32) (I : Nat → Nat → Int32) => if p3 < 0 then (some (.inr I)) else (z_b (fX0_fewestFrom a0 p3 z2 I R) (fun q4 => z_g (z_ok 1 (R a0 2) p3) (z_l (z_u I (R a0 2) p3.toNatClampNeg q4) (fun I6 => z_l (p3 + (-1 : Int32)) (fun t7 => some (.inl (t7, I6)))))))) s.1 s.2
theorem wX0_plan_b12 {G : z_G} {d : Nat} {Q : Option Value → z_S → z_H → Prop} {a0 : Nat} {a1 : Nat} {z2 : Int32} {R : Nat → Nat → Nat} (hd : 4 ≤ d) (g_a0 : z_ob a0 0) (g_a1 : z_ob a1 5) : ∀ (s : Int32 × (Nat → Nat → Int32)) (o : (Int32 × (Nat → Nat → Int32)) ⊕ ((Nat → Nat → Int32))), fX0_plan_b12 a0 a1 z2 R s = some o → z_or (fun s : Int32 × (Nat → Nat → Int32) => z_W G eX0_plan d 0 0 12 [some (.ref a0), none, some (.int z2), some (.int s.1)] [] z_SH (s.2, R) Q) (fun x : (Nat → Nat → Int32) => z_W G eX0_plan d 0 0 34 [some (.ref a0), none, none, none] [] z_SH (x, R) Q) o → (fun s : Int32 × (Nat → Nat → Int32) => z_W G eX0_plan d 0 0 12 [some (.ref a0), none, some (.int z2), some (.int s.1)] [] z_SH (s.2, R) Q) s := by
  rintro ⟨p3, I⟩ o hf hk
  show z_W G eX0_plan d 0 0 12 [some (.ref a0), none, some (.int z2), some (.int p3)] [] z_SH (I, R) Q
  unfold fX0_plan_b12 at hf
  try dsimp only at hf
  refine z_iload_n dX0_plan_12 rfl rfl ?_
  refine z_if_lt (tgt := 34) dX0_plan_13 (by decide) (fun c3 => ?_) (fun c3 => ?_)
  · have hf := z_if_t hf c3
    cases hf
    exact y_sub hk (z_le_c rfl (z_le_n (z_le_n (z_le_n z_le_0))))
  · have hf := z_if_f hf c3
    refine z_aload_n dX0_plan_16 rfl rfl (z_okl g_a0) ?_
    refine y_getR lfX0_20 rfl g_a0 dX0_plan_17 ?_
    refine z_iload_n dX0_plan_20 rfl rfl ?_
    refine z_aload_n dX0_plan_21 rfl rfl (z_okl g_a0) ?_
    refine z_iload_n dX0_plan_22 rfl rfl ?_
    refine z_iload_n dX0_plan_23 rfl rfl ?_
    obtain ⟨q4, hq4, hf⟩ := z_b_el hf
    refine y_cVi (av := [.int p3, .int z2]) (Nat.le_trans (Nat.le_of_ble_eq_true rfl) hd) (wX0_fewestFrom (z_dl rfl hd) hq4) oX0_fewestFrom lmX0_34 iX0_fewestFrom g_a0 rfl _ rfl rfl (Nat.le_of_ble_eq_true rfl) dX0_plan_24 ?_
    obtain ⟨g5, hf⟩ := z_g_el hf
    refine y_iast g5 dX0_plan_27 (fun I6 eI6 => ?_)
    have hf := z_l_el hf eI6
    refine y_iinc (fun t7 => [some (.ref a0), none, some (.int z2), some (.int t7)]) dX0_plan_28 rfl kc_m1 (by decide) (fun _ => rfl) (fun t7 et7 => ?_)
    have hf := z_l_el hf et7
    refine z_goto (tgt := 12) dX0_plan_31 (by decide) ?_
    cases hf
    exact y_sub hk (z_le_c rfl (z_le_n (z_le_c rfl (z_le_c rfl z_le_0))))
def fX0_plan_j60 (a0 : Nat) (a1 : Nat) (I : Nat → Nat → Int32) (R : Nat → Nat → Nat) : Option (Int32 × (Nat → Nat → Int32)) :=
  z_b (fX0_choose a0 I R) (fun q11 => some ((1 : Int32), q11))
theorem wX0_plan_j60 {G : z_G} {d : Nat} {Q : Option Value → z_S → z_H → Prop} {a0 : Nat} {a1 : Nat} {I : Nat → Nat → Int32} {R : Nat → Nat → Nat} {o : Int32 × (Nat → Nat → Int32)} (hd : 4 ≤ d) (g_a0 : z_ob a0 0) (g_a1 : z_ob a1 5) (hf : fX0_plan_j60 a0 a1 I R = some o) (hk : Q (some (.int o.1)) z_SH (o.2, R)) : z_W G eX0_plan d 0 0 60 [some (.ref a0), none, none, none] [] z_SH (I, R) Q := by
  unfold fX0_plan_j60 at hf
  refine z_aload_n dX0_plan_60 rfl rfl (z_okl g_a0) ?_
  obtain ⟨q11, hq11, hf⟩ := z_b_el hf
  refine y_cVv (av := []) (Nat.le_trans (Nat.le_of_ble_eq_true rfl) hd) (wX0_choose (z_dl rfl hd) hq11) oX0_choose lmX0_41 iX0_choose g_a0 rfl _ rfl rfl (Nat.le_of_ble_eq_true rfl) dX0_plan_61 ?_
  refine z_iconst dX0_plan_64 kc_1 ?_
  cases hf
  exact z_iret hk ⟨_, rfl, rfl⟩ dX0_plan_65
def fX0_plan (a0 : Nat) (a1 : Nat) (x2 : Int32) (I : Nat → Nat → Int32) (R : Nat → Nat → Nat) : Option (Int32 × (Nat → Nat → Int32)) :=
  z_g (z_ob a0 0) (z_g (z_ob a1 5) (z_b (fX0_list a0 a1 I R) (fun q1 => z_l ((q1 a0 3) - (1 : Int32)) (fun t2 => z_b (z_lp (fX0_plan_b12 a0 a1 x2 R) 300 (t2, q1)) (fun q8 => z_l (z_u q8 a0 5 (0 : Int32)) (fun I9 => if (I9 a0 3) ≤ 0 then (fX0_plan_j60 a0 a1 I9 R) else (z_g (z_ok 1 (R a0 2) (0 : Int32)) (if (I9 (R a0 2) (0 : Int32).toNatClampNeg) < (1000 : Int32) then (fX0_plan_j60 a0 a1 I9 R) else (some ((0 : Int32), I9))))))))))
theorem vX0_plan {G : z_G} {d : Nat} {Q : Option Value → z_S → z_H → Prop} {a0 : Nat} {a1 : Nat} {x2 : Int32} {I : Nat → Nat → Int32} {R : Nat → Nat → Nat} {q : Int32 × (Nat → Nat → Int32)} (hd : 4 ≤ d) (hf : fX0_plan a0 a1 x2 I R = some q) (hk : Q (some (.int q.1)) z_SH (q.2, R)) : z_W G eX0_plan d 0 0 0 [some (.ref a0), some (.ref a1), some (.int x2), none] [] z_SH (I, R) Q := by
  unfold fX0_plan at hf
  obtain ⟨g_a0, hf⟩ := z_g_el hf
  obtain ⟨g_a1, hf⟩ := z_g_el hf
  refine z_aload_n dX0_plan_0 rfl rfl (z_okl g_a0) ?_
  refine z_aload_n dX0_plan_1 rfl rfl (z_okl g_a1) ?_
  obtain ⟨q1, hq1, hf⟩ := z_b_el hf
  refine y_cVv (av := [.ref a1]) (Nat.le_trans (Nat.le_of_ble_eq_true rfl) hd) (wX0_list (z_dl rfl hd) hq1) oX0_list lmX0_26 iX0_list g_a0 rfl _ rfl rfl (Nat.le_of_ble_eq_true rfl) dX0_plan_2 ?_
  refine z_aload_n dX0_plan_5 rfl rfl (z_okl g_a0) ?_
  refine y_getI lfX0_30 rfl g_a0 dX0_plan_6 ?_
  refine z_iconst dX0_plan_9 kc_1 ?_
  refine z_isub dX0_plan_10 ?_
  refine y_istore_n (fun t2 => [some (.ref a0), some (.ref a1), some (.int x2), some (.int t2)]) dX0_plan_11 rfl (by decide) (fun _ => rfl) (fun t2 et2 => ?_)
  have hf := z_l_el hf et2
  obtain ⟨q8, hq8, hf⟩ := z_b_el hf
  refine y_sub (lv' := [some (.ref a0), none, some (.int x2), some (.int t2)]) ?_ (z_le_c rfl (z_le_n (z_le_c rfl (z_le_c rfl z_le_0))))
  refine z_lp_el (P := (fun s : Int32 × (Nat → Nat → Int32) => z_W G eX0_plan d 0 0 12 [some (.ref a0), none, some (.int x2), some (.int s.1)] [] z_SH (s.2, R) Q)) (E := (fun x : (Nat → Nat → Int32) => z_W G eX0_plan d 0 0 34 [some (.ref a0), none, none, none] [] z_SH (x, R) Q)) (wX0_plan_b12 hd g_a0 g_a1) 300 (t2, q1) q8 hq8 ?_
  show z_W G eX0_plan d 0 0 34 [some (.ref a0), none, none, none] [] z_SH (q8, R) _
  refine z_aload_n dX0_plan_34 rfl rfl (z_okl g_a0) ?_
  refine z_iconst dX0_plan_35 kc_0 ?_
  refine y_putI lfX0_38 rfl g_a0 rfl rfl rfl dX0_plan_36 (fun I9 eI9 => ?_)
  have hf := z_l_el hf eI9
  refine z_aload_n dX0_plan_39 rfl rfl (z_okl g_a0) ?_
  refine y_getI lfX0_30 rfl g_a0 dX0_plan_40 ?_
  refine z_if_le (tgt := 60) dX0_plan_43 (by decide) (fun c10 => ?_) (fun c10 => ?_)
  · have hf := z_if_t hf c10
    exact y_sub (wX0_plan_j60 hd g_a0 g_a1 hf hk) (z_le_c rfl (z_le_n (z_le_n (z_le_n z_le_0))))
  · have hf := z_if_f hf c10
    refine z_aload_n dX0_plan_46 rfl rfl (z_okl g_a0) ?_
    refine y_getR lfX0_20 rfl g_a0 dX0_plan_47 ?_
    refine z_iconst dX0_plan_50 kc_0 ?_
    obtain ⟨g12, hf⟩ := z_g_el hf
    refine y_iald g12 dX0_plan_51 ?_
    refine z_sipush dX0_plan_52 ks_1000 ?_
    refine z_icmp_lt (tgt := 60) dX0_plan_55 (by decide) (fun c13 => ?_) (fun c13 => ?_)
    · have hf := z_if_t hf c13
      exact y_sub (wX0_plan_j60 hd g_a0 g_a1 hf hk) (z_le_c rfl (z_le_n (z_le_n (z_le_n z_le_0))))
    · have hf := z_if_f hf c13
      refine z_iconst dX0_plan_58 kc_0 ?_
      cases hf
      exact z_iret hk ⟨_, rfl, rfl⟩ dX0_plan_59
theorem wX0_plan {G : z_G} {d : Nat} {a0 : Nat} {a1 : Nat} {x2 : Int32} {I : Nat → Nat → Int32} {R : Nat → Nat → Nat} {q : Int32 × (Nat → Nat → Int32)} (hd : 4 ≤ d) (hf : fX0_plan a0 a1 x2 I R = some q) : z_M G d 0 0 eX0_plan [.ref a0, .ref a1, .int x2] z_SH (I, R) (z_E (some (.int q.1)) (q.2, R)) :=
  y_M_of _ (by decide +kernel) rfl rfl rfl (vX0_plan hd hf ⟨rfl, rfl, rfl⟩)
def fX0_fewest (a0 : Nat) (I : Nat → Nat → Int32) : Option (Int32) :=
  z_g (z_ob a0 0) (some (I a0 5))
theorem vX0_fewest {G : z_G} {d : Nat} {Q : Option Value → z_S → z_H → Prop} {a0 : Nat} {I : Nat → Nat → Int32} {R : Nat → Nat → Nat} {q : Int32} (hd : 0 ≤ d) (hf : fX0_fewest a0 I = some q) (hk : Q (some (.int q)) z_SH (I, R)) : z_W G eX0_fewest d 0 0 0 [some (.ref a0)] [] z_SH (I, R) Q := by
  unfold fX0_fewest at hf
  obtain ⟨g_a0, hf⟩ := z_g_el hf
  refine z_aload_n dX0_fewest_0 rfl rfl (z_okl g_a0) ?_
  refine y_getI lfX0_38 rfl g_a0 dX0_fewest_1 ?_
  cases hf
  exact z_iret hk ⟨_, rfl, rfl⟩ dX0_fewest_4
theorem wX0_fewest {G : z_G} {d : Nat} {a0 : Nat} {I : Nat → Nat → Int32} {R : Nat → Nat → Nat} {q : Int32} (hd : 0 ≤ d) (hf : fX0_fewest a0 I = some q) : z_M G d 0 0 eX0_fewest [.ref a0] z_SH (I, R) (z_E (some (.int q)) (I, R)) :=
  y_M_of _ (by decide +kernel) rfl rfl rfl (vX0_fewest hd hf ⟨rfl, rfl, rfl⟩)
def fX0_placeOf (a0 : Nat) (x1 : Int32) (I : Nat → Nat → Int32) (R : Nat → Nat → Nat) : Option (Int32) :=
  z_g (z_ob a0 0) (if x1 < 0 then (some (-4 : Int32)) else (if (I a0 5) ≤ x1 then (some (-4 : Int32)) else (z_g (z_ok 1 (R a0 4) x1) (some (I (R a0 4) x1.toNatClampNeg)))))
theorem vX0_placeOf {G : z_G} {d : Nat} {Q : Option Value → z_S → z_H → Prop} {a0 : Nat} {x1 : Int32} {I : Nat → Nat → Int32} {R : Nat → Nat → Nat} {q : Int32} (hd : 0 ≤ d) (hf : fX0_placeOf a0 x1 I R = some q) (hk : Q (some (.int q)) z_SH (I, R)) : z_W G eX0_placeOf d 0 0 0 [some (.ref a0), some (.int x1)] [] z_SH (I, R) Q := by
  unfold fX0_placeOf at hf
  obtain ⟨g_a0, hf⟩ := z_g_el hf
  refine z_iload_n dX0_placeOf_0 rfl rfl ?_
  refine z_if_lt (tgt := 21) dX0_placeOf_1 (by decide) (fun c1 => ?_) (fun c1 => ?_)
  · have hf := z_if_t hf c1
    refine z_bipush dX0_placeOf_21 kb_m4 ?_
    cases hf
    exact z_iret hk ⟨_, rfl, rfl⟩ dX0_placeOf_23
  · have hf := z_if_f hf c1
    refine z_iload_n dX0_placeOf_4 rfl rfl ?_
    refine z_aload_n dX0_placeOf_5 rfl rfl (z_okl g_a0) ?_
    refine y_getI lfX0_38 rfl g_a0 dX0_placeOf_6 ?_
    refine z_icmp_ge (tgt := 21) dX0_placeOf_9 (by decide) (fun c2 => ?_) (fun c2 => ?_)
    · have hf := z_if_t hf c2
      refine z_bipush dX0_placeOf_21 kb_m4 ?_
      cases hf
      exact z_iret hk ⟨_, rfl, rfl⟩ dX0_placeOf_23
    · have hf := z_if_f hf c2
      refine z_aload_n dX0_placeOf_12 rfl rfl (z_okl g_a0) ?_
      refine y_getR lfX0_23 rfl g_a0 dX0_placeOf_13 ?_
      refine z_iload_n dX0_placeOf_16 rfl rfl ?_
      obtain ⟨g3, hf⟩ := z_g_el hf
      refine y_iald g3 dX0_placeOf_17 ?_
      refine z_goto (tgt := 23) dX0_placeOf_18 (by decide) ?_
      cases hf
      exact z_iret hk ⟨_, rfl, rfl⟩ dX0_placeOf_23
theorem wX0_placeOf {G : z_G} {d : Nat} {a0 : Nat} {x1 : Int32} {I : Nat → Nat → Int32} {R : Nat → Nat → Nat} {q : Int32} (hd : 0 ≤ d) (hf : fX0_placeOf a0 x1 I R = some q) : z_M G d 0 0 eX0_placeOf [.ref a0, .int x1] z_SH (I, R) (z_E (some (.int q)) (I, R)) :=
  y_M_of _ (by decide +kernel) rfl rfl rfl (vX0_placeOf hd hf ⟨rfl, rfl, rfl⟩)
def fX9_toldBits_b4 (a0 : Nat) (I : Nat → Nat → Int32) (R : Nat → Nat → Nat) : (Int32 × Int32) → Option ((Int32 × Int32) ⊕ (Int32)) :=
  fun s => (fun (p1 : Int32) (p2 : Int32) => if (8 : Int32) ≤ p2 then (some (.inr p1)) else (z_g (z_ok 4 (R a0 0) p2) (z_g (z_ob (R (R a0 0) p2.toNatClampNeg) 8) (if (I (R (R a0 0) p2.toNatClampNeg) 0) = 0 then (z_l (p2 + (1 : Int32)) (fun t5 => some (.inl (p1, t5)))) else (z_l (p1 ||| (z_shl (1 : Int32) p2)) (fun t6 => z_l (p2 + (1 : Int32)) (fun t7 => some (.inl (t6, t7))))))))) s.1 s.2
theorem wX9_toldBits_b4 {G : z_G} {d : Nat} {Q : Option Value → z_S → z_H → Prop} {a0 : Nat} {I : Nat → Nat → Int32} {R : Nat → Nat → Nat} (hd : 0 ≤ d) (g_a0 : z_ob a0 9) : ∀ (s : Int32 × Int32) (o : (Int32 × Int32) ⊕ (Int32)), fX9_toldBits_b4 a0 I R s = some o → z_or (fun s : Int32 × Int32 => z_W G eX9_toldBits d 0 0 4 [some (.ref a0), some (.int s.1), some (.int s.2)] [] z_SH (I, R) Q) (fun x : Int32 => z_W G eX9_toldBits d 0 0 34 [none, some (.int x), none] [] z_SH (I, R) Q) o → (fun s : Int32 × Int32 => z_W G eX9_toldBits d 0 0 4 [some (.ref a0), some (.int s.1), some (.int s.2)] [] z_SH (I, R) Q) s := by
  rintro ⟨p1, p2⟩ o hf hk
  show z_W G eX9_toldBits d 0 0 4 [some (.ref a0), some (.int p1), some (.int p2)] [] z_SH (I, R) Q
  unfold fX9_toldBits_b4 at hf
  try dsimp only at hf
  refine z_iload_n dX9_toldBits_4 rfl rfl ?_
  refine z_bipush dX9_toldBits_5 kb_8 ?_
  refine z_icmp_ge (tgt := 34) dX9_toldBits_7 (by decide) (fun c1 => ?_) (fun c1 => ?_)
  · have hf := z_if_t hf c1
    cases hf
    exact y_sub hk (z_le_n (z_le_c rfl (z_le_n z_le_0)))
  · have hf := z_if_f hf c1
    refine z_aload_n dX9_toldBits_10 rfl rfl (z_okl g_a0) ?_
    refine y_getR lfX9_11 rfl g_a0 dX9_toldBits_11 ?_
    refine z_iload_n dX9_toldBits_14 rfl rfl ?_
    obtain ⟨g2, hf⟩ := z_g_el hf
    refine y_aald (t := 1) (Or.inr rfl) g2 dX9_toldBits_15 ?_
    obtain ⟨g3, hf⟩ := z_g_el hf
    refine y_getI lfX9_33 rfl g3 dX9_toldBits_16 ?_
    refine z_if_eq (tgt := 28) dX9_toldBits_19 (by decide) (fun c4 => ?_) (fun c4 => ?_)
    · have hf := z_if_t hf c4
      refine y_iinc (fun t5 => [some (.ref a0), some (.int p1), some (.int t5)]) dX9_toldBits_28 rfl kc_1 (by decide) (fun _ => rfl) (fun t5 et5 => ?_)
      have hf := z_l_el hf et5
      refine z_goto (tgt := 4) dX9_toldBits_31 (by decide) ?_
      cases hf
      exact y_sub hk (z_le_c rfl (z_le_c rfl (z_le_c rfl z_le_0)))
    · have hf := z_if_f hf c4
      refine z_iload_n dX9_toldBits_22 rfl rfl ?_
      refine z_iconst dX9_toldBits_23 kc_1 ?_
      refine z_iload_n dX9_toldBits_24 rfl rfl ?_
      refine y_ishl dX9_toldBits_25 ?_
      refine z_ior dX9_toldBits_26 ?_
      refine y_istore_n (fun t6 => [some (.ref a0), some (.int t6), some (.int p2)]) dX9_toldBits_27 rfl (by decide) (fun _ => rfl) (fun t6 et6 => ?_)
      have hf := z_l_el hf et6
      refine y_iinc (fun t7 => [some (.ref a0), some (.int t6), some (.int t7)]) dX9_toldBits_28 rfl kc_1 (by decide) (fun _ => rfl) (fun t7 et7 => ?_)
      have hf := z_l_el hf et7
      refine z_goto (tgt := 4) dX9_toldBits_31 (by decide) ?_
      cases hf
      exact y_sub hk (z_le_c rfl (z_le_c rfl (z_le_c rfl z_le_0)))
def fX9_toldBits (a0 : Nat) (I : Nat → Nat → Int32) (R : Nat → Nat → Nat) : Option (Int32) :=
  z_g (z_ob a0 9) (z_b (z_lp (fX9_toldBits_b4 a0 I R) 300 ((0 : Int32), (0 : Int32))) (fun q8 => some q8))
theorem vX9_toldBits {G : z_G} {d : Nat} {Q : Option Value → z_S → z_H → Prop} {a0 : Nat} {I : Nat → Nat → Int32} {R : Nat → Nat → Nat} {q : Int32} (hd : 0 ≤ d) (hf : fX9_toldBits a0 I R = some q) (hk : Q (some (.int q)) z_SH (I, R)) : z_W G eX9_toldBits d 0 0 0 [some (.ref a0), none, none] [] z_SH (I, R) Q := by
  unfold fX9_toldBits at hf
  obtain ⟨g_a0, hf⟩ := z_g_el hf
  refine z_iconst dX9_toldBits_0 kc_0 ?_
  refine y_istore_n0 [some (.ref a0), some (.int (0 : Int32)), none] dX9_toldBits_1 rfl (by decide) rfl ?_
  refine z_iconst dX9_toldBits_2 kc_0 ?_
  refine y_istore_n0 [some (.ref a0), some (.int (0 : Int32)), some (.int (0 : Int32))] dX9_toldBits_3 rfl (by decide) rfl ?_
  obtain ⟨q8, hq8, hf⟩ := z_b_el hf
  refine y_sub (lv' := [some (.ref a0), some (.int (0 : Int32)), some (.int (0 : Int32))]) ?_ (z_le_c rfl (z_le_c rfl (z_le_c rfl z_le_0)))
  refine z_lp_el (P := (fun s : Int32 × Int32 => z_W G eX9_toldBits d 0 0 4 [some (.ref a0), some (.int s.1), some (.int s.2)] [] z_SH (I, R) Q)) (E := (fun x : Int32 => z_W G eX9_toldBits d 0 0 34 [none, some (.int x), none] [] z_SH (I, R) Q)) (wX9_toldBits_b4 hd g_a0) 300 ((0 : Int32), (0 : Int32)) q8 hq8 ?_
  show z_W G eX9_toldBits d 0 0 34 [none, some (.int q8), none] [] z_SH (I, R) _
  refine z_iload_n dX9_toldBits_34 rfl rfl ?_
  cases hf
  exact z_iret hk ⟨_, rfl, rfl⟩ dX9_toldBits_35
theorem wX9_toldBits {G : z_G} {d : Nat} {a0 : Nat} {I : Nat → Nat → Int32} {R : Nat → Nat → Nat} {q : Int32} (hd : 0 ≤ d) (hf : fX9_toldBits a0 I R = some q) : z_M G d 0 0 eX9_toldBits [.ref a0] z_SH (I, R) (z_E (some (.int q)) (I, R)) :=
  y_M_of _ (by decide +kernel) rfl rfl rfl (vX9_toldBits hd hf ⟨rfl, rfl, rfl⟩)
def fX12_within (x0 : Int32) (x1 : Int32) (x2 : Int32) : Option (Int32) :=
  if x0 < x1 then (some (0 : Int32)) else (if x2 < x0 then (some (0 : Int32)) else (some (1 : Int32)))
theorem vX12_within {G : z_G} {d : Nat} {Q : Option Value → z_S → z_H → Prop} {x0 : Int32} {x1 : Int32} {x2 : Int32} {I : Nat → Nat → Int32} {R : Nat → Nat → Nat} {q : Int32} (hd : 0 ≤ d) (hf : fX12_within x0 x1 x2 = some q) (hk : Q (some (.int q)) z_SH (I, R)) : z_W G eX12_within d 0 0 0 [some (.int x0), some (.int x1), some (.int x2)] [] z_SH (I, R) Q := by
  unfold fX12_within at hf
  refine z_iload_n dX12_within_0 rfl rfl ?_
  refine z_iload_n dX12_within_1 rfl rfl ?_
  refine z_icmp_lt (tgt := 14) dX12_within_2 (by decide) (fun c1 => ?_) (fun c1 => ?_)
  · have hf := z_if_t hf c1
    refine z_iconst dX12_within_14 kc_0 ?_
    cases hf
    exact z_iret hk ⟨_, rfl, rfl⟩ dX12_within_15
  · have hf := z_if_f hf c1
    refine z_iload_n dX12_within_5 rfl rfl ?_
    refine z_iload_n dX12_within_6 rfl rfl ?_
    refine z_icmp_gt (tgt := 14) dX12_within_7 (by decide) (fun c2 => ?_) (fun c2 => ?_)
    · have hf := z_if_t hf c2
      refine z_iconst dX12_within_14 kc_0 ?_
      cases hf
      exact z_iret hk ⟨_, rfl, rfl⟩ dX12_within_15
    · have hf := z_if_f hf c2
      refine z_iconst dX12_within_10 kc_1 ?_
      refine z_goto (tgt := 15) dX12_within_11 (by decide) ?_
      cases hf
      exact z_iret hk ⟨_, rfl, rfl⟩ dX12_within_15
theorem wX12_within {G : z_G} {d : Nat} {x0 : Int32} {x1 : Int32} {x2 : Int32} {I : Nat → Nat → Int32} {R : Nat → Nat → Nat} {q : Int32} (hd : 0 ≤ d) (hf : fX12_within x0 x1 x2 = some q) : z_M G d 0 0 eX12_within [.int x0, .int x1, .int x2] z_SH (I, R) (z_E (some (.int q)) (I, R)) :=
  y_M_of _ (by decide +kernel) rfl rfl rfl (vX12_within hd hf ⟨rfl, rfl, rfl⟩)
def fX12_isSinger (x0 : Int32) : Option (Int32) :=
  z_b (fX12_within x0 (0 : Int32) (7 : Int32)) (fun q1 => z_g (q1 = 0 ∨ q1 = 1) (some q1))
theorem vX12_isSinger {G : z_G} {d : Nat} {Q : Option Value → z_S → z_H → Prop} {x0 : Int32} {I : Nat → Nat → Int32} {R : Nat → Nat → Nat} {q : Int32} (hd : 1 ≤ d) (hf : fX12_isSinger x0 = some q) (hk : Q (some (.int q)) z_SH (I, R)) : z_W G eX12_isSinger d 0 0 0 [some (.int x0)] [] z_SH (I, R) Q := by
  unfold fX12_isSinger at hf
  refine z_iload_n dX12_isSinger_0 rfl rfl ?_
  refine z_iconst dX12_isSinger_1 kc_0 ?_
  refine z_bipush dX12_isSinger_2 kb_7 ?_
  obtain ⟨q1, hq1, hf⟩ := z_b_el hf
  refine y_cSi (Nat.le_trans (Nat.le_of_ble_eq_true rfl) hd) (wX12_within (z_dl rfl hd) hq1) oX12_within lmX12_96 sX12_within _ rfl rfl (Nat.le_of_ble_eq_true rfl) dX12_isSinger_4 ?_
  obtain ⟨g2, hf⟩ := z_g_el hf
  cases hf
  exact z_iret hk ⟨_, rfl, z_bn g2⟩ dX12_isSinger_7
theorem wX12_isSinger {G : z_G} {d : Nat} {x0 : Int32} {I : Nat → Nat → Int32} {R : Nat → Nat → Nat} {q : Int32} (hd : 1 ≤ d) (hf : fX12_isSinger x0 = some q) : z_M G d 0 0 eX12_isSinger [.int x0] z_SH (I, R) (z_E (some (.int q)) (I, R)) :=
  y_M_of _ (by decide +kernel) rfl rfl rfl (vX12_isSinger hd hf ⟨rfl, rfl, rfl⟩)
def fX9_isTold (a0 : Nat) (x1 : Int32) (I : Nat → Nat → Int32) (R : Nat → Nat → Nat) : Option (Int32) :=
  z_g (z_ob a0 9) (z_b (fX12_isSinger x1) (fun q1 => if q1 = 0 then (some (0 : Int32)) else (z_g (z_ok 4 (R a0 0) x1) (z_g (z_ob (R (R a0 0) x1.toNatClampNeg) 8) (if (I (R (R a0 0) x1.toNatClampNeg) 0) = 0 then (some (0 : Int32)) else (some (1 : Int32)))))))
theorem vX9_isTold {G : z_G} {d : Nat} {Q : Option Value → z_S → z_H → Prop} {a0 : Nat} {x1 : Int32} {I : Nat → Nat → Int32} {R : Nat → Nat → Nat} {q : Int32} (hd : 2 ≤ d) (hf : fX9_isTold a0 x1 I R = some q) (hk : Q (some (.int q)) z_SH (I, R)) : z_W G eX9_isTold d 0 0 0 [some (.ref a0), some (.int x1)] [] z_SH (I, R) Q := by
  unfold fX9_isTold at hf
  obtain ⟨g_a0, hf⟩ := z_g_el hf
  refine z_iload_n dX9_isTold_0 rfl rfl ?_
  obtain ⟨q1, hq1, hf⟩ := z_b_el hf
  refine y_cNi (Nat.le_trans (Nat.le_of_ble_eq_true rfl) hd) (wX12_isSinger (z_dl rfl hd) hq1) oX12_isSinger lnX9_29 sX12_isSinger _ rfl rfl (Nat.le_of_ble_eq_true rfl) dX9_isTold_1 ?_
  refine z_if_eq (tgt := 23) dX9_isTold_4 (by decide) (fun c2 => ?_) (fun c2 => ?_)
  · have hf := z_if_t hf c2
    refine z_iconst dX9_isTold_23 kc_0 ?_
    cases hf
    exact z_iret hk ⟨_, rfl, rfl⟩ dX9_isTold_24
  · have hf := z_if_f hf c2
    refine z_aload_n dX9_isTold_7 rfl rfl (z_okl g_a0) ?_
    refine y_getR lfX9_11 rfl g_a0 dX9_isTold_8 ?_
    refine z_iload_n dX9_isTold_11 rfl rfl ?_
    obtain ⟨g3, hf⟩ := z_g_el hf
    refine y_aald (t := 1) (Or.inr rfl) g3 dX9_isTold_12 ?_
    obtain ⟨g4, hf⟩ := z_g_el hf
    refine y_getI lfX9_33 rfl g4 dX9_isTold_13 ?_
    refine z_if_eq (tgt := 23) dX9_isTold_16 (by decide) (fun c5 => ?_) (fun c5 => ?_)
    · have hf := z_if_t hf c5
      refine z_iconst dX9_isTold_23 kc_0 ?_
      cases hf
      exact z_iret hk ⟨_, rfl, rfl⟩ dX9_isTold_24
    · have hf := z_if_f hf c5
      refine z_iconst dX9_isTold_19 kc_1 ?_
      refine z_goto (tgt := 24) dX9_isTold_20 (by decide) ?_
      cases hf
      exact z_iret hk ⟨_, rfl, rfl⟩ dX9_isTold_24
theorem wX9_isTold {G : z_G} {d : Nat} {a0 : Nat} {x1 : Int32} {I : Nat → Nat → Int32} {R : Nat → Nat → Nat} {q : Int32} (hd : 2 ≤ d) (hf : fX9_isTold a0 x1 I R = some q) : z_M G d 0 0 eX9_isTold [.ref a0, .int x1] z_SH (I, R) (z_E (some (.int q)) (I, R)) :=
  y_M_of _ (by decide +kernel) rfl rfl rfl (vX9_isTold hd hf ⟨rfl, rfl, rfl⟩)
def fX8_hears_j58 (a0 : Nat) (a1 : Nat) (v0 : Int32) (v1 : Int32) (I : Nat → Nat → Int32) : Option (Int32) :=
  if (v0 &&& v1) = 0 then (some (1 : Int32)) else (some (0 : Int32))
theorem wX8_hears_j58 {G : z_G} {d : Nat} {Q : Option Value → z_S → z_H → Prop} {a0 : Nat} {a1 : Nat} {v0 : Int32} {v1 : Int32} {I : Nat → Nat → Int32} {R : Nat → Nat → Nat} {o : Int32} (hd : 1 ≤ d) (g_a0 : z_ob a0 8) (g_a1 : z_ob a1 8) (hf : fX8_hears_j58 a0 a1 v0 v1 I = some o) (hk : Q (some (.int o)) z_SH (I, R)) : z_W G eX8_hears d 0 0 58 [none, none, none, none] [.int v1, .int v0] z_SH (I, R) Q := by
  unfold fX8_hears_j58 at hf
  refine z_iand dX8_hears_58 ?_
  refine z_if_ne (tgt := 66) dX8_hears_59 (by decide) (fun c6 => ?_) (fun c6 => ?_)
  · have hf := z_if_f hf c6
    refine z_iconst dX8_hears_66 kc_0 ?_
    cases hf
    exact z_iret hk ⟨_, rfl, rfl⟩ dX8_hears_67
  · have hf := z_if_t hf c6
    refine z_iconst dX8_hears_62 kc_1 ?_
    refine z_goto (tgt := 67) dX8_hears_63 (by decide) ?_
    cases hf
    exact z_iret hk ⟨_, rfl, rfl⟩ dX8_hears_67
def fX8_hears (a0 : Nat) (a1 : Nat) (x2 : Int32) (I : Nat → Nat → Int32) : Option (Int32) :=
  z_g (z_ob a0 8) (z_g (z_ob a1 8) (z_l ((I a1 2) - (I a0 2)) (fun t1 => if (I a1 0) = 0 then (some (0 : Int32)) else (if (z_abs t1) ≤ x2 then (if t1 = 0 then (if (I a0 3) = (3 : Int32) then (some (0 : Int32)) else (some (1 : Int32))) else (if 0 ≤ t1 then (fX8_hears_j58 a0 a1 (I a0 3) (2 : Int32) I) else (fX8_hears_j58 a0 a1 (I a0 3) (1 : Int32) I))) else (some (0 : Int32))))))
theorem vX8_hears {G : z_G} {d : Nat} {Q : Option Value → z_S → z_H → Prop} {a0 : Nat} {a1 : Nat} {x2 : Int32} {I : Nat → Nat → Int32} {R : Nat → Nat → Nat} {q : Int32} (hd : 1 ≤ d) (hf : fX8_hears a0 a1 x2 I = some q) (hk : Q (some (.int q)) z_SH (I, R)) : z_W G eX8_hears d 0 0 0 [some (.ref a0), some (.ref a1), some (.int x2), none] [] z_SH (I, R) Q := by
  unfold fX8_hears at hf
  obtain ⟨g_a0, hf⟩ := z_g_el hf
  obtain ⟨g_a1, hf⟩ := z_g_el hf
  refine z_aload_n dX8_hears_0 rfl rfl (z_okl g_a1) ?_
  refine y_getI lfX8_35 rfl g_a1 dX8_hears_1 ?_
  refine z_aload_n dX8_hears_4 rfl rfl (z_okl g_a0) ?_
  refine y_getI lfX8_35 rfl g_a0 dX8_hears_5 ?_
  refine z_isub dX8_hears_8 ?_
  refine y_istore_n (fun t1 => [some (.ref a0), some (.ref a1), some (.int x2), some (.int t1)]) dX8_hears_9 rfl (by decide) (fun _ => rfl) (fun t1 et1 => ?_)
  have hf := z_l_el hf et1
  refine z_aload_n dX8_hears_10 rfl rfl (z_okl g_a1) ?_
  refine y_getI lfX8_29 rfl g_a1 dX8_hears_11 ?_
  refine z_if_eq (tgt := 25) dX8_hears_14 (by decide) (fun c2 => ?_) (fun c2 => ?_)
  · have hf := z_if_t hf c2
    refine z_iconst dX8_hears_25 kc_0 ?_
    cases hf
    exact z_iret hk ⟨_, rfl, rfl⟩ dX8_hears_26
  · have hf := z_if_f hf c2
    refine z_iload_n dX8_hears_17 rfl rfl ?_
    refine y_abs (Nat.le_trans (Nat.le_of_ble_eq_true rfl) hd) lmX8_45 (Nat.le_of_ble_eq_true rfl) dX8_hears_18 ?_
    refine z_iload_n dX8_hears_21 rfl rfl ?_
    refine z_icmp_le (tgt := 27) dX8_hears_22 (by decide) (fun c3 => ?_) (fun c3 => ?_)
    · have hf := z_if_t hf c3
      refine z_iload_n dX8_hears_27 rfl rfl ?_
      refine z_if_ne (tgt := 45) dX8_hears_28 (by decide) (fun c4 => ?_) (fun c4 => ?_)
      · have hf := z_if_f hf c4
        refine z_aload_n dX8_hears_45 rfl rfl (z_okl g_a0) ?_
        refine y_getI lfX8_38 rfl g_a0 dX8_hears_46 ?_
        refine z_iload_n dX8_hears_49 rfl rfl ?_
        refine z_if_ge (tgt := 57) dX8_hears_50 (by decide) (fun c5 => ?_) (fun c5 => ?_)
        · have hf := z_if_t hf c5
          refine z_iconst dX8_hears_57 kc_2 ?_
          exact y_sub (wX8_hears_j58 hd g_a0 g_a1 hf hk) (z_le_n (z_le_n (z_le_n (z_le_n z_le_0))))
        · have hf := z_if_f hf c5
          refine z_iconst dX8_hears_53 kc_1 ?_
          refine z_goto (tgt := 58) dX8_hears_54 (by decide) ?_
          exact y_sub (wX8_hears_j58 hd g_a0 g_a1 hf hk) (z_le_n (z_le_n (z_le_n (z_le_n z_le_0))))
      · have hf := z_if_t hf c4
        refine z_aload_n dX8_hears_31 rfl rfl (z_okl g_a0) ?_
        refine y_getI lfX8_38 rfl g_a0 dX8_hears_32 ?_
        refine z_iconst dX8_hears_35 kc_3 ?_
        refine z_icmp_eq (tgt := 43) dX8_hears_36 (by decide) (fun c7 => ?_) (fun c7 => ?_)
        · have hf := z_if_t hf c7
          refine z_iconst dX8_hears_43 kc_0 ?_
          cases hf
          exact z_iret hk ⟨_, rfl, rfl⟩ dX8_hears_44
        · have hf := z_if_f hf c7
          refine z_iconst dX8_hears_39 kc_1 ?_
          refine z_goto (tgt := 44) dX8_hears_40 (by decide) ?_
          cases hf
          exact z_iret hk ⟨_, rfl, rfl⟩ dX8_hears_44
    · have hf := z_if_f hf c3
      refine z_iconst dX8_hears_25 kc_0 ?_
      cases hf
      exact z_iret hk ⟨_, rfl, rfl⟩ dX8_hears_26
theorem wX8_hears {G : z_G} {d : Nat} {a0 : Nat} {a1 : Nat} {x2 : Int32} {I : Nat → Nat → Int32} {R : Nat → Nat → Nat} {q : Int32} (hd : 1 ≤ d) (hf : fX8_hears a0 a1 x2 I = some q) : z_M G d 0 0 eX8_hears [.ref a0, .ref a1, .int x2] z_SH (I, R) (z_E (some (.int q)) (I, R)) :=
  y_M_of _ (by decide +kernel) rfl rfl rfl (vX8_hears hd hf ⟨rfl, rfl, rfl⟩)
def fX9_heardBits_b5 (a0 : Nat) (z1 : Int32) (z2 : Int32) (I : Nat → Nat → Int32) (R : Nat → Nat → Nat) : (Int32 × Int32) → Option ((Int32 × Int32) ⊕ (Int32)) :=
  fun s => (fun (p3 : Int32) (p4 : Int32) => if (8 : Int32) ≤ p4 then (some (.inr p3)) else (z_b (fX12_isSinger z1) (fun q2 => if q2 = 0 then (some (.inr p3)) else (if p4 = z1 then (z_l (p4 + (1 : Int32)) (fun t5 => some (.inl (p3, t5)))) else (z_g (z_ok 4 (R a0 0) z1) (z_g (z_ok 4 (R a0 0) p4) (z_g (z_ob (R (R a0 0) z1.toNatClampNeg) 8) (z_b (fX8_hears (R (R a0 0) z1.toNatClampNeg) (R (R a0 0) p4.toNatClampNeg) z2 I) (fun q8 => if q8 = 0 then (z_l (p4 + (1 : Int32)) (fun t11 => some (.inl (p3, t11)))) else (z_l (p3 ||| (z_shl (1 : Int32) p4)) (fun t12 => z_l (p4 + (1 : Int32)) (fun t13 => some (.inl (t12, t13)))))))))))))) s.1 s.2
theorem wX9_heardBits_b5 {G : z_G} {d : Nat} {Q : Option Value → z_S → z_H → Prop} {a0 : Nat} {z1 : Int32} {z2 : Int32} {I : Nat → Nat → Int32} {R : Nat → Nat → Nat} (hd : 2 ≤ d) (g_a0 : z_ob a0 9) : ∀ (s : Int32 × Int32) (o : (Int32 × Int32) ⊕ (Int32)), fX9_heardBits_b5 a0 z1 z2 I R s = some o → z_or (fun s : Int32 × Int32 => z_W G eX9_heardBits d 0 0 5 [some (.ref a0), some (.int z1), some (.int z2), some (.int s.1), some (.int s.2)] [] z_SH (I, R) Q) (fun x : Int32 => z_W G eX9_heardBits d 0 0 58 [none, none, none, some (.int x), none] [] z_SH (I, R) Q) o → (fun s : Int32 × Int32 => z_W G eX9_heardBits d 0 0 5 [some (.ref a0), some (.int z1), some (.int z2), some (.int s.1), some (.int s.2)] [] z_SH (I, R) Q) s := by
  rintro ⟨p3, p4⟩ o hf hk
  show z_W G eX9_heardBits d 0 0 5 [some (.ref a0), some (.int z1), some (.int z2), some (.int p3), some (.int p4)] [] z_SH (I, R) Q
  unfold fX9_heardBits_b5 at hf
  try dsimp only at hf
  refine z_iload dX9_heardBits_5 rfl ?_
  refine z_bipush dX9_heardBits_7 kb_8 ?_
  refine z_icmp_ge (tgt := 58) dX9_heardBits_9 (by decide) (fun c1 => ?_) (fun c1 => ?_)
  · have hf := z_if_t hf c1
    cases hf
    exact y_sub hk (z_le_n (z_le_n (z_le_n (z_le_c rfl (z_le_n z_le_0)))))
  · have hf := z_if_f hf c1
    refine z_iload_n dX9_heardBits_12 rfl rfl ?_
    obtain ⟨q2, hq2, hf⟩ := z_b_el hf
    refine y_cNi (Nat.le_trans (Nat.le_of_ble_eq_true rfl) hd) (wX12_isSinger (z_dl rfl hd) hq2) oX12_isSinger lnX9_29 sX12_isSinger _ rfl rfl (Nat.le_of_ble_eq_true rfl) dX9_heardBits_13 ?_
    refine z_if_eq (tgt := 58) dX9_heardBits_16 (by decide) (fun c3 => ?_) (fun c3 => ?_)
    · have hf := z_if_t hf c3
      cases hf
      exact y_sub hk (z_le_n (z_le_n (z_le_n (z_le_c rfl (z_le_n z_le_0)))))
    · have hf := z_if_f hf c3
      refine z_iload dX9_heardBits_19 rfl ?_
      refine z_iload_n dX9_heardBits_21 rfl rfl ?_
      refine z_icmp_eq (tgt := 52) dX9_heardBits_22 (by decide) (fun c4 => ?_) (fun c4 => ?_)
      · have hf := z_if_t hf c4
        refine y_iinc (fun t5 => [some (.ref a0), some (.int z1), some (.int z2), some (.int p3), some (.int t5)]) dX9_heardBits_52 rfl kc_1 (by decide) (fun _ => rfl) (fun t5 et5 => ?_)
        have hf := z_l_el hf et5
        refine z_goto (tgt := 5) dX9_heardBits_55 (by decide) ?_
        cases hf
        exact y_sub hk (z_le_c rfl (z_le_c rfl (z_le_c rfl (z_le_c rfl (z_le_c rfl z_le_0)))))
      · have hf := z_if_f hf c4
        refine z_aload_n dX9_heardBits_25 rfl rfl (z_okl g_a0) ?_
        refine y_getR lfX9_11 rfl g_a0 dX9_heardBits_26 ?_
        refine z_iload_n dX9_heardBits_29 rfl rfl ?_
        obtain ⟨g6, hf⟩ := z_g_el hf
        refine y_aald (t := 1) (Or.inr rfl) g6 dX9_heardBits_30 ?_
        refine z_aload_n dX9_heardBits_31 rfl rfl (z_okl g_a0) ?_
        refine y_getR lfX9_11 rfl g_a0 dX9_heardBits_32 ?_
        refine z_iload dX9_heardBits_35 rfl ?_
        obtain ⟨g7, hf⟩ := z_g_el hf
        refine y_aald (t := 1) (Or.inr rfl) g7 dX9_heardBits_37 ?_
        refine z_iload_n dX9_heardBits_38 rfl rfl ?_
        obtain ⟨g9, hf⟩ := z_g_el hf
        obtain ⟨q8, hq8, hf⟩ := z_b_el hf
        refine y_cVi (av := [.ref (R (R a0 0) p4.toNatClampNeg), .int z2]) (Nat.le_trans (Nat.le_of_ble_eq_true rfl) hd) (wX8_hears (z_dl rfl hd) hq8) oX8_hears lmX9_40 iX8_hears g9 rfl _ rfl rfl (Nat.le_of_ble_eq_true rfl) dX9_heardBits_39 ?_
        refine z_if_eq (tgt := 52) dX9_heardBits_42 (by decide) (fun c10 => ?_) (fun c10 => ?_)
        · have hf := z_if_t hf c10
          refine y_iinc (fun t11 => [some (.ref a0), some (.int z1), some (.int z2), some (.int p3), some (.int t11)]) dX9_heardBits_52 rfl kc_1 (by decide) (fun _ => rfl) (fun t11 et11 => ?_)
          have hf := z_l_el hf et11
          refine z_goto (tgt := 5) dX9_heardBits_55 (by decide) ?_
          cases hf
          exact y_sub hk (z_le_c rfl (z_le_c rfl (z_le_c rfl (z_le_c rfl (z_le_c rfl z_le_0)))))
        · have hf := z_if_f hf c10
          refine z_iload_n dX9_heardBits_45 rfl rfl ?_
          refine z_iconst dX9_heardBits_46 kc_1 ?_
          refine z_iload dX9_heardBits_47 rfl ?_
          refine y_ishl dX9_heardBits_49 ?_
          refine z_ior dX9_heardBits_50 ?_
          refine y_istore_n (fun t12 => [some (.ref a0), some (.int z1), some (.int z2), some (.int t12), some (.int p4)]) dX9_heardBits_51 rfl (by decide) (fun _ => rfl) (fun t12 et12 => ?_)
          have hf := z_l_el hf et12
          refine y_iinc (fun t13 => [some (.ref a0), some (.int z1), some (.int z2), some (.int t12), some (.int t13)]) dX9_heardBits_52 rfl kc_1 (by decide) (fun _ => rfl) (fun t13 et13 => ?_)
          have hf := z_l_el hf et13
          refine z_goto (tgt := 5) dX9_heardBits_55 (by decide) ?_
          cases hf
          exact y_sub hk (z_le_c rfl (z_le_c rfl (z_le_c rfl (z_le_c rfl (z_le_c rfl z_le_0)))))
def fX9_heardBits (a0 : Nat) (x1 : Int32) (x2 : Int32) (I : Nat → Nat → Int32) (R : Nat → Nat → Nat) : Option (Int32) :=
  z_g (z_ob a0 9) (z_b (z_lp (fX9_heardBits_b5 a0 x1 x2 I R) 300 ((0 : Int32), (0 : Int32))) (fun q14 => some q14))
theorem vX9_heardBits {G : z_G} {d : Nat} {Q : Option Value → z_S → z_H → Prop} {a0 : Nat} {x1 : Int32} {x2 : Int32} {I : Nat → Nat → Int32} {R : Nat → Nat → Nat} {q : Int32} (hd : 2 ≤ d) (hf : fX9_heardBits a0 x1 x2 I R = some q) (hk : Q (some (.int q)) z_SH (I, R)) : z_W G eX9_heardBits d 0 0 0 [some (.ref a0), some (.int x1), some (.int x2), none, none] [] z_SH (I, R) Q := by
  unfold fX9_heardBits at hf
  obtain ⟨g_a0, hf⟩ := z_g_el hf
  refine z_iconst dX9_heardBits_0 kc_0 ?_
  refine y_istore_n0 [some (.ref a0), some (.int x1), some (.int x2), some (.int (0 : Int32)), none] dX9_heardBits_1 rfl (by decide) rfl ?_
  refine z_iconst dX9_heardBits_2 kc_0 ?_
  refine y_istore0 [some (.ref a0), some (.int x1), some (.int x2), some (.int (0 : Int32)), some (.int (0 : Int32))] dX9_heardBits_3 (by decide) rfl ?_
  obtain ⟨q14, hq14, hf⟩ := z_b_el hf
  refine y_sub (lv' := [some (.ref a0), some (.int x1), some (.int x2), some (.int (0 : Int32)), some (.int (0 : Int32))]) ?_ (z_le_c rfl (z_le_c rfl (z_le_c rfl (z_le_c rfl (z_le_c rfl z_le_0)))))
  refine z_lp_el (P := (fun s : Int32 × Int32 => z_W G eX9_heardBits d 0 0 5 [some (.ref a0), some (.int x1), some (.int x2), some (.int s.1), some (.int s.2)] [] z_SH (I, R) Q)) (E := (fun x : Int32 => z_W G eX9_heardBits d 0 0 58 [none, none, none, some (.int x), none] [] z_SH (I, R) Q)) (wX9_heardBits_b5 hd g_a0) 300 ((0 : Int32), (0 : Int32)) q14 hq14 ?_
  show z_W G eX9_heardBits d 0 0 58 [none, none, none, some (.int q14), none] [] z_SH (I, R) _
  refine z_iload_n dX9_heardBits_58 rfl rfl ?_
  cases hf
  exact z_iret hk ⟨_, rfl, rfl⟩ dX9_heardBits_59
theorem wX9_heardBits {G : z_G} {d : Nat} {a0 : Nat} {x1 : Int32} {x2 : Int32} {I : Nat → Nat → Int32} {R : Nat → Nat → Nat} {q : Int32} (hd : 2 ≤ d) (hf : fX9_heardBits a0 x1 x2 I R = some q) : z_M G d 0 0 eX9_heardBits [.ref a0, .int x1, .int x2] z_SH (I, R) (z_E (some (.int q)) (I, R)) :=
  y_M_of _ (by decide +kernel) rfl rfl rfl (vX9_heardBits hd hf ⟨rfl, rfl, rfl⟩)
def fX1_listen_j39_10 (a0 : Nat) (a1 : Nat) (z2 : Int32) (y3 : Int32) (v0 : Nat) (v1 : Int32) (v2 : Int32) (I : Nat → Nat → Int32) (R : Nat → Nat → Nat) : Option ((Int32 × (Nat → Nat → Int32)) ⊕ ((Nat → Nat → Int32))) :=
  z_g (z_ok 1 v0 v1) (z_l (z_u I v0 v1.toNatClampNeg v2) (fun I7 => z_l (y3 + (1 : Int32)) (fun t8 => some (.inl (t8, I7)))))
theorem wX1_listen_j39_10 {G : z_G} {d : Nat} {Q : Option Value → z_S → z_H → Prop} {a0 : Nat} {a1 : Nat} {z2 : Int32} {y3 : Int32} {v0 : Nat} {v1 : Int32} {v2 : Int32} {I : Nat → Nat → Int32} {R : Nat → Nat → Nat} {o : (Int32 × (Nat → Nat → Int32)) ⊕ ((Nat → Nat → Int32))} (hd : 3 ≤ d) (g_a0 : z_ob a0 1) (g_a1 : z_ob a1 9) (hf : fX1_listen_j39_10 a0 a1 z2 y3 v0 v1 v2 I R = some o) (hk : z_or (fun s : Int32 × (Nat → Nat → Int32) => z_W G eX1_listen d 0 0 10 [some (.ref a0), some (.ref a1), some (.int z2), some (.int s.1), none] [] z_SH (s.2, R) Q) (fun x : (Nat → Nat → Int32) => z_W G eX1_listen d 0 0 46 [some (.ref a0), none, none, none, none] [] z_SH (x, R) Q) o) : z_W G eX1_listen d 0 0 39 [some (.ref a0), some (.ref a1), some (.int z2), some (.int y3), none] [.int v2, .int v1, .ref v0] z_SH (I, R) Q := by
  unfold fX1_listen_j39_10 at hf
  obtain ⟨g6, hf⟩ := z_g_el hf
  refine y_iast g6 dX1_listen_39 (fun I7 eI7 => ?_)
  have hf := z_l_el hf eI7
  refine y_iinc (fun t8 => [some (.ref a0), some (.ref a1), some (.int z2), some (.int t8), none]) dX1_listen_40 rfl kc_1 (by decide) (fun _ => rfl) (fun t8 et8 => ?_)
  have hf := z_l_el hf et8
  refine z_goto (tgt := 10) dX1_listen_43 (by decide) ?_
  cases hf
  exact y_sub hk (z_le_c rfl (z_le_c rfl (z_le_c rfl (z_le_c rfl (z_le_n z_le_0)))))
def fX1_listen_b10 (a0 : Nat) (a1 : Nat) (z2 : Int32) (R : Nat → Nat → Nat) : (Int32 × (Nat → Nat → Int32)) → Option ((Int32 × (Nat → Nat → Int32)) ⊕ ((Nat → Nat → Int32))) :=
  fun s => (fun (p3 : Int32) (I : Nat → Nat → Int32) => if (8 : Int32) ≤ p3 then (some (.inr I)) else (z_b (fX9_isTold a1 p3 I R) (fun q4 => if q4 = 0 then (fX1_listen_j39_10 a0 a1 z2 p3 (R a0 0) p3 (0 : Int32) I R) else (z_b (fX9_heardBits a1 p3 z2 I R) (fun q9 => fX1_listen_j39_10 a0 a1 z2 p3 (R a0 0) p3 q9 I R))))) s.1 s.2
theorem wX1_listen_b10 {G : z_G} {d : Nat} {Q : Option Value → z_S → z_H → Prop} {a0 : Nat} {a1 : Nat} {z2 : Int32} {R : Nat → Nat → Nat} (hd : 3 ≤ d) (g_a0 : z_ob a0 1) (g_a1 : z_ob a1 9) : ∀ (s : Int32 × (Nat → Nat → Int32)) (o : (Int32 × (Nat → Nat → Int32)) ⊕ ((Nat → Nat → Int32))), fX1_listen_b10 a0 a1 z2 R s = some o → z_or (fun s : Int32 × (Nat → Nat → Int32) => z_W G eX1_listen d 0 0 10 [some (.ref a0), some (.ref a1), some (.int z2), some (.int s.1), none] [] z_SH (s.2, R) Q) (fun x : (Nat → Nat → Int32) => z_W G eX1_listen d 0 0 46 [some (.ref a0), none, none, none, none] [] z_SH (x, R) Q) o → (fun s : Int32 × (Nat → Nat → Int32) => z_W G eX1_listen d 0 0 10 [some (.ref a0), some (.ref a1), some (.int z2), some (.int s.1), none] [] z_SH (s.2, R) Q) s := by
  rintro ⟨p3, I⟩ o hf hk
  show z_W G eX1_listen d 0 0 10 [some (.ref a0), some (.ref a1), some (.int z2), some (.int p3), none] [] z_SH (I, R) Q
  unfold fX1_listen_b10 at hf
  try dsimp only at hf
  refine z_iload_n dX1_listen_10 rfl rfl ?_
  refine z_bipush dX1_listen_11 kb_8 ?_
  refine z_icmp_ge (tgt := 46) dX1_listen_13 (by decide) (fun c3 => ?_) (fun c3 => ?_)
  · have hf := z_if_t hf c3
    cases hf
    exact y_sub hk (z_le_c rfl (z_le_n (z_le_n (z_le_n (z_le_n z_le_0)))))
  · have hf := z_if_f hf c3
    refine z_aload_n dX1_listen_16 rfl rfl (z_okl g_a0) ?_
    refine y_getR lfX1_9 rfl g_a0 dX1_listen_17 ?_
    refine z_iload_n dX1_listen_20 rfl rfl ?_
    refine z_aload_n dX1_listen_21 rfl rfl (z_okl g_a1) ?_
    refine z_iload_n dX1_listen_22 rfl rfl ?_
    obtain ⟨q4, hq4, hf⟩ := z_b_el hf
    refine y_cVi (av := [.int p3]) (Nat.le_trans (Nat.le_of_ble_eq_true rfl) hd) (wX9_isTold (z_dl rfl hd) hq4) oX9_isTold lmX1_25 iX9_isTold g_a1 rfl _ rfl rfl (Nat.le_of_ble_eq_true rfl) dX1_listen_23 ?_
    refine z_if_eq (tgt := 38) dX1_listen_26 (by decide) (fun c5 => ?_) (fun c5 => ?_)
    · have hf := z_if_t hf c5
      refine z_iconst dX1_listen_38 kc_0 ?_
      exact y_sub (wX1_listen_j39_10 hd g_a0 g_a1 hf hk) (z_le_c rfl (z_le_c rfl (z_le_c rfl (z_le_c rfl (z_le_n z_le_0)))))
    · have hf := z_if_f hf c5
      refine z_aload_n dX1_listen_29 rfl rfl (z_okl g_a1) ?_
      refine z_iload_n dX1_listen_30 rfl rfl ?_
      refine z_iload_n dX1_listen_31 rfl rfl ?_
      obtain ⟨q9, hq9, hf⟩ := z_b_el hf
      refine y_cVi (av := [.int p3, .int z2]) (Nat.le_trans (Nat.le_of_ble_eq_true rfl) hd) (wX9_heardBits (z_dl rfl hd) hq9) oX9_heardBits lmX1_29 iX9_heardBits g_a1 rfl _ rfl rfl (Nat.le_of_ble_eq_true rfl) dX1_listen_32 ?_
      refine z_goto (tgt := 39) dX1_listen_35 (by decide) ?_
      exact y_sub (wX1_listen_j39_10 hd g_a0 g_a1 hf hk) (z_le_c rfl (z_le_c rfl (z_le_c rfl (z_le_c rfl (z_le_n z_le_0)))))
def fX1_listen_b57 (a0 : Nat) (a1 : Nat) (z3 : Int32) (R : Nat → Nat → Nat) : (Int32 × (Nat → Nat → Int32)) → Option ((Int32 × (Nat → Nat → Int32)) ⊕ ((Nat → Nat → Int32))) :=
  fun s => (fun (p4 : Int32) (I : Nat → Nat → Int32) => if (8 : Int32) ≤ p4 then (some (.inr I)) else (z_g (z_ok 1 (R a0 0) p4) (if ((z_shr (I (R a0 0) p4.toNatClampNeg) z3) &&& (1 : Int32)) = 0 then (z_l (p4 + (1 : Int32)) (fun t15 => some (.inl (t15, I)))) else (z_g (z_ok 1 (R a0 0) z3) (z_l (z_u I (R a0 0) p4.toNatClampNeg ((I (R a0 0) p4.toNatClampNeg) ||| (I (R a0 0) z3.toNatClampNeg))) (fun I17 => z_l (p4 + (1 : Int32)) (fun t18 => some (.inl (t18, I17))))))))) s.1 s.2
theorem wX1_listen_b57 {G : z_G} {d : Nat} {Q : Option Value → z_S → z_H → Prop} {a0 : Nat} {a1 : Nat} {z3 : Int32} {R : Nat → Nat → Nat} (hd : 3 ≤ d) (g_a0 : z_ob a0 1) (g_a1 : z_ob a1 9) : ∀ (s : Int32 × (Nat → Nat → Int32)) (o : (Int32 × (Nat → Nat → Int32)) ⊕ ((Nat → Nat → Int32))), fX1_listen_b57 a0 a1 z3 R s = some o → z_or (fun s : Int32 × (Nat → Nat → Int32) => z_W G eX1_listen d 0 0 57 [some (.ref a0), none, none, some (.int z3), some (.int s.1)] [] z_SH (s.2, R) Q) (fun x : (Nat → Nat → Int32) => z_W G eX1_listen d 0 0 100 [some (.ref a0), none, none, some (.int z3), none] [] z_SH (x, R) Q) o → (fun s : Int32 × (Nat → Nat → Int32) => z_W G eX1_listen d 0 0 57 [some (.ref a0), none, none, some (.int z3), some (.int s.1)] [] z_SH (s.2, R) Q) s := by
  rintro ⟨p4, I⟩ o hf hk
  show z_W G eX1_listen d 0 0 57 [some (.ref a0), none, none, some (.int z3), some (.int p4)] [] z_SH (I, R) Q
  unfold fX1_listen_b57 at hf
  try dsimp only at hf
  refine z_iload dX1_listen_57 rfl ?_
  refine z_bipush dX1_listen_59 kb_8 ?_
  refine z_icmp_ge (tgt := 100) dX1_listen_61 (by decide) (fun c12 => ?_) (fun c12 => ?_)
  · have hf := z_if_t hf c12
    cases hf
    exact y_sub hk (z_le_c rfl (z_le_n (z_le_n (z_le_c rfl (z_le_n z_le_0)))))
  · have hf := z_if_f hf c12
    refine z_aload_n dX1_listen_64 rfl rfl (z_okl g_a0) ?_
    refine y_getR lfX1_9 rfl g_a0 dX1_listen_65 ?_
    refine z_iload dX1_listen_68 rfl ?_
    obtain ⟨g13, hf⟩ := z_g_el hf
    refine y_iald g13 dX1_listen_70 ?_
    refine z_iload_n dX1_listen_71 rfl rfl ?_
    refine y_ishr dX1_listen_72 ?_
    refine z_iconst dX1_listen_73 kc_1 ?_
    refine z_iand dX1_listen_74 ?_
    refine z_if_eq (tgt := 94) dX1_listen_75 (by decide) (fun c14 => ?_) (fun c14 => ?_)
    · have hf := z_if_t hf c14
      refine y_iinc (fun t15 => [some (.ref a0), none, none, some (.int z3), some (.int t15)]) dX1_listen_94 rfl kc_1 (by decide) (fun _ => rfl) (fun t15 et15 => ?_)
      have hf := z_l_el hf et15
      refine z_goto (tgt := 57) dX1_listen_97 (by decide) ?_
      cases hf
      exact y_sub hk (z_le_c rfl (z_le_n (z_le_n (z_le_c rfl (z_le_c rfl z_le_0)))))
    · have hf := z_if_f hf c14
      refine z_aload_n dX1_listen_78 rfl rfl (z_okl g_a0) ?_
      refine y_getR lfX1_9 rfl g_a0 dX1_listen_79 ?_
      refine z_iload dX1_listen_82 rfl ?_
      refine z_dup2 dX1_listen_84 rfl rfl ?_
      refine y_iald g13 dX1_listen_85 ?_
      refine z_aload_n dX1_listen_86 rfl rfl (z_okl g_a0) ?_
      refine y_getR lfX1_9 rfl g_a0 dX1_listen_87 ?_
      refine z_iload_n dX1_listen_90 rfl rfl ?_
      obtain ⟨g16, hf⟩ := z_g_el hf
      refine y_iald g16 dX1_listen_91 ?_
      refine z_ior dX1_listen_92 ?_
      refine y_iast g13 dX1_listen_93 (fun I17 eI17 => ?_)
      have hf := z_l_el hf eI17
      refine y_iinc (fun t18 => [some (.ref a0), none, none, some (.int z3), some (.int t18)]) dX1_listen_94 rfl kc_1 (by decide) (fun _ => rfl) (fun t18 et18 => ?_)
      have hf := z_l_el hf et18
      refine z_goto (tgt := 57) dX1_listen_97 (by decide) ?_
      cases hf
      exact y_sub hk (z_le_c rfl (z_le_n (z_le_n (z_le_c rfl (z_le_c rfl z_le_0)))))
def fX1_listen_b48 (a0 : Nat) (a1 : Nat) (R : Nat → Nat → Nat) : (Int32 × (Nat → Nat → Int32)) → Option ((Int32 × (Nat → Nat → Int32)) ⊕ ((Nat → Nat → Int32))) :=
  fun s => (fun (p3 : Int32) (I : Nat → Nat → Int32) => if (8 : Int32) ≤ p3 then (some (.inr I)) else (z_b (z_lp (fX1_listen_b57 a0 a1 p3 R) 300 ((0 : Int32), I)) (fun q19 => z_l (p3 + (1 : Int32)) (fun t20 => some (.inl (t20, q19)))))) s.1 s.2
theorem wX1_listen_b48 {G : z_G} {d : Nat} {Q : Option Value → z_S → z_H → Prop} {a0 : Nat} {a1 : Nat} {R : Nat → Nat → Nat} (hd : 3 ≤ d) (g_a0 : z_ob a0 1) (g_a1 : z_ob a1 9) : ∀ (s : Int32 × (Nat → Nat → Int32)) (o : (Int32 × (Nat → Nat → Int32)) ⊕ ((Nat → Nat → Int32))), fX1_listen_b48 a0 a1 R s = some o → z_or (fun s : Int32 × (Nat → Nat → Int32) => z_W G eX1_listen d 0 0 48 [some (.ref a0), none, none, some (.int s.1), none] [] z_SH (s.2, R) Q) (fun x : (Nat → Nat → Int32) => z_W G eX1_listen d 0 0 106 [none, none, none, none, none] [] z_SH (x, R) Q) o → (fun s : Int32 × (Nat → Nat → Int32) => z_W G eX1_listen d 0 0 48 [some (.ref a0), none, none, some (.int s.1), none] [] z_SH (s.2, R) Q) s := by
  rintro ⟨p3, I⟩ o hf hk
  show z_W G eX1_listen d 0 0 48 [some (.ref a0), none, none, some (.int p3), none] [] z_SH (I, R) Q
  unfold fX1_listen_b48 at hf
  try dsimp only at hf
  refine z_iload_n dX1_listen_48 rfl rfl ?_
  refine z_bipush dX1_listen_49 kb_8 ?_
  refine z_icmp_ge (tgt := 106) dX1_listen_51 (by decide) (fun c11 => ?_) (fun c11 => ?_)
  · have hf := z_if_t hf c11
    cases hf
    exact y_sub hk (z_le_n (z_le_n (z_le_n (z_le_n (z_le_n z_le_0)))))
  · have hf := z_if_f hf c11
    refine z_iconst dX1_listen_54 kc_0 ?_
    refine y_istore0 [some (.ref a0), none, none, some (.int p3), some (.int (0 : Int32))] dX1_listen_55 (by decide) rfl ?_
    obtain ⟨q19, hq19, hf⟩ := z_b_el hf
    refine y_sub (lv' := [some (.ref a0), none, none, some (.int p3), some (.int (0 : Int32))]) ?_ (z_le_c rfl (z_le_n (z_le_n (z_le_c rfl (z_le_c rfl z_le_0)))))
    refine z_lp_el (P := (fun s : Int32 × (Nat → Nat → Int32) => z_W G eX1_listen d 0 0 57 [some (.ref a0), none, none, some (.int p3), some (.int s.1)] [] z_SH (s.2, R) Q)) (E := (fun x : (Nat → Nat → Int32) => z_W G eX1_listen d 0 0 100 [some (.ref a0), none, none, some (.int p3), none] [] z_SH (x, R) Q)) (wX1_listen_b57 hd g_a0 g_a1) 300 ((0 : Int32), I) q19 hq19 ?_
    show z_W G eX1_listen d 0 0 100 [some (.ref a0), none, none, some (.int p3), none] [] z_SH (q19, R) _
    refine y_iinc (fun t20 => [some (.ref a0), none, none, some (.int t20), none]) dX1_listen_100 rfl kc_1 (by decide) (fun _ => rfl) (fun t20 et20 => ?_)
    have hf := z_l_el hf et20
    refine z_goto (tgt := 48) dX1_listen_103 (by decide) ?_
    cases hf
    exact y_sub hk (z_le_c rfl (z_le_n (z_le_n (z_le_c rfl (z_le_n z_le_0)))))
def fX1_listen (a0 : Nat) (a1 : Nat) (x2 : Int32) (I : Nat → Nat → Int32) (R : Nat → Nat → Nat) : Option ((Nat → Nat → Int32)) :=
  z_g (z_ob a0 1) (z_g (z_ob a1 9) (z_b (fX9_toldBits a1 I R) (fun q1 => z_l (z_u I a0 1 q1) (fun I2 => z_b (z_lp (fX1_listen_b10 a0 a1 x2 R) 300 ((0 : Int32), I2)) (fun q10 => z_b (z_lp (fX1_listen_b48 a0 a1 R) 300 ((0 : Int32), q10)) (fun q21 => some q21))))))
theorem vX1_listen {G : z_G} {d : Nat} {Q : Option Value → z_S → z_H → Prop} {a0 : Nat} {a1 : Nat} {x2 : Int32} {I : Nat → Nat → Int32} {R : Nat → Nat → Nat} {q : (Nat → Nat → Int32)} (hd : 3 ≤ d) (hf : fX1_listen a0 a1 x2 I R = some q) (hk : Q none z_SH (q, R)) : z_W G eX1_listen d 0 0 0 [some (.ref a0), some (.ref a1), some (.int x2), none, none] [] z_SH (I, R) Q := by
  unfold fX1_listen at hf
  obtain ⟨g_a0, hf⟩ := z_g_el hf
  obtain ⟨g_a1, hf⟩ := z_g_el hf
  refine z_aload_n dX1_listen_0 rfl rfl (z_okl g_a0) ?_
  refine z_aload_n dX1_listen_1 rfl rfl (z_okl g_a1) ?_
  obtain ⟨q1, hq1, hf⟩ := z_b_el hf
  refine y_cVi (av := []) (Nat.le_trans (Nat.le_of_ble_eq_true rfl) hd) (wX9_toldBits (z_dl rfl hd) hq1) oX9_toldBits lmX1_15 iX9_toldBits g_a1 rfl _ rfl rfl (Nat.le_of_ble_eq_true rfl) dX1_listen_2 ?_
  refine y_putI lfX1_21 rfl g_a0 rfl rfl rfl dX1_listen_5 (fun I2 eI2 => ?_)
  have hf := z_l_el hf eI2
  refine z_iconst dX1_listen_8 kc_0 ?_
  refine y_istore_n0 [some (.ref a0), some (.ref a1), some (.int x2), some (.int (0 : Int32)), none] dX1_listen_9 rfl (by decide) rfl ?_
  obtain ⟨q10, hq10, hf⟩ := z_b_el hf
  refine y_sub (lv' := [some (.ref a0), some (.ref a1), some (.int x2), some (.int (0 : Int32)), none]) ?_ (z_le_c rfl (z_le_c rfl (z_le_c rfl (z_le_c rfl (z_le_n z_le_0)))))
  refine z_lp_el (P := (fun s : Int32 × (Nat → Nat → Int32) => z_W G eX1_listen d 0 0 10 [some (.ref a0), some (.ref a1), some (.int x2), some (.int s.1), none] [] z_SH (s.2, R) Q)) (E := (fun x : (Nat → Nat → Int32) => z_W G eX1_listen d 0 0 46 [some (.ref a0), none, none, none, none] [] z_SH (x, R) Q)) (wX1_listen_b10 hd g_a0 g_a1) 300 ((0 : Int32), I2) q10 hq10 ?_
  show z_W G eX1_listen d 0 0 46 [some (.ref a0), none, none, none, none] [] z_SH (q10, R) _
  refine z_iconst dX1_listen_46 kc_0 ?_
  refine y_istore_n0 [some (.ref a0), none, none, some (.int (0 : Int32)), none] dX1_listen_47 rfl (by decide) rfl ?_
  obtain ⟨q21, hq21, hf⟩ := z_b_el hf
  refine y_sub (lv' := [some (.ref a0), none, none, some (.int (0 : Int32)), none]) ?_ (z_le_c rfl (z_le_n (z_le_n (z_le_c rfl (z_le_n z_le_0)))))
  refine z_lp_el (P := (fun s : Int32 × (Nat → Nat → Int32) => z_W G eX1_listen d 0 0 48 [some (.ref a0), none, none, some (.int s.1), none] [] z_SH (s.2, R) Q)) (E := (fun x : (Nat → Nat → Int32) => z_W G eX1_listen d 0 0 106 [none, none, none, none, none] [] z_SH (x, R) Q)) (wX1_listen_b48 hd g_a0 g_a1) 300 ((0 : Int32), q10) q21 hq21 ?_
  show z_W G eX1_listen d 0 0 106 [none, none, none, none, none] [] z_SH (q21, R) _
  cases hf
  exact z_vret hk rfl dX1_listen_106
theorem wX1_listen {G : z_G} {d : Nat} {a0 : Nat} {a1 : Nat} {x2 : Int32} {I : Nat → Nat → Int32} {R : Nat → Nat → Nat} {q : (Nat → Nat → Int32)} (hd : 3 ≤ d) (hf : fX1_listen a0 a1 x2 I R = some q) : z_M G d 0 0 eX1_listen [.ref a0, .ref a1, .int x2] z_SH (I, R) (z_E none (q, R)) :=
  y_M_of _ (by decide +kernel) rfl rfl rfl (vX1_listen hd hf ⟨rfl, rfl, rfl⟩)
def fX1_followersOf_b4 (a0 : Nat) (z1 : Int32) (I : Nat → Nat → Int32) (R : Nat → Nat → Nat) : (Int32 × Int32) → Option ((Int32 × Int32) ⊕ (Int32)) :=
  fun s => (fun (p2 : Int32) (p3 : Int32) => if (8 : Int32) ≤ p3 then (some (.inr p2)) else (if p3 = z1 then (z_l (p3 + (1 : Int32)) (fun t3 => some (.inl (p2, t3)))) else (z_g (z_ok 1 (R a0 0) p3) (if ((z_shr (I (R a0 0) p3.toNatClampNeg) z1) &&& (1 : Int32)) = 0 then (z_l (p3 + (1 : Int32)) (fun t6 => some (.inl (p2, t6)))) else (z_l (p2 ||| (z_shl (1 : Int32) p3)) (fun t7 => z_l (p3 + (1 : Int32)) (fun t8 => some (.inl (t7, t8))))))))) s.1 s.2
theorem wX1_followersOf_b4 {G : z_G} {d : Nat} {Q : Option Value → z_S → z_H → Prop} {a0 : Nat} {z1 : Int32} {I : Nat → Nat → Int32} {R : Nat → Nat → Nat} (hd : 0 ≤ d) (g_a0 : z_ob a0 1) : ∀ (s : Int32 × Int32) (o : (Int32 × Int32) ⊕ (Int32)), fX1_followersOf_b4 a0 z1 I R s = some o → z_or (fun s : Int32 × Int32 => z_W G eX1_followersOf d 0 0 4 [some (.ref a0), some (.int z1), some (.int s.1), some (.int s.2)] [] z_SH (I, R) Q) (fun x : Int32 => z_W G eX1_followersOf d 0 0 40 [none, none, some (.int x), none] [] z_SH (I, R) Q) o → (fun s : Int32 × Int32 => z_W G eX1_followersOf d 0 0 4 [some (.ref a0), some (.int z1), some (.int s.1), some (.int s.2)] [] z_SH (I, R) Q) s := by
  rintro ⟨p2, p3⟩ o hf hk
  show z_W G eX1_followersOf d 0 0 4 [some (.ref a0), some (.int z1), some (.int p2), some (.int p3)] [] z_SH (I, R) Q
  unfold fX1_followersOf_b4 at hf
  try dsimp only at hf
  refine z_iload_n dX1_followersOf_4 rfl rfl ?_
  refine z_bipush dX1_followersOf_5 kb_8 ?_
  refine z_icmp_ge (tgt := 40) dX1_followersOf_7 (by decide) (fun c1 => ?_) (fun c1 => ?_)
  · have hf := z_if_t hf c1
    cases hf
    exact y_sub hk (z_le_n (z_le_n (z_le_c rfl (z_le_n z_le_0))))
  · have hf := z_if_f hf c1
    refine z_iload_n dX1_followersOf_10 rfl rfl ?_
    refine z_iload_n dX1_followersOf_11 rfl rfl ?_
    refine z_icmp_eq (tgt := 34) dX1_followersOf_12 (by decide) (fun c2 => ?_) (fun c2 => ?_)
    · have hf := z_if_t hf c2
      refine y_iinc (fun t3 => [some (.ref a0), some (.int z1), some (.int p2), some (.int t3)]) dX1_followersOf_34 rfl kc_1 (by decide) (fun _ => rfl) (fun t3 et3 => ?_)
      have hf := z_l_el hf et3
      refine z_goto (tgt := 4) dX1_followersOf_37 (by decide) ?_
      cases hf
      exact y_sub hk (z_le_c rfl (z_le_c rfl (z_le_c rfl (z_le_c rfl z_le_0))))
    · have hf := z_if_f hf c2
      refine z_aload_n dX1_followersOf_15 rfl rfl (z_okl g_a0) ?_
      refine y_getR lfX1_9 rfl g_a0 dX1_followersOf_16 ?_
      refine z_iload_n dX1_followersOf_19 rfl rfl ?_
      obtain ⟨g4, hf⟩ := z_g_el hf
      refine y_iald g4 dX1_followersOf_20 ?_
      refine z_iload_n dX1_followersOf_21 rfl rfl ?_
      refine y_ishr dX1_followersOf_22 ?_
      refine z_iconst dX1_followersOf_23 kc_1 ?_
      refine z_iand dX1_followersOf_24 ?_
      refine z_if_eq (tgt := 34) dX1_followersOf_25 (by decide) (fun c5 => ?_) (fun c5 => ?_)
      · have hf := z_if_t hf c5
        refine y_iinc (fun t6 => [some (.ref a0), some (.int z1), some (.int p2), some (.int t6)]) dX1_followersOf_34 rfl kc_1 (by decide) (fun _ => rfl) (fun t6 et6 => ?_)
        have hf := z_l_el hf et6
        refine z_goto (tgt := 4) dX1_followersOf_37 (by decide) ?_
        cases hf
        exact y_sub hk (z_le_c rfl (z_le_c rfl (z_le_c rfl (z_le_c rfl z_le_0))))
      · have hf := z_if_f hf c5
        refine z_iload_n dX1_followersOf_28 rfl rfl ?_
        refine z_iconst dX1_followersOf_29 kc_1 ?_
        refine z_iload_n dX1_followersOf_30 rfl rfl ?_
        refine y_ishl dX1_followersOf_31 ?_
        refine z_ior dX1_followersOf_32 ?_
        refine y_istore_n (fun t7 => [some (.ref a0), some (.int z1), some (.int t7), some (.int p3)]) dX1_followersOf_33 rfl (by decide) (fun _ => rfl) (fun t7 et7 => ?_)
        have hf := z_l_el hf et7
        refine y_iinc (fun t8 => [some (.ref a0), some (.int z1), some (.int t7), some (.int t8)]) dX1_followersOf_34 rfl kc_1 (by decide) (fun _ => rfl) (fun t8 et8 => ?_)
        have hf := z_l_el hf et8
        refine z_goto (tgt := 4) dX1_followersOf_37 (by decide) ?_
        cases hf
        exact y_sub hk (z_le_c rfl (z_le_c rfl (z_le_c rfl (z_le_c rfl z_le_0))))
def fX1_followersOf (a0 : Nat) (x1 : Int32) (I : Nat → Nat → Int32) (R : Nat → Nat → Nat) : Option (Int32) :=
  z_g (z_ob a0 1) (z_b (z_lp (fX1_followersOf_b4 a0 x1 I R) 300 ((0 : Int32), (0 : Int32))) (fun q9 => some q9))
theorem vX1_followersOf {G : z_G} {d : Nat} {Q : Option Value → z_S → z_H → Prop} {a0 : Nat} {x1 : Int32} {I : Nat → Nat → Int32} {R : Nat → Nat → Nat} {q : Int32} (hd : 0 ≤ d) (hf : fX1_followersOf a0 x1 I R = some q) (hk : Q (some (.int q)) z_SH (I, R)) : z_W G eX1_followersOf d 0 0 0 [some (.ref a0), some (.int x1), none, none] [] z_SH (I, R) Q := by
  unfold fX1_followersOf at hf
  obtain ⟨g_a0, hf⟩ := z_g_el hf
  refine z_iconst dX1_followersOf_0 kc_0 ?_
  refine y_istore_n0 [some (.ref a0), some (.int x1), some (.int (0 : Int32)), none] dX1_followersOf_1 rfl (by decide) rfl ?_
  refine z_iconst dX1_followersOf_2 kc_0 ?_
  refine y_istore_n0 [some (.ref a0), some (.int x1), some (.int (0 : Int32)), some (.int (0 : Int32))] dX1_followersOf_3 rfl (by decide) rfl ?_
  obtain ⟨q9, hq9, hf⟩ := z_b_el hf
  refine y_sub (lv' := [some (.ref a0), some (.int x1), some (.int (0 : Int32)), some (.int (0 : Int32))]) ?_ (z_le_c rfl (z_le_c rfl (z_le_c rfl (z_le_c rfl z_le_0))))
  refine z_lp_el (P := (fun s : Int32 × Int32 => z_W G eX1_followersOf d 0 0 4 [some (.ref a0), some (.int x1), some (.int s.1), some (.int s.2)] [] z_SH (I, R) Q)) (E := (fun x : Int32 => z_W G eX1_followersOf d 0 0 40 [none, none, some (.int x), none] [] z_SH (I, R) Q)) (wX1_followersOf_b4 hd g_a0) 300 ((0 : Int32), (0 : Int32)) q9 hq9 ?_
  show z_W G eX1_followersOf d 0 0 40 [none, none, some (.int q9), none] [] z_SH (I, R) _
  refine z_iload_n dX1_followersOf_40 rfl rfl ?_
  cases hf
  exact z_iret hk ⟨_, rfl, rfl⟩ dX1_followersOf_41
theorem wX1_followersOf {G : z_G} {d : Nat} {a0 : Nat} {x1 : Int32} {I : Nat → Nat → Int32} {R : Nat → Nat → Nat} {q : Int32} (hd : 0 ≤ d) (hf : fX1_followersOf a0 x1 I R = some q) : z_M G d 0 0 eX1_followersOf [.ref a0, .int x1] z_SH (I, R) (z_E (some (.int q)) (I, R)) :=
  y_M_of _ (by decide +kernel) rfl rfl rfl (vX1_followersOf hd hf ⟨rfl, rfl, rfl⟩)
def fX1_groupOf (a0 : Nat) (x1 : Int32) (I : Nat → Nat → Int32) (R : Nat → Nat → Nat) : Option (Int32) :=
  z_g (z_ob a0 1) (z_b (fX12_isSinger x1) (fun q1 => if q1 = 0 then (some (0 : Int32)) else (z_b (fX1_followersOf a0 x1 I R) (fun q3 => z_g (z_ok 1 (R a0 0) x1) (some (((q3 &&& (I (R a0 0) x1.toNatClampNeg)) ||| (z_shl (1 : Int32) x1)) &&& (I a0 1)))))))
theorem vX1_groupOf {G : z_G} {d : Nat} {Q : Option Value → z_S → z_H → Prop} {a0 : Nat} {x1 : Int32} {I : Nat → Nat → Int32} {R : Nat → Nat → Nat} {q : Int32} (hd : 2 ≤ d) (hf : fX1_groupOf a0 x1 I R = some q) (hk : Q (some (.int q)) z_SH (I, R)) : z_W G eX1_groupOf d 0 0 0 [some (.ref a0), some (.int x1)] [] z_SH (I, R) Q := by
  unfold fX1_groupOf at hf
  obtain ⟨g_a0, hf⟩ := z_g_el hf
  refine z_iload_n dX1_groupOf_0 rfl rfl ?_
  obtain ⟨q1, hq1, hf⟩ := z_b_el hf
  refine y_cNi (Nat.le_trans (Nat.le_of_ble_eq_true rfl) hd) (wX12_isSinger (z_dl rfl hd) hq1) oX12_isSinger lnX1_33 sX12_isSinger _ rfl rfl (Nat.le_of_ble_eq_true rfl) dX1_groupOf_1 ?_
  refine z_if_eq (tgt := 31) dX1_groupOf_4 (by decide) (fun c2 => ?_) (fun c2 => ?_)
  · have hf := z_if_t hf c2
    refine z_iconst dX1_groupOf_31 kc_0 ?_
    cases hf
    exact z_iret hk ⟨_, rfl, rfl⟩ dX1_groupOf_32
  · have hf := z_if_f hf c2
    refine z_aload_n dX1_groupOf_7 rfl rfl (z_okl g_a0) ?_
    refine z_iload_n dX1_groupOf_8 rfl rfl ?_
    obtain ⟨q3, hq3, hf⟩ := z_b_el hf
    refine y_cVi (av := [.int x1]) (Nat.le_trans (Nat.le_of_ble_eq_true rfl) hd) (wX1_followersOf (z_dl rfl hd) hq3) oX1_followersOf lmX1_36 iX1_followersOf g_a0 rfl _ rfl rfl (Nat.le_of_ble_eq_true rfl) dX1_groupOf_9 ?_
    refine z_aload_n dX1_groupOf_12 rfl rfl (z_okl g_a0) ?_
    refine y_getR lfX1_9 rfl g_a0 dX1_groupOf_13 ?_
    refine z_iload_n dX1_groupOf_16 rfl rfl ?_
    obtain ⟨g4, hf⟩ := z_g_el hf
    refine y_iald g4 dX1_groupOf_17 ?_
    refine z_iand dX1_groupOf_18 ?_
    refine z_iconst dX1_groupOf_19 kc_1 ?_
    refine z_iload_n dX1_groupOf_20 rfl rfl ?_
    refine y_ishl dX1_groupOf_21 ?_
    refine z_ior dX1_groupOf_22 ?_
    refine z_aload_n dX1_groupOf_23 rfl rfl (z_okl g_a0) ?_
    refine y_getI lfX1_21 rfl g_a0 dX1_groupOf_24 ?_
    refine z_iand dX1_groupOf_27 ?_
    refine z_goto (tgt := 32) dX1_groupOf_28 (by decide) ?_
    cases hf
    exact z_iret hk ⟨_, rfl, rfl⟩ dX1_groupOf_32
theorem wX1_groupOf {G : z_G} {d : Nat} {a0 : Nat} {x1 : Int32} {I : Nat → Nat → Int32} {R : Nat → Nat → Nat} {q : Int32} (hd : 2 ≤ d) (hf : fX1_groupOf a0 x1 I R = some q) : z_M G d 0 0 eX1_groupOf [.ref a0, .int x1] z_SH (I, R) (z_E (some (.int q)) (I, R)) :=
  y_M_of _ (by decide +kernel) rfl rfl rfl (vX1_groupOf hd hf ⟨rfl, rfl, rfl⟩)
def fX2_forget (a0 : Nat) (I : Nat → Nat → Int32) : Option ((Nat → Nat → Int32)) :=
  z_g (z_ob a0 2) (z_l (z_u I a0 3 (0 : Int32)) (fun I1 => z_l (z_u I1 a0 4 (0 : Int32)) (fun I2 => z_l (z_u I2 a0 5 (0 : Int32)) (fun I3 => some I3))))
theorem vX2_forget {G : z_G} {d : Nat} {Q : Option Value → z_S → z_H → Prop} {a0 : Nat} {I : Nat → Nat → Int32} {R : Nat → Nat → Nat} {q : (Nat → Nat → Int32)} (hd : 0 ≤ d) (hf : fX2_forget a0 I = some q) (hk : Q none z_SH (q, R)) : z_W G eX2_forget d 0 0 0 [some (.ref a0)] [] z_SH (I, R) Q := by
  unfold fX2_forget at hf
  obtain ⟨g_a0, hf⟩ := z_g_el hf
  refine z_aload_n dX2_forget_0 rfl rfl (z_okl g_a0) ?_
  refine z_iconst dX2_forget_1 kc_0 ?_
  refine y_putI lfX2_24 rfl g_a0 rfl rfl rfl dX2_forget_2 (fun I1 eI1 => ?_)
  have hf := z_l_el hf eI1
  refine z_aload_n dX2_forget_5 rfl rfl (z_okl g_a0) ?_
  refine z_iconst dX2_forget_6 kc_0 ?_
  refine y_putI lfX2_28 rfl g_a0 rfl rfl rfl dX2_forget_7 (fun I2 eI2 => ?_)
  have hf := z_l_el hf eI2
  refine z_aload_n dX2_forget_10 rfl rfl (z_okl g_a0) ?_
  refine z_iconst dX2_forget_11 kc_0 ?_
  refine y_putI lfX2_31 rfl g_a0 rfl rfl rfl dX2_forget_12 (fun I3 eI3 => ?_)
  have hf := z_l_el hf eI3
  cases hf
  exact z_vret hk rfl dX2_forget_15
theorem wX2_forget {G : z_G} {d : Nat} {a0 : Nat} {I : Nat → Nat → Int32} {R : Nat → Nat → Nat} {q : (Nat → Nat → Int32)} (hd : 0 ≤ d) (hf : fX2_forget a0 I = some q) : z_M G d 0 0 eX2_forget [.ref a0] z_SH (I, R) (z_E none (q, R)) :=
  y_M_of _ (by decide +kernel) rfl rfl rfl (vX2_forget hd hf ⟨rfl, rfl, rfl⟩)
def fX2_isDone (a0 : Nat) (a1 : Nat) (x2 : Int32) (I : Nat → Nat → Int32) (R : Nat → Nat → Nat) : Option (Int32) :=
  z_g (z_ob a0 2) (z_g (z_ob a1 9) (z_b (fX12_isSinger x2) (fun q1 => if q1 = 0 then (some (0 : Int32)) else (z_g (z_ok 4 (R a1 0) x2) (z_g (z_ob (R (R a1 0) x2.toNatClampNeg) 8) (z_g (z_ob (R a0 0) 7) (z_g (z_ok 3 (R (R a0 0) 0) x2) (z_g (z_ob (R (R (R a0 0) 0) x2.toNatClampNeg) 5) (z_b (fX5_length (R (R (R a0 0) 0) x2.toNatClampNeg) I) (fun q7 => if (I (R (R a1 0) x2.toNatClampNeg) 5) < q7 then (some (0 : Int32)) else (some (1 : Int32))))))))))))
theorem vX2_isDone {G : z_G} {d : Nat} {Q : Option Value → z_S → z_H → Prop} {a0 : Nat} {a1 : Nat} {x2 : Int32} {I : Nat → Nat → Int32} {R : Nat → Nat → Nat} {q : Int32} (hd : 2 ≤ d) (hf : fX2_isDone a0 a1 x2 I R = some q) (hk : Q (some (.int q)) z_SH (I, R)) : z_W G eX2_isDone d 0 0 0 [some (.ref a0), some (.ref a1), some (.int x2)] [] z_SH (I, R) Q := by
  unfold fX2_isDone at hf
  obtain ⟨g_a0, hf⟩ := z_g_el hf
  obtain ⟨g_a1, hf⟩ := z_g_el hf
  refine z_iload_n dX2_isDone_0 rfl rfl ?_
  obtain ⟨q1, hq1, hf⟩ := z_b_el hf
  refine y_cNi (Nat.le_trans (Nat.le_of_ble_eq_true rfl) hd) (wX12_isSinger (z_dl rfl hd) hq1) oX12_isSinger lnX2_34 sX12_isSinger _ rfl rfl (Nat.le_of_ble_eq_true rfl) dX2_isDone_1 ?_
  refine z_if_eq (tgt := 35) dX2_isDone_4 (by decide) (fun c2 => ?_) (fun c2 => ?_)
  · have hf := z_if_t hf c2
    refine z_iconst dX2_isDone_35 kc_0 ?_
    cases hf
    exact z_iret hk ⟨_, rfl, rfl⟩ dX2_isDone_36
  · have hf := z_if_f hf c2
    refine z_aload_n dX2_isDone_7 rfl rfl (z_okl g_a1) ?_
    refine y_getR lfX2_38 rfl g_a1 dX2_isDone_8 ?_
    refine z_iload_n dX2_isDone_11 rfl rfl ?_
    obtain ⟨g3, hf⟩ := z_g_el hf
    refine y_aald (t := 1) (Or.inr rfl) g3 dX2_isDone_12 ?_
    obtain ⟨g4, hf⟩ := z_g_el hf
    refine y_getI lfX2_44 rfl g4 dX2_isDone_13 ?_
    refine z_aload_n dX2_isDone_16 rfl rfl (z_okl g_a0) ?_
    refine y_getR lfX2_9 rfl g_a0 dX2_isDone_17 ?_
    obtain ⟨g5, hf⟩ := z_g_el hf
    refine y_getR lfX2_49 rfl g5 dX2_isDone_20 ?_
    refine z_iload_n dX2_isDone_23 rfl rfl ?_
    obtain ⟨g6, hf⟩ := z_g_el hf
    refine y_aald (t := 0) (Or.inl rfl) g6 dX2_isDone_24 ?_
    obtain ⟨g8, hf⟩ := z_g_el hf
    obtain ⟨q7, hq7, hf⟩ := z_b_el hf
    refine y_cVi (av := []) (Nat.le_trans (Nat.le_of_ble_eq_true rfl) hd) (wX5_length (z_dl rfl hd) hq7) oX5_length lmX2_55 iX5_length g8 rfl _ rfl rfl (Nat.le_of_ble_eq_true rfl) dX2_isDone_25 ?_
    refine z_icmp_lt (tgt := 35) dX2_isDone_28 (by decide) (fun c9 => ?_) (fun c9 => ?_)
    · have hf := z_if_t hf c9
      refine z_iconst dX2_isDone_35 kc_0 ?_
      cases hf
      exact z_iret hk ⟨_, rfl, rfl⟩ dX2_isDone_36
    · have hf := z_if_f hf c9
      refine z_iconst dX2_isDone_31 kc_1 ?_
      refine z_goto (tgt := 36) dX2_isDone_32 (by decide) ?_
      cases hf
      exact z_iret hk ⟨_, rfl, rfl⟩ dX2_isDone_36
theorem wX2_isDone {G : z_G} {d : Nat} {a0 : Nat} {a1 : Nat} {x2 : Int32} {I : Nat → Nat → Int32} {R : Nat → Nat → Nat} {q : Int32} (hd : 2 ≤ d) (hf : fX2_isDone a0 a1 x2 I R = some q) : z_M G d 0 0 eX2_isDone [.ref a0, .ref a1, .int x2] z_SH (I, R) (z_E (some (.int q)) (I, R)) :=
  y_M_of _ (by decide +kernel) rfl rfl rfl (vX2_isDone hd hf ⟨rfl, rfl, rfl⟩)
def fX2_doneBits_b4 (a0 : Nat) (a1 : Nat) (I : Nat → Nat → Int32) (R : Nat → Nat → Nat) : (Int32 × Int32) → Option ((Int32 × Int32) ⊕ (Int32)) :=
  fun s => (fun (p2 : Int32) (p3 : Int32) => if (8 : Int32) ≤ p3 then (some (.inr p2)) else (z_g (z_ok 4 (R a1 0) p3) (z_g (z_ob (R (R a1 0) p3.toNatClampNeg) 8) (if (I (R (R a1 0) p3.toNatClampNeg) 0) = 0 then (z_l (p3 + (1 : Int32)) (fun t5 => some (.inl (p2, t5)))) else (z_b (fX2_isDone a0 a1 p3 I R) (fun q6 => if q6 = 0 then (z_l (p3 + (1 : Int32)) (fun t8 => some (.inl (p2, t8)))) else (z_l (p2 ||| (z_shl (1 : Int32) p3)) (fun t9 => z_l (p3 + (1 : Int32)) (fun t10 => some (.inl (t9, t10))))))))))) s.1 s.2
theorem wX2_doneBits_b4 {G : z_G} {d : Nat} {Q : Option Value → z_S → z_H → Prop} {a0 : Nat} {a1 : Nat} {I : Nat → Nat → Int32} {R : Nat → Nat → Nat} (hd : 3 ≤ d) (g_a0 : z_ob a0 2) (g_a1 : z_ob a1 9) : ∀ (s : Int32 × Int32) (o : (Int32 × Int32) ⊕ (Int32)), fX2_doneBits_b4 a0 a1 I R s = some o → z_or (fun s : Int32 × Int32 => z_W G eX2_doneBits d 0 0 4 [some (.ref a0), some (.ref a1), some (.int s.1), some (.int s.2)] [] z_SH (I, R) Q) (fun x : Int32 => z_W G eX2_doneBits d 0 0 43 [none, none, some (.int x), none] [] z_SH (I, R) Q) o → (fun s : Int32 × Int32 => z_W G eX2_doneBits d 0 0 4 [some (.ref a0), some (.ref a1), some (.int s.1), some (.int s.2)] [] z_SH (I, R) Q) s := by
  rintro ⟨p2, p3⟩ o hf hk
  show z_W G eX2_doneBits d 0 0 4 [some (.ref a0), some (.ref a1), some (.int p2), some (.int p3)] [] z_SH (I, R) Q
  unfold fX2_doneBits_b4 at hf
  try dsimp only at hf
  refine z_iload_n dX2_doneBits_4 rfl rfl ?_
  refine z_bipush dX2_doneBits_5 kb_8 ?_
  refine z_icmp_ge (tgt := 43) dX2_doneBits_7 (by decide) (fun c1 => ?_) (fun c1 => ?_)
  · have hf := z_if_t hf c1
    cases hf
    exact y_sub hk (z_le_n (z_le_n (z_le_c rfl (z_le_n z_le_0))))
  · have hf := z_if_f hf c1
    refine z_aload_n dX2_doneBits_10 rfl rfl (z_okl g_a1) ?_
    refine y_getR lfX2_38 rfl g_a1 dX2_doneBits_11 ?_
    refine z_iload_n dX2_doneBits_14 rfl rfl ?_
    obtain ⟨g2, hf⟩ := z_g_el hf
    refine y_aald (t := 1) (Or.inr rfl) g2 dX2_doneBits_15 ?_
    obtain ⟨g3, hf⟩ := z_g_el hf
    refine y_getI lfX2_61 rfl g3 dX2_doneBits_16 ?_
    refine z_if_eq (tgt := 37) dX2_doneBits_19 (by decide) (fun c4 => ?_) (fun c4 => ?_)
    · have hf := z_if_t hf c4
      refine y_iinc (fun t5 => [some (.ref a0), some (.ref a1), some (.int p2), some (.int t5)]) dX2_doneBits_37 rfl kc_1 (by decide) (fun _ => rfl) (fun t5 et5 => ?_)
      have hf := z_l_el hf et5
      refine z_goto (tgt := 4) dX2_doneBits_40 (by decide) ?_
      cases hf
      exact y_sub hk (z_le_c rfl (z_le_c rfl (z_le_c rfl (z_le_c rfl z_le_0))))
    · have hf := z_if_f hf c4
      refine z_aload_n dX2_doneBits_22 rfl rfl (z_okl g_a0) ?_
      refine z_aload_n dX2_doneBits_23 rfl rfl (z_okl g_a1) ?_
      refine z_iload_n dX2_doneBits_24 rfl rfl ?_
      obtain ⟨q6, hq6, hf⟩ := z_b_el hf
      refine y_cVi (av := [.ref a1, .int p3]) (Nat.le_trans (Nat.le_of_ble_eq_true rfl) hd) (wX2_isDone (z_dl rfl hd) hq6) oX2_isDone lmX2_65 iX2_isDone g_a0 rfl _ rfl rfl (Nat.le_of_ble_eq_true rfl) dX2_doneBits_25 ?_
      refine z_if_eq (tgt := 37) dX2_doneBits_28 (by decide) (fun c7 => ?_) (fun c7 => ?_)
      · have hf := z_if_t hf c7
        refine y_iinc (fun t8 => [some (.ref a0), some (.ref a1), some (.int p2), some (.int t8)]) dX2_doneBits_37 rfl kc_1 (by decide) (fun _ => rfl) (fun t8 et8 => ?_)
        have hf := z_l_el hf et8
        refine z_goto (tgt := 4) dX2_doneBits_40 (by decide) ?_
        cases hf
        exact y_sub hk (z_le_c rfl (z_le_c rfl (z_le_c rfl (z_le_c rfl z_le_0))))
      · have hf := z_if_f hf c7
        refine z_iload_n dX2_doneBits_31 rfl rfl ?_
        refine z_iconst dX2_doneBits_32 kc_1 ?_
        refine z_iload_n dX2_doneBits_33 rfl rfl ?_
        refine y_ishl dX2_doneBits_34 ?_
        refine z_ior dX2_doneBits_35 ?_
        refine y_istore_n (fun t9 => [some (.ref a0), some (.ref a1), some (.int t9), some (.int p3)]) dX2_doneBits_36 rfl (by decide) (fun _ => rfl) (fun t9 et9 => ?_)
        have hf := z_l_el hf et9
        refine y_iinc (fun t10 => [some (.ref a0), some (.ref a1), some (.int t9), some (.int t10)]) dX2_doneBits_37 rfl kc_1 (by decide) (fun _ => rfl) (fun t10 et10 => ?_)
        have hf := z_l_el hf et10
        refine z_goto (tgt := 4) dX2_doneBits_40 (by decide) ?_
        cases hf
        exact y_sub hk (z_le_c rfl (z_le_c rfl (z_le_c rfl (z_le_c rfl z_le_0))))
def fX2_doneBits (a0 : Nat) (a1 : Nat) (I : Nat → Nat → Int32) (R : Nat → Nat → Nat) : Option (Int32) :=
  z_g (z_ob a0 2) (z_g (z_ob a1 9) (z_b (z_lp (fX2_doneBits_b4 a0 a1 I R) 300 ((0 : Int32), (0 : Int32))) (fun q11 => some q11)))
theorem vX2_doneBits {G : z_G} {d : Nat} {Q : Option Value → z_S → z_H → Prop} {a0 : Nat} {a1 : Nat} {I : Nat → Nat → Int32} {R : Nat → Nat → Nat} {q : Int32} (hd : 3 ≤ d) (hf : fX2_doneBits a0 a1 I R = some q) (hk : Q (some (.int q)) z_SH (I, R)) : z_W G eX2_doneBits d 0 0 0 [some (.ref a0), some (.ref a1), none, none] [] z_SH (I, R) Q := by
  unfold fX2_doneBits at hf
  obtain ⟨g_a0, hf⟩ := z_g_el hf
  obtain ⟨g_a1, hf⟩ := z_g_el hf
  refine z_iconst dX2_doneBits_0 kc_0 ?_
  refine y_istore_n0 [some (.ref a0), some (.ref a1), some (.int (0 : Int32)), none] dX2_doneBits_1 rfl (by decide) rfl ?_
  refine z_iconst dX2_doneBits_2 kc_0 ?_
  refine y_istore_n0 [some (.ref a0), some (.ref a1), some (.int (0 : Int32)), some (.int (0 : Int32))] dX2_doneBits_3 rfl (by decide) rfl ?_
  obtain ⟨q11, hq11, hf⟩ := z_b_el hf
  refine y_sub (lv' := [some (.ref a0), some (.ref a1), some (.int (0 : Int32)), some (.int (0 : Int32))]) ?_ (z_le_c rfl (z_le_c rfl (z_le_c rfl (z_le_c rfl z_le_0))))
  refine z_lp_el (P := (fun s : Int32 × Int32 => z_W G eX2_doneBits d 0 0 4 [some (.ref a0), some (.ref a1), some (.int s.1), some (.int s.2)] [] z_SH (I, R) Q)) (E := (fun x : Int32 => z_W G eX2_doneBits d 0 0 43 [none, none, some (.int x), none] [] z_SH (I, R) Q)) (wX2_doneBits_b4 hd g_a0 g_a1) 300 ((0 : Int32), (0 : Int32)) q11 hq11 ?_
  show z_W G eX2_doneBits d 0 0 43 [none, none, some (.int q11), none] [] z_SH (I, R) _
  refine z_iload_n dX2_doneBits_43 rfl rfl ?_
  cases hf
  exact z_iret hk ⟨_, rfl, rfl⟩ dX2_doneBits_44
theorem wX2_doneBits {G : z_G} {d : Nat} {a0 : Nat} {a1 : Nat} {I : Nat → Nat → Int32} {R : Nat → Nat → Nat} {q : Int32} (hd : 3 ≤ d) (hf : fX2_doneBits a0 a1 I R = some q) : z_M G d 0 0 eX2_doneBits [.ref a0, .ref a1] z_SH (I, R) (z_E (some (.int q)) (I, R)) :=
  y_M_of _ (by decide +kernel) rfl rfl rfl (vX2_doneBits hd hf ⟨rfl, rfl, rfl⟩)
def fX2_noteNow (a0 : Nat) (a1 : Nat) (x2 : Int32) (I : Nat → Nat → Int32) (R : Nat → Nat → Nat) : Option (Int32) :=
  z_g (z_ob a0 2) (z_g (z_ob a1 9) (z_b (fX9_isTold a1 x2 I R) (fun q1 => if q1 = 0 then (some (0 : Int32)) else (z_g (z_ok 4 (R a1 0) x2) (z_g (z_ob (R (R a1 0) x2.toNatClampNeg) 8) (if (I (R (R a1 0) x2.toNatClampNeg) 9) = 0 then (z_g (z_ob (R a0 0) 7) (z_g (z_ok 3 (R (R a0 0) 0) x2) (z_g (z_ob (R (R (R a0 0) 0) x2.toNatClampNeg) 5) (z_b (fX5_noteAt (R (R (R a0 0) 0) x2.toNatClampNeg) (I (R (R a1 0) x2.toNatClampNeg) 5) I R) (fun q8 => some q8))))) else (some (0 : Int32))))))))
theorem vX2_noteNow {G : z_G} {d : Nat} {Q : Option Value → z_S → z_H → Prop} {a0 : Nat} {a1 : Nat} {x2 : Int32} {I : Nat → Nat → Int32} {R : Nat → Nat → Nat} {q : Int32} (hd : 3 ≤ d) (hf : fX2_noteNow a0 a1 x2 I R = some q) (hk : Q (some (.int q)) z_SH (I, R)) : z_W G eX2_noteNow d 0 0 0 [some (.ref a0), some (.ref a1), some (.int x2)] [] z_SH (I, R) Q := by
  unfold fX2_noteNow at hf
  obtain ⟨g_a0, hf⟩ := z_g_el hf
  obtain ⟨g_a1, hf⟩ := z_g_el hf
  refine z_aload_n dX2_noteNow_0 rfl rfl (z_okl g_a1) ?_
  refine z_iload_n dX2_noteNow_1 rfl rfl ?_
  obtain ⟨q1, hq1, hf⟩ := z_b_el hf
  refine y_cVi (av := [.int x2]) (Nat.le_trans (Nat.le_of_ble_eq_true rfl) hd) (wX9_isTold (z_dl rfl hd) hq1) oX9_isTold lmX2_69 iX9_isTold g_a1 rfl _ rfl rfl (Nat.le_of_ble_eq_true rfl) dX2_noteNow_2 ?_
  refine z_if_eq (tgt := 20) dX2_noteNow_5 (by decide) (fun c2 => ?_) (fun c2 => ?_)
  · have hf := z_if_t hf c2
    refine z_iconst dX2_noteNow_20 kc_0 ?_
    cases hf
    exact z_iret hk ⟨_, rfl, rfl⟩ dX2_noteNow_21
  · have hf := z_if_f hf c2
    refine z_aload_n dX2_noteNow_8 rfl rfl (z_okl g_a1) ?_
    refine y_getR lfX2_38 rfl g_a1 dX2_noteNow_9 ?_
    refine z_iload_n dX2_noteNow_12 rfl rfl ?_
    obtain ⟨g3, hf⟩ := z_g_el hf
    refine y_aald (t := 1) (Or.inr rfl) g3 dX2_noteNow_13 ?_
    obtain ⟨g4, hf⟩ := z_g_el hf
    refine y_getI lfX2_72 rfl g4 dX2_noteNow_14 ?_
    refine z_if_eq (tgt := 22) dX2_noteNow_17 (by decide) (fun c5 => ?_) (fun c5 => ?_)
    · have hf := z_if_t hf c5
      refine z_aload_n dX2_noteNow_22 rfl rfl (z_okl g_a0) ?_
      refine y_getR lfX2_9 rfl g_a0 dX2_noteNow_23 ?_
      obtain ⟨g6, hf⟩ := z_g_el hf
      refine y_getR lfX2_49 rfl g6 dX2_noteNow_26 ?_
      refine z_iload_n dX2_noteNow_29 rfl rfl ?_
      obtain ⟨g7, hf⟩ := z_g_el hf
      refine y_aald (t := 0) (Or.inl rfl) g7 dX2_noteNow_30 ?_
      refine z_aload_n dX2_noteNow_31 rfl rfl (z_okl g_a1) ?_
      refine y_getR lfX2_38 rfl g_a1 dX2_noteNow_32 ?_
      refine z_iload_n dX2_noteNow_35 rfl rfl ?_
      refine y_aald (t := 1) (Or.inr rfl) g3 dX2_noteNow_36 ?_
      refine y_getI lfX2_44 rfl g4 dX2_noteNow_37 ?_
      obtain ⟨g9, hf⟩ := z_g_el hf
      obtain ⟨q8, hq8, hf⟩ := z_b_el hf
      refine y_cVi (av := [.int (I (R (R a1 0) x2.toNatClampNeg) 5)]) (Nat.le_trans (Nat.le_of_ble_eq_true rfl) hd) (wX5_noteAt (z_dl rfl hd) hq8) oX5_noteAt lmX2_75 iX5_noteAt g9 rfl _ rfl rfl (Nat.le_of_ble_eq_true rfl) dX2_noteNow_40 ?_
      cases hf
      exact z_iret hk ⟨_, rfl, rfl⟩ dX2_noteNow_43
    · have hf := z_if_f hf c5
      refine z_iconst dX2_noteNow_20 kc_0 ?_
      cases hf
      exact z_iret hk ⟨_, rfl, rfl⟩ dX2_noteNow_21
theorem wX2_noteNow {G : z_G} {d : Nat} {a0 : Nat} {a1 : Nat} {x2 : Int32} {I : Nat → Nat → Int32} {R : Nat → Nat → Nat} {q : Int32} (hd : 3 ≤ d) (hf : fX2_noteNow a0 a1 x2 I R = some q) : z_M G d 0 0 eX2_noteNow [.ref a0, .ref a1, .int x2] z_SH (I, R) (z_E (some (.int q)) (I, R)) :=
  y_M_of _ (by decide +kernel) rfl rfl rfl (vX2_noteNow hd hf ⟨rfl, rfl, rfl⟩)
def fX2_apart_b8 (a0 : Nat) (a1 : Nat) (I : Nat → Nat → Int32) (R : Nat → Nat → Nat) : (Int32 × Int32 × Int32) → Option ((Int32 × Int32 × Int32) ⊕ (Int32 × Int32)) :=
  fun s => (fun (p2 : Int32) (p3 : Int32) (p4 : Int32) => if (8 : Int32) ≤ p4 then (some (.inr (p2, p3))) else (z_g (z_ok 4 (R a1 0) p4) (z_g (z_ob (R (R a1 0) p4.toNatClampNeg) 8) (if (I (R (R a1 0) p4.toNatClampNeg) 0) = 0 then (z_l (p4 + (1 : Int32)) (fun t5 => some (.inl (p2, p3, t5)))) else (z_b (fX2_isDone a0 a1 p4 I R) (fun q6 => if q6 = 0 then (z_l (z_max p2 (I (R (R a1 0) p4.toNatClampNeg) 5)) (fun t9 => z_l (z_min p3 (I (R (R a1 0) p4.toNatClampNeg) 5)) (fun t10 => z_l (p4 + (1 : Int32)) (fun t11 => some (.inl (t9, t10, t11)))))) else (z_l (p4 + (1 : Int32)) (fun t8 => some (.inl (p2, p3, t8)))))))))) s.1 s.2.1 s.2.2
theorem wX2_apart_b8 {G : z_G} {d : Nat} {Q : Option Value → z_S → z_H → Prop} {a0 : Nat} {a1 : Nat} {I : Nat → Nat → Int32} {R : Nat → Nat → Nat} (hd : 3 ≤ d) (g_a0 : z_ob a0 2) (g_a1 : z_ob a1 9) : ∀ (s : Int32 × Int32 × Int32) (o : (Int32 × Int32 × Int32) ⊕ (Int32 × Int32)), fX2_apart_b8 a0 a1 I R s = some o → z_or (fun s : Int32 × Int32 × Int32 => z_W G eX2_apart d 0 0 8 [some (.ref a0), some (.ref a1), some (.int s.1), some (.int s.2.1), some (.int s.2.2)] [] z_SH (I, R) Q) (fun x : Int32 × Int32 => z_W G eX2_apart d 0 0 74 [none, none, some (.int x.1), some (.int x.2), none] [] z_SH (I, R) Q) o → (fun s : Int32 × Int32 × Int32 => z_W G eX2_apart d 0 0 8 [some (.ref a0), some (.ref a1), some (.int s.1), some (.int s.2.1), some (.int s.2.2)] [] z_SH (I, R) Q) s := by
  rintro ⟨p2, p3, p4⟩ o hf hk
  show z_W G eX2_apart d 0 0 8 [some (.ref a0), some (.ref a1), some (.int p2), some (.int p3), some (.int p4)] [] z_SH (I, R) Q
  unfold fX2_apart_b8 at hf
  try dsimp only at hf
  refine z_iload dX2_apart_8 rfl ?_
  refine z_bipush dX2_apart_10 kb_8 ?_
  refine z_icmp_ge (tgt := 74) dX2_apart_12 (by decide) (fun c1 => ?_) (fun c1 => ?_)
  · have hf := z_if_t hf c1
    cases hf
    exact y_sub hk (z_le_n (z_le_n (z_le_c rfl (z_le_c rfl (z_le_n z_le_0)))))
  · have hf := z_if_f hf c1
    refine z_aload_n dX2_apart_15 rfl rfl (z_okl g_a1) ?_
    refine y_getR lfX2_38 rfl g_a1 dX2_apart_16 ?_
    refine z_iload dX2_apart_19 rfl ?_
    obtain ⟨g2, hf⟩ := z_g_el hf
    refine y_aald (t := 1) (Or.inr rfl) g2 dX2_apart_21 ?_
    obtain ⟨g3, hf⟩ := z_g_el hf
    refine y_getI lfX2_61 rfl g3 dX2_apart_22 ?_
    refine z_if_eq (tgt := 68) dX2_apart_25 (by decide) (fun c4 => ?_) (fun c4 => ?_)
    · have hf := z_if_t hf c4
      refine y_iinc (fun t5 => [some (.ref a0), some (.ref a1), some (.int p2), some (.int p3), some (.int t5)]) dX2_apart_68 rfl kc_1 (by decide) (fun _ => rfl) (fun t5 et5 => ?_)
      have hf := z_l_el hf et5
      refine z_goto (tgt := 8) dX2_apart_71 (by decide) ?_
      cases hf
      exact y_sub hk (z_le_c rfl (z_le_c rfl (z_le_c rfl (z_le_c rfl (z_le_c rfl z_le_0)))))
    · have hf := z_if_f hf c4
      refine z_aload_n dX2_apart_28 rfl rfl (z_okl g_a0) ?_
      refine z_aload_n dX2_apart_29 rfl rfl (z_okl g_a1) ?_
      refine z_iload dX2_apart_30 rfl ?_
      obtain ⟨q6, hq6, hf⟩ := z_b_el hf
      refine y_cVi (av := [.ref a1, .int p4]) (Nat.le_trans (Nat.le_of_ble_eq_true rfl) hd) (wX2_isDone (z_dl rfl hd) hq6) oX2_isDone lmX2_65 iX2_isDone g_a0 rfl _ rfl rfl (Nat.le_of_ble_eq_true rfl) dX2_apart_32 ?_
      refine z_if_ne (tgt := 68) dX2_apart_35 (by decide) (fun c7 => ?_) (fun c7 => ?_)
      · have hf := z_if_f hf c7
        refine y_iinc (fun t8 => [some (.ref a0), some (.ref a1), some (.int p2), some (.int p3), some (.int t8)]) dX2_apart_68 rfl kc_1 (by decide) (fun _ => rfl) (fun t8 et8 => ?_)
        have hf := z_l_el hf et8
        refine z_goto (tgt := 8) dX2_apart_71 (by decide) ?_
        cases hf
        exact y_sub hk (z_le_c rfl (z_le_c rfl (z_le_c rfl (z_le_c rfl (z_le_c rfl z_le_0)))))
      · have hf := z_if_t hf c7
        refine z_iload_n dX2_apart_38 rfl rfl ?_
        refine z_aload_n dX2_apart_39 rfl rfl (z_okl g_a1) ?_
        refine y_getR lfX2_38 rfl g_a1 dX2_apart_40 ?_
        refine z_iload dX2_apart_43 rfl ?_
        refine y_aald (t := 1) (Or.inr rfl) g2 dX2_apart_45 ?_
        refine y_getI lfX2_44 rfl g3 dX2_apart_46 ?_
        refine y_max (Nat.le_trans (Nat.le_of_ble_eq_true rfl) hd) lmX2_79 (Nat.le_of_ble_eq_true rfl) dX2_apart_49 ?_
        refine y_istore_n (fun t9 => [some (.ref a0), some (.ref a1), some (.int t9), some (.int p3), some (.int p4)]) dX2_apart_52 rfl (by decide) (fun _ => rfl) (fun t9 et9 => ?_)
        have hf := z_l_el hf et9
        refine z_iload_n dX2_apart_53 rfl rfl ?_
        refine z_aload_n dX2_apart_54 rfl rfl (z_okl g_a1) ?_
        refine y_getR lfX2_38 rfl g_a1 dX2_apart_55 ?_
        refine z_iload dX2_apart_58 rfl ?_
        refine y_aald (t := 1) (Or.inr rfl) g2 dX2_apart_60 ?_
        refine y_getI lfX2_44 rfl g3 dX2_apart_61 ?_
        refine y_min (Nat.le_trans (Nat.le_of_ble_eq_true rfl) hd) lmX2_85 (Nat.le_of_ble_eq_true rfl) dX2_apart_64 ?_
        refine y_istore_n (fun t10 => [some (.ref a0), some (.ref a1), some (.int t9), some (.int t10), some (.int p4)]) dX2_apart_67 rfl (by decide) (fun _ => rfl) (fun t10 et10 => ?_)
        have hf := z_l_el hf et10
        refine y_iinc (fun t11 => [some (.ref a0), some (.ref a1), some (.int t9), some (.int t10), some (.int t11)]) dX2_apart_68 rfl kc_1 (by decide) (fun _ => rfl) (fun t11 et11 => ?_)
        have hf := z_l_el hf et11
        refine z_goto (tgt := 8) dX2_apart_71 (by decide) ?_
        cases hf
        exact y_sub hk (z_le_c rfl (z_le_c rfl (z_le_c rfl (z_le_c rfl (z_le_c rfl z_le_0)))))
def fX2_apart (a0 : Nat) (a1 : Nat) (I : Nat → Nat → Int32) (R : Nat → Nat → Nat) : Option (Int32) :=
  z_g (z_ob a0 2) (z_g (z_ob a1 9) (z_b (z_lp (fX2_apart_b8 a0 a1 I R) 300 ((0 : Int32), (60 : Int32), (0 : Int32))) (fun q12 => some (z_max (0 : Int32) (q12.1 - q12.2)))))
theorem vX2_apart {G : z_G} {d : Nat} {Q : Option Value → z_S → z_H → Prop} {a0 : Nat} {a1 : Nat} {I : Nat → Nat → Int32} {R : Nat → Nat → Nat} {q : Int32} (hd : 3 ≤ d) (hf : fX2_apart a0 a1 I R = some q) (hk : Q (some (.int q)) z_SH (I, R)) : z_W G eX2_apart d 0 0 0 [some (.ref a0), some (.ref a1), none, none, none] [] z_SH (I, R) Q := by
  unfold fX2_apart at hf
  obtain ⟨g_a0, hf⟩ := z_g_el hf
  obtain ⟨g_a1, hf⟩ := z_g_el hf
  refine z_iconst dX2_apart_0 kc_0 ?_
  refine y_istore_n0 [some (.ref a0), some (.ref a1), some (.int (0 : Int32)), none, none] dX2_apart_1 rfl (by decide) rfl ?_
  refine z_bipush dX2_apart_2 kb_60 ?_
  refine y_istore_n0 [some (.ref a0), some (.ref a1), some (.int (0 : Int32)), some (.int (60 : Int32)), none] dX2_apart_4 rfl (by decide) rfl ?_
  refine z_iconst dX2_apart_5 kc_0 ?_
  refine y_istore0 [some (.ref a0), some (.ref a1), some (.int (0 : Int32)), some (.int (60 : Int32)), some (.int (0 : Int32))] dX2_apart_6 (by decide) rfl ?_
  obtain ⟨q12, hq12, hf⟩ := z_b_el hf
  refine y_sub (lv' := [some (.ref a0), some (.ref a1), some (.int (0 : Int32)), some (.int (60 : Int32)), some (.int (0 : Int32))]) ?_ (z_le_c rfl (z_le_c rfl (z_le_c rfl (z_le_c rfl (z_le_c rfl z_le_0)))))
  refine z_lp_el (P := (fun s : Int32 × Int32 × Int32 => z_W G eX2_apart d 0 0 8 [some (.ref a0), some (.ref a1), some (.int s.1), some (.int s.2.1), some (.int s.2.2)] [] z_SH (I, R) Q)) (E := (fun x : Int32 × Int32 => z_W G eX2_apart d 0 0 74 [none, none, some (.int x.1), some (.int x.2), none] [] z_SH (I, R) Q)) (wX2_apart_b8 hd g_a0 g_a1) 300 ((0 : Int32), (60 : Int32), (0 : Int32)) q12 hq12 ?_
  show z_W G eX2_apart d 0 0 74 [none, none, some (.int q12.1), some (.int q12.2), none] [] z_SH (I, R) _
  refine z_iconst dX2_apart_74 kc_0 ?_
  refine z_iload_n dX2_apart_75 rfl rfl ?_
  refine z_iload_n dX2_apart_76 rfl rfl ?_
  refine z_isub dX2_apart_77 ?_
  refine y_max (Nat.le_trans (Nat.le_of_ble_eq_true rfl) hd) lmX2_79 (Nat.le_of_ble_eq_true rfl) dX2_apart_78 ?_
  cases hf
  exact z_iret hk ⟨_, rfl, rfl⟩ dX2_apart_81
theorem wX2_apart {G : z_G} {d : Nat} {a0 : Nat} {a1 : Nat} {I : Nat → Nat → Int32} {R : Nat → Nat → Nat} {q : Int32} (hd : 3 ≤ d) (hf : fX2_apart a0 a1 I R = some q) : z_M G d 0 0 eX2_apart [.ref a0, .ref a1] z_SH (I, R) (z_E (some (.int q)) (I, R)) :=
  y_M_of _ (by decide +kernel) rfl rfl rfl (vX2_apart hd hf ⟨rfl, rfl, rfl⟩)
def fX5_fermatasWithin (a0 : Nat) (x1 : Int32) (I : Nat → Nat → Int32) (R : Nat → Nat → Nat) : Option (Int32) :=
  z_g (z_ob a0 5) (if x1 < 0 then (some (0 : Int32)) else (if (I a0 3) < x1 then (some (0 : Int32)) else (z_g (z_ok 1 (R a0 2) x1) (some (I (R a0 2) x1.toNatClampNeg)))))
theorem vX5_fermatasWithin {G : z_G} {d : Nat} {Q : Option Value → z_S → z_H → Prop} {a0 : Nat} {x1 : Int32} {I : Nat → Nat → Int32} {R : Nat → Nat → Nat} {q : Int32} (hd : 0 ≤ d) (hf : fX5_fermatasWithin a0 x1 I R = some q) (hk : Q (some (.int q)) z_SH (I, R)) : z_W G eX5_fermatasWithin d 0 0 0 [some (.ref a0), some (.int x1)] [] z_SH (I, R) Q := by
  unfold fX5_fermatasWithin at hf
  obtain ⟨g_a0, hf⟩ := z_g_el hf
  refine z_iload_n dX5_fermatasWithin_0 rfl rfl ?_
  refine z_if_lt (tgt := 21) dX5_fermatasWithin_1 (by decide) (fun c1 => ?_) (fun c1 => ?_)
  · have hf := z_if_t hf c1
    refine z_iconst dX5_fermatasWithin_21 kc_0 ?_
    cases hf
    exact z_iret hk ⟨_, rfl, rfl⟩ dX5_fermatasWithin_22
  · have hf := z_if_f hf c1
    refine z_iload_n dX5_fermatasWithin_4 rfl rfl ?_
    refine z_aload_n dX5_fermatasWithin_5 rfl rfl (z_okl g_a0) ?_
    refine y_getI lfX5_19 rfl g_a0 dX5_fermatasWithin_6 ?_
    refine z_icmp_gt (tgt := 21) dX5_fermatasWithin_9 (by decide) (fun c2 => ?_) (fun c2 => ?_)
    · have hf := z_if_t hf c2
      refine z_iconst dX5_fermatasWithin_21 kc_0 ?_
      cases hf
      exact z_iret hk ⟨_, rfl, rfl⟩ dX5_fermatasWithin_22
    · have hf := z_if_f hf c2
      refine z_aload_n dX5_fermatasWithin_12 rfl rfl (z_okl g_a0) ?_
      refine y_getR lfX5_16 rfl g_a0 dX5_fermatasWithin_13 ?_
      refine z_iload_n dX5_fermatasWithin_16 rfl rfl ?_
      obtain ⟨g3, hf⟩ := z_g_el hf
      refine y_iald g3 dX5_fermatasWithin_17 ?_
      refine z_goto (tgt := 22) dX5_fermatasWithin_18 (by decide) ?_
      cases hf
      exact z_iret hk ⟨_, rfl, rfl⟩ dX5_fermatasWithin_22
theorem wX5_fermatasWithin {G : z_G} {d : Nat} {a0 : Nat} {x1 : Int32} {I : Nat → Nat → Int32} {R : Nat → Nat → Nat} {q : Int32} (hd : 0 ≤ d) (hf : fX5_fermatasWithin a0 x1 I R = some q) : z_M G d 0 0 eX5_fermatasWithin [.ref a0, .int x1] z_SH (I, R) (z_E (some (.int q)) (I, R)) :=
  y_M_of _ (by decide +kernel) rfl rfl rfl (vX5_fermatasWithin hd hf ⟨rfl, rfl, rfl⟩)
def fX5_fermatas (a0 : Nat) (I : Nat → Nat → Int32) (R : Nat → Nat → Nat) : Option (Int32) :=
  z_g (z_ob a0 5) (z_b (fX5_fermatasWithin a0 (I a0 3) I R) (fun q1 => some q1))
theorem vX5_fermatas {G : z_G} {d : Nat} {Q : Option Value → z_S → z_H → Prop} {a0 : Nat} {I : Nat → Nat → Int32} {R : Nat → Nat → Nat} {q : Int32} (hd : 1 ≤ d) (hf : fX5_fermatas a0 I R = some q) (hk : Q (some (.int q)) z_SH (I, R)) : z_W G eX5_fermatas d 0 0 0 [some (.ref a0)] [] z_SH (I, R) Q := by
  unfold fX5_fermatas at hf
  obtain ⟨g_a0, hf⟩ := z_g_el hf
  refine z_aload_n dX5_fermatas_0 rfl rfl (z_okl g_a0) ?_
  refine z_aload_n dX5_fermatas_1 rfl rfl (z_okl g_a0) ?_
  refine y_getI lfX5_19 rfl g_a0 dX5_fermatas_2 ?_
  obtain ⟨q1, hq1, hf⟩ := z_b_el hf
  refine y_cVi (av := [.int (I a0 3)]) (Nat.le_trans (Nat.le_of_ble_eq_true rfl) hd) (wX5_fermatasWithin (z_dl rfl hd) hq1) oX5_fermatasWithin lmX5_30 iX5_fermatasWithin g_a0 rfl _ rfl rfl (Nat.le_of_ble_eq_true rfl) dX5_fermatas_5 ?_
  cases hf
  exact z_iret hk ⟨_, rfl, rfl⟩ dX5_fermatas_8
theorem wX5_fermatas {G : z_G} {d : Nat} {a0 : Nat} {I : Nat → Nat → Int32} {R : Nat → Nat → Nat} {q : Int32} (hd : 1 ≤ d) (hf : fX5_fermatas a0 I R = some q) : z_M G d 0 0 eX5_fermatas [.ref a0] z_SH (I, R) (z_E (some (.int q)) (I, R)) :=
  y_M_of _ (by decide +kernel) rfl rfl rfl (vX5_fermatas hd hf ⟨rfl, rfl, rfl⟩)
def fX2_allHaveCome_b2 (a0 : Nat) (a1 : Nat) (z2 : Int32) (I : Nat → Nat → Int32) (R : Nat → Nat → Nat) : (Int32) → Option ((Int32) ⊕ ((Int32) ⊕ (Unit))) :=
  fun s => (fun (p3 : Int32) => if (8 : Int32) ≤ p3 then (some (.inr (.inr (())))) else (z_g (z_ob (R a0 0) 7) (z_g (z_ok 3 (R (R a0 0) 0) p3) (z_g (z_ob (R (R (R a0 0) 0) p3.toNatClampNeg) 5) (z_g (z_ok 4 (R a1 0) p3) (z_g (z_ob (R (R a1 0) p3.toNatClampNeg) 8) (if (I (R (R a1 0) p3.toNatClampNeg) 0) = 0 then (z_l (p3 + (1 : Int32)) (fun t8 => some (.inl t8))) else (z_b (fX5_fermatas (R (R (R a0 0) 0) p3.toNatClampNeg) I R) (fun q9 => if q9 < z2 then (z_l (p3 + (1 : Int32)) (fun t11 => some (.inl t11))) else (z_g (z_ok 1 (R a0 1) p3) (z_b (fX5_fermatasWithin (R (R (R a0 0) 0) p3.toNatClampNeg) (I (R a0 1) p3.toNatClampNeg) I R) (fun q13 => if z2 ≤ q13 then (z_l (p3 + (1 : Int32)) (fun t15 => some (.inl t15))) else (some (.inr (.inl (0 : Int32)))))))))))))))) s
theorem wX2_allHaveCome_b2 {G : z_G} {d : Nat} {Q : Option Value → z_S → z_H → Prop} {a0 : Nat} {a1 : Nat} {z2 : Int32} {I : Nat → Nat → Int32} {R : Nat → Nat → Nat} (hd : 2 ≤ d) (g_a0 : z_ob a0 2) (g_a1 : z_ob a1 9) : ∀ (s : Int32) (o : (Int32) ⊕ ((Int32) ⊕ (Unit))), fX2_allHaveCome_b2 a0 a1 z2 I R s = some o → z_or (fun s : Int32 => z_W G eX2_allHaveCome d 0 0 2 [some (.ref a0), some (.ref a1), some (.int z2), some (.int s), none] [] z_SH (I, R) Q) (z_or (fun r : Int32 => Q (some (.int r)) z_SH (I, R)) (fun x : Unit => z_W G eX2_allHaveCome d 0 0 63 [none, none, none, none, none] [] z_SH (I, R) Q)) o → (fun s : Int32 => z_W G eX2_allHaveCome d 0 0 2 [some (.ref a0), some (.ref a1), some (.int z2), some (.int s), none] [] z_SH (I, R) Q) s := by
  intro p3 o hf hk
  show z_W G eX2_allHaveCome d 0 0 2 [some (.ref a0), some (.ref a1), some (.int z2), some (.int p3), none] [] z_SH (I, R) Q
  unfold fX2_allHaveCome_b2 at hf
  try dsimp only at hf
  refine z_iload_n dX2_allHaveCome_2 rfl rfl ?_
  refine z_bipush dX2_allHaveCome_3 kb_8 ?_
  refine z_icmp_ge (tgt := 63) dX2_allHaveCome_5 (by decide) (fun c1 => ?_) (fun c1 => ?_)
  · have hf := z_if_t hf c1
    cases hf
    exact y_sub hk (z_le_n (z_le_n (z_le_n (z_le_n (z_le_n z_le_0)))))
  · have hf := z_if_f hf c1
    refine z_aload_n dX2_allHaveCome_8 rfl rfl (z_okl g_a0) ?_
    refine y_getR lfX2_9 rfl g_a0 dX2_allHaveCome_9 ?_
    obtain ⟨g2, hf⟩ := z_g_el hf
    refine y_getR lfX2_49 rfl g2 dX2_allHaveCome_12 ?_
    refine z_iload_n dX2_allHaveCome_15 rfl rfl ?_
    obtain ⟨g3, hf⟩ := z_g_el hf
    refine y_aald (t := 0) (Or.inl rfl) g3 dX2_allHaveCome_16 ?_
    obtain ⟨g4, hf⟩ := z_g_el hf
    refine y_astore [some (.ref a0), some (.ref a1), some (.int z2), some (.int p3), some (.ref (R (R (R a0 0) 0) p3.toNatClampNeg))] dX2_allHaveCome_17 (by decide) (z_okl g4) rfl ?_
    refine z_aload_n dX2_allHaveCome_19 rfl rfl (z_okl g_a1) ?_
    refine y_getR lfX2_38 rfl g_a1 dX2_allHaveCome_20 ?_
    refine z_iload_n dX2_allHaveCome_23 rfl rfl ?_
    obtain ⟨g5, hf⟩ := z_g_el hf
    refine y_aald (t := 1) (Or.inr rfl) g5 dX2_allHaveCome_24 ?_
    obtain ⟨g6, hf⟩ := z_g_el hf
    refine y_getI lfX2_61 rfl g6 dX2_allHaveCome_25 ?_
    refine z_if_eq (tgt := 57) dX2_allHaveCome_28 (by decide) (fun c7 => ?_) (fun c7 => ?_)
    · have hf := z_if_t hf c7
      refine y_iinc (fun t8 => [some (.ref a0), some (.ref a1), some (.int z2), some (.int t8), some (.ref (R (R (R a0 0) 0) p3.toNatClampNeg))]) dX2_allHaveCome_57 rfl kc_1 (by decide) (fun _ => rfl) (fun t8 et8 => ?_)
      have hf := z_l_el hf et8
      refine z_goto (tgt := 2) dX2_allHaveCome_60 (by decide) ?_
      cases hf
      exact y_sub hk (z_le_c rfl (z_le_c rfl (z_le_c rfl (z_le_c rfl (z_le_n z_le_0)))))
    · have hf := z_if_f hf c7
      refine z_aload dX2_allHaveCome_31 rfl (z_okl g4) ?_
      obtain ⟨q9, hq9, hf⟩ := z_b_el hf
      refine y_cVi (av := []) (Nat.le_trans (Nat.le_of_ble_eq_true rfl) hd) (wX5_fermatas (z_dl rfl hd) hq9) oX5_fermatas lmX2_130 iX5_fermatas g4 rfl _ rfl rfl (Nat.le_of_ble_eq_true rfl) dX2_allHaveCome_33 ?_
      refine z_iload_n dX2_allHaveCome_36 rfl rfl ?_
      refine z_icmp_lt (tgt := 57) dX2_allHaveCome_37 (by decide) (fun c10 => ?_) (fun c10 => ?_)
      · have hf := z_if_t hf c10
        refine y_iinc (fun t11 => [some (.ref a0), some (.ref a1), some (.int z2), some (.int t11), some (.ref (R (R (R a0 0) 0) p3.toNatClampNeg))]) dX2_allHaveCome_57 rfl kc_1 (by decide) (fun _ => rfl) (fun t11 et11 => ?_)
        have hf := z_l_el hf et11
        refine z_goto (tgt := 2) dX2_allHaveCome_60 (by decide) ?_
        cases hf
        exact y_sub hk (z_le_c rfl (z_le_c rfl (z_le_c rfl (z_le_c rfl (z_le_n z_le_0)))))
      · have hf := z_if_f hf c10
        refine z_aload dX2_allHaveCome_40 rfl (z_okl g4) ?_
        refine z_aload_n dX2_allHaveCome_42 rfl rfl (z_okl g_a0) ?_
        refine y_getR lfX2_15 rfl g_a0 dX2_allHaveCome_43 ?_
        refine z_iload_n dX2_allHaveCome_46 rfl rfl ?_
        obtain ⟨g12, hf⟩ := z_g_el hf
        refine y_iald g12 dX2_allHaveCome_47 ?_
        obtain ⟨q13, hq13, hf⟩ := z_b_el hf
        refine y_cVi (av := [.int (I (R a0 1) p3.toNatClampNeg)]) (Nat.le_trans (Nat.le_of_ble_eq_true rfl) hd) (wX5_fermatasWithin (z_dl rfl hd) hq13) oX5_fermatasWithin lmX2_99 iX5_fermatasWithin g4 rfl _ rfl rfl (Nat.le_of_ble_eq_true rfl) dX2_allHaveCome_48 ?_
        refine z_iload_n dX2_allHaveCome_51 rfl rfl ?_
        refine z_icmp_ge (tgt := 57) dX2_allHaveCome_52 (by decide) (fun c14 => ?_) (fun c14 => ?_)
        · have hf := z_if_t hf c14
          refine y_iinc (fun t15 => [some (.ref a0), some (.ref a1), some (.int z2), some (.int t15), some (.ref (R (R (R a0 0) 0) p3.toNatClampNeg))]) dX2_allHaveCome_57 rfl kc_1 (by decide) (fun _ => rfl) (fun t15 et15 => ?_)
          have hf := z_l_el hf et15
          refine z_goto (tgt := 2) dX2_allHaveCome_60 (by decide) ?_
          cases hf
          exact y_sub hk (z_le_c rfl (z_le_c rfl (z_le_c rfl (z_le_c rfl (z_le_n z_le_0)))))
        · have hf := z_if_f hf c14
          refine z_iconst dX2_allHaveCome_55 kc_0 ?_
          cases hf
          exact z_iret hk ⟨_, rfl, rfl⟩ dX2_allHaveCome_56
def fX2_allHaveCome (a0 : Nat) (a1 : Nat) (x2 : Int32) (I : Nat → Nat → Int32) (R : Nat → Nat → Nat) : Option (Int32) :=
  z_g (z_ob a0 2) (z_g (z_ob a1 9) (z_b (z_lp (fX2_allHaveCome_b2 a0 a1 x2 I R) 300 (0 : Int32)) (fun q16 => z_x q16 (fun q18 => some q18) (fun q17 => some (1 : Int32)))))
theorem vX2_allHaveCome {G : z_G} {d : Nat} {Q : Option Value → z_S → z_H → Prop} {a0 : Nat} {a1 : Nat} {x2 : Int32} {I : Nat → Nat → Int32} {R : Nat → Nat → Nat} {q : Int32} (hd : 2 ≤ d) (hf : fX2_allHaveCome a0 a1 x2 I R = some q) (hk : Q (some (.int q)) z_SH (I, R)) : z_W G eX2_allHaveCome d 0 0 0 [some (.ref a0), some (.ref a1), some (.int x2), none, none] [] z_SH (I, R) Q := by
  unfold fX2_allHaveCome at hf
  obtain ⟨g_a0, hf⟩ := z_g_el hf
  obtain ⟨g_a1, hf⟩ := z_g_el hf
  refine z_iconst dX2_allHaveCome_0 kc_0 ?_
  refine y_istore_n0 [some (.ref a0), some (.ref a1), some (.int x2), some (.int (0 : Int32)), none] dX2_allHaveCome_1 rfl (by decide) rfl ?_
  obtain ⟨q16, hq16, hf⟩ := z_b_el hf
  refine y_sub (lv' := [some (.ref a0), some (.ref a1), some (.int x2), some (.int (0 : Int32)), none]) ?_ (z_le_c rfl (z_le_c rfl (z_le_c rfl (z_le_c rfl (z_le_n z_le_0)))))
  refine z_lp_el (P := (fun s : Int32 => z_W G eX2_allHaveCome d 0 0 2 [some (.ref a0), some (.ref a1), some (.int x2), some (.int s), none] [] z_SH (I, R) Q)) (E := (z_or (fun r : Int32 => Q (some (.int r)) z_SH (I, R)) (fun x : Unit => z_W G eX2_allHaveCome d 0 0 63 [none, none, none, none, none] [] z_SH (I, R) Q))) (wX2_allHaveCome_b2 hd g_a0 g_a1) 300 (0 : Int32) q16 hq16 ?_
  rcases q16 with q18 | q17
  · have hf := z_x_l hf
    cases hf
    exact hk
  · have hf := z_x_r hf
    show z_W G eX2_allHaveCome d 0 0 63 [none, none, none, none, none] [] z_SH (I, R) _
    refine z_iconst dX2_allHaveCome_63 kc_1 ?_
    cases hf
    exact z_iret hk ⟨_, rfl, rfl⟩ dX2_allHaveCome_64
theorem wX2_allHaveCome {G : z_G} {d : Nat} {a0 : Nat} {a1 : Nat} {x2 : Int32} {I : Nat → Nat → Int32} {R : Nat → Nat → Nat} {q : Int32} (hd : 2 ≤ d) (hf : fX2_allHaveCome a0 a1 x2 I R = some q) : z_M G d 0 0 eX2_allHaveCome [.ref a0, .ref a1, .int x2] z_SH (I, R) (z_E (some (.int q)) (I, R)) :=
  y_M_of _ (by decide +kernel) rfl rfl rfl (vX2_allHaveCome hd hf ⟨rfl, rfl, rfl⟩)
def fX2_setLetters_b24 (a0 : Nat) (a1 : Nat) (z2 : Int32) (z3 : Nat) (I : Nat → Nat → Int32) (R : Nat → Nat → Nat) : (Int32 × Int32 × Int32) → Option ((Int32 × Int32 × Int32) ⊕ (Int32 × Int32)) :=
  fun s => (fun (p4 : Int32) (p5 : Int32) (p6 : Int32) => z_g (z_ob z3 8) (if (8 : Int32) ≤ p6 then (some (.inr (p4, p5))) else (if p6 = z2 then (z_l (p6 + (1 : Int32)) (fun t8 => some (.inl (p4, p5, t8)))) else (z_g (z_ok 4 (R a1 0) p6) (z_g (z_ob (R a0 0) 7) (z_b (fX8_hears z3 (R (R a1 0) p6.toNatClampNeg) (I (R a0 0) 4) I) (fun q11 => if q11 = 0 then (z_l (p6 + (1 : Int32)) (fun t13 => some (.inl (p4, p5, t13)))) else (z_l (p4 + (1 : Int32)) (fun t14 => z_g (z_ok 1 (R a0 1) p6) (z_l (p5 + (I (R a0 1) p6.toNatClampNeg)) (fun t16 => z_l (p6 + (1 : Int32)) (fun t17 => some (.inl (t14, t16, t17)))))))))))))) s.1 s.2.1 s.2.2
theorem wX2_setLetters_b24 {G : z_G} {d : Nat} {Q : Option Value → z_S → z_H → Prop} {a0 : Nat} {a1 : Nat} {z2 : Int32} {z3 : Nat} {I : Nat → Nat → Int32} {R : Nat → Nat → Nat} (hd : 2 ≤ d) (g_a0 : z_ob a0 2) (g_a1 : z_ob a1 9) : ∀ (s : Int32 × Int32 × Int32) (o : (Int32 × Int32 × Int32) ⊕ (Int32 × Int32)), fX2_setLetters_b24 a0 a1 z2 z3 I R s = some o → z_or (fun s : Int32 × Int32 × Int32 => z_W G eX2_setLetters d 0 0 24 [some (.ref a0), some (.ref a1), some (.int z2), some (.ref z3), some (.int s.1), some (.int s.2.1), some (.int s.2.2)] [] z_SH (I, R) Q) (fun x : Int32 × Int32 => z_W G eX2_setLetters d 0 0 79 [some (.ref a0), some (.ref a1), some (.int z2), some (.ref z3), some (.int x.1), some (.int x.2), none] [] z_SH (I, R) Q) o → (fun s : Int32 × Int32 × Int32 => z_W G eX2_setLetters d 0 0 24 [some (.ref a0), some (.ref a1), some (.int z2), some (.ref z3), some (.int s.1), some (.int s.2.1), some (.int s.2.2)] [] z_SH (I, R) Q) s := by
  rintro ⟨p4, p5, p6⟩ o hf hk
  show z_W G eX2_setLetters d 0 0 24 [some (.ref a0), some (.ref a1), some (.int z2), some (.ref z3), some (.int p4), some (.int p5), some (.int p6)] [] z_SH (I, R) Q
  unfold fX2_setLetters_b24 at hf
  try dsimp only at hf
  obtain ⟨g5, hf⟩ := z_g_el hf
  refine z_iload dX2_setLetters_24 rfl ?_
  refine z_bipush dX2_setLetters_26 kb_8 ?_
  refine z_icmp_ge (tgt := 79) dX2_setLetters_28 (by decide) (fun c6 => ?_) (fun c6 => ?_)
  · have hf := z_if_t hf c6
    cases hf
    exact y_sub hk (z_le_c rfl (z_le_c rfl (z_le_c rfl (z_le_c rfl (z_le_c rfl (z_le_c rfl (z_le_n z_le_0)))))))
  · have hf := z_if_f hf c6
    refine z_iload dX2_setLetters_31 rfl ?_
    refine z_iload_n dX2_setLetters_33 rfl rfl ?_
    refine z_icmp_eq (tgt := 73) dX2_setLetters_34 (by decide) (fun c7 => ?_) (fun c7 => ?_)
    · have hf := z_if_t hf c7
      refine y_iinc (fun t8 => [some (.ref a0), some (.ref a1), some (.int z2), some (.ref z3), some (.int p4), some (.int p5), some (.int t8)]) dX2_setLetters_73 rfl kc_1 (by decide) (fun _ => rfl) (fun t8 et8 => ?_)
      have hf := z_l_el hf et8
      refine z_goto (tgt := 24) dX2_setLetters_76 (by decide) ?_
      cases hf
      exact y_sub hk (z_le_c rfl (z_le_c rfl (z_le_c rfl (z_le_c rfl (z_le_c rfl (z_le_c rfl (z_le_c rfl z_le_0)))))))
    · have hf := z_if_f hf c7
      refine z_aload_n dX2_setLetters_37 rfl rfl (z_okl g5) ?_
      refine z_aload_n dX2_setLetters_38 rfl rfl (z_okl g_a1) ?_
      refine y_getR lfX2_38 rfl g_a1 dX2_setLetters_39 ?_
      refine z_iload dX2_setLetters_42 rfl ?_
      obtain ⟨g9, hf⟩ := z_g_el hf
      refine y_aald (t := 1) (Or.inr rfl) g9 dX2_setLetters_44 ?_
      refine z_aload_n dX2_setLetters_45 rfl rfl (z_okl g_a0) ?_
      refine y_getR lfX2_9 rfl g_a0 dX2_setLetters_46 ?_
      obtain ⟨g10, hf⟩ := z_g_el hf
      refine y_getI lfX2_133 rfl g10 dX2_setLetters_49 ?_
      obtain ⟨q11, hq11, hf⟩ := z_b_el hf
      refine y_cVi (av := [.ref (R (R a1 0) p6.toNatClampNeg), .int (I (R a0 0) 4)]) (Nat.le_trans (Nat.le_of_ble_eq_true rfl) hd) (wX8_hears (z_dl rfl hd) hq11) oX8_hears lmX2_136 iX8_hears g5 rfl _ rfl rfl (Nat.le_of_ble_eq_true rfl) dX2_setLetters_52 ?_
      refine z_if_eq (tgt := 73) dX2_setLetters_55 (by decide) (fun c12 => ?_) (fun c12 => ?_)
      · have hf := z_if_t hf c12
        refine y_iinc (fun t13 => [some (.ref a0), some (.ref a1), some (.int z2), some (.ref z3), some (.int p4), some (.int p5), some (.int t13)]) dX2_setLetters_73 rfl kc_1 (by decide) (fun _ => rfl) (fun t13 et13 => ?_)
        have hf := z_l_el hf et13
        refine z_goto (tgt := 24) dX2_setLetters_76 (by decide) ?_
        cases hf
        exact y_sub hk (z_le_c rfl (z_le_c rfl (z_le_c rfl (z_le_c rfl (z_le_c rfl (z_le_c rfl (z_le_c rfl z_le_0)))))))
      · have hf := z_if_f hf c12
        refine y_iinc (fun t14 => [some (.ref a0), some (.ref a1), some (.int z2), some (.ref z3), some (.int t14), some (.int p5), some (.int p6)]) dX2_setLetters_58 rfl kc_1 (by decide) (fun _ => rfl) (fun t14 et14 => ?_)
        have hf := z_l_el hf et14
        refine z_iload dX2_setLetters_61 rfl ?_
        refine z_aload_n dX2_setLetters_63 rfl rfl (z_okl g_a0) ?_
        refine y_getR lfX2_15 rfl g_a0 dX2_setLetters_64 ?_
        refine z_iload dX2_setLetters_67 rfl ?_
        obtain ⟨g15, hf⟩ := z_g_el hf
        refine y_iald g15 dX2_setLetters_69 ?_
        refine z_iadd dX2_setLetters_70 ?_
        refine y_istore (fun t16 => [some (.ref a0), some (.ref a1), some (.int z2), some (.ref z3), some (.int t14), some (.int t16), some (.int p6)]) dX2_setLetters_71 (by decide) (fun _ => rfl) (fun t16 et16 => ?_)
        have hf := z_l_el hf et16
        refine y_iinc (fun t17 => [some (.ref a0), some (.ref a1), some (.int z2), some (.ref z3), some (.int t14), some (.int t16), some (.int t17)]) dX2_setLetters_73 rfl kc_1 (by decide) (fun _ => rfl) (fun t17 et17 => ?_)
        have hf := z_l_el hf et17
        refine z_goto (tgt := 24) dX2_setLetters_76 (by decide) ?_
        cases hf
        exact y_sub hk (z_le_c rfl (z_le_c rfl (z_le_c rfl (z_le_c rfl (z_le_c rfl (z_le_c rfl (z_le_c rfl z_le_0)))))))
def fX2_setLetters_j134 (a0 : Nat) (a1 : Nat) (y2 : Int32) (b3 : Nat) (y4 : Int32) (v0 : Nat) (v1 : Int32) (v2 : Int32) (I : Nat → Nat → Int32) (R : Nat → Nat → Nat) : Option ((Nat → Nat → Int32)) :=
  z_g (z_ob b3 8) (z_g (z_ok 1 v0 v1) (z_l (z_u I v0 v1.toNatClampNeg v2) (fun I30 => z_g (z_ok 1 (R a0 2) (4 : Int32)) (z_l (z_u I30 (R a0 2) (4 : Int32).toNatClampNeg y4) (fun I32 => z_g (z_ok 1 (R a0 2) (5 : Int32)) (z_l (z_u I32 (R a0 2) (5 : Int32).toNatClampNeg (I32 b3 7)) (fun I34 => z_g (z_ob (R a0 0) 7) (z_g (z_ok 3 (R (R a0 0) 0) y2) (z_g (z_ob (R (R (R a0 0) 0) y2.toNatClampNeg) 5) (z_b (fX5_noteAt (R (R (R a0 0) 0) y2.toNatClampNeg) (I34 b3 5) I34 R) (fun q37 => z_g (z_ok 1 (R a0 2) (6 : Int32)) (z_l (z_u I34 (R a0 2) (6 : Int32).toNatClampNeg q37) (fun I40 => z_g (z_ok 1 (R a0 2) (7 : Int32)) (z_l (z_u I40 (R a0 2) (7 : Int32).toNatClampNeg (z_rem (I40 a1 1) (100 : Int32))) (fun I42 => some I42)))))))))))))))
theorem wX2_setLetters_j134 {G : z_G} {d : Nat} {Q : Option Value → z_S → z_H → Prop} {a0 : Nat} {a1 : Nat} {y2 : Int32} {b3 : Nat} {y4 : Int32} {v0 : Nat} {v1 : Int32} {v2 : Int32} {I : Nat → Nat → Int32} {R : Nat → Nat → Nat} {o : (Nat → Nat → Int32)} (hd : 2 ≤ d) (g_a0 : z_ob a0 2) (g_a1 : z_ob a1 9) (hf : fX2_setLetters_j134 a0 a1 y2 b3 y4 v0 v1 v2 I R = some o) (hk : Q none z_SH (o, R)) : z_W G eX2_setLetters d 0 0 134 [some (.ref a0), some (.ref a1), some (.int y2), some (.ref b3), some (.int y4), none, none] [.int v2, .int v1, .ref v0] z_SH (I, R) Q := by
  unfold fX2_setLetters_j134 at hf
  obtain ⟨g28, hf⟩ := z_g_el hf
  obtain ⟨g29, hf⟩ := z_g_el hf
  refine y_iast g29 dX2_setLetters_134 (fun I30 eI30 => ?_)
  have hf := z_l_el hf eI30
  refine z_aload_n dX2_setLetters_135 rfl rfl (z_okl g_a0) ?_
  refine y_getR lfX2_21 rfl g_a0 dX2_setLetters_136 ?_
  refine z_iconst dX2_setLetters_139 kc_4 ?_
  refine z_iload dX2_setLetters_140 rfl ?_
  obtain ⟨g31, hf⟩ := z_g_el hf
  refine y_iast g31 dX2_setLetters_142 (fun I32 eI32 => ?_)
  have hf := z_l_el hf eI32
  refine z_aload_n dX2_setLetters_143 rfl rfl (z_okl g_a0) ?_
  refine y_getR lfX2_21 rfl g_a0 dX2_setLetters_144 ?_
  refine z_iconst dX2_setLetters_147 kc_5 ?_
  refine z_aload_n dX2_setLetters_148 rfl rfl (z_okl g28) ?_
  refine y_getI lfX2_143 rfl g28 dX2_setLetters_149 ?_
  obtain ⟨g33, hf⟩ := z_g_el hf
  refine y_iast g33 dX2_setLetters_152 (fun I34 eI34 => ?_)
  have hf := z_l_el hf eI34
  refine z_aload_n dX2_setLetters_153 rfl rfl (z_okl g_a0) ?_
  refine y_getR lfX2_21 rfl g_a0 dX2_setLetters_154 ?_
  refine z_bipush dX2_setLetters_157 kb_6 ?_
  refine z_aload_n dX2_setLetters_159 rfl rfl (z_okl g_a0) ?_
  refine y_getR lfX2_9 rfl g_a0 dX2_setLetters_160 ?_
  obtain ⟨g35, hf⟩ := z_g_el hf
  refine y_getR lfX2_49 rfl g35 dX2_setLetters_163 ?_
  refine z_iload_n dX2_setLetters_166 rfl rfl ?_
  obtain ⟨g36, hf⟩ := z_g_el hf
  refine y_aald (t := 0) (Or.inl rfl) g36 dX2_setLetters_167 ?_
  refine z_aload_n dX2_setLetters_168 rfl rfl (z_okl g28) ?_
  refine y_getI lfX2_44 rfl g28 dX2_setLetters_169 ?_
  obtain ⟨g38, hf⟩ := z_g_el hf
  obtain ⟨q37, hq37, hf⟩ := z_b_el hf
  refine y_cVi (av := [.int (I34 b3 5)]) (Nat.le_trans (Nat.le_of_ble_eq_true rfl) hd) (wX5_noteAt (z_dl rfl hd) hq37) oX5_noteAt lmX2_75 iX5_noteAt g38 rfl _ rfl rfl (Nat.le_of_ble_eq_true rfl) dX2_setLetters_172 ?_
  obtain ⟨g39, hf⟩ := z_g_el hf
  refine y_iast g39 dX2_setLetters_175 (fun I40 eI40 => ?_)
  have hf := z_l_el hf eI40
  refine z_aload_n dX2_setLetters_176 rfl rfl (z_okl g_a0) ?_
  refine y_getR lfX2_21 rfl g_a0 dX2_setLetters_177 ?_
  refine z_bipush dX2_setLetters_180 kb_7 ?_
  refine z_aload_n dX2_setLetters_182 rfl rfl (z_okl g_a1) ?_
  refine y_getI lfX2_88 rfl g_a1 dX2_setLetters_183 ?_
  refine z_bipush dX2_setLetters_186 kb_100 ?_
  refine y_irem dX2_setLetters_188 (by decide) ?_
  obtain ⟨g41, hf⟩ := z_g_el hf
  refine y_iast g41 dX2_setLetters_189 (fun I42 eI42 => ?_)
  have hf := z_l_el hf eI42
  cases hf
  exact z_vret hk rfl dX2_setLetters_190
def fX2_setLetters (a0 : Nat) (a1 : Nat) (x2 : Int32) (I : Nat → Nat → Int32) (R : Nat → Nat → Nat) : Option ((Nat → Nat → Int32)) :=
  z_g (z_ob a0 2) (z_g (z_ob a1 9) (z_b (fX12_isSinger x2) (fun q1 => if q1 = 0 then (some I) else (z_g (z_ok 4 (R a1 0) x2) (z_g (z_ob (R (R a1 0) x2.toNatClampNeg) 8) (z_b (z_lp (fX2_setLetters_b24 a0 a1 x2 (R (R a1 0) x2.toNatClampNeg) I R) 300 ((0 : Int32), (0 : Int32), (0 : Int32))) (fun q18 => z_g (z_ok 1 (R a0 2) (0 : Int32)) (z_l (z_u I (R a0 2) (0 : Int32).toNatClampNeg x2) (fun I20 => z_g (z_ok 1 (R a0 2) (1 : Int32)) (z_l (z_u I20 (R a0 2) (1 : Int32).toNatClampNeg (I20 (R (R a1 0) x2.toNatClampNeg) 1)) (fun I22 => z_g (z_ok 1 (R a0 1) x2) (z_g (z_ok 1 (R a0 2) (2 : Int32)) (z_l (z_u I22 (R a0 2) (2 : Int32).toNatClampNeg (I22 (R a0 1) x2.toNatClampNeg)) (fun I25 => if q18.1 = 0 then (fX2_setLetters_j134 a0 a1 x2 (R (R a1 0) x2.toNatClampNeg) q18.1 (R a0 2) (3 : Int32) (0 : Int32) I25 R) else (z_g (¬ q18.1 = 0) (fX2_setLetters_j134 a0 a1 x2 (R (R a1 0) x2.toNatClampNeg) q18.1 (R a0 2) (3 : Int32) ((q18.2 / q18.1) - (I25 (R a0 1) x2.toNatClampNeg)) I25 R))))))))))))))))
set_option maxRecDepth 20000 in
theorem vX2_setLetters {G : z_G} {d : Nat} {Q : Option Value → z_S → z_H → Prop} {a0 : Nat} {a1 : Nat} {x2 : Int32} {I : Nat → Nat → Int32} {R : Nat → Nat → Nat} {q : (Nat → Nat → Int32)} (hd : 2 ≤ d) (hf : fX2_setLetters a0 a1 x2 I R = some q) (hk : Q none z_SH (q, R)) : z_W G eX2_setLetters d 0 0 0 [some (.ref a0), some (.ref a1), some (.int x2), none, none, none, none] [] z_SH (I, R) Q := by
  unfold fX2_setLetters at hf
  obtain ⟨g_a0, hf⟩ := z_g_el hf
  obtain ⟨g_a1, hf⟩ := z_g_el hf
  refine z_iload_n dX2_setLetters_0 rfl rfl ?_
  obtain ⟨q1, hq1, hf⟩ := z_b_el hf
  refine y_cNi (Nat.le_trans (Nat.le_of_ble_eq_true rfl) hd) (wX12_isSinger (z_dl rfl hd) hq1) oX12_isSinger lnX2_34 sX12_isSinger _ rfl rfl (Nat.le_of_ble_eq_true rfl) dX2_setLetters_1 ?_
  refine z_if_ne (tgt := 8) dX2_setLetters_4 (by decide) (fun c2 => ?_) (fun c2 => ?_)
  · have hf := z_if_f hf c2
    refine z_aload_n dX2_setLetters_8 rfl rfl (z_okl g_a1) ?_
    refine y_getR lfX2_38 rfl g_a1 dX2_setLetters_9 ?_
    refine z_iload_n dX2_setLetters_12 rfl rfl ?_
    obtain ⟨g3, hf⟩ := z_g_el hf
    refine y_aald (t := 1) (Or.inr rfl) g3 dX2_setLetters_13 ?_
    obtain ⟨g4, hf⟩ := z_g_el hf
    refine y_astore_n [some (.ref a0), some (.ref a1), some (.int x2), some (.ref (R (R a1 0) x2.toNatClampNeg)), none, none, none] dX2_setLetters_14 rfl (by decide) (z_okl g4) rfl ?_
    refine z_iconst dX2_setLetters_15 kc_0 ?_
    refine y_istore0 [some (.ref a0), some (.ref a1), some (.int x2), some (.ref (R (R a1 0) x2.toNatClampNeg)), some (.int (0 : Int32)), none, none] dX2_setLetters_16 (by decide) rfl ?_
    refine z_iconst dX2_setLetters_18 kc_0 ?_
    refine y_istore0 [some (.ref a0), some (.ref a1), some (.int x2), some (.ref (R (R a1 0) x2.toNatClampNeg)), some (.int (0 : Int32)), some (.int (0 : Int32)), none] dX2_setLetters_19 (by decide) rfl ?_
    refine z_iconst dX2_setLetters_21 kc_0 ?_
    refine y_istore0 [some (.ref a0), some (.ref a1), some (.int x2), some (.ref (R (R a1 0) x2.toNatClampNeg)), some (.int (0 : Int32)), some (.int (0 : Int32)), some (.int (0 : Int32))] dX2_setLetters_22 (by decide) rfl ?_
    obtain ⟨q18, hq18, hf⟩ := z_b_el hf
    refine y_sub (lv' := [some (.ref a0), some (.ref a1), some (.int x2), some (.ref (R (R a1 0) x2.toNatClampNeg)), some (.int (0 : Int32)), some (.int (0 : Int32)), some (.int (0 : Int32))]) ?_ (z_le_c rfl (z_le_c rfl (z_le_c rfl (z_le_c rfl (z_le_c rfl (z_le_c rfl (z_le_c rfl z_le_0)))))))
    refine z_lp_el (P := (fun s : Int32 × Int32 × Int32 => z_W G eX2_setLetters d 0 0 24 [some (.ref a0), some (.ref a1), some (.int x2), some (.ref (R (R a1 0) x2.toNatClampNeg)), some (.int s.1), some (.int s.2.1), some (.int s.2.2)] [] z_SH (I, R) Q)) (E := (fun x : Int32 × Int32 => z_W G eX2_setLetters d 0 0 79 [some (.ref a0), some (.ref a1), some (.int x2), some (.ref (R (R a1 0) x2.toNatClampNeg)), some (.int x.1), some (.int x.2), none] [] z_SH (I, R) Q)) (wX2_setLetters_b24 hd g_a0 g_a1) 300 ((0 : Int32), (0 : Int32), (0 : Int32)) q18 hq18 ?_
    show z_W G eX2_setLetters d 0 0 79 [some (.ref a0), some (.ref a1), some (.int x2), some (.ref (R (R a1 0) x2.toNatClampNeg)), some (.int q18.1), some (.int q18.2), none] [] z_SH (I, R) _
    refine z_aload_n dX2_setLetters_79 rfl rfl (z_okl g_a0) ?_
    refine y_getR lfX2_21 rfl g_a0 dX2_setLetters_80 ?_
    refine z_iconst dX2_setLetters_83 kc_0 ?_
    refine z_iload_n dX2_setLetters_84 rfl rfl ?_
    obtain ⟨g19, hf⟩ := z_g_el hf
    refine y_iast g19 dX2_setLetters_85 (fun I20 eI20 => ?_)
    have hf := z_l_el hf eI20
    refine z_aload_n dX2_setLetters_86 rfl rfl (z_okl g_a0) ?_
    refine y_getR lfX2_21 rfl g_a0 dX2_setLetters_87 ?_
    refine z_iconst dX2_setLetters_90 kc_1 ?_
    refine z_aload_n dX2_setLetters_91 rfl rfl (z_okl g4) ?_
    refine y_getI lfX2_140 rfl g4 dX2_setLetters_92 ?_
    obtain ⟨g21, hf⟩ := z_g_el hf
    refine y_iast g21 dX2_setLetters_95 (fun I22 eI22 => ?_)
    have hf := z_l_el hf eI22
    refine z_aload_n dX2_setLetters_96 rfl rfl (z_okl g_a0) ?_
    refine y_getR lfX2_21 rfl g_a0 dX2_setLetters_97 ?_
    refine z_iconst dX2_setLetters_100 kc_2 ?_
    refine z_aload_n dX2_setLetters_101 rfl rfl (z_okl g_a0) ?_
    refine y_getR lfX2_15 rfl g_a0 dX2_setLetters_102 ?_
    refine z_iload_n dX2_setLetters_105 rfl rfl ?_
    obtain ⟨g23, hf⟩ := z_g_el hf
    refine y_iald g23 dX2_setLetters_106 ?_
    obtain ⟨g24, hf⟩ := z_g_el hf
    refine y_iast g24 dX2_setLetters_107 (fun I25 eI25 => ?_)
    have hf := z_l_el hf eI25
    refine z_aload_n dX2_setLetters_108 rfl rfl (z_okl g_a0) ?_
    refine y_getR lfX2_21 rfl g_a0 dX2_setLetters_109 ?_
    refine z_iconst dX2_setLetters_112 kc_3 ?_
    refine z_iload dX2_setLetters_113 rfl ?_
    refine z_if_ne (tgt := 122) dX2_setLetters_115 (by decide) (fun c26 => ?_) (fun c26 => ?_)
    · have hf := z_if_f hf c26
      refine z_iload dX2_setLetters_122 rfl ?_
      refine z_iload dX2_setLetters_124 rfl ?_
      obtain ⟨g27, hf⟩ := z_g_el hf
      refine z_idiv dX2_setLetters_126 g27 ?_
      refine z_aload_n dX2_setLetters_127 rfl rfl (z_okl g_a0) ?_
      refine y_getR lfX2_15 rfl g_a0 dX2_setLetters_128 ?_
      refine z_iload_n dX2_setLetters_131 rfl rfl ?_
      refine y_iald g23 dX2_setLetters_132 ?_
      refine z_isub dX2_setLetters_133 ?_
      exact y_sub (wX2_setLetters_j134 hd g_a0 g_a1 hf hk) (z_le_c rfl (z_le_c rfl (z_le_c rfl (z_le_c rfl (z_le_c rfl (z_le_n (z_le_n z_le_0)))))))
    · have hf := z_if_t hf c26
      refine z_iconst dX2_setLetters_118 kc_0 ?_
      refine z_goto (tgt := 134) dX2_setLetters_119 (by decide) ?_
      exact y_sub (wX2_setLetters_j134 hd g_a0 g_a1 hf hk) (z_le_c rfl (z_le_c rfl (z_le_c rfl (z_le_c rfl (z_le_c rfl (z_le_n (z_le_n z_le_0)))))))
  · have hf := z_if_t hf c2
    cases hf
    exact z_vret hk rfl dX2_setLetters_7
theorem wX2_setLetters {G : z_G} {d : Nat} {a0 : Nat} {a1 : Nat} {x2 : Int32} {I : Nat → Nat → Int32} {R : Nat → Nat → Nat} {q : (Nat → Nat → Int32)} (hd : 2 ≤ d) (hf : fX2_setLetters a0 a1 x2 I R = some q) : z_M G d 0 0 eX2_setLetters [.ref a0, .ref a1, .int x2] z_SH (I, R) (z_E none (q, R)) :=
  y_M_of _ (by decide +kernel) rfl rfl rfl (vX2_setLetters hd hf ⟨rfl, rfl, rfl⟩)
def fX3_push (a0 : Nat) (x1 : Int32) (I : Nat → Nat → Int32) (R : Nat → Nat → Nat) : Option ((Nat → Nat → Int32)) :=
  z_g (z_ob a0 3) (if (32 : Int32) ≤ (I a0 9) then (some I) else (z_g (z_ok 1 (R a0 8) (I a0 9)) (z_l (z_u I (R a0 8) (I a0 9).toNatClampNeg x1) (fun I3 => z_l (z_u I3 a0 9 ((I3 a0 9) + (1 : Int32))) (fun I4 => some I4)))))
theorem vX3_push {G : z_G} {d : Nat} {Q : Option Value → z_S → z_H → Prop} {a0 : Nat} {x1 : Int32} {I : Nat → Nat → Int32} {R : Nat → Nat → Nat} {q : (Nat → Nat → Int32)} (hd : 0 ≤ d) (hf : fX3_push a0 x1 I R = some q) (hk : Q none z_SH (q, R)) : z_W G eX3_push d 0 0 0 [some (.ref a0), some (.int x1)] [] z_SH (I, R) Q := by
  unfold fX3_push at hf
  obtain ⟨g_a0, hf⟩ := z_g_el hf
  refine z_aload_n dX3_push_0 rfl rfl (z_okl g_a0) ?_
  refine y_getI lfX3_66 rfl g_a0 dX3_push_1 ?_
  refine z_bipush dX3_push_4 kb_32 ?_
  refine z_icmp_ge (tgt := 29) dX3_push_6 (by decide) (fun c1 => ?_) (fun c1 => ?_)
  · have hf := z_if_t hf c1
    cases hf
    exact z_vret hk rfl dX3_push_29
  · have hf := z_if_f hf c1
    refine z_aload_n dX3_push_9 rfl rfl (z_okl g_a0) ?_
    refine y_getR lfX3_28 rfl g_a0 dX3_push_10 ?_
    refine z_aload_n dX3_push_13 rfl rfl (z_okl g_a0) ?_
    refine y_getI lfX3_66 rfl g_a0 dX3_push_14 ?_
    refine z_iload_n dX3_push_17 rfl rfl ?_
    obtain ⟨g2, hf⟩ := z_g_el hf
    refine y_iast g2 dX3_push_18 (fun I3 eI3 => ?_)
    have hf := z_l_el hf eI3
    refine z_aload_n dX3_push_19 rfl rfl (z_okl g_a0) ?_
    refine z_dup dX3_push_20 rfl ?_
    refine y_getI lfX3_66 rfl g_a0 dX3_push_21 ?_
    refine z_iconst dX3_push_24 kc_1 ?_
    refine z_iadd dX3_push_25 ?_
    refine y_putI lfX3_66 rfl g_a0 rfl rfl rfl dX3_push_26 (fun I4 eI4 => ?_)
    have hf := z_l_el hf eI4
    cases hf
    exact z_vret hk rfl dX3_push_29
theorem wX3_push {G : z_G} {d : Nat} {a0 : Nat} {x1 : Int32} {I : Nat → Nat → Int32} {R : Nat → Nat → Nat} {q : (Nat → Nat → Int32)} (hd : 0 ≤ d) (hf : fX3_push a0 x1 I R = some q) : z_M G d 0 0 eX3_push [.ref a0, .int x1] z_SH (I, R) (z_E none (q, R)) :=
  y_M_of _ (by decide +kernel) rfl rfl rfl (vX3_push hd hf ⟨rfl, rfl, rfl⟩)
def fX3_combine_j266 (a0 : Nat) (v0 : Nat) (v1 : Int32) (v2 : Int32) (I : Nat → Nat → Int32) (R : Nat → Nat → Nat) : Option (Int32 × (Nat → Nat → Int32)) :=
  z_g (z_ob v0 3) (z_l (z_u I v0 9 (v1 - v2)) (fun I11 => some ((1 : Int32), I11)))
theorem wX3_combine_j266 {G : z_G} {d : Nat} {Q : Option Value → z_S → z_H → Prop} {a0 : Nat} {v0 : Nat} {v1 : Int32} {v2 : Int32} {I : Nat → Nat → Int32} {R : Nat → Nat → Nat} {o : Int32 × (Nat → Nat → Int32)} (hd : 0 ≤ d) (g_a0 : z_ob a0 3) (hf : fX3_combine_j266 a0 v0 v1 v2 I R = some o) (hk : Q (some (.int o.1)) z_SH (o.2, R)) : z_W G eX3_combine d 0 0 266 [none, none, none, none] [.int v2, .int v1, .ref v0] z_SH (I, R) Q := by
  unfold fX3_combine_j266 at hf
  refine z_isub dX3_combine_266 ?_
  obtain ⟨g10, hf⟩ := z_g_el hf
  refine y_putI lfX3_66 rfl g10 rfl rfl rfl dX3_combine_267 (fun I11 eI11 => ?_)
  have hf := z_l_el hf eI11
  refine z_iconst dX3_combine_270 kc_1 ?_
  cases hf
  exact z_iret hk ⟨_, rfl, rfl⟩ dX3_combine_271
def fX3_combine_j261 (a0 : Nat) (v0 : Nat) (v1 : Int32) (I : Nat → Nat → Int32) (R : Nat → Nat → Nat) : Option (Int32 × (Nat → Nat → Int32)) :=
  fX3_combine_j266 a0 v0 v1 (2 : Int32) I R
theorem wX3_combine_j261 {G : z_G} {d : Nat} {Q : Option Value → z_S → z_H → Prop} {a0 : Nat} {v0 : Nat} {v1 : Int32} {I : Nat → Nat → Int32} {R : Nat → Nat → Nat} {o : Int32 × (Nat → Nat → Int32)} (hd : 0 ≤ d) (g_a0 : z_ob a0 3) (hf : fX3_combine_j261 a0 v0 v1 I R = some o) (hk : Q (some (.int o.1)) z_SH (o.2, R)) : z_W G eX3_combine d 0 0 261 [none, none, none, none] [.int v1, .ref v0] z_SH (I, R) Q := by
  unfold fX3_combine_j261 at hf
  refine z_iconst dX3_combine_261 kc_2 ?_
  refine z_goto (tgt := 266) dX3_combine_262 (by decide) ?_
  exact y_sub (wX3_combine_j266 hd g_a0 hf hk) (z_le_n (z_le_n (z_le_n (z_le_n z_le_0))))
def fX3_combine_j238 (a0 : Nat) (y1 : Int32) (I : Nat → Nat → Int32) (R : Nat → Nat → Nat) : Option (Int32 × (Nat → Nat → Int32)) :=
  if y1 = (60 : Int32) then (fX3_combine_j261 a0 a0 (I a0 9) I R) else (if y1 = (62 : Int32) then (fX3_combine_j261 a0 a0 (I a0 9) I R) else (if y1 = (61 : Int32) then (fX3_combine_j261 a0 a0 (I a0 9) I R) else (fX3_combine_j266 a0 a0 (I a0 9) (1 : Int32) I R)))
theorem wX3_combine_j238 {G : z_G} {d : Nat} {Q : Option Value → z_S → z_H → Prop} {a0 : Nat} {y1 : Int32} {I : Nat → Nat → Int32} {R : Nat → Nat → Nat} {o : Int32 × (Nat → Nat → Int32)} (hd : 0 ≤ d) (g_a0 : z_ob a0 3) (hf : fX3_combine_j238 a0 y1 I R = some o) (hk : Q (some (.int o.1)) z_SH (o.2, R)) : z_W G eX3_combine d 0 0 238 [some (.ref a0), some (.int y1), none, none] [] z_SH (I, R) Q := by
  unfold fX3_combine_j238 at hf
  refine z_aload_n dX3_combine_238 rfl rfl (z_okl g_a0) ?_
  refine z_dup dX3_combine_239 rfl ?_
  refine y_getI lfX3_66 rfl g_a0 dX3_combine_240 ?_
  refine z_iload_n dX3_combine_243 rfl rfl ?_
  refine z_bipush dX3_combine_244 kb_60 ?_
  refine z_icmp_eq (tgt := 261) dX3_combine_246 (by decide) (fun c9 => ?_) (fun c9 => ?_)
  · have hf := z_if_t hf c9
    exact y_sub (wX3_combine_j261 hd g_a0 hf hk) (z_le_n (z_le_n (z_le_n (z_le_n z_le_0))))
  · have hf := z_if_f hf c9
    refine z_iload_n dX3_combine_249 rfl rfl ?_
    refine z_bipush dX3_combine_250 kb_62 ?_
    refine z_icmp_eq (tgt := 261) dX3_combine_252 (by decide) (fun c12 => ?_) (fun c12 => ?_)
    · have hf := z_if_t hf c12
      exact y_sub (wX3_combine_j261 hd g_a0 hf hk) (z_le_n (z_le_n (z_le_n (z_le_n z_le_0))))
    · have hf := z_if_f hf c12
      refine z_iload_n dX3_combine_255 rfl rfl ?_
      refine z_bipush dX3_combine_256 kb_61 ?_
      refine z_icmp_ne (tgt := 265) dX3_combine_258 (by decide) (fun c13 => ?_) (fun c13 => ?_)
      · have hf := z_if_f hf c13
        refine z_iconst dX3_combine_265 kc_1 ?_
        exact y_sub (wX3_combine_j266 hd g_a0 hf hk) (z_le_n (z_le_n (z_le_n (z_le_n z_le_0))))
      · have hf := z_if_t hf c13
        exact y_sub (wX3_combine_j261 hd g_a0 hf hk) (z_le_n (z_le_n (z_le_n (z_le_n z_le_0))))
def fX3_combine_j115 (a0 : Nat) (y1 : Int32) (v0 : Nat) (v1 : Int32) (I : Nat → Nat → Int32) (R : Nat → Nat → Nat) : Option (Int32 × (Nat → Nat → Int32)) :=
  z_g (z_ob v0 3) (z_g (v1 = 0 ∨ v1 = 1) (z_l (z_u I v0 10 v1) (fun I22 => fX3_combine_j238 a0 y1 I22 R)))
theorem wX3_combine_j115 {G : z_G} {d : Nat} {Q : Option Value → z_S → z_H → Prop} {a0 : Nat} {y1 : Int32} {v0 : Nat} {v1 : Int32} {I : Nat → Nat → Int32} {R : Nat → Nat → Nat} {o : Int32 × (Nat → Nat → Int32)} (hd : 0 ≤ d) (g_a0 : z_ob a0 3) (hf : fX3_combine_j115 a0 y1 v0 v1 I R = some o) (hk : Q (some (.int o.1)) z_SH (o.2, R)) : z_W G eX3_combine d 0 0 115 [some (.ref a0), some (.int y1), none, none] [.int v1, .ref v0] z_SH (I, R) Q := by
  unfold fX3_combine_j115 at hf
  obtain ⟨g20, hf⟩ := z_g_el hf
  obtain ⟨g21, hf⟩ := z_g_el hf
  refine y_putI lfX3_46 rfl g20 rfl (z_bn g21) (z_bf g21) dX3_combine_115 (fun I22 eI22 => ?_)
  have hf := z_l_el hf eI22
  refine z_goto (tgt := 238) dX3_combine_118 (by decide) ?_
  exact y_sub (wX3_combine_j238 hd g_a0 hf hk) (z_le_c rfl (z_le_c rfl (z_le_n (z_le_n z_le_0))))
def fX3_combine_j149 (a0 : Nat) (y1 : Int32) (v0 : Nat) (v1 : Int32) (I : Nat → Nat → Int32) (R : Nat → Nat → Nat) : Option (Int32 × (Nat → Nat → Int32)) :=
  z_g (z_ob v0 3) (z_g (v1 = 0 ∨ v1 = 1) (z_l (z_u I v0 10 v1) (fun I27 => fX3_combine_j238 a0 y1 I27 R)))
theorem wX3_combine_j149 {G : z_G} {d : Nat} {Q : Option Value → z_S → z_H → Prop} {a0 : Nat} {y1 : Int32} {v0 : Nat} {v1 : Int32} {I : Nat → Nat → Int32} {R : Nat → Nat → Nat} {o : Int32 × (Nat → Nat → Int32)} (hd : 0 ≤ d) (g_a0 : z_ob a0 3) (hf : fX3_combine_j149 a0 y1 v0 v1 I R = some o) (hk : Q (some (.int o.1)) z_SH (o.2, R)) : z_W G eX3_combine d 0 0 149 [some (.ref a0), some (.int y1), none, none] [.int v1, .ref v0] z_SH (I, R) Q := by
  unfold fX3_combine_j149 at hf
  obtain ⟨g25, hf⟩ := z_g_el hf
  obtain ⟨g26, hf⟩ := z_g_el hf
  refine y_putI lfX3_46 rfl g25 rfl (z_bn g26) (z_bf g26) dX3_combine_149 (fun I27 eI27 => ?_)
  have hf := z_l_el hf eI27
  refine z_goto (tgt := 238) dX3_combine_152 (by decide) ?_
  exact y_sub (wX3_combine_j238 hd g_a0 hf hk) (z_le_c rfl (z_le_c rfl (z_le_n (z_le_n z_le_0))))
def fX3_combine_j132 (a0 : Nat) (y1 : Int32) (v0 : Nat) (v1 : Int32) (I : Nat → Nat → Int32) (R : Nat → Nat → Nat) : Option (Int32 × (Nat → Nat → Int32)) :=
  z_g (z_ob v0 3) (z_g (v1 = 0 ∨ v1 = 1) (z_l (z_u I v0 10 v1) (fun I32 => fX3_combine_j238 a0 y1 I32 R)))
theorem wX3_combine_j132 {G : z_G} {d : Nat} {Q : Option Value → z_S → z_H → Prop} {a0 : Nat} {y1 : Int32} {v0 : Nat} {v1 : Int32} {I : Nat → Nat → Int32} {R : Nat → Nat → Nat} {o : Int32 × (Nat → Nat → Int32)} (hd : 0 ≤ d) (g_a0 : z_ob a0 3) (hf : fX3_combine_j132 a0 y1 v0 v1 I R = some o) (hk : Q (some (.int o.1)) z_SH (o.2, R)) : z_W G eX3_combine d 0 0 132 [some (.ref a0), some (.int y1), none, none] [.int v1, .ref v0] z_SH (I, R) Q := by
  unfold fX3_combine_j132 at hf
  obtain ⟨g30, hf⟩ := z_g_el hf
  obtain ⟨g31, hf⟩ := z_g_el hf
  refine y_putI lfX3_46 rfl g30 rfl (z_bn g31) (z_bf g31) dX3_combine_132 (fun I32 eI32 => ?_)
  have hf := z_l_el hf eI32
  refine z_goto (tgt := 238) dX3_combine_135 (by decide) ?_
  exact y_sub (wX3_combine_j238 hd g_a0 hf hk) (z_le_c rfl (z_le_c rfl (z_le_n (z_le_n z_le_0))))
def fX3_combine_j237 (a0 : Nat) (y1 : Int32) (v0 : Nat) (v1 : Int32) (v2 : Int32) (I : Nat → Nat → Int32) (R : Nat → Nat → Nat) : Option (Int32 × (Nat → Nat → Int32)) :=
  z_g (z_ok 1 v0 v1) (z_l (z_u I v0 v1.toNatClampNeg v2) (fun I37 => fX3_combine_j238 a0 y1 I37 R))
theorem wX3_combine_j237 {G : z_G} {d : Nat} {Q : Option Value → z_S → z_H → Prop} {a0 : Nat} {y1 : Int32} {v0 : Nat} {v1 : Int32} {v2 : Int32} {I : Nat → Nat → Int32} {R : Nat → Nat → Nat} {o : Int32 × (Nat → Nat → Int32)} (hd : 0 ≤ d) (g_a0 : z_ob a0 3) (hf : fX3_combine_j237 a0 y1 v0 v1 v2 I R = some o) (hk : Q (some (.int o.1)) z_SH (o.2, R)) : z_W G eX3_combine d 0 0 237 [some (.ref a0), some (.int y1), none, none] [.int v2, .int v1, .ref v0] z_SH (I, R) Q := by
  unfold fX3_combine_j237 at hf
  obtain ⟨g36, hf⟩ := z_g_el hf
  refine y_iast g36 dX3_combine_237 (fun I37 eI37 => ?_)
  have hf := z_l_el hf eI37
  exact y_sub (wX3_combine_j238 hd g_a0 hf hk) (z_le_c rfl (z_le_c rfl (z_le_n (z_le_n z_le_0))))
def fX3_combine (a0 : Nat) (x1 : Int32) (I : Nat → Nat → Int32) (R : Nat → Nat → Nat) : Option (Int32 × (Nat → Nat → Int32)) :=
  z_g (z_ob a0 3) (if (I a0 9) < (2 : Int32) then (some ((0 : Int32), I)) else (if (I a0 9) ≤ (32 : Int32) then (z_g (z_ok 1 (R a0 8) ((I a0 9) - (2 : Int32))) (z_l (I (R a0 8) ((I a0 9) - (2 : Int32)).toNatClampNeg) (fun t4 => z_g (z_ok 1 (R a0 8) ((I a0 9) - (1 : Int32))) (z_l (I (R a0 8) ((I a0 9) - (1 : Int32)).toNatClampNeg) (fun t6 => if x1 = (42 : Int32) then (z_l (z_u I (R a0 8) ((I a0 9) - (2 : Int32)).toNatClampNeg (t4 * t6)) (fun I8 => fX3_combine_j238 a0 x1 I8 R)) else (if x1 = (43 : Int32) then (z_l (z_u I (R a0 8) ((I a0 9) - (2 : Int32)).toNatClampNeg (t4 + t6)) (fun I15 => fX3_combine_j238 a0 x1 I15 R)) else (if x1 = (45 : Int32) then (z_l (z_u I (R a0 8) ((I a0 9) - (2 : Int32)).toNatClampNeg (t4 - t6)) (fun I17 => fX3_combine_j238 a0 x1 I17 R)) else (if x1 = (60 : Int32) then (if t6 ≤ t4 then (fX3_combine_j115 a0 x1 a0 (0 : Int32) I R) else (fX3_combine_j115 a0 x1 a0 (1 : Int32) I R)) else (if x1 = (61 : Int32) then (if t4 = t6 then (fX3_combine_j149 a0 x1 a0 (1 : Int32) I R) else (fX3_combine_j149 a0 x1 a0 (0 : Int32) I R)) else (if x1 = (62 : Int32) then (if t4 ≤ t6 then (fX3_combine_j132 a0 x1 a0 (0 : Int32) I R) else (fX3_combine_j132 a0 x1 a0 (1 : Int32) I R)) else (if t6 = 0 then (some ((0 : Int32), I)) else (if x1 = (47 : Int32) then (z_g (¬ t6 = 0) (fX3_combine_j237 a0 x1 (R a0 8) ((I a0 9) - (2 : Int32)) (t4 / t6) I R)) else (z_g (¬ t6 = 0) (fX3_combine_j237 a0 x1 (R a0 8) ((I a0 9) - (2 : Int32)) (z_rem t4 t6) I R)))))))))))))) else (some ((0 : Int32), I))))
set_option maxRecDepth 20000 in
theorem vX3_combine {G : z_G} {d : Nat} {Q : Option Value → z_S → z_H → Prop} {a0 : Nat} {x1 : Int32} {I : Nat → Nat → Int32} {R : Nat → Nat → Nat} {q : Int32 × (Nat → Nat → Int32)} (hd : 0 ≤ d) (hf : fX3_combine a0 x1 I R = some q) (hk : Q (some (.int q.1)) z_SH (q.2, R)) : z_W G eX3_combine d 0 0 0 [some (.ref a0), some (.int x1), none, none] [] z_SH (I, R) Q := by
  unfold fX3_combine at hf
  obtain ⟨g_a0, hf⟩ := z_g_el hf
  refine z_aload_n dX3_combine_0 rfl rfl (z_okl g_a0) ?_
  refine y_getI lfX3_66 rfl g_a0 dX3_combine_1 ?_
  refine z_iconst dX3_combine_4 kc_2 ?_
  refine z_icmp_lt (tgt := 17) dX3_combine_5 (by decide) (fun c1 => ?_) (fun c1 => ?_)
  · have hf := z_if_t hf c1
    refine z_iconst dX3_combine_17 kc_0 ?_
    cases hf
    exact z_iret hk ⟨_, rfl, rfl⟩ dX3_combine_18
  · have hf := z_if_f hf c1
    refine z_aload_n dX3_combine_8 rfl rfl (z_okl g_a0) ?_
    refine y_getI lfX3_66 rfl g_a0 dX3_combine_9 ?_
    refine z_bipush dX3_combine_12 kb_32 ?_
    refine z_icmp_le (tgt := 19) dX3_combine_14 (by decide) (fun c2 => ?_) (fun c2 => ?_)
    · have hf := z_if_t hf c2
      refine z_aload_n dX3_combine_19 rfl rfl (z_okl g_a0) ?_
      refine y_getR lfX3_28 rfl g_a0 dX3_combine_20 ?_
      refine z_aload_n dX3_combine_23 rfl rfl (z_okl g_a0) ?_
      refine y_getI lfX3_66 rfl g_a0 dX3_combine_24 ?_
      refine z_iconst dX3_combine_27 kc_2 ?_
      refine z_isub dX3_combine_28 ?_
      obtain ⟨g3, hf⟩ := z_g_el hf
      refine y_iald g3 dX3_combine_29 ?_
      refine y_istore_n (fun t4 => [some (.ref a0), some (.int x1), some (.int t4), none]) dX3_combine_30 rfl (by decide) (fun _ => rfl) (fun t4 et4 => ?_)
      have hf := z_l_el hf et4
      refine z_aload_n dX3_combine_31 rfl rfl (z_okl g_a0) ?_
      refine y_getR lfX3_28 rfl g_a0 dX3_combine_32 ?_
      refine z_aload_n dX3_combine_35 rfl rfl (z_okl g_a0) ?_
      refine y_getI lfX3_66 rfl g_a0 dX3_combine_36 ?_
      refine z_iconst dX3_combine_39 kc_1 ?_
      refine z_isub dX3_combine_40 ?_
      obtain ⟨g5, hf⟩ := z_g_el hf
      refine y_iald g5 dX3_combine_41 ?_
      refine y_istore_n (fun t6 => [some (.ref a0), some (.int x1), some (.int t4), some (.int t6)]) dX3_combine_42 rfl (by decide) (fun _ => rfl) (fun t6 et6 => ?_)
      have hf := z_l_el hf et6
      refine z_iload_n dX3_combine_43 rfl rfl ?_
      by_cases c7 : x1 = (42 : Int32)
      · have hf := z_if_t hf c7
        refine z_look (off := 145) (tgt := 189) dX3_combine_44 (by decide) (by rw [c7]; rfl) (by decide) ?_
        refine z_aload_n dX3_combine_189 rfl rfl (z_okl g_a0) ?_
        refine y_getR lfX3_28 rfl g_a0 dX3_combine_190 ?_
        refine z_aload_n dX3_combine_193 rfl rfl (z_okl g_a0) ?_
        refine y_getI lfX3_66 rfl g_a0 dX3_combine_194 ?_
        refine z_iconst dX3_combine_197 kc_2 ?_
        refine z_isub dX3_combine_198 ?_
        refine z_iload_n dX3_combine_199 rfl rfl ?_
        refine z_iload_n dX3_combine_200 rfl rfl ?_
        refine z_imul dX3_combine_201 ?_
        refine y_iast g3 dX3_combine_202 (fun I8 eI8 => ?_)
        have hf := z_l_el hf eI8
        refine z_goto (tgt := 238) dX3_combine_203 (by decide) ?_
        exact y_sub (wX3_combine_j238 hd g_a0 hf hk) (z_le_c rfl (z_le_c rfl (z_le_n (z_le_n z_le_0))))
      · have hf := z_if_f hf c7
        by_cases c14 : x1 = (43 : Int32)
        · have hf := z_if_t hf c14
          refine z_look (off := 111) (tgt := 155) dX3_combine_44 (by decide) (by rw [c14]; rfl) (by decide) ?_
          refine z_aload_n dX3_combine_155 rfl rfl (z_okl g_a0) ?_
          refine y_getR lfX3_28 rfl g_a0 dX3_combine_156 ?_
          refine z_aload_n dX3_combine_159 rfl rfl (z_okl g_a0) ?_
          refine y_getI lfX3_66 rfl g_a0 dX3_combine_160 ?_
          refine z_iconst dX3_combine_163 kc_2 ?_
          refine z_isub dX3_combine_164 ?_
          refine z_iload_n dX3_combine_165 rfl rfl ?_
          refine z_iload_n dX3_combine_166 rfl rfl ?_
          refine z_iadd dX3_combine_167 ?_
          refine y_iast g3 dX3_combine_168 (fun I15 eI15 => ?_)
          have hf := z_l_el hf eI15
          refine z_goto (tgt := 238) dX3_combine_169 (by decide) ?_
          exact y_sub (wX3_combine_j238 hd g_a0 hf hk) (z_le_c rfl (z_le_c rfl (z_le_n (z_le_n z_le_0))))
        · have hf := z_if_f hf c14
          by_cases c16 : x1 = (45 : Int32)
          · have hf := z_if_t hf c16
            refine z_look (off := 128) (tgt := 172) dX3_combine_44 (by decide) (by rw [c16]; rfl) (by decide) ?_
            refine z_aload_n dX3_combine_172 rfl rfl (z_okl g_a0) ?_
            refine y_getR lfX3_28 rfl g_a0 dX3_combine_173 ?_
            refine z_aload_n dX3_combine_176 rfl rfl (z_okl g_a0) ?_
            refine y_getI lfX3_66 rfl g_a0 dX3_combine_177 ?_
            refine z_iconst dX3_combine_180 kc_2 ?_
            refine z_isub dX3_combine_181 ?_
            refine z_iload_n dX3_combine_182 rfl rfl ?_
            refine z_iload_n dX3_combine_183 rfl rfl ?_
            refine z_isub dX3_combine_184 ?_
            refine y_iast g3 dX3_combine_185 (fun I17 eI17 => ?_)
            have hf := z_l_el hf eI17
            refine z_goto (tgt := 238) dX3_combine_186 (by decide) ?_
            exact y_sub (wX3_combine_j238 hd g_a0 hf hk) (z_le_c rfl (z_le_c rfl (z_le_n (z_le_n z_le_0))))
          · have hf := z_if_f hf c16
            by_cases c18 : x1 = (60 : Int32)
            · have hf := z_if_t hf c18
              refine z_look (off := 60) (tgt := 104) dX3_combine_44 (by decide) (by rw [c18]; rfl) (by decide) ?_
              refine z_aload_n dX3_combine_104 rfl rfl (z_okl g_a0) ?_
              refine z_iload_n dX3_combine_105 rfl rfl ?_
              refine z_iload_n dX3_combine_106 rfl rfl ?_
              refine z_icmp_ge (tgt := 114) dX3_combine_107 (by decide) (fun c19 => ?_) (fun c19 => ?_)
              · have hf := z_if_t hf c19
                refine z_iconst dX3_combine_114 kc_0 ?_
                exact y_sub (wX3_combine_j115 hd g_a0 hf hk) (z_le_c rfl (z_le_c rfl (z_le_n (z_le_n z_le_0))))
              · have hf := z_if_f hf c19
                refine z_iconst dX3_combine_110 kc_1 ?_
                refine z_goto (tgt := 115) dX3_combine_111 (by decide) ?_
                exact y_sub (wX3_combine_j115 hd g_a0 hf hk) (z_le_c rfl (z_le_c rfl (z_le_n (z_le_n z_le_0))))
            · have hf := z_if_f hf c18
              by_cases c23 : x1 = (61 : Int32)
              · have hf := z_if_t hf c23
                refine z_look (off := 94) (tgt := 138) dX3_combine_44 (by decide) (by rw [c23]; rfl) (by decide) ?_
                refine z_aload_n dX3_combine_138 rfl rfl (z_okl g_a0) ?_
                refine z_iload_n dX3_combine_139 rfl rfl ?_
                refine z_iload_n dX3_combine_140 rfl rfl ?_
                refine z_icmp_ne (tgt := 148) dX3_combine_141 (by decide) (fun c24 => ?_) (fun c24 => ?_)
                · have hf := z_if_f hf c24
                  refine z_iconst dX3_combine_148 kc_0 ?_
                  exact y_sub (wX3_combine_j149 hd g_a0 hf hk) (z_le_c rfl (z_le_c rfl (z_le_n (z_le_n z_le_0))))
                · have hf := z_if_t hf c24
                  refine z_iconst dX3_combine_144 kc_1 ?_
                  refine z_goto (tgt := 149) dX3_combine_145 (by decide) ?_
                  exact y_sub (wX3_combine_j149 hd g_a0 hf hk) (z_le_c rfl (z_le_c rfl (z_le_n (z_le_n z_le_0))))
              · have hf := z_if_f hf c23
                by_cases c28 : x1 = (62 : Int32)
                · have hf := z_if_t hf c28
                  refine z_look (off := 77) (tgt := 121) dX3_combine_44 (by decide) (by rw [c28]; rfl) (by decide) ?_
                  refine z_aload_n dX3_combine_121 rfl rfl (z_okl g_a0) ?_
                  refine z_iload_n dX3_combine_122 rfl rfl ?_
                  refine z_iload_n dX3_combine_123 rfl rfl ?_
                  refine z_icmp_le (tgt := 131) dX3_combine_124 (by decide) (fun c29 => ?_) (fun c29 => ?_)
                  · have hf := z_if_t hf c29
                    refine z_iconst dX3_combine_131 kc_0 ?_
                    exact y_sub (wX3_combine_j132 hd g_a0 hf hk) (z_le_c rfl (z_le_c rfl (z_le_n (z_le_n z_le_0))))
                  · have hf := z_if_f hf c29
                    refine z_iconst dX3_combine_127 kc_1 ?_
                    refine z_goto (tgt := 132) dX3_combine_128 (by decide) ?_
                    exact y_sub (wX3_combine_j132 hd g_a0 hf hk) (z_le_c rfl (z_le_c rfl (z_le_n (z_le_n z_le_0))))
                · have hf := z_if_f hf c28
                  have nc7 : ¬ (x1).toInt = 42 := z_toInt_ne c7
                  have nc14 : ¬ (x1).toInt = 43 := z_toInt_ne c14
                  have nc16 : ¬ (x1).toInt = 45 := z_toInt_ne c16
                  have nc18 : ¬ (x1).toInt = 60 := z_toInt_ne c18
                  have nc23 : ¬ (x1).toInt = 61 := z_toInt_ne c23
                  have nc28 : ¬ (x1).toInt = 62 := z_toInt_ne c28
                  refine z_look (off := 162) (tgt := 206) dX3_combine_44 (by decide) (by simp [Op.lookupswitch.offset, Ne.symm nc7, nc7, Ne.symm nc14, nc14, Ne.symm nc16, nc16, Ne.symm nc18, nc18, Ne.symm nc23, nc23, Ne.symm nc28, nc28]) (by decide) ?_
                  refine z_iload_n dX3_combine_206 rfl rfl ?_
                  refine z_if_ne (tgt := 212) dX3_combine_207 (by decide) (fun c33 => ?_) (fun c33 => ?_)
                  · have hf := z_if_f hf c33
                    refine z_aload_n dX3_combine_212 rfl rfl (z_okl g_a0) ?_
                    refine y_getR lfX3_28 rfl g_a0 dX3_combine_213 ?_
                    refine z_aload_n dX3_combine_216 rfl rfl (z_okl g_a0) ?_
                    refine y_getI lfX3_66 rfl g_a0 dX3_combine_217 ?_
                    refine z_iconst dX3_combine_220 kc_2 ?_
                    refine z_isub dX3_combine_221 ?_
                    refine z_iload_n dX3_combine_222 rfl rfl ?_
                    refine z_bipush dX3_combine_223 kb_47 ?_
                    refine z_icmp_ne (tgt := 234) dX3_combine_225 (by decide) (fun c34 => ?_) (fun c34 => ?_)
                    · have hf := z_if_f hf c34
                      refine z_iload_n dX3_combine_234 rfl rfl ?_
                      refine z_iload_n dX3_combine_235 rfl rfl ?_
                      obtain ⟨g35, hf⟩ := z_g_el hf
                      refine y_irem dX3_combine_236 g35 ?_
                      exact y_sub (wX3_combine_j237 hd g_a0 hf hk) (z_le_c rfl (z_le_c rfl (z_le_n (z_le_n z_le_0))))
                    · have hf := z_if_t hf c34
                      refine z_iload_n dX3_combine_228 rfl rfl ?_
                      refine z_iload_n dX3_combine_229 rfl rfl ?_
                      obtain ⟨g38, hf⟩ := z_g_el hf
                      refine z_idiv dX3_combine_230 g38 ?_
                      refine z_goto (tgt := 237) dX3_combine_231 (by decide) ?_
                      exact y_sub (wX3_combine_j237 hd g_a0 hf hk) (z_le_c rfl (z_le_c rfl (z_le_n (z_le_n z_le_0))))
                  · have hf := z_if_t hf c33
                    refine z_iconst dX3_combine_210 kc_0 ?_
                    cases hf
                    exact z_iret hk ⟨_, rfl, rfl⟩ dX3_combine_211
    · have hf := z_if_f hf c2
      refine z_iconst dX3_combine_17 kc_0 ?_
      cases hf
      exact z_iret hk ⟨_, rfl, rfl⟩ dX3_combine_18
theorem wX3_combine {G : z_G} {d : Nat} {a0 : Nat} {x1 : Int32} {I : Nat → Nat → Int32} {R : Nat → Nat → Nat} {q : Int32 × (Nat → Nat → Int32)} (hd : 0 ≤ d) (hf : fX3_combine a0 x1 I R = some q) : z_M G d 0 0 eX3_combine [.ref a0, .int x1] z_SH (I, R) (z_E (some (.int q.1)) (q.2, R)) :=
  y_M_of _ (by decide +kernel) rfl rfl rfl (vX3_combine hd hf ⟨rfl, rfl, rfl⟩)
def fX3_reckon_j209_16 (a0 : Nat) (a3 : Nat) (z2 : Int32) (y5 : Int32) (y7 : Int32) (I : Nat → Nat → Int32) (R : Nat → Nat → Nat) : Option ((Int32 × Int32 × (Nat → Nat → Int32)) ⊕ ((Int32 × (Nat → Nat → Int32)) ⊕ ((Nat → Nat → Int32)))) :=
  z_l (y5 + (1 : Int32)) (fun t13 => some (.inl (y7, t13, I)))
theorem wX3_reckon_j209_16 {G : z_G} {d : Nat} {Q : Option Value → z_S → z_H → Prop} {a0 : Nat} {a3 : Nat} {z2 : Int32} {y5 : Int32} {y7 : Int32} {I : Nat → Nat → Int32} {R : Nat → Nat → Nat} {o : (Int32 × Int32 × (Nat → Nat → Int32)) ⊕ ((Int32 × (Nat → Nat → Int32)) ⊕ ((Nat → Nat → Int32)))} (hd : 1 ≤ d) (g_a0 : z_ob a0 3) (g_a3 : z_ar a3) (hf : fX3_reckon_j209_16 a0 a3 z2 y5 y7 I R = some o) (hk : z_or (fun s : Int32 × Int32 × (Nat → Nat → Int32) => z_W G eX3_reckon d 0 0 16 [some (.ref a0), none, some (.int z2), some (.ref a3), some (.int s.1), some (.int s.2.1), none, none] [] z_SH (s.2.2, R) Q) (z_or (fun r : Int32 × (Nat → Nat → Int32) => Q (some (.int r.1)) z_SH (r.2, R)) (fun x : (Nat → Nat → Int32) => z_W G eX3_reckon d 0 0 219 [none, none, none, none, none, none, none, none] [] z_SH (x, R) Q)) o) : z_W G eX3_reckon d 0 0 209 [some (.ref a0), none, some (.int z2), some (.ref a3), none, some (.int y5), none, some (.int y7)] [] z_SH (I, R) Q := by
  unfold fX3_reckon_j209_16 at hf
  refine z_iload dX3_reckon_209 rfl ?_
  refine y_istore0 [some (.ref a0), none, some (.int z2), some (.ref a3), some (.int y7), some (.int y5), none, some (.int y7)] dX3_reckon_211 (by decide) rfl ?_
  refine y_iinc (fun t13 => [some (.ref a0), none, some (.int z2), some (.ref a3), some (.int y7), some (.int t13), none, some (.int y7)]) dX3_reckon_213 rfl kc_1 (by decide) (fun _ => rfl) (fun t13 et13 => ?_)
  have hf := z_l_el hf et13
  refine z_goto (tgt := 16) dX3_reckon_216 (by decide) ?_
  cases hf
  exact y_sub hk (z_le_c rfl (z_le_n (z_le_c rfl (z_le_c rfl (z_le_c rfl (z_le_c rfl (z_le_n (z_le_n z_le_0))))))))
def fX3_reckon_j130_16 (a0 : Nat) (a3 : Nat) (z2 : Int32) (y5 : Int32) (y7 : Int32) (v0 : Nat) (v1 : Int32) (I : Nat → Nat → Int32) (R : Nat → Nat → Nat) : Option ((Int32 × Int32 × (Nat → Nat → Int32)) ⊕ ((Int32 × (Nat → Nat → Int32)) ⊕ ((Nat → Nat → Int32)))) :=
  z_g (z_ob v0 3) (z_b (fX3_push v0 v1 I R) (fun q16 => fX3_reckon_j209_16 a0 a3 z2 y5 y7 q16 R))
theorem wX3_reckon_j130_16 {G : z_G} {d : Nat} {Q : Option Value → z_S → z_H → Prop} {a0 : Nat} {a3 : Nat} {z2 : Int32} {y5 : Int32} {y7 : Int32} {v0 : Nat} {v1 : Int32} {I : Nat → Nat → Int32} {R : Nat → Nat → Nat} {o : (Int32 × Int32 × (Nat → Nat → Int32)) ⊕ ((Int32 × (Nat → Nat → Int32)) ⊕ ((Nat → Nat → Int32)))} (hd : 1 ≤ d) (g_a0 : z_ob a0 3) (g_a3 : z_ar a3) (hf : fX3_reckon_j130_16 a0 a3 z2 y5 y7 v0 v1 I R = some o) (hk : z_or (fun s : Int32 × Int32 × (Nat → Nat → Int32) => z_W G eX3_reckon d 0 0 16 [some (.ref a0), none, some (.int z2), some (.ref a3), some (.int s.1), some (.int s.2.1), none, none] [] z_SH (s.2.2, R) Q) (z_or (fun r : Int32 × (Nat → Nat → Int32) => Q (some (.int r.1)) z_SH (r.2, R)) (fun x : (Nat → Nat → Int32) => z_W G eX3_reckon d 0 0 219 [none, none, none, none, none, none, none, none] [] z_SH (x, R) Q)) o) : z_W G eX3_reckon d 0 0 130 [some (.ref a0), none, some (.int z2), some (.ref a3), none, some (.int y5), none, some (.int y7)] [.int v1, .ref v0] z_SH (I, R) Q := by
  unfold fX3_reckon_j130_16 at hf
  obtain ⟨g17, hf⟩ := z_g_el hf
  obtain ⟨q16, hq16, hf⟩ := z_b_el hf
  refine y_cVv (av := [.int v1]) (Nat.le_trans (Nat.le_of_ble_eq_true rfl) hd) (wX3_push (z_dl rfl hd) hq16) oX3_push lmX3_69 iX3_push g17 rfl _ rfl rfl (Nat.le_of_ble_eq_true rfl) dX3_reckon_130 ?_
  refine z_goto (tgt := 209) dX3_reckon_133 (by decide) ?_
  exact y_sub (wX3_reckon_j209_16 hd g_a0 g_a3 hf hk) (z_le_c rfl (z_le_n (z_le_c rfl (z_le_c rfl (z_le_n (z_le_c rfl (z_le_n (z_le_c rfl z_le_0))))))))
def fX3_reckon_j129_16 (a0 : Nat) (a3 : Nat) (z2 : Int32) (y5 : Int32) (y7 : Int32) (v0 : Nat) (I : Nat → Nat → Int32) (R : Nat → Nat → Nat) : Option ((Int32 × Int32 × (Nat → Nat → Int32)) ⊕ ((Int32 × (Nat → Nat → Int32)) ⊕ ((Nat → Nat → Int32)))) :=
  fX3_reckon_j130_16 a0 a3 z2 y5 y7 v0 (0 : Int32) I R
theorem wX3_reckon_j129_16 {G : z_G} {d : Nat} {Q : Option Value → z_S → z_H → Prop} {a0 : Nat} {a3 : Nat} {z2 : Int32} {y5 : Int32} {y7 : Int32} {v0 : Nat} {I : Nat → Nat → Int32} {R : Nat → Nat → Nat} {o : (Int32 × Int32 × (Nat → Nat → Int32)) ⊕ ((Int32 × (Nat → Nat → Int32)) ⊕ ((Nat → Nat → Int32)))} (hd : 1 ≤ d) (g_a0 : z_ob a0 3) (g_a3 : z_ar a3) (hf : fX3_reckon_j129_16 a0 a3 z2 y5 y7 v0 I R = some o) (hk : z_or (fun s : Int32 × Int32 × (Nat → Nat → Int32) => z_W G eX3_reckon d 0 0 16 [some (.ref a0), none, some (.int z2), some (.ref a3), some (.int s.1), some (.int s.2.1), none, none] [] z_SH (s.2.2, R) Q) (z_or (fun r : Int32 × (Nat → Nat → Int32) => Q (some (.int r.1)) z_SH (r.2, R)) (fun x : (Nat → Nat → Int32) => z_W G eX3_reckon d 0 0 219 [none, none, none, none, none, none, none, none] [] z_SH (x, R) Q)) o) : z_W G eX3_reckon d 0 0 129 [some (.ref a0), none, some (.int z2), some (.ref a3), none, some (.int y5), none, some (.int y7)] [.ref v0] z_SH (I, R) Q := by
  unfold fX3_reckon_j129_16 at hf
  refine z_iconst dX3_reckon_129 kc_0 ?_
  exact y_sub (wX3_reckon_j130_16 hd g_a0 g_a3 hf hk) (z_le_c rfl (z_le_n (z_le_c rfl (z_le_c rfl (z_le_n (z_le_c rfl (z_le_n (z_le_c rfl z_le_0))))))))
def fX3_reckon_j149_16 (a0 : Nat) (a3 : Nat) (z2 : Int32) (y5 : Int32) (y7 : Int32) (v0 : Nat) (v1 : Int32) (I : Nat → Nat → Int32) (R : Nat → Nat → Nat) : Option ((Int32 × Int32 × (Nat → Nat → Int32)) ⊕ ((Int32 × (Nat → Nat → Int32)) ⊕ ((Nat → Nat → Int32)))) :=
  z_g (z_ob v0 3) (z_g (v1 = 0 ∨ v1 = 1) (z_l (z_u I v0 10 v1) (fun I24 => fX3_reckon_j209_16 a0 a3 z2 y5 y7 I24 R)))
theorem wX3_reckon_j149_16 {G : z_G} {d : Nat} {Q : Option Value → z_S → z_H → Prop} {a0 : Nat} {a3 : Nat} {z2 : Int32} {y5 : Int32} {y7 : Int32} {v0 : Nat} {v1 : Int32} {I : Nat → Nat → Int32} {R : Nat → Nat → Nat} {o : (Int32 × Int32 × (Nat → Nat → Int32)) ⊕ ((Int32 × (Nat → Nat → Int32)) ⊕ ((Nat → Nat → Int32)))} (hd : 1 ≤ d) (g_a0 : z_ob a0 3) (g_a3 : z_ar a3) (hf : fX3_reckon_j149_16 a0 a3 z2 y5 y7 v0 v1 I R = some o) (hk : z_or (fun s : Int32 × Int32 × (Nat → Nat → Int32) => z_W G eX3_reckon d 0 0 16 [some (.ref a0), none, some (.int z2), some (.ref a3), some (.int s.1), some (.int s.2.1), none, none] [] z_SH (s.2.2, R) Q) (z_or (fun r : Int32 × (Nat → Nat → Int32) => Q (some (.int r.1)) z_SH (r.2, R)) (fun x : (Nat → Nat → Int32) => z_W G eX3_reckon d 0 0 219 [none, none, none, none, none, none, none, none] [] z_SH (x, R) Q)) o) : z_W G eX3_reckon d 0 0 149 [some (.ref a0), none, some (.int z2), some (.ref a3), none, some (.int y5), none, some (.int y7)] [.int v1, .ref v0] z_SH (I, R) Q := by
  unfold fX3_reckon_j149_16 at hf
  obtain ⟨g22, hf⟩ := z_g_el hf
  obtain ⟨g23, hf⟩ := z_g_el hf
  refine y_putI lfX3_46 rfl g22 rfl (z_bn g23) (z_bf g23) dX3_reckon_149 (fun I24 eI24 => ?_)
  have hf := z_l_el hf eI24
  refine z_goto (tgt := 209) dX3_reckon_152 (by decide) ?_
  exact y_sub (wX3_reckon_j209_16 hd g_a0 g_a3 hf hk) (z_le_c rfl (z_le_n (z_le_c rfl (z_le_c rfl (z_le_n (z_le_c rfl (z_le_n (z_le_c rfl z_le_0))))))))
def fX3_reckon_j169_16 (a0 : Nat) (a3 : Nat) (z2 : Int32) (y5 : Int32) (v0 : Int32) (I : Nat → Nat → Int32) (R : Nat → Nat → Nat) : Option ((Int32 × Int32 × (Nat → Nat → Int32)) ⊕ ((Int32 × (Nat → Nat → Int32)) ⊕ ((Nat → Nat → Int32)))) :=
  fX3_reckon_j209_16 a0 a3 z2 y5 v0 I R
theorem wX3_reckon_j169_16 {G : z_G} {d : Nat} {Q : Option Value → z_S → z_H → Prop} {a0 : Nat} {a3 : Nat} {z2 : Int32} {y5 : Int32} {v0 : Int32} {I : Nat → Nat → Int32} {R : Nat → Nat → Nat} {o : (Int32 × Int32 × (Nat → Nat → Int32)) ⊕ ((Int32 × (Nat → Nat → Int32)) ⊕ ((Nat → Nat → Int32)))} (hd : 1 ≤ d) (g_a0 : z_ob a0 3) (g_a3 : z_ar a3) (hf : fX3_reckon_j169_16 a0 a3 z2 y5 v0 I R = some o) (hk : z_or (fun s : Int32 × Int32 × (Nat → Nat → Int32) => z_W G eX3_reckon d 0 0 16 [some (.ref a0), none, some (.int z2), some (.ref a3), some (.int s.1), some (.int s.2.1), none, none] [] z_SH (s.2.2, R) Q) (z_or (fun r : Int32 × (Nat → Nat → Int32) => Q (some (.int r.1)) z_SH (r.2, R)) (fun x : (Nat → Nat → Int32) => z_W G eX3_reckon d 0 0 219 [none, none, none, none, none, none, none, none] [] z_SH (x, R) Q)) o) : z_W G eX3_reckon d 0 0 169 [some (.ref a0), none, some (.int z2), some (.ref a3), none, some (.int y5), none, none] [.int v0] z_SH (I, R) Q := by
  unfold fX3_reckon_j169_16 at hf
  refine y_istore0 [some (.ref a0), none, some (.int z2), some (.ref a3), none, some (.int y5), none, some (.int v0)] dX3_reckon_169 (by decide) rfl ?_
  refine z_goto (tgt := 209) dX3_reckon_171 (by decide) ?_
  exact y_sub (wX3_reckon_j209_16 hd g_a0 g_a3 hf hk) (z_le_c rfl (z_le_n (z_le_c rfl (z_le_c rfl (z_le_n (z_le_c rfl (z_le_n (z_le_c rfl z_le_0))))))))
def fX3_reckon_j188_16 (a0 : Nat) (a3 : Nat) (z2 : Int32) (y5 : Int32) (v0 : Int32) (I : Nat → Nat → Int32) (R : Nat → Nat → Nat) : Option ((Int32 × Int32 × (Nat → Nat → Int32)) ⊕ ((Int32 × (Nat → Nat → Int32)) ⊕ ((Nat → Nat → Int32)))) :=
  fX3_reckon_j209_16 a0 a3 z2 y5 v0 I R
theorem wX3_reckon_j188_16 {G : z_G} {d : Nat} {Q : Option Value → z_S → z_H → Prop} {a0 : Nat} {a3 : Nat} {z2 : Int32} {y5 : Int32} {v0 : Int32} {I : Nat → Nat → Int32} {R : Nat → Nat → Nat} {o : (Int32 × Int32 × (Nat → Nat → Int32)) ⊕ ((Int32 × (Nat → Nat → Int32)) ⊕ ((Nat → Nat → Int32)))} (hd : 1 ≤ d) (g_a0 : z_ob a0 3) (g_a3 : z_ar a3) (hf : fX3_reckon_j188_16 a0 a3 z2 y5 v0 I R = some o) (hk : z_or (fun s : Int32 × Int32 × (Nat → Nat → Int32) => z_W G eX3_reckon d 0 0 16 [some (.ref a0), none, some (.int z2), some (.ref a3), some (.int s.1), some (.int s.2.1), none, none] [] z_SH (s.2.2, R) Q) (z_or (fun r : Int32 × (Nat → Nat → Int32) => Q (some (.int r.1)) z_SH (r.2, R)) (fun x : (Nat → Nat → Int32) => z_W G eX3_reckon d 0 0 219 [none, none, none, none, none, none, none, none] [] z_SH (x, R) Q)) o) : z_W G eX3_reckon d 0 0 188 [some (.ref a0), none, some (.int z2), some (.ref a3), none, some (.int y5), none, none] [.int v0] z_SH (I, R) Q := by
  unfold fX3_reckon_j188_16 at hf
  refine y_istore0 [some (.ref a0), none, some (.int z2), some (.ref a3), none, some (.int y5), none, some (.int v0)] dX3_reckon_188 (by decide) rfl ?_
  refine z_goto (tgt := 209) dX3_reckon_190 (by decide) ?_
  exact y_sub (wX3_reckon_j209_16 hd g_a0 g_a3 hf hk) (z_le_c rfl (z_le_n (z_le_c rfl (z_le_c rfl (z_le_n (z_le_c rfl (z_le_n (z_le_c rfl z_le_0))))))))
def fX3_reckon_b16 (a0 : Nat) (a3 : Nat) (z2 : Int32) (R : Nat → Nat → Nat) : (Int32 × Int32 × (Nat → Nat → Int32)) → Option ((Int32 × Int32 × (Nat → Nat → Int32)) ⊕ ((Int32 × (Nat → Nat → Int32)) ⊕ ((Nat → Nat → Int32)))) :=
  fun s => (fun (p4 : Int32) (p5 : Int32) (I : Nat → Nat → Int32) => if (240 : Int32) ≤ p5 then (some (.inr (.inr I))) else (if p4 < 0 then (some (.inr (.inr I))) else (if z2 ≤ p4 then (some (.inr (.inr I))) else (if (I a0 2) ≤ p4 then (some (.inr (.inr I))) else (z_g (z_ok 1 (R a0 1) p4) (z_l (I (R a0 1) p4.toNatClampNeg) (fun t8 => z_l (p4 + (1 : Int32)) (fun t9 => z_g (z_ok 1 (R a0 0) p4) (if (I (R a0 0) p4.toNatClampNeg) = (0 : Int32) then (z_b (fX3_push a0 t8 I R) (fun q12 => fX3_reckon_j209_16 a0 a3 z2 p5 t9 q12 R)) else (if (I (R a0 0) p4.toNatClampNeg) = (1 : Int32) then (if t8 < 0 then (fX3_reckon_j129_16 a0 a3 z2 p5 t9 a0 I R) else (if (Int32.ofNat (z_len 1 a3)) ≤ t8 then (fX3_reckon_j129_16 a0 a3 z2 p5 t9 a0 I R) else (z_g (z_ok 1 a3 t8) (fX3_reckon_j130_16 a0 a3 z2 p5 t9 a0 (I a3 t8.toNatClampNeg) I R)))) else (if (I (R a0 0) p4.toNatClampNeg) = (2 : Int32) then (if (I a0 10) = 0 then (fX3_reckon_j149_16 a0 a3 z2 p5 t9 a0 (1 : Int32) I R) else (fX3_reckon_j149_16 a0 a3 z2 p5 t9 a0 (0 : Int32) I R)) else (if (I (R a0 0) p4.toNatClampNeg) = (3 : Int32) then (if (I a0 10) = 0 then (fX3_reckon_j169_16 a0 a3 z2 p5 t9 I R) else (fX3_reckon_j169_16 a0 a3 z2 p5 t8 I R)) else (if (I (R a0 0) p4.toNatClampNeg) = (4 : Int32) then (if (I a0 10) = 0 then (fX3_reckon_j188_16 a0 a3 z2 p5 t8 I R) else (fX3_reckon_j188_16 a0 a3 z2 p5 t9 I R)) else (z_b (fX3_combine a0 (I (R a0 0) p4.toNatClampNeg) I R) (fun q29 => if q29.1 = 0 then (some (.inr (.inl ((0 : Int32), q29.2)))) else (fX3_reckon_j209_16 a0 a3 z2 p5 t9 q29.2 R)))))))))))))))) s.1 s.2.1 s.2.2
theorem wX3_reckon_b16 {G : z_G} {d : Nat} {Q : Option Value → z_S → z_H → Prop} {a0 : Nat} {a3 : Nat} {z2 : Int32} {R : Nat → Nat → Nat} (hd : 1 ≤ d) (g_a0 : z_ob a0 3) (g_a3 : z_ar a3) : ∀ (s : Int32 × Int32 × (Nat → Nat → Int32)) (o : (Int32 × Int32 × (Nat → Nat → Int32)) ⊕ ((Int32 × (Nat → Nat → Int32)) ⊕ ((Nat → Nat → Int32)))), fX3_reckon_b16 a0 a3 z2 R s = some o → z_or (fun s : Int32 × Int32 × (Nat → Nat → Int32) => z_W G eX3_reckon d 0 0 16 [some (.ref a0), none, some (.int z2), some (.ref a3), some (.int s.1), some (.int s.2.1), none, none] [] z_SH (s.2.2, R) Q) (z_or (fun r : Int32 × (Nat → Nat → Int32) => Q (some (.int r.1)) z_SH (r.2, R)) (fun x : (Nat → Nat → Int32) => z_W G eX3_reckon d 0 0 219 [none, none, none, none, none, none, none, none] [] z_SH (x, R) Q)) o → (fun s : Int32 × Int32 × (Nat → Nat → Int32) => z_W G eX3_reckon d 0 0 16 [some (.ref a0), none, some (.int z2), some (.ref a3), some (.int s.1), some (.int s.2.1), none, none] [] z_SH (s.2.2, R) Q) s := by
  rintro ⟨p4, p5, I⟩ o hf hk
  show z_W G eX3_reckon d 0 0 16 [some (.ref a0), none, some (.int z2), some (.ref a3), some (.int p4), some (.int p5), none, none] [] z_SH (I, R) Q
  unfold fX3_reckon_b16 at hf
  try dsimp only at hf
  refine z_iload dX3_reckon_16 rfl ?_
  refine z_sipush dX3_reckon_18 ks_240 ?_
  refine z_icmp_ge (tgt := 219) dX3_reckon_21 (by decide) (fun c3 => ?_) (fun c3 => ?_)
  · have hf := z_if_t hf c3
    cases hf
    exact y_sub hk (z_le_n (z_le_n (z_le_n (z_le_n (z_le_n (z_le_n (z_le_n (z_le_n z_le_0))))))))
  · have hf := z_if_f hf c3
    refine z_iload dX3_reckon_24 rfl ?_
    refine z_if_lt (tgt := 219) dX3_reckon_26 (by decide) (fun c4 => ?_) (fun c4 => ?_)
    · have hf := z_if_t hf c4
      cases hf
      exact y_sub hk (z_le_n (z_le_n (z_le_n (z_le_n (z_le_n (z_le_n (z_le_n (z_le_n z_le_0))))))))
    · have hf := z_if_f hf c4
      refine z_iload dX3_reckon_29 rfl ?_
      refine z_iload_n dX3_reckon_31 rfl rfl ?_
      refine z_icmp_ge (tgt := 219) dX3_reckon_32 (by decide) (fun c5 => ?_) (fun c5 => ?_)
      · have hf := z_if_t hf c5
        cases hf
        exact y_sub hk (z_le_n (z_le_n (z_le_n (z_le_n (z_le_n (z_le_n (z_le_n (z_le_n z_le_0))))))))
      · have hf := z_if_f hf c5
        refine z_iload dX3_reckon_35 rfl ?_
        refine z_aload_n dX3_reckon_37 rfl rfl (z_okl g_a0) ?_
        refine y_getI lfX3_35 rfl g_a0 dX3_reckon_38 ?_
        refine z_icmp_ge (tgt := 219) dX3_reckon_41 (by decide) (fun c6 => ?_) (fun c6 => ?_)
        · have hf := z_if_t hf c6
          cases hf
          exact y_sub hk (z_le_n (z_le_n (z_le_n (z_le_n (z_le_n (z_le_n (z_le_n (z_le_n z_le_0))))))))
        · have hf := z_if_f hf c6
          refine z_aload_n dX3_reckon_44 rfl rfl (z_okl g_a0) ?_
          refine y_getR lfX3_13 rfl g_a0 dX3_reckon_45 ?_
          refine z_iload dX3_reckon_48 rfl ?_
          obtain ⟨g7, hf⟩ := z_g_el hf
          refine y_iald g7 dX3_reckon_50 ?_
          refine y_istore (fun t8 => [some (.ref a0), none, some (.int z2), some (.ref a3), some (.int p4), some (.int p5), some (.int t8), none]) dX3_reckon_51 (by decide) (fun _ => rfl) (fun t8 et8 => ?_)
          have hf := z_l_el hf et8
          refine z_iload dX3_reckon_53 rfl ?_
          refine z_iconst dX3_reckon_55 kc_1 ?_
          refine z_iadd dX3_reckon_56 ?_
          refine y_istore (fun t9 => [some (.ref a0), none, some (.int z2), some (.ref a3), some (.int p4), some (.int p5), some (.int t8), some (.int t9)]) dX3_reckon_57 (by decide) (fun _ => rfl) (fun t9 et9 => ?_)
          have hf := z_l_el hf et9
          refine z_aload_n dX3_reckon_59 rfl rfl (z_okl g_a0) ?_
          refine y_getR lfX3_9 rfl g_a0 dX3_reckon_60 ?_
          refine z_iload dX3_reckon_63 rfl ?_
          obtain ⟨g10, hf⟩ := z_g_el hf
          refine y_iald g10 dX3_reckon_65 ?_
          by_cases c11 : (I (R a0 0) p4.toNatClampNeg) = (0 : Int32)
          · have hf := z_if_t hf c11
            refine z_tabIn (off := 34) (tgt := 100) dX3_reckon_66 (by rw [c11]; decide) (by rw [c11]; decide) (by rw [c11]; rfl) (by decide) ?_
            refine z_aload_n dX3_reckon_100 rfl rfl (z_okl g_a0) ?_
            refine z_iload dX3_reckon_101 rfl ?_
            obtain ⟨q12, hq12, hf⟩ := z_b_el hf
            refine y_cVv (av := [.int t8]) (Nat.le_trans (Nat.le_of_ble_eq_true rfl) hd) (wX3_push (z_dl rfl hd) hq12) oX3_push lmX3_69 iX3_push g_a0 rfl _ rfl rfl (Nat.le_of_ble_eq_true rfl) dX3_reckon_103 ?_
            refine z_goto (tgt := 209) dX3_reckon_106 (by decide) ?_
            exact y_sub (wX3_reckon_j209_16 hd g_a0 g_a3 hf hk) (z_le_c rfl (z_le_n (z_le_c rfl (z_le_c rfl (z_le_n (z_le_c rfl (z_le_n (z_le_c rfl z_le_0))))))))
          · have hf := z_if_f hf c11
            by_cases c14 : (I (R a0 0) p4.toNatClampNeg) = (1 : Int32)
            · have hf := z_if_t hf c14
              refine z_tabIn (off := 43) (tgt := 109) dX3_reckon_66 (by rw [c14]; decide) (by rw [c14]; decide) (by rw [c14]; rfl) (by decide) ?_
              refine z_aload_n dX3_reckon_109 rfl rfl (z_okl g_a0) ?_
              refine z_iload dX3_reckon_110 rfl ?_
              refine z_if_lt (tgt := 129) dX3_reckon_112 (by decide) (fun c15 => ?_) (fun c15 => ?_)
              · have hf := z_if_t hf c15
                exact y_sub (wX3_reckon_j129_16 hd g_a0 g_a3 hf hk) (z_le_c rfl (z_le_n (z_le_c rfl (z_le_c rfl (z_le_n (z_le_c rfl (z_le_n (z_le_c rfl z_le_0))))))))
              · have hf := z_if_f hf c15
                refine z_iload dX3_reckon_115 rfl ?_
                refine z_aload_n dX3_reckon_117 rfl rfl (z_ar_lt g_a3) ?_
                refine y_alen g_a3 dX3_reckon_118 ?_
                refine z_icmp_ge (tgt := 129) dX3_reckon_119 (by decide) (fun c18 => ?_) (fun c18 => ?_)
                · have hf := z_if_t hf c18
                  exact y_sub (wX3_reckon_j129_16 hd g_a0 g_a3 hf hk) (z_le_c rfl (z_le_n (z_le_c rfl (z_le_c rfl (z_le_n (z_le_c rfl (z_le_n (z_le_c rfl z_le_0))))))))
                · have hf := z_if_f hf c18
                  refine z_aload_n dX3_reckon_122 rfl rfl (z_ar_lt g_a3) ?_
                  refine z_iload dX3_reckon_123 rfl ?_
                  obtain ⟨g19, hf⟩ := z_g_el hf
                  refine y_iald g19 dX3_reckon_125 ?_
                  refine z_goto (tgt := 130) dX3_reckon_126 (by decide) ?_
                  exact y_sub (wX3_reckon_j130_16 hd g_a0 g_a3 hf hk) (z_le_c rfl (z_le_n (z_le_c rfl (z_le_c rfl (z_le_n (z_le_c rfl (z_le_n (z_le_c rfl z_le_0))))))))
            · have hf := z_if_f hf c14
              by_cases c20 : (I (R a0 0) p4.toNatClampNeg) = (2 : Int32)
              · have hf := z_if_t hf c20
                refine z_tabIn (off := 70) (tgt := 136) dX3_reckon_66 (by rw [c20]; decide) (by rw [c20]; decide) (by rw [c20]; rfl) (by decide) ?_
                refine z_aload_n dX3_reckon_136 rfl rfl (z_okl g_a0) ?_
                refine z_aload_n dX3_reckon_137 rfl rfl (z_okl g_a0) ?_
                refine y_getI lfX3_46 rfl g_a0 dX3_reckon_138 ?_
                refine z_if_ne (tgt := 148) dX3_reckon_141 (by decide) (fun c21 => ?_) (fun c21 => ?_)
                · have hf := z_if_f hf c21
                  refine z_iconst dX3_reckon_148 kc_0 ?_
                  exact y_sub (wX3_reckon_j149_16 hd g_a0 g_a3 hf hk) (z_le_c rfl (z_le_n (z_le_c rfl (z_le_c rfl (z_le_n (z_le_c rfl (z_le_n (z_le_c rfl z_le_0))))))))
                · have hf := z_if_t hf c21
                  refine z_iconst dX3_reckon_144 kc_1 ?_
                  refine z_goto (tgt := 149) dX3_reckon_145 (by decide) ?_
                  exact y_sub (wX3_reckon_j149_16 hd g_a0 g_a3 hf hk) (z_le_c rfl (z_le_n (z_le_c rfl (z_le_c rfl (z_le_n (z_le_c rfl (z_le_n (z_le_c rfl z_le_0))))))))
              · have hf := z_if_f hf c20
                by_cases c25 : (I (R a0 0) p4.toNatClampNeg) = (3 : Int32)
                · have hf := z_if_t hf c25
                  refine z_tabIn (off := 89) (tgt := 155) dX3_reckon_66 (by rw [c25]; decide) (by rw [c25]; decide) (by rw [c25]; rfl) (by decide) ?_
                  refine z_aload_n dX3_reckon_155 rfl rfl (z_okl g_a0) ?_
                  refine y_getI lfX3_46 rfl g_a0 dX3_reckon_156 ?_
                  refine z_if_eq (tgt := 167) dX3_reckon_159 (by decide) (fun c26 => ?_) (fun c26 => ?_)
                  · have hf := z_if_t hf c26
                    refine z_iload dX3_reckon_167 rfl ?_
                    exact y_sub (wX3_reckon_j169_16 hd g_a0 g_a3 hf hk) (z_le_c rfl (z_le_n (z_le_c rfl (z_le_c rfl (z_le_n (z_le_c rfl (z_le_n (z_le_n z_le_0))))))))
                  · have hf := z_if_f hf c26
                    refine z_iload dX3_reckon_162 rfl ?_
                    refine z_goto (tgt := 169) dX3_reckon_164 (by decide) ?_
                    exact y_sub (wX3_reckon_j169_16 hd g_a0 g_a3 hf hk) (z_le_c rfl (z_le_n (z_le_c rfl (z_le_c rfl (z_le_n (z_le_c rfl (z_le_n (z_le_n z_le_0))))))))
                · have hf := z_if_f hf c25
                  by_cases c27 : (I (R a0 0) p4.toNatClampNeg) = (4 : Int32)
                  · have hf := z_if_t hf c27
                    refine z_tabIn (off := 108) (tgt := 174) dX3_reckon_66 (by rw [c27]; decide) (by rw [c27]; decide) (by rw [c27]; rfl) (by decide) ?_
                    refine z_aload_n dX3_reckon_174 rfl rfl (z_okl g_a0) ?_
                    refine y_getI lfX3_46 rfl g_a0 dX3_reckon_175 ?_
                    refine z_if_eq (tgt := 186) dX3_reckon_178 (by decide) (fun c28 => ?_) (fun c28 => ?_)
                    · have hf := z_if_t hf c28
                      refine z_iload dX3_reckon_186 rfl ?_
                      exact y_sub (wX3_reckon_j188_16 hd g_a0 g_a3 hf hk) (z_le_c rfl (z_le_n (z_le_c rfl (z_le_c rfl (z_le_n (z_le_c rfl (z_le_n (z_le_n z_le_0))))))))
                    · have hf := z_if_f hf c28
                      refine z_iload dX3_reckon_181 rfl ?_
                      refine z_goto (tgt := 188) dX3_reckon_183 (by decide) ?_
                      exact y_sub (wX3_reckon_j188_16 hd g_a0 g_a3 hf hk) (z_le_c rfl (z_le_n (z_le_c rfl (z_le_c rfl (z_le_n (z_le_c rfl (z_le_n (z_le_n z_le_0))))))))
                  · have hf := z_if_f hf c27
                    have nc11 : ¬ ((I (R a0 0) p4.toNatClampNeg)).toInt = 0 := z_toInt_ne c11
                    have nc14 : ¬ ((I (R a0 0) p4.toNatClampNeg)).toInt = 1 := z_toInt_ne c14
                    have nc20 : ¬ ((I (R a0 0) p4.toNatClampNeg)).toInt = 2 := z_toInt_ne c20
                    have nc25 : ¬ ((I (R a0 0) p4.toNatClampNeg)).toInt = 3 := z_toInt_ne c25
                    have nc27 : ¬ ((I (R a0 0) p4.toNatClampNeg)).toInt = 4 := z_toInt_ne c27
                    refine z_tabOut (tgt := 193) dX3_reckon_66 (by omega) (by decide) ?_
                    refine z_aload_n dX3_reckon_193 rfl rfl (z_okl g_a0) ?_
                    refine z_aload_n dX3_reckon_194 rfl rfl (z_okl g_a0) ?_
                    refine y_getR lfX3_9 rfl g_a0 dX3_reckon_195 ?_
                    refine z_iload dX3_reckon_198 rfl ?_
                    refine y_iald g10 dX3_reckon_200 ?_
                    obtain ⟨q29, hq29, hf⟩ := z_b_el hf
                    refine y_cVi (av := [.int (I (R a0 0) p4.toNatClampNeg)]) (Nat.le_trans (Nat.le_of_ble_eq_true rfl) hd) (wX3_combine (z_dl rfl hd) hq29) oX3_combine lmX3_73 iX3_combine g_a0 rfl _ rfl rfl (Nat.le_of_ble_eq_true rfl) dX3_reckon_201 ?_
                    refine z_if_ne (tgt := 209) dX3_reckon_204 (by decide) (fun c30 => ?_) (fun c30 => ?_)
                    · have hf := z_if_f hf c30
                      exact y_sub (wX3_reckon_j209_16 hd g_a0 g_a3 hf hk) (z_le_c rfl (z_le_n (z_le_c rfl (z_le_c rfl (z_le_n (z_le_c rfl (z_le_n (z_le_c rfl z_le_0))))))))
                    · have hf := z_if_t hf c30
                      refine z_iconst dX3_reckon_207 kc_0 ?_
                      cases hf
                      exact z_iret hk ⟨_, rfl, rfl⟩ dX3_reckon_208
def fX3_reckon (a0 : Nat) (x1 : Int32) (x2 : Int32) (a3 : Nat) (I : Nat → Nat → Int32) (R : Nat → Nat → Nat) : Option (Int32 × (Nat → Nat → Int32)) :=
  z_g (z_ob a0 3) (z_g (z_ar a3) (z_l (z_u I a0 9 (0 : Int32)) (fun I1 => z_l (z_u I1 a0 10 (0 : Int32)) (fun I2 => z_b (z_lp (fX3_reckon_b16 a0 a3 x2 R) 300 (x1, (0 : Int32), I2)) (fun q31 => z_x q31 (fun q33 => some q33) (fun q32 => some ((1 : Int32), q32)))))))
set_option maxRecDepth 20000 in
theorem vX3_reckon {G : z_G} {d : Nat} {Q : Option Value → z_S → z_H → Prop} {a0 : Nat} {x1 : Int32} {x2 : Int32} {a3 : Nat} {I : Nat → Nat → Int32} {R : Nat → Nat → Nat} {q : Int32 × (Nat → Nat → Int32)} (hd : 1 ≤ d) (hf : fX3_reckon a0 x1 x2 a3 I R = some q) (hk : Q (some (.int q.1)) z_SH (q.2, R)) : z_W G eX3_reckon d 0 0 0 [some (.ref a0), some (.int x1), some (.int x2), some (.ref a3), none, none, none, none] [] z_SH (I, R) Q := by
  unfold fX3_reckon at hf
  obtain ⟨g_a0, hf⟩ := z_g_el hf
  obtain ⟨g_a3, hf⟩ := z_g_el hf
  refine z_aload_n dX3_reckon_0 rfl rfl (z_okl g_a0) ?_
  refine z_iconst dX3_reckon_1 kc_0 ?_
  refine y_putI lfX3_66 rfl g_a0 rfl rfl rfl dX3_reckon_2 (fun I1 eI1 => ?_)
  have hf := z_l_el hf eI1
  refine z_aload_n dX3_reckon_5 rfl rfl (z_okl g_a0) ?_
  refine z_iconst dX3_reckon_6 kc_0 ?_
  refine y_putI lfX3_46 rfl g_a0 rfl rfl rfl dX3_reckon_7 (fun I2 eI2 => ?_)
  have hf := z_l_el hf eI2
  refine z_iload_n dX3_reckon_10 rfl rfl ?_
  refine y_istore0 [some (.ref a0), some (.int x1), some (.int x2), some (.ref a3), some (.int x1), none, none, none] dX3_reckon_11 (by decide) rfl ?_
  refine z_iconst dX3_reckon_13 kc_0 ?_
  refine y_istore0 [some (.ref a0), some (.int x1), some (.int x2), some (.ref a3), some (.int x1), some (.int (0 : Int32)), none, none] dX3_reckon_14 (by decide) rfl ?_
  obtain ⟨q31, hq31, hf⟩ := z_b_el hf
  refine y_sub (lv' := [some (.ref a0), none, some (.int x2), some (.ref a3), some (.int x1), some (.int (0 : Int32)), none, none]) ?_ (z_le_c rfl (z_le_n (z_le_c rfl (z_le_c rfl (z_le_c rfl (z_le_c rfl (z_le_n (z_le_n z_le_0))))))))
  refine z_lp_el (P := (fun s : Int32 × Int32 × (Nat → Nat → Int32) => z_W G eX3_reckon d 0 0 16 [some (.ref a0), none, some (.int x2), some (.ref a3), some (.int s.1), some (.int s.2.1), none, none] [] z_SH (s.2.2, R) Q)) (E := (z_or (fun r : Int32 × (Nat → Nat → Int32) => Q (some (.int r.1)) z_SH (r.2, R)) (fun x : (Nat → Nat → Int32) => z_W G eX3_reckon d 0 0 219 [none, none, none, none, none, none, none, none] [] z_SH (x, R) Q))) (wX3_reckon_b16 hd g_a0 g_a3) 300 (x1, (0 : Int32), I2) q31 hq31 ?_
  rcases q31 with q33 | q32
  · have hf := z_x_l hf
    cases hf
    exact hk
  · have hf := z_x_r hf
    show z_W G eX3_reckon d 0 0 219 [none, none, none, none, none, none, none, none] [] z_SH (q32, R) _
    refine z_iconst dX3_reckon_219 kc_1 ?_
    cases hf
    exact z_iret hk ⟨_, rfl, rfl⟩ dX3_reckon_220
theorem wX3_reckon {G : z_G} {d : Nat} {a0 : Nat} {x1 : Int32} {x2 : Int32} {a3 : Nat} {I : Nat → Nat → Int32} {R : Nat → Nat → Nat} {q : Int32 × (Nat → Nat → Int32)} (hd : 1 ≤ d) (hf : fX3_reckon a0 x1 x2 a3 I R = some q) : z_M G d 0 0 eX3_reckon [.ref a0, .int x1, .int x2, .ref a3] z_SH (I, R) (z_E (some (.int q.1)) (q.2, R)) :=
  y_M_of _ (by decide +kernel) rfl rfl rfl (vX3_reckon hd hf ⟨rfl, rfl, rfl⟩)
def fX3_silences_b2 (a0 : Nat) (a1 : Nat) (R : Nat → Nat → Nat) : (Int32 × (Nat → Nat → Int32)) → Option ((Int32 × (Nat → Nat → Int32)) ⊕ ((Int32 × (Nat → Nat → Int32)) ⊕ ((Nat → Nat → Int32)))) :=
  fun s => (fun (p2 : Int32) (I : Nat → Nat → Int32) => if (I a0 7) ≤ p2 then (some (.inr (.inr I))) else (z_g (z_ok 1 (R a0 3) p2) (if (I (R a0 3) p2.toNatClampNeg) = (4 : Int32) then (z_g (z_ok 1 (R a0 5) p2) (z_g (z_ok 1 (R a0 6) p2) (z_b (fX3_reckon a0 (I (R a0 5) p2.toNatClampNeg) (I (R a0 6) p2.toNatClampNeg) a1 I R) (fun q7 => if q7.1 = 0 then (z_l (p2 + (1 : Int32)) (fun t9 => some (.inl (t9, q7.2)))) else (if (q7.2 a0 10) = 0 then (z_l (p2 + (1 : Int32)) (fun t11 => some (.inl (t11, q7.2)))) else (some (.inr (.inl ((1 : Int32), q7.2))))))))) else (z_l (p2 + (1 : Int32)) (fun t4 => some (.inl (t4, I))))))) s.1 s.2
theorem wX3_silences_b2 {G : z_G} {d : Nat} {Q : Option Value → z_S → z_H → Prop} {a0 : Nat} {a1 : Nat} {R : Nat → Nat → Nat} (hd : 2 ≤ d) (g_a0 : z_ob a0 3) (g_a1 : z_ar a1) : ∀ (s : Int32 × (Nat → Nat → Int32)) (o : (Int32 × (Nat → Nat → Int32)) ⊕ ((Int32 × (Nat → Nat → Int32)) ⊕ ((Nat → Nat → Int32)))), fX3_silences_b2 a0 a1 R s = some o → z_or (fun s : Int32 × (Nat → Nat → Int32) => z_W G eX3_silences d 0 0 2 [some (.ref a0), some (.ref a1), some (.int s.1)] [] z_SH (s.2, R) Q) (z_or (fun r : Int32 × (Nat → Nat → Int32) => Q (some (.int r.1)) z_SH (r.2, R)) (fun x : (Nat → Nat → Int32) => z_W G eX3_silences d 0 0 55 [none, none, none] [] z_SH (x, R) Q)) o → (fun s : Int32 × (Nat → Nat → Int32) => z_W G eX3_silences d 0 0 2 [some (.ref a0), some (.ref a1), some (.int s.1)] [] z_SH (s.2, R) Q) s := by
  rintro ⟨p2, I⟩ o hf hk
  show z_W G eX3_silences d 0 0 2 [some (.ref a0), some (.ref a1), some (.int p2)] [] z_SH (I, R) Q
  unfold fX3_silences_b2 at hf
  try dsimp only at hf
  refine z_iload_n dX3_silences_2 rfl rfl ?_
  refine z_aload_n dX3_silences_3 rfl rfl (z_okl g_a0) ?_
  refine y_getI lfX3_31 rfl g_a0 dX3_silences_4 ?_
  refine z_icmp_ge (tgt := 55) dX3_silences_7 (by decide) (fun c1 => ?_) (fun c1 => ?_)
  · have hf := z_if_t hf c1
    cases hf
    exact y_sub hk (z_le_n (z_le_n (z_le_n z_le_0)))
  · have hf := z_if_f hf c1
    refine z_aload_n dX3_silences_10 rfl rfl (z_okl g_a0) ?_
    refine y_getR lfX3_16 rfl g_a0 dX3_silences_11 ?_
    refine z_iload_n dX3_silences_14 rfl rfl ?_
    obtain ⟨g2, hf⟩ := z_g_el hf
    refine y_iald g2 dX3_silences_15 ?_
    refine z_iconst dX3_silences_16 kc_4 ?_
    refine z_icmp_ne (tgt := 49) dX3_silences_17 (by decide) (fun c3 => ?_) (fun c3 => ?_)
    · have hf := z_if_f hf c3
      refine y_iinc (fun t4 => [some (.ref a0), some (.ref a1), some (.int t4)]) dX3_silences_49 rfl kc_1 (by decide) (fun _ => rfl) (fun t4 et4 => ?_)
      have hf := z_l_el hf et4
      refine z_goto (tgt := 2) dX3_silences_52 (by decide) ?_
      cases hf
      exact y_sub hk (z_le_c rfl (z_le_c rfl (z_le_c rfl z_le_0)))
    · have hf := z_if_t hf c3
      refine z_aload_n dX3_silences_20 rfl rfl (z_okl g_a0) ?_
      refine z_aload_n dX3_silences_21 rfl rfl (z_okl g_a0) ?_
      refine y_getR lfX3_22 rfl g_a0 dX3_silences_22 ?_
      refine z_iload_n dX3_silences_25 rfl rfl ?_
      obtain ⟨g5, hf⟩ := z_g_el hf
      refine y_iald g5 dX3_silences_26 ?_
      refine z_aload_n dX3_silences_27 rfl rfl (z_okl g_a0) ?_
      refine y_getR lfX3_25 rfl g_a0 dX3_silences_28 ?_
      refine z_iload_n dX3_silences_31 rfl rfl ?_
      obtain ⟨g6, hf⟩ := z_g_el hf
      refine y_iald g6 dX3_silences_32 ?_
      refine z_aload_n dX3_silences_33 rfl rfl (z_ar_lt g_a1) ?_
      obtain ⟨q7, hq7, hf⟩ := z_b_el hf
      refine y_cVi (av := [.int (I (R a0 5) p2.toNatClampNeg), .int (I (R a0 6) p2.toNatClampNeg), .ref a1]) (Nat.le_trans (Nat.le_of_ble_eq_true rfl) hd) (wX3_reckon (z_dl rfl hd) hq7) oX3_reckon lmX3_42 iX3_reckon g_a0 rfl _ rfl rfl (Nat.le_of_ble_eq_true rfl) dX3_silences_34 ?_
      refine z_if_eq (tgt := 49) dX3_silences_37 (by decide) (fun c8 => ?_) (fun c8 => ?_)
      · have hf := z_if_t hf c8
        refine y_iinc (fun t9 => [some (.ref a0), some (.ref a1), some (.int t9)]) dX3_silences_49 rfl kc_1 (by decide) (fun _ => rfl) (fun t9 et9 => ?_)
        have hf := z_l_el hf et9
        refine z_goto (tgt := 2) dX3_silences_52 (by decide) ?_
        cases hf
        exact y_sub hk (z_le_c rfl (z_le_c rfl (z_le_c rfl z_le_0)))
      · have hf := z_if_f hf c8
        refine z_aload_n dX3_silences_40 rfl rfl (z_okl g_a0) ?_
        refine y_getI lfX3_46 rfl g_a0 dX3_silences_41 ?_
        refine z_if_eq (tgt := 49) dX3_silences_44 (by decide) (fun c10 => ?_) (fun c10 => ?_)
        · have hf := z_if_t hf c10
          refine y_iinc (fun t11 => [some (.ref a0), some (.ref a1), some (.int t11)]) dX3_silences_49 rfl kc_1 (by decide) (fun _ => rfl) (fun t11 et11 => ?_)
          have hf := z_l_el hf et11
          refine z_goto (tgt := 2) dX3_silences_52 (by decide) ?_
          cases hf
          exact y_sub hk (z_le_c rfl (z_le_c rfl (z_le_c rfl z_le_0)))
        · have hf := z_if_f hf c10
          refine z_iconst dX3_silences_47 kc_1 ?_
          cases hf
          exact z_iret hk ⟨_, rfl, rfl⟩ dX3_silences_48
def fX3_silences (a0 : Nat) (a1 : Nat) (I : Nat → Nat → Int32) (R : Nat → Nat → Nat) : Option (Int32 × (Nat → Nat → Int32)) :=
  z_g (z_ob a0 3) (z_g (z_ar a1) (z_b (z_lp (fX3_silences_b2 a0 a1 R) 300 ((0 : Int32), I)) (fun q12 => z_x q12 (fun q14 => some q14) (fun q13 => some ((0 : Int32), q13)))))
theorem vX3_silences {G : z_G} {d : Nat} {Q : Option Value → z_S → z_H → Prop} {a0 : Nat} {a1 : Nat} {I : Nat → Nat → Int32} {R : Nat → Nat → Nat} {q : Int32 × (Nat → Nat → Int32)} (hd : 2 ≤ d) (hf : fX3_silences a0 a1 I R = some q) (hk : Q (some (.int q.1)) z_SH (q.2, R)) : z_W G eX3_silences d 0 0 0 [some (.ref a0), some (.ref a1), none] [] z_SH (I, R) Q := by
  unfold fX3_silences at hf
  obtain ⟨g_a0, hf⟩ := z_g_el hf
  obtain ⟨g_a1, hf⟩ := z_g_el hf
  refine z_iconst dX3_silences_0 kc_0 ?_
  refine y_istore_n0 [some (.ref a0), some (.ref a1), some (.int (0 : Int32))] dX3_silences_1 rfl (by decide) rfl ?_
  obtain ⟨q12, hq12, hf⟩ := z_b_el hf
  refine y_sub (lv' := [some (.ref a0), some (.ref a1), some (.int (0 : Int32))]) ?_ (z_le_c rfl (z_le_c rfl (z_le_c rfl z_le_0)))
  refine z_lp_el (P := (fun s : Int32 × (Nat → Nat → Int32) => z_W G eX3_silences d 0 0 2 [some (.ref a0), some (.ref a1), some (.int s.1)] [] z_SH (s.2, R) Q)) (E := (z_or (fun r : Int32 × (Nat → Nat → Int32) => Q (some (.int r.1)) z_SH (r.2, R)) (fun x : (Nat → Nat → Int32) => z_W G eX3_silences d 0 0 55 [none, none, none] [] z_SH (x, R) Q))) (wX3_silences_b2 hd g_a0 g_a1) 300 ((0 : Int32), I) q12 hq12 ?_
  rcases q12 with q14 | q13
  · have hf := z_x_l hf
    cases hf
    exact hk
  · have hf := z_x_r hf
    show z_W G eX3_silences d 0 0 55 [none, none, none] [] z_SH (q13, R) _
    refine z_iconst dX3_silences_55 kc_0 ?_
    cases hf
    exact z_iret hk ⟨_, rfl, rfl⟩ dX3_silences_56
theorem wX3_silences {G : z_G} {d : Nat} {a0 : Nat} {a1 : Nat} {I : Nat → Nat → Int32} {R : Nat → Nat → Nat} {q : Int32 × (Nat → Nat → Int32)} (hd : 2 ≤ d) (hf : fX3_silences a0 a1 I R = some q) : z_M G d 0 0 eX3_silences [.ref a0, .ref a1] z_SH (I, R) (z_E (some (.int q.1)) (q.2, R)) :=
  y_M_of _ (by decide +kernel) rfl rfl rfl (vX3_silences hd hf ⟨rfl, rfl, rfl⟩)
def fX9_draw (a0 : Nat) (I : Nat → Nat → Int32) : Option (Int32 × (Nat → Nat → Int32)) :=
  z_g (z_ob a0 9) (z_l (z_u I a0 2 (z_rem (((25173 : Int32) * (I a0 2)) + (13849 : Int32)) (65536 : Int32))) (fun I1 => some (z_rem (I1 a0 2) (10 : Int32), I1)))
theorem vX9_draw {G : z_G} {d : Nat} {Q : Option Value → z_S → z_H → Prop} {a0 : Nat} {I : Nat → Nat → Int32} {R : Nat → Nat → Nat} {q : Int32 × (Nat → Nat → Int32)} (hd : 0 ≤ d) (hf : fX9_draw a0 I = some q) (hk : Q (some (.int q.1)) z_SH (q.2, R)) : z_W G eX9_draw d 0 0 0 [some (.ref a0)] [] z_SH (I, R) Q := by
  unfold fX9_draw at hf
  obtain ⟨g_a0, hf⟩ := z_g_el hf
  refine z_aload_n dX9_draw_0 rfl rfl (z_okl g_a0) ?_
  refine z_sipush dX9_draw_1 ks_25173 ?_
  refine z_aload_n dX9_draw_4 rfl rfl (z_okl g_a0) ?_
  refine y_getI lfX9_18 rfl g_a0 dX9_draw_5 ?_
  refine z_imul dX9_draw_8 ?_
  refine z_sipush dX9_draw_9 ks_13849 ?_
  refine z_iadd dX9_draw_12 ?_
  refine z_ldc dX9_draw_13 lkX9_47 ?_
  refine y_irem dX9_draw_15 (by decide) ?_
  refine y_putI lfX9_18 rfl g_a0 rfl rfl rfl dX9_draw_16 (fun I1 eI1 => ?_)
  have hf := z_l_el hf eI1
  refine z_aload_n dX9_draw_19 rfl rfl (z_okl g_a0) ?_
  refine y_getI lfX9_18 rfl g_a0 dX9_draw_20 ?_
  refine z_bipush dX9_draw_23 kb_10 ?_
  refine y_irem dX9_draw_25 (by decide) ?_
  cases hf
  exact z_iret hk ⟨_, rfl, rfl⟩ dX9_draw_26
theorem wX9_draw {G : z_G} {d : Nat} {a0 : Nat} {I : Nat → Nat → Int32} {R : Nat → Nat → Nat} {q : Int32 × (Nat → Nat → Int32)} (hd : 0 ≤ d) (hf : fX9_draw a0 I = some q) : z_M G d 0 0 eX9_draw [.ref a0] z_SH (I, R) (z_E (some (.int q.1)) (q.2, R)) :=
  y_M_of _ (by decide +kernel) rfl rfl rfl (vX9_draw hd hf ⟨rfl, rfl, rfl⟩)
def fX3_highestOf (x0 : Int32) : Option (Int32) :=
  if x0 < 0 then (some (0 : Int32)) else (if (5 : Int32) ≤ x0 then (some (0 : Int32)) else (z_g (¬ (x0 < 0 ∨ 5 ≤ x0.toNatClampNeg)) (some (z_hi x0.toNatClampNeg))))
theorem vX3_highestOf {G : z_G} {d : Nat} {Q : Option Value → z_S → z_H → Prop} {x0 : Int32} {I : Nat → Nat → Int32} {R : Nat → Nat → Nat} {q : Int32} (hd : 0 ≤ d) (hf : fX3_highestOf x0 = some q) (hk : Q (some (.int q)) z_SH (I, R)) : z_W G eX3_highestOf d 0 0 0 [some (.int x0)] [] z_SH (I, R) Q := by
  unfold fX3_highestOf at hf
  refine z_iload_n dX3_highestOf_0 rfl rfl ?_
  refine z_if_lt (tgt := 20) dX3_highestOf_1 (by decide) (fun c1 => ?_) (fun c1 => ?_)
  · have hf := z_if_t hf c1
    refine z_iconst dX3_highestOf_20 kc_0 ?_
    cases hf
    exact z_iret hk ⟨_, rfl, rfl⟩ dX3_highestOf_21
  · have hf := z_if_f hf c1
    refine z_iload_n dX3_highestOf_4 rfl rfl ?_
    refine z_gets lfX3_63 dX3_highestOf_5 ?_
    refine z_hlen dX3_highestOf_8 ?_
    refine z_icmp_ge (tgt := 20) dX3_highestOf_9 (by decide) (fun c2 => ?_) (fun c2 => ?_)
    · have hf := z_if_t hf c2
      refine z_iconst dX3_highestOf_20 kc_0 ?_
      cases hf
      exact z_iret hk ⟨_, rfl, rfl⟩ dX3_highestOf_21
    · have hf := z_if_f hf c2
      refine z_gets lfX3_63 dX3_highestOf_12 ?_
      refine z_iload_n dX3_highestOf_15 rfl rfl ?_
      obtain ⟨g3, hf⟩ := z_g_el hf
      refine z_hald g3 dX3_highestOf_16 ?_
      refine z_goto (tgt := 21) dX3_highestOf_17 (by decide) ?_
      cases hf
      exact z_iret hk ⟨_, rfl, rfl⟩ dX3_highestOf_21
theorem wX3_highestOf {G : z_G} {d : Nat} {x0 : Int32} {I : Nat → Nat → Int32} {R : Nat → Nat → Nat} {q : Int32} (hd : 0 ≤ d) (hf : fX3_highestOf x0 = some q) : z_M G d 0 0 eX3_highestOf [.int x0] z_SH (I, R) (z_E (some (.int q)) (I, R)) :=
  y_M_of _ (by decide +kernel) rfl rfl rfl (vX3_highestOf hd hf ⟨rfl, rfl, rfl⟩)
def fX3_worth_b2 (a0 : Nat) (a2 : Nat) (z1 : Int32) (R : Nat → Nat → Nat) : (Int32 × (Nat → Nat → Int32)) → Option ((Int32 × (Nat → Nat → Int32)) ⊕ ((Int32 × (Nat → Nat → Int32)) ⊕ (Int32 × (Nat → Nat → Int32)))) :=
  fun s => (fun (p3 : Int32) (I : Nat → Nat → Int32) => if (I a0 7) ≤ p3 then (some (.inr (.inl ((0 : Int32), I)))) else (z_g (z_ok 1 (R a0 3) p3) (if (I (R a0 3) p3.toNatClampNeg) = z1 then (z_g (z_ok 1 (R a0 5) p3) (z_g (z_ok 1 (R a0 6) p3) (z_b (fX3_reckon a0 (I (R a0 5) p3.toNatClampNeg) (I (R a0 6) p3.toNatClampNeg) a2 I R) (fun q7 => if q7.1 = 0 then (z_l (p3 + (1 : Int32)) (fun t9 => some (.inl (t9, q7.2)))) else (if (q7.2 a0 10) = 0 then (z_l (p3 + (1 : Int32)) (fun t11 => some (.inl (t11, q7.2)))) else (some (.inr (.inr (p3, q7.2))))))))) else (z_l (p3 + (1 : Int32)) (fun t4 => some (.inl (t4, I))))))) s.1 s.2
theorem wX3_worth_b2 {G : z_G} {d : Nat} {Q : Option Value → z_S → z_H → Prop} {a0 : Nat} {a2 : Nat} {z1 : Int32} {R : Nat → Nat → Nat} (hd : 2 ≤ d) (g_a0 : z_ob a0 3) (g_a2 : z_ar a2) : ∀ (s : Int32 × (Nat → Nat → Int32)) (o : (Int32 × (Nat → Nat → Int32)) ⊕ ((Int32 × (Nat → Nat → Int32)) ⊕ (Int32 × (Nat → Nat → Int32)))), fX3_worth_b2 a0 a2 z1 R s = some o → z_or (fun s : Int32 × (Nat → Nat → Int32) => z_W G eX3_worth d 0 0 2 [some (.ref a0), some (.int z1), some (.ref a2), some (.int s.1), none] [] z_SH (s.2, R) Q) (z_or (fun r : Int32 × (Nat → Nat → Int32) => Q (some (.int r.1)) z_SH (r.2, R)) (fun x : Int32 × (Nat → Nat → Int32) => z_W G eX3_worth d 0 0 47 [some (.ref a0), some (.int z1), some (.ref a2), some (.int x.1), none] [] z_SH (x.2, R) Q)) o → (fun s : Int32 × (Nat → Nat → Int32) => z_W G eX3_worth d 0 0 2 [some (.ref a0), some (.int z1), some (.ref a2), some (.int s.1), none] [] z_SH (s.2, R) Q) s := by
  rintro ⟨p3, I⟩ o hf hk
  show z_W G eX3_worth d 0 0 2 [some (.ref a0), some (.int z1), some (.ref a2), some (.int p3), none] [] z_SH (I, R) Q
  unfold fX3_worth_b2 at hf
  try dsimp only at hf
  refine z_iload_n dX3_worth_2 rfl rfl ?_
  refine z_aload_n dX3_worth_3 rfl rfl (z_okl g_a0) ?_
  refine y_getI lfX3_31 rfl g_a0 dX3_worth_4 ?_
  refine z_icmp_ge (tgt := 99) dX3_worth_7 (by decide) (fun c1 => ?_) (fun c1 => ?_)
  · have hf := z_if_t hf c1
    refine z_iconst dX3_worth_99 kc_0 ?_
    cases hf
    exact z_iret hk ⟨_, rfl, rfl⟩ dX3_worth_100
  · have hf := z_if_f hf c1
    refine z_aload_n dX3_worth_10 rfl rfl (z_okl g_a0) ?_
    refine y_getR lfX3_16 rfl g_a0 dX3_worth_11 ?_
    refine z_iload_n dX3_worth_14 rfl rfl ?_
    obtain ⟨g2, hf⟩ := z_g_el hf
    refine y_iald g2 dX3_worth_15 ?_
    refine z_iload_n dX3_worth_16 rfl rfl ?_
    refine z_icmp_ne (tgt := 93) dX3_worth_17 (by decide) (fun c3 => ?_) (fun c3 => ?_)
    · have hf := z_if_f hf c3
      refine y_iinc (fun t4 => [some (.ref a0), some (.int z1), some (.ref a2), some (.int t4), none]) dX3_worth_93 rfl kc_1 (by decide) (fun _ => rfl) (fun t4 et4 => ?_)
      have hf := z_l_el hf et4
      refine z_goto (tgt := 2) dX3_worth_96 (by decide) ?_
      cases hf
      exact y_sub hk (z_le_c rfl (z_le_c rfl (z_le_c rfl (z_le_c rfl (z_le_n z_le_0)))))
    · have hf := z_if_t hf c3
      refine z_aload_n dX3_worth_20 rfl rfl (z_okl g_a0) ?_
      refine z_aload_n dX3_worth_21 rfl rfl (z_okl g_a0) ?_
      refine y_getR lfX3_22 rfl g_a0 dX3_worth_22 ?_
      refine z_iload_n dX3_worth_25 rfl rfl ?_
      obtain ⟨g5, hf⟩ := z_g_el hf
      refine y_iald g5 dX3_worth_26 ?_
      refine z_aload_n dX3_worth_27 rfl rfl (z_okl g_a0) ?_
      refine y_getR lfX3_25 rfl g_a0 dX3_worth_28 ?_
      refine z_iload_n dX3_worth_31 rfl rfl ?_
      obtain ⟨g6, hf⟩ := z_g_el hf
      refine y_iald g6 dX3_worth_32 ?_
      refine z_aload_n dX3_worth_33 rfl rfl (z_ar_lt g_a2) ?_
      obtain ⟨q7, hq7, hf⟩ := z_b_el hf
      refine y_cVi (av := [.int (I (R a0 5) p3.toNatClampNeg), .int (I (R a0 6) p3.toNatClampNeg), .ref a2]) (Nat.le_trans (Nat.le_of_ble_eq_true rfl) hd) (wX3_reckon (z_dl rfl hd) hq7) oX3_reckon lmX3_42 iX3_reckon g_a0 rfl _ rfl rfl (Nat.le_of_ble_eq_true rfl) dX3_worth_34 ?_
      refine z_if_eq (tgt := 93) dX3_worth_37 (by decide) (fun c8 => ?_) (fun c8 => ?_)
      · have hf := z_if_t hf c8
        refine y_iinc (fun t9 => [some (.ref a0), some (.int z1), some (.ref a2), some (.int t9), none]) dX3_worth_93 rfl kc_1 (by decide) (fun _ => rfl) (fun t9 et9 => ?_)
        have hf := z_l_el hf et9
        refine z_goto (tgt := 2) dX3_worth_96 (by decide) ?_
        cases hf
        exact y_sub hk (z_le_c rfl (z_le_c rfl (z_le_c rfl (z_le_c rfl (z_le_n z_le_0)))))
      · have hf := z_if_f hf c8
        refine z_aload_n dX3_worth_40 rfl rfl (z_okl g_a0) ?_
        refine y_getI lfX3_46 rfl g_a0 dX3_worth_41 ?_
        refine z_if_eq (tgt := 93) dX3_worth_44 (by decide) (fun c10 => ?_) (fun c10 => ?_)
        · have hf := z_if_t hf c10
          refine y_iinc (fun t11 => [some (.ref a0), some (.int z1), some (.ref a2), some (.int t11), none]) dX3_worth_93 rfl kc_1 (by decide) (fun _ => rfl) (fun t11 et11 => ?_)
          have hf := z_l_el hf et11
          refine z_goto (tgt := 2) dX3_worth_96 (by decide) ?_
          cases hf
          exact y_sub hk (z_le_c rfl (z_le_c rfl (z_le_c rfl (z_le_c rfl (z_le_n z_le_0)))))
        · have hf := z_if_f hf c10
          cases hf
          exact y_sub hk (z_le_c rfl (z_le_c rfl (z_le_c rfl (z_le_c rfl (z_le_n z_le_0)))))
def fX3_worth_j77 (a0 : Nat) (a2 : Nat) (y1 : Int32) (v0 : Int32) (I : Nat → Nat → Int32) (R : Nat → Nat → Nat) : Option (Int32 × (Nat → Nat → Int32)) :=
  z_b (fX3_highestOf y1) (fun q19 => some (z_max (0 : Int32) (z_min v0 q19), I))
theorem wX3_worth_j77 {G : z_G} {d : Nat} {Q : Option Value → z_S → z_H → Prop} {a0 : Nat} {a2 : Nat} {y1 : Int32} {v0 : Int32} {I : Nat → Nat → Int32} {R : Nat → Nat → Nat} {o : Int32 × (Nat → Nat → Int32)} (hd : 2 ≤ d) (g_a0 : z_ob a0 3) (g_a2 : z_ar a2) (hf : fX3_worth_j77 a0 a2 y1 v0 I R = some o) (hk : Q (some (.int o.1)) z_SH (o.2, R)) : z_W G eX3_worth d 0 0 77 [none, some (.int y1), none, none, none] [.int v0] z_SH (I, R) Q := by
  unfold fX3_worth_j77 at hf
  refine y_istore0 [none, some (.int y1), none, none, some (.int v0)] dX3_worth_77 (by decide) rfl ?_
  refine z_iconst dX3_worth_79 kc_0 ?_
  refine z_iload dX3_worth_80 rfl ?_
  refine z_iload_n dX3_worth_82 rfl rfl ?_
  obtain ⟨q19, hq19, hf⟩ := z_b_el hf
  refine y_cSi (Nat.le_trans (Nat.le_of_ble_eq_true rfl) hd) (wX3_highestOf (z_dl rfl hd) hq19) oX3_highestOf lmX3_50 sX3_highestOf _ rfl rfl (Nat.le_of_ble_eq_true rfl) dX3_worth_83 ?_
  refine y_min (Nat.le_trans (Nat.le_of_ble_eq_true rfl) hd) lmX3_54 (Nat.le_of_ble_eq_true rfl) dX3_worth_86 ?_
  refine y_max (Nat.le_trans (Nat.le_of_ble_eq_true rfl) hd) lmX3_60 (Nat.le_of_ble_eq_true rfl) dX3_worth_89 ?_
  cases hf
  exact z_iret hk ⟨_, rfl, rfl⟩ dX3_worth_92
def fX3_worth (a0 : Nat) (x1 : Int32) (a2 : Nat) (I : Nat → Nat → Int32) (R : Nat → Nat → Nat) : Option (Int32 × (Nat → Nat → Int32)) :=
  z_g (z_ob a0 3) (z_g (z_ar a2) (z_b (z_lp (fX3_worth_b2 a0 a2 x1 R) 300 ((0 : Int32), I)) (fun q12 => z_x q12 (fun q14 => some q14) (fun q13 => z_g (z_ok 1 (R a0 4) q13.1) (z_g (z_ok 1 (R a0 5) q13.1) (z_b (fX3_reckon a0 (q13.2 (R a0 4) q13.1.toNatClampNeg) (q13.2 (R a0 5) q13.1.toNatClampNeg) a2 q13.2 R) (fun q17 => if q17.1 = 0 then (fX3_worth_j77 a0 a2 x1 (0 : Int32) q17.2 R) else (z_g (z_ok 1 (R a0 8) (0 : Int32)) (fX3_worth_j77 a0 a2 x1 (q17.2 (R a0 8) (0 : Int32).toNatClampNeg) q17.2 R)))))))))
theorem vX3_worth {G : z_G} {d : Nat} {Q : Option Value → z_S → z_H → Prop} {a0 : Nat} {x1 : Int32} {a2 : Nat} {I : Nat → Nat → Int32} {R : Nat → Nat → Nat} {q : Int32 × (Nat → Nat → Int32)} (hd : 2 ≤ d) (hf : fX3_worth a0 x1 a2 I R = some q) (hk : Q (some (.int q.1)) z_SH (q.2, R)) : z_W G eX3_worth d 0 0 0 [some (.ref a0), some (.int x1), some (.ref a2), none, none] [] z_SH (I, R) Q := by
  unfold fX3_worth at hf
  obtain ⟨g_a0, hf⟩ := z_g_el hf
  obtain ⟨g_a2, hf⟩ := z_g_el hf
  refine z_iconst dX3_worth_0 kc_0 ?_
  refine y_istore_n0 [some (.ref a0), some (.int x1), some (.ref a2), some (.int (0 : Int32)), none] dX3_worth_1 rfl (by decide) rfl ?_
  obtain ⟨q12, hq12, hf⟩ := z_b_el hf
  refine y_sub (lv' := [some (.ref a0), some (.int x1), some (.ref a2), some (.int (0 : Int32)), none]) ?_ (z_le_c rfl (z_le_c rfl (z_le_c rfl (z_le_c rfl (z_le_n z_le_0)))))
  refine z_lp_el (P := (fun s : Int32 × (Nat → Nat → Int32) => z_W G eX3_worth d 0 0 2 [some (.ref a0), some (.int x1), some (.ref a2), some (.int s.1), none] [] z_SH (s.2, R) Q)) (E := (z_or (fun r : Int32 × (Nat → Nat → Int32) => Q (some (.int r.1)) z_SH (r.2, R)) (fun x : Int32 × (Nat → Nat → Int32) => z_W G eX3_worth d 0 0 47 [some (.ref a0), some (.int x1), some (.ref a2), some (.int x.1), none] [] z_SH (x.2, R) Q))) (wX3_worth_b2 hd g_a0 g_a2) 300 ((0 : Int32), I) q12 hq12 ?_
  rcases q12 with q14 | q13
  · have hf := z_x_l hf
    cases hf
    exact hk
  · have hf := z_x_r hf
    show z_W G eX3_worth d 0 0 47 [some (.ref a0), some (.int x1), some (.ref a2), some (.int q13.1), none] [] z_SH (q13.2, R) _
    refine z_aload_n dX3_worth_47 rfl rfl (z_okl g_a0) ?_
    refine z_aload_n dX3_worth_48 rfl rfl (z_okl g_a0) ?_
    refine y_getR lfX3_19 rfl g_a0 dX3_worth_49 ?_
    refine z_iload_n dX3_worth_52 rfl rfl ?_
    obtain ⟨g15, hf⟩ := z_g_el hf
    refine y_iald g15 dX3_worth_53 ?_
    refine z_aload_n dX3_worth_54 rfl rfl (z_okl g_a0) ?_
    refine y_getR lfX3_22 rfl g_a0 dX3_worth_55 ?_
    refine z_iload_n dX3_worth_58 rfl rfl ?_
    obtain ⟨g16, hf⟩ := z_g_el hf
    refine y_iald g16 dX3_worth_59 ?_
    refine z_aload_n dX3_worth_60 rfl rfl (z_ar_lt g_a2) ?_
    obtain ⟨q17, hq17, hf⟩ := z_b_el hf
    refine y_cVi (av := [.int (q13.2 (R a0 4) q13.1.toNatClampNeg), .int (q13.2 (R a0 5) q13.1.toNatClampNeg), .ref a2]) (Nat.le_trans (Nat.le_of_ble_eq_true rfl) hd) (wX3_reckon (z_dl rfl hd) hq17) oX3_reckon lmX3_42 iX3_reckon g_a0 rfl _ rfl rfl (Nat.le_of_ble_eq_true rfl) dX3_worth_61 ?_
    refine z_if_eq (tgt := 76) dX3_worth_64 (by decide) (fun c18 => ?_) (fun c18 => ?_)
    · have hf := z_if_t hf c18
      refine z_iconst dX3_worth_76 kc_0 ?_
      exact y_sub (wX3_worth_j77 hd g_a0 g_a2 hf hk) (z_le_n (z_le_c rfl (z_le_n (z_le_n (z_le_n z_le_0)))))
    · have hf := z_if_f hf c18
      refine z_aload_n dX3_worth_67 rfl rfl (z_okl g_a0) ?_
      refine y_getR lfX3_28 rfl g_a0 dX3_worth_68 ?_
      refine z_iconst dX3_worth_71 kc_0 ?_
      obtain ⟨g20, hf⟩ := z_g_el hf
      refine y_iald g20 dX3_worth_72 ?_
      refine z_goto (tgt := 77) dX3_worth_73 (by decide) ?_
      exact y_sub (wX3_worth_j77 hd g_a0 g_a2 hf hk) (z_le_n (z_le_c rfl (z_le_n (z_le_n (z_le_n z_le_0)))))
theorem wX3_worth {G : z_G} {d : Nat} {a0 : Nat} {x1 : Int32} {a2 : Nat} {I : Nat → Nat → Int32} {R : Nat → Nat → Nat} {q : Int32 × (Nat → Nat → Int32)} (hd : 2 ≤ d) (hf : fX3_worth a0 x1 a2 I R = some q) : z_M G d 0 0 eX3_worth [.ref a0, .int x1, .ref a2] z_SH (I, R) (z_E (some (.int q.1)) (q.2, R)) :=
  y_M_of _ (by decide +kernel) rfl rfl rfl (vX3_worth hd hf ⟨rfl, rfl, rfl⟩)
def fX8_speed (a0 : Nat) (I : Nat → Nat → Int32) : Option (Int32) :=
  z_g (z_ob a0 8) (some ((60 : Int32) + (I a0 1)))
theorem vX8_speed {G : z_G} {d : Nat} {Q : Option Value → z_S → z_H → Prop} {a0 : Nat} {I : Nat → Nat → Int32} {R : Nat → Nat → Nat} {q : Int32} (hd : 0 ≤ d) (hf : fX8_speed a0 I = some q) (hk : Q (some (.int q)) z_SH (I, R)) : z_W G eX8_speed d 0 0 0 [some (.ref a0)] [] z_SH (I, R) Q := by
  unfold fX8_speed at hf
  obtain ⟨g_a0, hf⟩ := z_g_el hf
  refine z_bipush dX8_speed_0 kb_60 ?_
  refine z_aload_n dX8_speed_2 rfl rfl (z_okl g_a0) ?_
  refine y_getI lfX8_32 rfl g_a0 dX8_speed_3 ?_
  refine z_iadd dX8_speed_6 ?_
  cases hf
  exact z_iret hk ⟨_, rfl, rfl⟩ dX8_speed_7
theorem wX8_speed {G : z_G} {d : Nat} {a0 : Nat} {I : Nat → Nat → Int32} {R : Nat → Nat → Nat} {q : Int32} (hd : 0 ≤ d) (hf : fX8_speed a0 I = some q) : z_M G d 0 0 eX8_speed [.ref a0] z_SH (I, R) (z_E (some (.int q)) (I, R)) :=
  y_M_of _ (by decide +kernel) rfl rfl rfl (vX8_speed hd hf ⟨rfl, rfl, rfl⟩)
def fX2_goesOn_j55 (a0 : Nat) (a1 : Nat) (v0 : Nat) (v1 : Int32) (I : Nat → Nat → Int32) (R : Nat → Nat → Nat) : Option (Int32 × (Nat → Nat → Int32)) :=
  z_g (z_ob v0 8) (z_g (v1 = 0 ∨ v1 = 1) (z_l (z_u I v0 9 v1) (fun I29 => some ((0 : Int32), I29))))
theorem wX2_goesOn_j55 {G : z_G} {d : Nat} {Q : Option Value → z_S → z_H → Prop} {a0 : Nat} {a1 : Nat} {v0 : Nat} {v1 : Int32} {I : Nat → Nat → Int32} {R : Nat → Nat → Nat} {o : Int32 × (Nat → Nat → Int32)} (hd : 3 ≤ d) (g_a0 : z_ob a0 2) (g_a1 : z_ob a1 9) (hf : fX2_goesOn_j55 a0 a1 v0 v1 I R = some o) (hk : Q (some (.int o.1)) z_SH (o.2, R)) : z_W G eX2_goesOn d 0 0 55 [none, none, none, none, none] [.int v1, .ref v0] z_SH (I, R) Q := by
  unfold fX2_goesOn_j55 at hf
  obtain ⟨g27, hf⟩ := z_g_el hf
  obtain ⟨g28, hf⟩ := z_g_el hf
  refine y_putI lfX2_72 rfl g27 rfl (z_bn g28) (z_bf g28) dX2_goesOn_55 (fun I29 eI29 => ?_)
  have hf := z_l_el hf eI29
  refine z_iconst dX2_goesOn_58 kc_0 ?_
  cases hf
  exact z_iret hk ⟨_, rfl, rfl⟩ dX2_goesOn_59
def fX2_goesOn (a0 : Nat) (a1 : Nat) (x2 : Int32) (I : Nat → Nat → Int32) (R : Nat → Nat → Nat) : Option (Int32 × (Nat → Nat → Int32)) :=
  z_g (z_ob a0 2) (z_g (z_ob a1 9) (z_b (fX12_isSinger x2) (fun q1 => if q1 = 0 then (some ((0 : Int32), I)) else (z_g (z_ok 4 (R a1 0) x2) (z_g (z_ob (R (R a1 0) x2.toNatClampNeg) 8) (if (I (R (R a1 0) x2.toNatClampNeg) 9) = 0 then (z_b (fX2_setLetters a0 a1 x2 I R) (fun q6 => z_g (z_ob (R a0 0) 7) (z_g (z_ob (R (R a0 0) 2) 3) (z_b (fX3_silences (R (R a0 0) 2) (R a0 2) q6 R) (fun q8 => if q8.1 = 0 then (z_b (fX9_draw a1 q8.2) (fun q11 => z_b (fX3_worth (R (R a0 0) 2) (3 : Int32) (R a0 2) q11.2 R) (fun q12 => if q12.1 ≤ q11.1 then (z_b (fX8_speed (R (R a1 0) x2.toNatClampNeg) q12.2) (fun q14 => z_b (fX3_worth (R (R a0 0) 2) (0 : Int32) (R a0 2) q12.2 R) (fun q15 => z_b (fX3_worth (R (R a0 0) 2) (1 : Int32) (R a0 2) q15.2 R) (fun q16 => z_l ((q14 + q15.1) - q16.1) (fun t17 => z_l (z_u q16.2 (R (R a1 0) x2.toNatClampNeg) 6 ((q16.2 (R (R a1 0) x2.toNatClampNeg) 6) + (z_max (0 : Int32) t17))) (fun I18 => some ((1 : Int32), I18))))))) else (z_l (z_u q12.2 a0 5 ((q12.2 a0 5) + (1 : Int32))) (fun I19 => some ((0 : Int32), I19)))))) else (some ((0 : Int32), q8.2))))))) else (z_g (z_ob (R a0 0) 7) (z_g (z_ok 3 (R (R a0 0) 0) x2) (z_g (z_ok 1 (R a0 1) x2) (z_g (z_ob (R (R (R a0 0) 0) x2.toNatClampNeg) 5) (z_b (fX5_fermatasWithin (R (R (R a0 0) 0) x2.toNatClampNeg) (I (R a0 1) x2.toNatClampNeg) I R) (fun q23 => z_b (fX2_allHaveCome a0 a1 q23 I R) (fun q25 => if q25 = 0 then (fX2_goesOn_j55 a0 a1 (R (R a1 0) x2.toNatClampNeg) (1 : Int32) I R) else (fX2_goesOn_j55 a0 a1 (R (R a1 0) x2.toNatClampNeg) (0 : Int32) I R))))))))))))))
set_option maxRecDepth 20000 in
theorem vX2_goesOn {G : z_G} {d : Nat} {Q : Option Value → z_S → z_H → Prop} {a0 : Nat} {a1 : Nat} {x2 : Int32} {I : Nat → Nat → Int32} {R : Nat → Nat → Nat} {q : Int32 × (Nat → Nat → Int32)} (hd : 3 ≤ d) (hf : fX2_goesOn a0 a1 x2 I R = some q) (hk : Q (some (.int q.1)) z_SH (q.2, R)) : z_W G eX2_goesOn d 0 0 0 [some (.ref a0), some (.ref a1), some (.int x2), none, none] [] z_SH (I, R) Q := by
  unfold fX2_goesOn at hf
  obtain ⟨g_a0, hf⟩ := z_g_el hf
  obtain ⟨g_a1, hf⟩ := z_g_el hf
  refine z_iload_n dX2_goesOn_0 rfl rfl ?_
  obtain ⟨q1, hq1, hf⟩ := z_b_el hf
  refine y_cNi (Nat.le_trans (Nat.le_of_ble_eq_true rfl) hd) (wX12_isSinger (z_dl rfl hd) hq1) oX12_isSinger lnX2_34 sX12_isSinger _ rfl rfl (Nat.le_of_ble_eq_true rfl) dX2_goesOn_1 ?_
  refine z_if_ne (tgt := 9) dX2_goesOn_4 (by decide) (fun c2 => ?_) (fun c2 => ?_)
  · have hf := z_if_f hf c2
    refine z_aload_n dX2_goesOn_9 rfl rfl (z_okl g_a1) ?_
    refine y_getR lfX2_38 rfl g_a1 dX2_goesOn_10 ?_
    refine z_iload_n dX2_goesOn_13 rfl rfl ?_
    obtain ⟨g3, hf⟩ := z_g_el hf
    refine y_aald (t := 1) (Or.inr rfl) g3 dX2_goesOn_14 ?_
    obtain ⟨g4, hf⟩ := z_g_el hf
    refine y_astore_n [some (.ref a0), some (.ref a1), some (.int x2), some (.ref (R (R a1 0) x2.toNatClampNeg)), none] dX2_goesOn_15 rfl (by decide) (z_okl g4) rfl ?_
    refine z_aload_n dX2_goesOn_16 rfl rfl (z_okl g4) ?_
    refine y_getI lfX2_72 rfl g4 dX2_goesOn_17 ?_
    refine z_if_eq (tgt := 60) dX2_goesOn_20 (by decide) (fun c5 => ?_) (fun c5 => ?_)
    · have hf := z_if_t hf c5
      refine z_aload_n dX2_goesOn_60 rfl rfl (z_okl g_a0) ?_
      refine z_aload_n dX2_goesOn_61 rfl rfl (z_okl g_a1) ?_
      refine z_iload_n dX2_goesOn_62 rfl rfl ?_
      obtain ⟨q6, hq6, hf⟩ := z_b_el hf
      refine y_cVv (av := [.ref a1, .int x2]) (Nat.le_trans (Nat.le_of_ble_eq_true rfl) hd) (wX2_setLetters (z_dl rfl hd) hq6) oX2_setLetters lmX2_105 iX2_setLetters g_a0 rfl _ rfl rfl (Nat.le_of_ble_eq_true rfl) dX2_goesOn_63 ?_
      refine z_aload_n dX2_goesOn_66 rfl rfl (z_okl g_a0) ?_
      refine y_getR lfX2_9 rfl g_a0 dX2_goesOn_67 ?_
      obtain ⟨g7, hf⟩ := z_g_el hf
      refine y_getR lfX2_109 rfl g7 dX2_goesOn_70 ?_
      refine z_aload_n dX2_goesOn_73 rfl rfl (z_okl g_a0) ?_
      refine y_getR lfX2_21 rfl g_a0 dX2_goesOn_74 ?_
      obtain ⟨g9, hf⟩ := z_g_el hf
      obtain ⟨q8, hq8, hf⟩ := z_b_el hf
      refine y_cVi (av := [.ref (R a0 2)]) (Nat.le_trans (Nat.le_of_ble_eq_true rfl) hd) (wX3_silences (z_dl rfl hd) hq8) oX3_silences lmX2_113 iX3_silences g9 rfl _ rfl rfl (Nat.le_of_ble_eq_true rfl) dX2_goesOn_77 ?_
      refine z_if_eq (tgt := 85) dX2_goesOn_80 (by decide) (fun c10 => ?_) (fun c10 => ?_)
      · have hf := z_if_t hf c10
        refine z_aload_n dX2_goesOn_85 rfl rfl (z_okl g_a1) ?_
        obtain ⟨q11, hq11, hf⟩ := z_b_el hf
        refine y_cVi (av := []) (Nat.le_trans (Nat.le_of_ble_eq_true rfl) hd) (wX9_draw (z_dl rfl hd) hq11) oX9_draw lmX2_117 iX9_draw g_a1 rfl _ rfl rfl (Nat.le_of_ble_eq_true rfl) dX2_goesOn_86 ?_
        refine z_aload_n dX2_goesOn_89 rfl rfl (z_okl g_a0) ?_
        refine y_getR lfX2_9 rfl g_a0 dX2_goesOn_90 ?_
        refine y_getR lfX2_109 rfl g7 dX2_goesOn_93 ?_
        refine z_iconst dX2_goesOn_96 kc_3 ?_
        refine z_aload_n dX2_goesOn_97 rfl rfl (z_okl g_a0) ?_
        refine y_getR lfX2_21 rfl g_a0 dX2_goesOn_98 ?_
        obtain ⟨q12, hq12, hf⟩ := z_b_el hf
        refine y_cVi (av := [.int (3 : Int32), .ref (R a0 2)]) (Nat.le_trans (Nat.le_of_ble_eq_true rfl) hd) (wX3_worth (z_dl rfl hd) hq12) oX3_worth lmX2_120 iX3_worth g9 rfl _ rfl rfl (Nat.le_of_ble_eq_true rfl) dX2_goesOn_101 ?_
        refine z_icmp_ge (tgt := 119) dX2_goesOn_104 (by decide) (fun c13 => ?_) (fun c13 => ?_)
        · have hf := z_if_t hf c13
          refine z_aload_n dX2_goesOn_119 rfl rfl (z_okl g4) ?_
          obtain ⟨q14, hq14, hf⟩ := z_b_el hf
          refine y_cVi (av := []) (Nat.le_trans (Nat.le_of_ble_eq_true rfl) hd) (wX8_speed (z_dl rfl hd) hq14) oX8_speed lmX2_124 iX8_speed g4 rfl _ rfl rfl (Nat.le_of_ble_eq_true rfl) dX2_goesOn_120 ?_
          refine z_aload_n dX2_goesOn_123 rfl rfl (z_okl g_a0) ?_
          refine y_getR lfX2_9 rfl g_a0 dX2_goesOn_124 ?_
          refine y_getR lfX2_109 rfl g7 dX2_goesOn_127 ?_
          refine z_iconst dX2_goesOn_130 kc_0 ?_
          refine z_aload_n dX2_goesOn_131 rfl rfl (z_okl g_a0) ?_
          refine y_getR lfX2_21 rfl g_a0 dX2_goesOn_132 ?_
          obtain ⟨q15, hq15, hf⟩ := z_b_el hf
          refine y_cVi (av := [.int (0 : Int32), .ref (R a0 2)]) (Nat.le_trans (Nat.le_of_ble_eq_true rfl) hd) (wX3_worth (z_dl rfl hd) hq15) oX3_worth lmX2_120 iX3_worth g9 rfl _ rfl rfl (Nat.le_of_ble_eq_true rfl) dX2_goesOn_135 ?_
          refine z_iadd dX2_goesOn_138 ?_
          refine z_aload_n dX2_goesOn_139 rfl rfl (z_okl g_a0) ?_
          refine y_getR lfX2_9 rfl g_a0 dX2_goesOn_140 ?_
          refine y_getR lfX2_109 rfl g7 dX2_goesOn_143 ?_
          refine z_iconst dX2_goesOn_146 kc_1 ?_
          refine z_aload_n dX2_goesOn_147 rfl rfl (z_okl g_a0) ?_
          refine y_getR lfX2_21 rfl g_a0 dX2_goesOn_148 ?_
          obtain ⟨q16, hq16, hf⟩ := z_b_el hf
          refine y_cVi (av := [.int (1 : Int32), .ref (R a0 2)]) (Nat.le_trans (Nat.le_of_ble_eq_true rfl) hd) (wX3_worth (z_dl rfl hd) hq16) oX3_worth lmX2_120 iX3_worth g9 rfl _ rfl rfl (Nat.le_of_ble_eq_true rfl) dX2_goesOn_151 ?_
          refine z_isub dX2_goesOn_154 ?_
          refine y_istore (fun t17 => [some (.ref a0), some (.ref a1), some (.int x2), some (.ref (R (R a1 0) x2.toNatClampNeg)), some (.int t17)]) dX2_goesOn_155 (by decide) (fun _ => rfl) (fun t17 et17 => ?_)
          have hf := z_l_el hf et17
          refine z_aload_n dX2_goesOn_157 rfl rfl (z_okl g4) ?_
          refine z_dup dX2_goesOn_158 rfl ?_
          refine y_getI lfX2_127 rfl g4 dX2_goesOn_159 ?_
          refine z_iconst dX2_goesOn_162 kc_0 ?_
          refine z_iload dX2_goesOn_163 rfl ?_
          refine y_max (Nat.le_trans (Nat.le_of_ble_eq_true rfl) hd) lmX2_79 (Nat.le_of_ble_eq_true rfl) dX2_goesOn_165 ?_
          refine z_iadd dX2_goesOn_168 ?_
          refine y_putI lfX2_127 rfl g4 rfl rfl rfl dX2_goesOn_169 (fun I18 eI18 => ?_)
          have hf := z_l_el hf eI18
          refine z_iconst dX2_goesOn_172 kc_1 ?_
          cases hf
          exact z_iret hk ⟨_, rfl, rfl⟩ dX2_goesOn_173
        · have hf := z_if_f hf c13
          refine z_aload_n dX2_goesOn_107 rfl rfl (z_okl g_a0) ?_
          refine z_dup dX2_goesOn_108 rfl ?_
          refine y_getI lfX2_31 rfl g_a0 dX2_goesOn_109 ?_
          refine z_iconst dX2_goesOn_112 kc_1 ?_
          refine z_iadd dX2_goesOn_113 ?_
          refine y_putI lfX2_31 rfl g_a0 rfl rfl rfl dX2_goesOn_114 (fun I19 eI19 => ?_)
          have hf := z_l_el hf eI19
          refine z_iconst dX2_goesOn_117 kc_0 ?_
          cases hf
          exact z_iret hk ⟨_, rfl, rfl⟩ dX2_goesOn_118
      · have hf := z_if_f hf c10
        refine z_iconst dX2_goesOn_83 kc_0 ?_
        cases hf
        exact z_iret hk ⟨_, rfl, rfl⟩ dX2_goesOn_84
    · have hf := z_if_f hf c5
      refine z_aload_n dX2_goesOn_23 rfl rfl (z_okl g4) ?_
      refine z_aload_n dX2_goesOn_24 rfl rfl (z_okl g_a0) ?_
      refine z_aload_n dX2_goesOn_25 rfl rfl (z_okl g_a1) ?_
      refine z_aload_n dX2_goesOn_26 rfl rfl (z_okl g_a0) ?_
      refine y_getR lfX2_9 rfl g_a0 dX2_goesOn_27 ?_
      obtain ⟨g20, hf⟩ := z_g_el hf
      refine y_getR lfX2_49 rfl g20 dX2_goesOn_30 ?_
      refine z_iload_n dX2_goesOn_33 rfl rfl ?_
      obtain ⟨g21, hf⟩ := z_g_el hf
      refine y_aald (t := 0) (Or.inl rfl) g21 dX2_goesOn_34 ?_
      refine z_aload_n dX2_goesOn_35 rfl rfl (z_okl g_a0) ?_
      refine y_getR lfX2_15 rfl g_a0 dX2_goesOn_36 ?_
      refine z_iload_n dX2_goesOn_39 rfl rfl ?_
      obtain ⟨g22, hf⟩ := z_g_el hf
      refine y_iald g22 dX2_goesOn_40 ?_
      obtain ⟨g24, hf⟩ := z_g_el hf
      obtain ⟨q23, hq23, hf⟩ := z_b_el hf
      refine y_cVi (av := [.int (I (R a0 1) x2.toNatClampNeg)]) (Nat.le_trans (Nat.le_of_ble_eq_true rfl) hd) (wX5_fermatasWithin (z_dl rfl hd) hq23) oX5_fermatasWithin lmX2_99 iX5_fermatasWithin g24 rfl _ rfl rfl (Nat.le_of_ble_eq_true rfl) dX2_goesOn_41 ?_
      obtain ⟨q25, hq25, hf⟩ := z_b_el hf
      refine y_cVi (av := [.ref a1, .int q23]) (Nat.le_trans (Nat.le_of_ble_eq_true rfl) hd) (wX2_allHaveCome (z_dl rfl hd) hq25) oX2_allHaveCome lmX2_102 iX2_allHaveCome g_a0 rfl _ rfl rfl (Nat.le_of_ble_eq_true rfl) dX2_goesOn_44 ?_
      refine z_if_ne (tgt := 54) dX2_goesOn_47 (by decide) (fun c26 => ?_) (fun c26 => ?_)
      · have hf := z_if_f hf c26
        refine z_iconst dX2_goesOn_54 kc_0 ?_
        exact y_sub (wX2_goesOn_j55 hd g_a0 g_a1 hf hk) (z_le_n (z_le_n (z_le_n (z_le_n (z_le_n z_le_0)))))
      · have hf := z_if_t hf c26
        refine z_iconst dX2_goesOn_50 kc_1 ?_
        refine z_goto (tgt := 55) dX2_goesOn_51 (by decide) ?_
        exact y_sub (wX2_goesOn_j55 hd g_a0 g_a1 hf hk) (z_le_n (z_le_n (z_le_n (z_le_n (z_le_n z_le_0)))))
  · have hf := z_if_t hf c2
    refine z_iconst dX2_goesOn_7 kc_0 ?_
    cases hf
    exact z_iret hk ⟨_, rfl, rfl⟩ dX2_goesOn_8
theorem wX2_goesOn {G : z_G} {d : Nat} {a0 : Nat} {a1 : Nat} {x2 : Int32} {I : Nat → Nat → Int32} {R : Nat → Nat → Nat} {q : Int32 × (Nat → Nat → Int32)} (hd : 3 ≤ d) (hf : fX2_goesOn a0 a1 x2 I R = some q) : z_M G d 0 0 eX2_goesOn [.ref a0, .ref a1, .int x2] z_SH (I, R) (z_E (some (.int q.1)) (q.2, R)) :=
  y_M_of _ (by decide +kernel) rfl rfl rfl (vX2_goesOn hd hf ⟨rfl, rfl, rfl⟩)
def fX2_spendBreath (a0 : Nat) (a1 : Nat) (x2 : Int32) (I : Nat → Nat → Int32) (R : Nat → Nat → Nat) : Option ((Nat → Nat → Int32)) :=
  z_g (z_ob a0 2) (z_g (z_ob a1 8) (if (I a1 7) = 0 then (z_l (z_u I a1 8 ((I a1 8) + (1 : Int32))) (fun I10 => z_l (z_u I10 a0 4 ((I10 a0 4) + (1 : Int32))) (fun I11 => some I11))) else (z_g (z_ok 1 (R a0 2) (5 : Int32)) (z_l (z_u I (R a0 2) (5 : Int32).toNatClampNeg (I a1 7)) (fun I3 => z_g (z_ok 1 (R a0 2) (6 : Int32)) (z_l (z_u I3 (R a0 2) (6 : Int32).toNatClampNeg x2) (fun I5 => z_g (z_ob (R a0 0) 7) (z_g (z_ob (R (R a0 0) 2) 3) (z_b (fX3_worth (R (R a0 0) 2) (2 : Int32) (R a0 2) I5 R) (fun q7 => z_l (z_u q7.2 a1 7 (z_max (0 : Int32) ((I5 a1 7) - q7.1))) (fun I9 => some I9)))))))))))
theorem vX2_spendBreath {G : z_G} {d : Nat} {Q : Option Value → z_S → z_H → Prop} {a0 : Nat} {a1 : Nat} {x2 : Int32} {I : Nat → Nat → Int32} {R : Nat → Nat → Nat} {q : (Nat → Nat → Int32)} (hd : 3 ≤ d) (hf : fX2_spendBreath a0 a1 x2 I R = some q) (hk : Q none z_SH (q, R)) : z_W G eX2_spendBreath d 0 0 0 [some (.ref a0), some (.ref a1), some (.int x2)] [] z_SH (I, R) Q := by
  unfold fX2_spendBreath at hf
  obtain ⟨g_a0, hf⟩ := z_g_el hf
  obtain ⟨g_a1, hf⟩ := z_g_el hf
  refine z_aload_n dX2_spendBreath_0 rfl rfl (z_okl g_a1) ?_
  refine y_getI lfX2_143 rfl g_a1 dX2_spendBreath_1 ?_
  refine z_if_ne (tgt := 28) dX2_spendBreath_4 (by decide) (fun c1 => ?_) (fun c1 => ?_)
  · have hf := z_if_f hf c1
    refine z_aload_n dX2_spendBreath_28 rfl rfl (z_okl g_a0) ?_
    refine y_getR lfX2_21 rfl g_a0 dX2_spendBreath_29 ?_
    refine z_iconst dX2_spendBreath_32 kc_5 ?_
    refine z_aload_n dX2_spendBreath_33 rfl rfl (z_okl g_a1) ?_
    refine y_getI lfX2_143 rfl g_a1 dX2_spendBreath_34 ?_
    obtain ⟨g2, hf⟩ := z_g_el hf
    refine y_iast g2 dX2_spendBreath_37 (fun I3 eI3 => ?_)
    have hf := z_l_el hf eI3
    refine z_aload_n dX2_spendBreath_38 rfl rfl (z_okl g_a0) ?_
    refine y_getR lfX2_21 rfl g_a0 dX2_spendBreath_39 ?_
    refine z_bipush dX2_spendBreath_42 kb_6 ?_
    refine z_iload_n dX2_spendBreath_44 rfl rfl ?_
    obtain ⟨g4, hf⟩ := z_g_el hf
    refine y_iast g4 dX2_spendBreath_45 (fun I5 eI5 => ?_)
    have hf := z_l_el hf eI5
    refine z_aload_n dX2_spendBreath_46 rfl rfl (z_okl g_a1) ?_
    refine z_iconst dX2_spendBreath_47 kc_0 ?_
    refine z_aload_n dX2_spendBreath_48 rfl rfl (z_okl g_a1) ?_
    refine y_getI lfX2_143 rfl g_a1 dX2_spendBreath_49 ?_
    refine z_aload_n dX2_spendBreath_52 rfl rfl (z_okl g_a0) ?_
    refine y_getR lfX2_9 rfl g_a0 dX2_spendBreath_53 ?_
    obtain ⟨g6, hf⟩ := z_g_el hf
    refine y_getR lfX2_109 rfl g6 dX2_spendBreath_56 ?_
    refine z_iconst dX2_spendBreath_59 kc_2 ?_
    refine z_aload_n dX2_spendBreath_60 rfl rfl (z_okl g_a0) ?_
    refine y_getR lfX2_21 rfl g_a0 dX2_spendBreath_61 ?_
    obtain ⟨g8, hf⟩ := z_g_el hf
    obtain ⟨q7, hq7, hf⟩ := z_b_el hf
    refine y_cVi (av := [.int (2 : Int32), .ref (R a0 2)]) (Nat.le_trans (Nat.le_of_ble_eq_true rfl) hd) (wX3_worth (z_dl rfl hd) hq7) oX3_worth lmX2_120 iX3_worth g8 rfl _ rfl rfl (Nat.le_of_ble_eq_true rfl) dX2_spendBreath_64 ?_
    refine z_isub dX2_spendBreath_67 ?_
    refine y_max (Nat.le_trans (Nat.le_of_ble_eq_true rfl) hd) lmX2_79 (Nat.le_of_ble_eq_true rfl) dX2_spendBreath_68 ?_
    refine y_putI lfX2_143 rfl g_a1 rfl rfl rfl dX2_spendBreath_71 (fun I9 eI9 => ?_)
    have hf := z_l_el hf eI9
    cases hf
    exact z_vret hk rfl dX2_spendBreath_74
  · have hf := z_if_t hf c1
    refine z_aload_n dX2_spendBreath_7 rfl rfl (z_okl g_a1) ?_
    refine z_dup dX2_spendBreath_8 rfl ?_
    refine y_getI lfX2_162 rfl g_a1 dX2_spendBreath_9 ?_
    refine z_iconst dX2_spendBreath_12 kc_1 ?_
    refine z_iadd dX2_spendBreath_13 ?_
    refine y_putI lfX2_162 rfl g_a1 rfl rfl rfl dX2_spendBreath_14 (fun I10 eI10 => ?_)
    have hf := z_l_el hf eI10
    refine z_aload_n dX2_spendBreath_17 rfl rfl (z_okl g_a0) ?_
    refine z_dup dX2_spendBreath_18 rfl ?_
    refine y_getI lfX2_28 rfl g_a0 dX2_spendBreath_19 ?_
    refine z_iconst dX2_spendBreath_22 kc_1 ?_
    refine z_iadd dX2_spendBreath_23 ?_
    refine y_putI lfX2_28 rfl g_a0 rfl rfl rfl dX2_spendBreath_24 (fun I11 eI11 => ?_)
    have hf := z_l_el hf eI11
    cases hf
    exact z_vret hk rfl dX2_spendBreath_27
theorem wX2_spendBreath {G : z_G} {d : Nat} {a0 : Nat} {a1 : Nat} {x2 : Int32} {I : Nat → Nat → Int32} {R : Nat → Nat → Nat} {q : (Nat → Nat → Int32)} (hd : 3 ≤ d) (hf : fX2_spendBreath a0 a1 x2 I R = some q) : z_M G d 0 0 eX2_spendBreath [.ref a0, .ref a1, .int x2] z_SH (I, R) (z_E none (q, R)) :=
  y_M_of _ (by decide +kernel) rfl rfl rfl (vX2_spendBreath hd hf ⟨rfl, rfl, rfl⟩)
def fX5_hasBreath (a0 : Nat) (x1 : Int32) (I : Nat → Nat → Int32) (R : Nat → Nat → Nat) : Option (Int32) :=
  z_g (z_ob a0 5) (z_b (fX5_has a0 x1 I) (fun q1 => if q1 = 0 then (some (0 : Int32)) else (z_g (z_ok 1 (R a0 1) x1) (if ((I (R a0 1) x1.toNatClampNeg) &&& (2 : Int32)) = 0 then (some (0 : Int32)) else (some (1 : Int32))))))
theorem vX5_hasBreath {G : z_G} {d : Nat} {Q : Option Value → z_S → z_H → Prop} {a0 : Nat} {x1 : Int32} {I : Nat → Nat → Int32} {R : Nat → Nat → Nat} {q : Int32} (hd : 1 ≤ d) (hf : fX5_hasBreath a0 x1 I R = some q) (hk : Q (some (.int q)) z_SH (I, R)) : z_W G eX5_hasBreath d 0 0 0 [some (.ref a0), some (.int x1)] [] z_SH (I, R) Q := by
  unfold fX5_hasBreath at hf
  obtain ⟨g_a0, hf⟩ := z_g_el hf
  refine z_aload_n dX5_hasBreath_0 rfl rfl (z_okl g_a0) ?_
  refine z_iload_n dX5_hasBreath_1 rfl rfl ?_
  obtain ⟨q1, hq1, hf⟩ := z_b_el hf
  refine y_cVi (av := [.int x1]) (Nat.le_trans (Nat.le_of_ble_eq_true rfl) hd) (wX5_has (z_dl rfl hd) hq1) oX5_has lmX5_23 iX5_has g_a0 rfl _ rfl rfl (Nat.le_of_ble_eq_true rfl) dX5_hasBreath_2 ?_
  refine z_if_eq (tgt := 23) dX5_hasBreath_5 (by decide) (fun c2 => ?_) (fun c2 => ?_)
  · have hf := z_if_t hf c2
    refine z_iconst dX5_hasBreath_23 kc_0 ?_
    cases hf
    exact z_iret hk ⟨_, rfl, rfl⟩ dX5_hasBreath_24
  · have hf := z_if_f hf c2
    refine z_aload_n dX5_hasBreath_8 rfl rfl (z_okl g_a0) ?_
    refine y_getR lfX5_13 rfl g_a0 dX5_hasBreath_9 ?_
    refine z_iload_n dX5_hasBreath_12 rfl rfl ?_
    obtain ⟨g3, hf⟩ := z_g_el hf
    refine y_iald g3 dX5_hasBreath_13 ?_
    refine z_iconst dX5_hasBreath_14 kc_2 ?_
    refine z_iand dX5_hasBreath_15 ?_
    refine z_if_eq (tgt := 23) dX5_hasBreath_16 (by decide) (fun c4 => ?_) (fun c4 => ?_)
    · have hf := z_if_t hf c4
      refine z_iconst dX5_hasBreath_23 kc_0 ?_
      cases hf
      exact z_iret hk ⟨_, rfl, rfl⟩ dX5_hasBreath_24
    · have hf := z_if_f hf c4
      refine z_iconst dX5_hasBreath_19 kc_1 ?_
      refine z_goto (tgt := 24) dX5_hasBreath_20 (by decide) ?_
      cases hf
      exact z_iret hk ⟨_, rfl, rfl⟩ dX5_hasBreath_24
theorem wX5_hasBreath {G : z_G} {d : Nat} {a0 : Nat} {x1 : Int32} {I : Nat → Nat → Int32} {R : Nat → Nat → Nat} {q : Int32} (hd : 1 ≤ d) (hf : fX5_hasBreath a0 x1 I R = some q) : z_M G d 0 0 eX5_hasBreath [.ref a0, .int x1] z_SH (I, R) (z_E (some (.int q)) (I, R)) :=
  y_M_of _ (by decide +kernel) rfl rfl rfl (vX5_hasBreath hd hf ⟨rfl, rfl, rfl⟩)
def fX5_hasFermata (a0 : Nat) (x1 : Int32) (I : Nat → Nat → Int32) (R : Nat → Nat → Nat) : Option (Int32) :=
  z_g (z_ob a0 5) (z_b (fX5_has a0 x1 I) (fun q1 => if q1 = 0 then (some (0 : Int32)) else (z_g (z_ok 1 (R a0 1) x1) (if ((I (R a0 1) x1.toNatClampNeg) &&& (1 : Int32)) = 0 then (some (0 : Int32)) else (some (1 : Int32))))))
theorem vX5_hasFermata {G : z_G} {d : Nat} {Q : Option Value → z_S → z_H → Prop} {a0 : Nat} {x1 : Int32} {I : Nat → Nat → Int32} {R : Nat → Nat → Nat} {q : Int32} (hd : 1 ≤ d) (hf : fX5_hasFermata a0 x1 I R = some q) (hk : Q (some (.int q)) z_SH (I, R)) : z_W G eX5_hasFermata d 0 0 0 [some (.ref a0), some (.int x1)] [] z_SH (I, R) Q := by
  unfold fX5_hasFermata at hf
  obtain ⟨g_a0, hf⟩ := z_g_el hf
  refine z_aload_n dX5_hasFermata_0 rfl rfl (z_okl g_a0) ?_
  refine z_iload_n dX5_hasFermata_1 rfl rfl ?_
  obtain ⟨q1, hq1, hf⟩ := z_b_el hf
  refine y_cVi (av := [.int x1]) (Nat.le_trans (Nat.le_of_ble_eq_true rfl) hd) (wX5_has (z_dl rfl hd) hq1) oX5_has lmX5_23 iX5_has g_a0 rfl _ rfl rfl (Nat.le_of_ble_eq_true rfl) dX5_hasFermata_2 ?_
  refine z_if_eq (tgt := 23) dX5_hasFermata_5 (by decide) (fun c2 => ?_) (fun c2 => ?_)
  · have hf := z_if_t hf c2
    refine z_iconst dX5_hasFermata_23 kc_0 ?_
    cases hf
    exact z_iret hk ⟨_, rfl, rfl⟩ dX5_hasFermata_24
  · have hf := z_if_f hf c2
    refine z_aload_n dX5_hasFermata_8 rfl rfl (z_okl g_a0) ?_
    refine y_getR lfX5_13 rfl g_a0 dX5_hasFermata_9 ?_
    refine z_iload_n dX5_hasFermata_12 rfl rfl ?_
    obtain ⟨g3, hf⟩ := z_g_el hf
    refine y_iald g3 dX5_hasFermata_13 ?_
    refine z_iconst dX5_hasFermata_14 kc_1 ?_
    refine z_iand dX5_hasFermata_15 ?_
    refine z_if_eq (tgt := 23) dX5_hasFermata_16 (by decide) (fun c4 => ?_) (fun c4 => ?_)
    · have hf := z_if_t hf c4
      refine z_iconst dX5_hasFermata_23 kc_0 ?_
      cases hf
      exact z_iret hk ⟨_, rfl, rfl⟩ dX5_hasFermata_24
    · have hf := z_if_f hf c4
      refine z_iconst dX5_hasFermata_19 kc_1 ?_
      refine z_goto (tgt := 24) dX5_hasFermata_20 (by decide) ?_
      cases hf
      exact z_iret hk ⟨_, rfl, rfl⟩ dX5_hasFermata_24
theorem wX5_hasFermata {G : z_G} {d : Nat} {a0 : Nat} {x1 : Int32} {I : Nat → Nat → Int32} {R : Nat → Nat → Nat} {q : Int32} (hd : 1 ≤ d) (hf : fX5_hasFermata a0 x1 I R = some q) : z_M G d 0 0 eX5_hasFermata [.ref a0, .int x1] z_SH (I, R) (z_E (some (.int q)) (I, R)) :=
  y_M_of _ (by decide +kernel) rfl rfl rfl (vX5_hasFermata hd hf ⟨rfl, rfl, rfl⟩)
