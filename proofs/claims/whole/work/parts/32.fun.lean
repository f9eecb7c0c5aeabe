def fX7_takeSpareRoll (a0 : Nat) (x1 : Int32) (R : Nat → Nat → Nat) : Option ((Nat → Nat → Nat)) :=
  z_g (z_ob a0 7) (z_b (fX12_isSinger x1) (fun q1 => if q1 = 0 then (some R) else (z_g (z_ok 3 (R a0 0) x1) (z_g (z_ob (R (R a0 0) x1.toNatClampNeg) 5) (z_g (z_ob (R a0 1) 5) (z_l (z_v R (R a0 0) x1.toNatClampNeg (R a0 1)) (fun R6 => z_l (z_v R6 a0 1 (R (R a0 0) x1.toNatClampNeg)) (fun R7 => some R7))))))))
theorem vX7_takeSpareRoll {G : z_G} {d : Nat} {Q : Option Value → z_S → z_H → Prop} {a0 : Nat} {x1 : Int32} {R : Nat → Nat → Nat} {I : Nat → Nat → Int32} {q : (Nat → Nat → Nat)} (hd : 2 ≤ d) (hf : fX7_takeSpareRoll a0 x1 R = some q) (hk : Q none z_SH (I, q)) : z_W G eX7_takeSpareRoll d 0 0 0 [some (.ref a0), some (.int x1), none] [] z_SH (I, R) Q := by
  unfold fX7_takeSpareRoll at hf
  obtain ⟨g_a0, hf⟩ := z_g_el hf
  refine z_iload_n dX7_takeSpareRoll_0 rfl rfl ?_
  obtain ⟨q1, hq1, hf⟩ := z_b_el hf
  refine y_cNi (Nat.le_trans (Nat.le_of_ble_eq_true rfl) hd) (wX12_isSinger (z_dl rfl hd) hq1) oX12_isSinger lnX7_39 sX12_isSinger _ rfl rfl (Nat.le_of_ble_eq_true rfl) dX7_takeSpareRoll_1 ?_
  refine z_if_eq (tgt := 29) dX7_takeSpareRoll_4 (by decide) (fun c2 => ?_) (fun c2 => ?_)
  · have hf := z_if_t hf c2
    cases hf
    exact z_vret hk rfl dX7_takeSpareRoll_29
  · have hf := z_if_f hf c2
    refine z_aload_n dX7_takeSpareRoll_7 rfl rfl (z_okl g_a0) ?_
    refine y_getR lfX7_11 rfl g_a0 dX7_takeSpareRoll_8 ?_
    refine z_iload_n dX7_takeSpareRoll_11 rfl rfl ?_
    obtain ⟨g3, hf⟩ := z_g_el hf
    refine y_aald (t := 0) (Or.inl rfl) g3 dX7_takeSpareRoll_12 ?_
    obtain ⟨g4, hf⟩ := z_g_el hf
    refine y_astore_n [some (.ref a0), some (.int x1), some (.ref (R (R a0 0) x1.toNatClampNeg))] dX7_takeSpareRoll_13 rfl (by decide) (z_okl g4) rfl ?_
    refine z_aload_n dX7_takeSpareRoll_14 rfl rfl (z_okl g_a0) ?_
    refine y_getR lfX7_11 rfl g_a0 dX7_takeSpareRoll_15 ?_
    refine z_iload_n dX7_takeSpareRoll_18 rfl rfl ?_
    refine z_aload_n dX7_takeSpareRoll_19 rfl rfl (z_okl g_a0) ?_
    refine y_getR lfX7_18 rfl g_a0 dX7_takeSpareRoll_20 ?_
    obtain ⟨g5, hf⟩ := z_g_el hf
    refine y_aast (t := 0) g3 (Or.inl ⟨rfl, g5⟩) dX7_takeSpareRoll_23 (fun R6 eR6 => ?_)
    have hf := z_l_el hf eR6
    refine z_aload_n dX7_takeSpareRoll_24 rfl rfl (z_okl g_a0) ?_
    refine z_aload_n dX7_takeSpareRoll_25 rfl rfl (z_okl g4) ?_
    refine y_putR lfX7_18 rfl g_a0 rfl dX7_takeSpareRoll_26 (fun R7 eR7 => ?_)
    have hf := z_l_el hf eR7
    cases hf
    exact z_vret hk rfl dX7_takeSpareRoll_29
theorem wX7_takeSpareRoll {G : z_G} {d : Nat} {a0 : Nat} {x1 : Int32} {R : Nat → Nat → Nat} {I : Nat → Nat → Int32} {q : (Nat → Nat → Nat)} (hd : 2 ≤ d) (hf : fX7_takeSpareRoll a0 x1 R = some q) : z_M G d 0 0 eX7_takeSpareRoll [.ref a0, .int x1] z_SH (I, R) (z_E none (I, q)) :=
  y_M_of _ (by decide +kernel) rfl rfl rfl (vX7_takeSpareRoll hd hf ⟨rfl, rfl, rfl⟩)
def fX7_takeSpareLaw (a0 : Nat) (R : Nat → Nat → Nat) : Option ((Nat → Nat → Nat)) :=
  z_g (z_ob a0 7) (z_g (z_ob (R a0 2) 3) (z_l (z_v R a0 2 (R a0 3)) (fun R2 => z_l (z_v R2 a0 3 (R a0 2)) (fun R3 => some R3))))
theorem vX7_takeSpareLaw {G : z_G} {d : Nat} {Q : Option Value → z_S → z_H → Prop} {a0 : Nat} {R : Nat → Nat → Nat} {I : Nat → Nat → Int32} {q : (Nat → Nat → Nat)} (hd : 0 ≤ d) (hf : fX7_takeSpareLaw a0 R = some q) (hk : Q none z_SH (I, q)) : z_W G eX7_takeSpareLaw d 0 0 0 [some (.ref a0), none] [] z_SH (I, R) Q := by
  unfold fX7_takeSpareLaw at hf
  obtain ⟨g_a0, hf⟩ := z_g_el hf
  refine z_aload_n dX7_takeSpareLaw_0 rfl rfl (z_okl g_a0) ?_
  refine y_getR lfX7_25 rfl g_a0 dX7_takeSpareLaw_1 ?_
  obtain ⟨g1, hf⟩ := z_g_el hf
  refine y_astore_n [some (.ref a0), some (.ref (R a0 2))] dX7_takeSpareLaw_4 rfl (by decide) (z_okl g1) rfl ?_
  refine z_aload_n dX7_takeSpareLaw_5 rfl rfl (z_okl g_a0) ?_
  refine z_aload_n dX7_takeSpareLaw_6 rfl rfl (z_okl g_a0) ?_
  refine y_getR lfX7_29 rfl g_a0 dX7_takeSpareLaw_7 ?_
  refine y_putR lfX7_25 rfl g_a0 rfl dX7_takeSpareLaw_10 (fun R2 eR2 => ?_)
  have hf := z_l_el hf eR2
  refine z_aload_n dX7_takeSpareLaw_13 rfl rfl (z_okl g_a0) ?_
  refine z_aload_n dX7_takeSpareLaw_14 rfl rfl (z_okl g1) ?_
  refine y_putR lfX7_29 rfl g_a0 rfl dX7_takeSpareLaw_15 (fun R3 eR3 => ?_)
  have hf := z_l_el hf eR3
  cases hf
  exact z_vret hk rfl dX7_takeSpareLaw_18
theorem wX7_takeSpareLaw {G : z_G} {d : Nat} {a0 : Nat} {R : Nat → Nat → Nat} {I : Nat → Nat → Int32} {q : (Nat → Nat → Nat)} (hd : 0 ≤ d) (hf : fX7_takeSpareLaw a0 R = some q) : z_M G d 0 0 eX7_takeSpareLaw [.ref a0] z_SH (I, R) (z_E none (I, q)) :=
  y_M_of _ (by decide +kernel) rfl rfl rfl (vX7_takeSpareLaw hd hf ⟨rfl, rfl, rfl⟩)
def fX8_begin (a0 : Nat) (I : Nat → Nat → Int32) : Option ((Nat → Nat → Int32)) :=
  z_g (z_ob a0 8) (z_l (z_u I a0 5 (0 : Int32)) (fun I1 => z_l (z_u I1 a0 6 (0 : Int32)) (fun I2 => z_l (z_u I2 a0 7 (I2 a0 4)) (fun I3 => z_l (z_u I3 a0 8 (0 : Int32)) (fun I4 => z_l (z_u I4 a0 9 (0 : Int32)) (fun I5 => some I5))))))
theorem vX8_begin {G : z_G} {d : Nat} {Q : Option Value → z_S → z_H → Prop} {a0 : Nat} {I : Nat → Nat → Int32} {R : Nat → Nat → Nat} {q : (Nat → Nat → Int32)} (hd : 0 ≤ d) (hf : fX8_begin a0 I = some q) (hk : Q none z_SH (q, R)) : z_W G eX8_begin d 0 0 0 [some (.ref a0)] [] z_SH (I, R) Q := by
  unfold fX8_begin at hf
  obtain ⟨g_a0, hf⟩ := z_g_el hf
  refine z_aload_n dX8_begin_0 rfl rfl (z_okl g_a0) ?_
  refine z_iconst dX8_begin_1 kc_0 ?_
  refine y_putI lfX8_7 rfl g_a0 rfl rfl rfl dX8_begin_2 (fun I1 eI1 => ?_)
  have hf := z_l_el hf eI1
  refine z_aload_n dX8_begin_5 rfl rfl (z_okl g_a0) ?_
  refine z_iconst dX8_begin_6 kc_0 ?_
  refine y_putI lfX8_13 rfl g_a0 rfl rfl rfl dX8_begin_7 (fun I2 eI2 => ?_)
  have hf := z_l_el hf eI2
  refine z_aload_n dX8_begin_10 rfl rfl (z_okl g_a0) ?_
  refine z_aload_n dX8_begin_11 rfl rfl (z_okl g_a0) ?_
  refine y_getI lfX8_16 rfl g_a0 dX8_begin_12 ?_
  refine y_putI lfX8_19 rfl g_a0 rfl rfl rfl dX8_begin_15 (fun I3 eI3 => ?_)
  have hf := z_l_el hf eI3
  refine z_aload_n dX8_begin_18 rfl rfl (z_okl g_a0) ?_
  refine z_iconst dX8_begin_19 kc_0 ?_
  refine y_putI lfX8_22 rfl g_a0 rfl rfl rfl dX8_begin_20 (fun I4 eI4 => ?_)
  have hf := z_l_el hf eI4
  refine z_aload_n dX8_begin_23 rfl rfl (z_okl g_a0) ?_
  refine z_iconst dX8_begin_24 kc_0 ?_
  refine y_putI lfX8_25 rfl g_a0 rfl rfl rfl dX8_begin_25 (fun I5 eI5 => ?_)
  have hf := z_l_el hf eI5
  cases hf
  exact z_vret hk rfl dX8_begin_28
theorem wX8_begin {G : z_G} {d : Nat} {a0 : Nat} {I : Nat → Nat → Int32} {R : Nat → Nat → Nat} {q : (Nat → Nat → Int32)} (hd : 0 ≤ d) (hf : fX8_begin a0 I = some q) : z_M G d 0 0 eX8_begin [.ref a0] z_SH (I, R) (z_E none (q, R)) :=
  y_M_of _ (by decide +kernel) rfl rfl rfl (vX8_begin hd hf ⟨rfl, rfl, rfl⟩)
def fX8_copyFrom (a0 : Nat) (a1 : Nat) (I : Nat → Nat → Int32) : Option ((Nat → Nat → Int32)) :=
  z_g (z_ob a0 8) (z_g (z_ob a1 8) (z_g ((I a1 0) = 0 ∨ (I a1 0) = 1) (z_l (z_u I a0 0 (I a1 0)) (fun I2 => z_l (z_u I2 a0 1 (I2 a1 1)) (fun I3 => z_l (z_u I3 a0 2 (I3 a1 2)) (fun I4 => z_l (z_u I4 a0 3 (I4 a1 3)) (fun I5 => z_l (z_u I5 a0 4 (I5 a1 4)) (fun I6 => z_l (z_u I6 a0 5 (I6 a1 5)) (fun I7 => z_l (z_u I7 a0 6 (I7 a1 6)) (fun I8 => z_l (z_u I8 a0 7 (I8 a1 7)) (fun I9 => z_l (z_u I9 a0 8 (I9 a1 8)) (fun I10 => z_g ((I10 a1 9) = 0 ∨ (I10 a1 9) = 1) (z_l (z_u I10 a0 9 (I10 a1 9)) (fun I12 => some I12))))))))))))))
theorem vX8_copyFrom {G : z_G} {d : Nat} {Q : Option Value → z_S → z_H → Prop} {a0 : Nat} {a1 : Nat} {I : Nat → Nat → Int32} {R : Nat → Nat → Nat} {q : (Nat → Nat → Int32)} (hd : 0 ≤ d) (hf : fX8_copyFrom a0 a1 I = some q) (hk : Q none z_SH (q, R)) : z_W G eX8_copyFrom d 0 0 0 [some (.ref a0), some (.ref a1)] [] z_SH (I, R) Q := by
  unfold fX8_copyFrom at hf
  obtain ⟨g_a0, hf⟩ := z_g_el hf
  obtain ⟨g_a1, hf⟩ := z_g_el hf
  refine z_aload_n dX8_copyFrom_0 rfl rfl (z_okl g_a0) ?_
  refine z_aload_n dX8_copyFrom_1 rfl rfl (z_okl g_a1) ?_
  refine y_getI lfX8_29 rfl g_a1 dX8_copyFrom_2 ?_
  obtain ⟨g1, hf⟩ := z_g_el hf
  refine y_putI lfX8_29 rfl g_a0 rfl (z_bn g1) (z_bf g1) dX8_copyFrom_5 (fun I2 eI2 => ?_)
  have hf := z_l_el hf eI2
  refine z_aload_n dX8_copyFrom_8 rfl rfl (z_okl g_a0) ?_
  refine z_aload_n dX8_copyFrom_9 rfl rfl (z_okl g_a1) ?_
  refine y_getI lfX8_32 rfl g_a1 dX8_copyFrom_10 ?_
  refine y_putI lfX8_32 rfl g_a0 rfl rfl rfl dX8_copyFrom_13 (fun I3 eI3 => ?_)
  have hf := z_l_el hf eI3
  refine z_aload_n dX8_copyFrom_16 rfl rfl (z_okl g_a0) ?_
  refine z_aload_n dX8_copyFrom_17 rfl rfl (z_okl g_a1) ?_
  refine y_getI lfX8_35 rfl g_a1 dX8_copyFrom_18 ?_
  refine y_putI lfX8_35 rfl g_a0 rfl rfl rfl dX8_copyFrom_21 (fun I4 eI4 => ?_)
  have hf := z_l_el hf eI4
  refine z_aload_n dX8_copyFrom_24 rfl rfl (z_okl g_a0) ?_
  refine z_aload_n dX8_copyFrom_25 rfl rfl (z_okl g_a1) ?_
  refine y_getI lfX8_38 rfl g_a1 dX8_copyFrom_26 ?_
  refine y_putI lfX8_38 rfl g_a0 rfl rfl rfl dX8_copyFrom_29 (fun I5 eI5 => ?_)
  have hf := z_l_el hf eI5
  refine z_aload_n dX8_copyFrom_32 rfl rfl (z_okl g_a0) ?_
  refine z_aload_n dX8_copyFrom_33 rfl rfl (z_okl g_a1) ?_
  refine y_getI lfX8_16 rfl g_a1 dX8_copyFrom_34 ?_
  refine y_putI lfX8_16 rfl g_a0 rfl rfl rfl dX8_copyFrom_37 (fun I6 eI6 => ?_)
  have hf := z_l_el hf eI6
  refine z_aload_n dX8_copyFrom_40 rfl rfl (z_okl g_a0) ?_
  refine z_aload_n dX8_copyFrom_41 rfl rfl (z_okl g_a1) ?_
  refine y_getI lfX8_7 rfl g_a1 dX8_copyFrom_42 ?_
  refine y_putI lfX8_7 rfl g_a0 rfl rfl rfl dX8_copyFrom_45 (fun I7 eI7 => ?_)
  have hf := z_l_el hf eI7
  refine z_aload_n dX8_copyFrom_48 rfl rfl (z_okl g_a0) ?_
  refine z_aload_n dX8_copyFrom_49 rfl rfl (z_okl g_a1) ?_
  refine y_getI lfX8_13 rfl g_a1 dX8_copyFrom_50 ?_
  refine y_putI lfX8_13 rfl g_a0 rfl rfl rfl dX8_copyFrom_53 (fun I8 eI8 => ?_)
  have hf := z_l_el hf eI8
  refine z_aload_n dX8_copyFrom_56 rfl rfl (z_okl g_a0) ?_
  refine z_aload_n dX8_copyFrom_57 rfl rfl (z_okl g_a1) ?_
  refine y_getI lfX8_19 rfl g_a1 dX8_copyFrom_58 ?_
  refine y_putI lfX8_19 rfl g_a0 rfl rfl rfl dX8_copyFrom_61 (fun I9 eI9 => ?_)
  have hf := z_l_el hf eI9
  refine z_aload_n dX8_copyFrom_64 rfl rfl (z_okl g_a0) ?_
  refine z_aload_n dX8_copyFrom_65 rfl rfl (z_okl g_a1) ?_
  refine y_getI lfX8_22 rfl g_a1 dX8_copyFrom_66 ?_
  refine y_putI lfX8_22 rfl g_a0 rfl rfl rfl dX8_copyFrom_69 (fun I10 eI10 => ?_)
  have hf := z_l_el hf eI10
  refine z_aload_n dX8_copyFrom_72 rfl rfl (z_okl g_a0) ?_
  refine z_aload_n dX8_copyFrom_73 rfl rfl (z_okl g_a1) ?_
  refine y_getI lfX8_25 rfl g_a1 dX8_copyFrom_74 ?_
  obtain ⟨g11, hf⟩ := z_g_el hf
  refine y_putI lfX8_25 rfl g_a0 rfl (z_bn g11) (z_bf g11) dX8_copyFrom_77 (fun I12 eI12 => ?_)
  have hf := z_l_el hf eI12
  cases hf
  exact z_vret hk rfl dX8_copyFrom_80
theorem wX8_copyFrom {G : z_G} {d : Nat} {a0 : Nat} {a1 : Nat} {I : Nat → Nat → Int32} {R : Nat → Nat → Nat} {q : (Nat → Nat → Int32)} (hd : 0 ≤ d) (hf : fX8_copyFrom a0 a1 I = some q) : z_M G d 0 0 eX8_copyFrom [.ref a0, .ref a1] z_SH (I, R) (z_E none (q, R)) :=
  y_M_of _ (by decide +kernel) rfl rfl rfl (vX8_copyFrom hd hf ⟨rfl, rfl, rfl⟩)
def fX8_secondsShown (a0 : Nat) (x1 : Int32) (I : Nat → Nat → Int32) : Option (Int32) :=
  z_g (z_ob a0 8) (z_b (fX8_speed a0 I) (fun q1 => some ((x1 * q1) / (60 : Int32))))
theorem vX8_secondsShown {G : z_G} {d : Nat} {Q : Option Value → z_S → z_H → Prop} {a0 : Nat} {x1 : Int32} {I : Nat → Nat → Int32} {R : Nat → Nat → Nat} {q : Int32} (hd : 1 ≤ d) (hf : fX8_secondsShown a0 x1 I = some q) (hk : Q (some (.int q)) z_SH (I, R)) : z_W G eX8_secondsShown d 0 0 0 [some (.ref a0), some (.int x1)] [] z_SH (I, R) Q := by
  unfold fX8_secondsShown at hf
  obtain ⟨g_a0, hf⟩ := z_g_el hf
  refine z_iload_n dX8_secondsShown_0 rfl rfl ?_
  refine z_aload_n dX8_secondsShown_1 rfl rfl (z_okl g_a0) ?_
  obtain ⟨q1, hq1, hf⟩ := z_b_el hf
  refine y_cVi (av := []) (Nat.le_trans (Nat.le_of_ble_eq_true rfl) hd) (wX8_speed (z_dl rfl hd) hq1) oX8_speed lmX8_41 iX8_speed g_a0 rfl _ rfl rfl (Nat.le_of_ble_eq_true rfl) dX8_secondsShown_2 ?_
  refine z_imul dX8_secondsShown_5 ?_
  refine z_bipush dX8_secondsShown_6 kb_60 ?_
  refine z_idiv dX8_secondsShown_8 (by decide) ?_
  cases hf
  exact z_iret hk ⟨_, rfl, rfl⟩ dX8_secondsShown_9
theorem wX8_secondsShown {G : z_G} {d : Nat} {a0 : Nat} {x1 : Int32} {I : Nat → Nat → Int32} {R : Nat → Nat → Nat} {q : Int32} (hd : 1 ≤ d) (hf : fX8_secondsShown a0 x1 I = some q) : z_M G d 0 0 eX8_secondsShown [.ref a0, .int x1] z_SH (I, R) (z_E (some (.int q)) (I, R)) :=
  y_M_of _ (by decide +kernel) rfl rfl rfl (vX8_secondsShown hd hf ⟨rfl, rfl, rfl⟩)
def fX9_copyFrom_b2 (a0 : Nat) (a1 : Nat) (R : Nat → Nat → Nat) : (Int32 × (Nat → Nat → Int32)) → Option ((Int32 × (Nat → Nat → Int32)) ⊕ ((Nat → Nat → Int32))) :=
  fun s => (fun (p2 : Int32) (I : Nat → Nat → Int32) => if (8 : Int32) ≤ p2 then (some (.inr I)) else (z_g (z_ok 4 (R a0 0) p2) (z_g (z_ok 4 (R a1 0) p2) (z_g (z_ob (R (R a0 0) p2.toNatClampNeg) 8) (z_b (fX8_copyFrom (R (R a0 0) p2.toNatClampNeg) (R (R a1 0) p2.toNatClampNeg) I) (fun q4 => z_l (p2 + (1 : Int32)) (fun t6 => some (.inl (t6, q4))))))))) s.1 s.2
theorem wX9_copyFrom_b2 {G : z_G} {d : Nat} {Q : Option Value → z_S → z_H → Prop} {a0 : Nat} {a1 : Nat} {R : Nat → Nat → Nat} (hd : 1 ≤ d) (g_a0 : z_ob a0 9) (g_a1 : z_ob a1 9) : ∀ (s : Int32 × (Nat → Nat → Int32)) (o : (Int32 × (Nat → Nat → Int32)) ⊕ ((Nat → Nat → Int32))), fX9_copyFrom_b2 a0 a1 R s = some o → z_or (fun s : Int32 × (Nat → Nat → Int32) => z_W G eX9_copyFrom d 0 0 2 [some (.ref a0), some (.ref a1), some (.int s.1)] [] z_SH (s.2, R) Q) (fun x : (Nat → Nat → Int32) => z_W G eX9_copyFrom d 0 0 29 [some (.ref a0), some (.ref a1), none] [] z_SH (x, R) Q) o → (fun s : Int32 × (Nat → Nat → Int32) => z_W G eX9_copyFrom d 0 0 2 [some (.ref a0), some (.ref a1), some (.int s.1)] [] z_SH (s.2, R) Q) s := by
  rintro ⟨p2, I⟩ o hf hk
  show z_W G eX9_copyFrom d 0 0 2 [some (.ref a0), some (.ref a1), some (.int p2)] [] z_SH (I, R) Q
  unfold fX9_copyFrom_b2 at hf
  try dsimp only at hf
  refine z_iload_n dX9_copyFrom_2 rfl rfl ?_
  refine z_bipush dX9_copyFrom_3 kb_8 ?_
  refine z_icmp_ge (tgt := 29) dX9_copyFrom_5 (by decide) (fun c1 => ?_) (fun c1 => ?_)
  · have hf := z_if_t hf c1
    cases hf
    exact y_sub hk (z_le_c rfl (z_le_c rfl (z_le_n z_le_0)))
  · have hf := z_if_f hf c1
    refine z_aload_n dX9_copyFrom_8 rfl rfl (z_okl g_a0) ?_
    refine y_getR lfX9_11 rfl g_a0 dX9_copyFrom_9 ?_
    refine z_iload_n dX9_copyFrom_12 rfl rfl ?_
    obtain ⟨g2, hf⟩ := z_g_el hf
    refine y_aald (t := 1) (Or.inr rfl) g2 dX9_copyFrom_13 ?_
    refine z_aload_n dX9_copyFrom_14 rfl rfl (z_okl g_a1) ?_
    refine y_getR lfX9_11 rfl g_a1 dX9_copyFrom_15 ?_
    refine z_iload_n dX9_copyFrom_18 rfl rfl ?_
    obtain ⟨g3, hf⟩ := z_g_el hf
    refine y_aald (t := 1) (Or.inr rfl) g3 dX9_copyFrom_19 ?_
    obtain ⟨g5, hf⟩ := z_g_el hf
    obtain ⟨q4, hq4, hf⟩ := z_b_el hf
    refine y_cVv (av := [.ref (R (R a1 0) p2.toNatClampNeg)]) (Nat.le_trans (Nat.le_of_ble_eq_true rfl) hd) (wX8_copyFrom (z_dl rfl hd) hq4) oX8_copyFrom lmX9_22 iX8_copyFrom g5 rfl _ rfl rfl (Nat.le_of_ble_eq_true rfl) dX9_copyFrom_20 ?_
    refine y_iinc (fun t6 => [some (.ref a0), some (.ref a1), some (.int t6)]) dX9_copyFrom_23 rfl kc_1 (by decide) (fun _ => rfl) (fun t6 et6 => ?_)
    have hf := z_l_el hf et6
    refine z_goto (tgt := 2) dX9_copyFrom_26 (by decide) ?_
    cases hf
    exact y_sub hk (z_le_c rfl (z_le_c rfl (z_le_c rfl z_le_0)))
def fX9_copyFrom (a0 : Nat) (a1 : Nat) (I : Nat → Nat → Int32) (R : Nat → Nat → Nat) : Option ((Nat → Nat → Int32)) :=
  z_g (z_ob a0 9) (z_g (z_ob a1 9) (z_b (z_lp (fX9_copyFrom_b2 a0 a1 R) 300 ((0 : Int32), I)) (fun q7 => z_l (z_u q7 a0 1 (q7 a1 1)) (fun I8 => z_l (z_u I8 a0 2 (I8 a1 2)) (fun I9 => some I9)))))
theorem vX9_copyFrom {G : z_G} {d : Nat} {Q : Option Value → z_S → z_H → Prop} {a0 : Nat} {a1 : Nat} {I : Nat → Nat → Int32} {R : Nat → Nat → Nat} {q : (Nat → Nat → Int32)} (hd : 1 ≤ d) (hf : fX9_copyFrom a0 a1 I R = some q) (hk : Q none z_SH (q, R)) : z_W G eX9_copyFrom d 0 0 0 [some (.ref a0), some (.ref a1), none] [] z_SH (I, R) Q := by
  unfold fX9_copyFrom at hf
  obtain ⟨g_a0, hf⟩ := z_g_el hf
  obtain ⟨g_a1, hf⟩ := z_g_el hf
  refine z_iconst dX9_copyFrom_0 kc_0 ?_
  refine y_istore_n0 [some (.ref a0), some (.ref a1), some (.int (0 : Int32))] dX9_copyFrom_1 rfl (by decide) rfl ?_
  obtain ⟨q7, hq7, hf⟩ := z_b_el hf
  refine y_sub (lv' := [some (.ref a0), some (.ref a1), some (.int (0 : Int32))]) ?_ (z_le_c rfl (z_le_c rfl (z_le_c rfl z_le_0)))
  refine z_lp_el (P := (fun s : Int32 × (Nat → Nat → Int32) => z_W G eX9_copyFrom d 0 0 2 [some (.ref a0), some (.ref a1), some (.int s.1)] [] z_SH (s.2, R) Q)) (E := (fun x : (Nat → Nat → Int32) => z_W G eX9_copyFrom d 0 0 29 [some (.ref a0), some (.ref a1), none] [] z_SH (x, R) Q)) (wX9_copyFrom_b2 hd g_a0 g_a1) 300 ((0 : Int32), I) q7 hq7 ?_
  show z_W G eX9_copyFrom d 0 0 29 [some (.ref a0), some (.ref a1), none] [] z_SH (q7, R) _
  refine z_aload_n dX9_copyFrom_29 rfl rfl (z_okl g_a0) ?_
  refine z_aload_n dX9_copyFrom_30 rfl rfl (z_okl g_a1) ?_
  refine y_getI lfX9_26 rfl g_a1 dX9_copyFrom_31 ?_
  refine y_putI lfX9_26 rfl g_a0 rfl rfl rfl dX9_copyFrom_34 (fun I8 eI8 => ?_)
  have hf := z_l_el hf eI8
  refine z_aload_n dX9_copyFrom_37 rfl rfl (z_okl g_a0) ?_
  refine z_aload_n dX9_copyFrom_38 rfl rfl (z_okl g_a1) ?_
  refine y_getI lfX9_18 rfl g_a1 dX9_copyFrom_39 ?_
  refine y_putI lfX9_18 rfl g_a0 rfl rfl rfl dX9_copyFrom_42 (fun I9 eI9 => ?_)
  have hf := z_l_el hf eI9
  cases hf
  exact z_vret hk rfl dX9_copyFrom_45
theorem wX9_copyFrom {G : z_G} {d : Nat} {a0 : Nat} {a1 : Nat} {I : Nat → Nat → Int32} {R : Nat → Nat → Nat} {q : (Nat → Nat → Int32)} (hd : 1 ≤ d) (hf : fX9_copyFrom a0 a1 I R = some q) : z_M G d 0 0 eX9_copyFrom [.ref a0, .ref a1] z_SH (I, R) (z_E none (q, R)) :=
  y_M_of _ (by decide +kernel) rfl rfl rfl (vX9_copyFrom hd hf ⟨rfl, rfl, rfl⟩)
def fX9_waitingBits_b4 (a0 : Nat) (I : Nat → Nat → Int32) (R : Nat → Nat → Nat) : (Int32 × Int32) → Option ((Int32 × Int32) ⊕ (Int32)) :=
  fun s => (fun (p1 : Int32) (p2 : Int32) => if (8 : Int32) ≤ p2 then (some (.inr p1)) else (z_g (z_ok 4 (R a0 0) p2) (z_g (z_ob (R (R a0 0) p2.toNatClampNeg) 8) (if (I (R (R a0 0) p2.toNatClampNeg) 0) = 0 then (z_l (p2 + (1 : Int32)) (fun t5 => some (.inl (p1, t5)))) else (if (I (R (R a0 0) p2.toNatClampNeg) 9) = 0 then (z_l (p2 + (1 : Int32)) (fun t7 => some (.inl (p1, t7)))) else (z_l (p1 ||| (z_shl (1 : Int32) p2)) (fun t8 => z_l (p2 + (1 : Int32)) (fun t9 => some (.inl (t8, t9)))))))))) s.1 s.2
theorem wX9_waitingBits_b4 {G : z_G} {d : Nat} {Q : Option Value → z_S → z_H → Prop} {a0 : Nat} {I : Nat → Nat → Int32} {R : Nat → Nat → Nat} (hd : 0 ≤ d) (g_a0 : z_ob a0 9) : ∀ (s : Int32 × Int32) (o : (Int32 × Int32) ⊕ (Int32)), fX9_waitingBits_b4 a0 I R s = some o → z_or (fun s : Int32 × Int32 => z_W G eX9_waitingBits d 0 0 4 [some (.ref a0), some (.int s.1), some (.int s.2)] [] z_SH (I, R) Q) (fun x : Int32 => z_W G eX9_waitingBits d 0 0 46 [none, some (.int x), none] [] z_SH (I, R) Q) o → (fun s : Int32 × Int32 => z_W G eX9_waitingBits d 0 0 4 [some (.ref a0), some (.int s.1), some (.int s.2)] [] z_SH (I, R) Q) s := by
  rintro ⟨p1, p2⟩ o hf hk
  show z_W G eX9_waitingBits d 0 0 4 [some (.ref a0), some (.int p1), some (.int p2)] [] z_SH (I, R) Q
  unfold fX9_waitingBits_b4 at hf
  try dsimp only at hf
  refine z_iload_n dX9_waitingBits_4 rfl rfl ?_
  refine z_bipush dX9_waitingBits_5 kb_8 ?_
  refine z_icmp_ge (tgt := 46) dX9_waitingBits_7 (by decide) (fun c1 => ?_) (fun c1 => ?_)
  · have hf := z_if_t hf c1
    cases hf
    exact y_sub hk (z_le_n (z_le_c rfl (z_le_n z_le_0)))
  · have hf := z_if_f hf c1
    refine z_aload_n dX9_waitingBits_10 rfl rfl (z_okl g_a0) ?_
    refine y_getR lfX9_11 rfl g_a0 dX9_waitingBits_11 ?_
    refine z_iload_n dX9_waitingBits_14 rfl rfl ?_
    obtain ⟨g2, hf⟩ := z_g_el hf
    refine y_aald (t := 1) (Or.inr rfl) g2 dX9_waitingBits_15 ?_
    obtain ⟨g3, hf⟩ := z_g_el hf
    refine y_getI lfX9_33 rfl g3 dX9_waitingBits_16 ?_
    refine z_if_eq (tgt := 40) dX9_waitingBits_19 (by decide) (fun c4 => ?_) (fun c4 => ?_)
    · have hf := z_if_t hf c4
      refine y_iinc (fun t5 => [some (.ref a0), some (.int p1), some (.int t5)]) dX9_waitingBits_40 rfl kc_1 (by decide) (fun _ => rfl) (fun t5 et5 => ?_)
      have hf := z_l_el hf et5
      refine z_goto (tgt := 4) dX9_waitingBits_43 (by decide) ?_
      cases hf
      exact y_sub hk (z_le_c rfl (z_le_c rfl (z_le_c rfl z_le_0)))
    · have hf := z_if_f hf c4
      refine z_aload_n dX9_waitingBits_22 rfl rfl (z_okl g_a0) ?_
      refine y_getR lfX9_11 rfl g_a0 dX9_waitingBits_23 ?_
      refine z_iload_n dX9_waitingBits_26 rfl rfl ?_
      refine y_aald (t := 1) (Or.inr rfl) g2 dX9_waitingBits_27 ?_
      refine y_getI lfX9_37 rfl g3 dX9_waitingBits_28 ?_
      refine z_if_eq (tgt := 40) dX9_waitingBits_31 (by decide) (fun c6 => ?_) (fun c6 => ?_)
      · have hf := z_if_t hf c6
        refine y_iinc (fun t7 => [some (.ref a0), some (.int p1), some (.int t7)]) dX9_waitingBits_40 rfl kc_1 (by decide) (fun _ => rfl) (fun t7 et7 => ?_)
        have hf := z_l_el hf et7
        refine z_goto (tgt := 4) dX9_waitingBits_43 (by decide) ?_
        cases hf
        exact y_sub hk (z_le_c rfl (z_le_c rfl (z_le_c rfl z_le_0)))
      · have hf := z_if_f hf c6
        refine z_iload_n dX9_waitingBits_34 rfl rfl ?_
        refine z_iconst dX9_waitingBits_35 kc_1 ?_
        refine z_iload_n dX9_waitingBits_36 rfl rfl ?_
        refine y_ishl dX9_waitingBits_37 ?_
        refine z_ior dX9_waitingBits_38 ?_
        refine y_istore_n (fun t8 => [some (.ref a0), some (.int t8), some (.int p2)]) dX9_waitingBits_39 rfl (by decide) (fun _ => rfl) (fun t8 et8 => ?_)
        have hf := z_l_el hf et8
        refine y_iinc (fun t9 => [some (.ref a0), some (.int t8), some (.int t9)]) dX9_waitingBits_40 rfl kc_1 (by decide) (fun _ => rfl) (fun t9 et9 => ?_)
        have hf := z_l_el hf et9
        refine z_goto (tgt := 4) dX9_waitingBits_43 (by decide) ?_
        cases hf
        exact y_sub hk (z_le_c rfl (z_le_c rfl (z_le_c rfl z_le_0)))
def fX9_waitingBits (a0 : Nat) (I : Nat → Nat → Int32) (R : Nat → Nat → Nat) : Option (Int32) :=
  z_g (z_ob a0 9) (z_b (z_lp (fX9_waitingBits_b4 a0 I R) 300 ((0 : Int32), (0 : Int32))) (fun q10 => some q10))
theorem vX9_waitingBits {G : z_G} {d : Nat} {Q : Option Value → z_S → z_H → Prop} {a0 : Nat} {I : Nat → Nat → Int32} {R : Nat → Nat → Nat} {q : Int32} (hd : 0 ≤ d) (hf : fX9_waitingBits a0 I R = some q) (hk : Q (some (.int q)) z_SH (I, R)) : z_W G eX9_waitingBits d 0 0 0 [some (.ref a0), none, none] [] z_SH (I, R) Q := by
  unfold fX9_waitingBits at hf
  obtain ⟨g_a0, hf⟩ := z_g_el hf
  refine z_iconst dX9_waitingBits_0 kc_0 ?_
  refine y_istore_n0 [some (.ref a0), some (.int (0 : Int32)), none] dX9_waitingBits_1 rfl (by decide) rfl ?_
  refine z_iconst dX9_waitingBits_2 kc_0 ?_
  refine y_istore_n0 [some (.ref a0), some (.int (0 : Int32)), some (.int (0 : Int32))] dX9_waitingBits_3 rfl (by decide) rfl ?_
  obtain ⟨q10, hq10, hf⟩ := z_b_el hf
  refine y_sub (lv' := [some (.ref a0), some (.int (0 : Int32)), some (.int (0 : Int32))]) ?_ (z_le_c rfl (z_le_c rfl (z_le_c rfl z_le_0)))
  refine z_lp_el (P := (fun s : Int32 × Int32 => z_W G eX9_waitingBits d 0 0 4 [some (.ref a0), some (.int s.1), some (.int s.2)] [] z_SH (I, R) Q)) (E := (fun x : Int32 => z_W G eX9_waitingBits d 0 0 46 [none, some (.int x), none] [] z_SH (I, R) Q)) (wX9_waitingBits_b4 hd g_a0) 300 ((0 : Int32), (0 : Int32)) q10 hq10 ?_
  show z_W G eX9_waitingBits d 0 0 46 [none, some (.int q10), none] [] z_SH (I, R) _
  refine z_iload_n dX9_waitingBits_46 rfl rfl ?_
  cases hf
  exact z_iret hk ⟨_, rfl, rfl⟩ dX9_waitingBits_47
theorem wX9_waitingBits {G : z_G} {d : Nat} {a0 : Nat} {I : Nat → Nat → Int32} {R : Nat → Nat → Nat} {q : Int32} (hd : 0 ≤ d) (hf : fX9_waitingBits a0 I R = some q) : z_M G d 0 0 eX9_waitingBits [.ref a0] z_SH (I, R) (z_E (some (.int q)) (I, R)) :=
  y_M_of _ (by decide +kernel) rfl rfl rfl (vX9_waitingBits hd hf ⟨rfl, rfl, rfl⟩)
def fX9_sitsAhead (a0 : Nat) (x1 : Int32) (x2 : Int32) (I : Nat → Nat → Int32) (R : Nat → Nat → Nat) : Option (Int32) :=
  z_g (z_ob a0 9) (z_b (fX12_isSinger x1) (fun q1 => if q1 = 0 then (some (0 : Int32)) else (z_b (fX12_isSinger x2) (fun q3 => if q3 = 0 then (some (0 : Int32)) else (z_g (z_ok 4 (R a0 0) x2) (z_g (z_ob (R (R a0 0) x2.toNatClampNeg) 8) (z_g (z_ok 4 (R a0 0) x1) (z_g (z_ob (R (R a0 0) x1.toNatClampNeg) 8) (z_l ((I (R (R a0 0) x2.toNatClampNeg) 2) - (I (R (R a0 0) x1.toNatClampNeg) 2)) (fun t9 => if 0 < t9 then (some (1 : Int32)) else (if t9 = 0 then (if x2 ≤ x1 then (some (0 : Int32)) else (some (1 : Int32))) else (some (0 : Int32)))))))))))))
theorem vX9_sitsAhead {G : z_G} {d : Nat} {Q : Option Value → z_S → z_H → Prop} {a0 : Nat} {x1 : Int32} {x2 : Int32} {I : Nat → Nat → Int32} {R : Nat → Nat → Nat} {q : Int32} (hd : 2 ≤ d) (hf : fX9_sitsAhead a0 x1 x2 I R = some q) (hk : Q (some (.int q)) z_SH (I, R)) : z_W G eX9_sitsAhead d 0 0 0 [some (.ref a0), some (.int x1), some (.int x2), none] [] z_SH (I, R) Q := by
  unfold fX9_sitsAhead at hf
  obtain ⟨g_a0, hf⟩ := z_g_el hf
  refine z_iload_n dX9_sitsAhead_0 rfl rfl ?_
  obtain ⟨q1, hq1, hf⟩ := z_b_el hf
  refine y_cNi (Nat.le_trans (Nat.le_of_ble_eq_true rfl) hd) (wX12_isSinger (z_dl rfl hd) hq1) oX12_isSinger lnX9_29 sX12_isSinger _ rfl rfl (Nat.le_of_ble_eq_true rfl) dX9_sitsAhead_1 ?_
  refine z_if_eq (tgt := 14) dX9_sitsAhead_4 (by decide) (fun c2 => ?_) (fun c2 => ?_)
  · have hf := z_if_t hf c2
    refine z_iconst dX9_sitsAhead_14 kc_0 ?_
    cases hf
    exact z_iret hk ⟨_, rfl, rfl⟩ dX9_sitsAhead_15
  · have hf := z_if_f hf c2
    refine z_iload_n dX9_sitsAhead_7 rfl rfl ?_
    obtain ⟨q3, hq3, hf⟩ := z_b_el hf
    refine y_cNi (Nat.le_trans (Nat.le_of_ble_eq_true rfl) hd) (wX12_isSinger (z_dl rfl hd) hq3) oX12_isSinger lnX9_29 sX12_isSinger _ rfl rfl (Nat.le_of_ble_eq_true rfl) dX9_sitsAhead_8 ?_
    refine z_if_ne (tgt := 16) dX9_sitsAhead_11 (by decide) (fun c4 => ?_) (fun c4 => ?_)
    · have hf := z_if_f hf c4
      refine z_aload_n dX9_sitsAhead_16 rfl rfl (z_okl g_a0) ?_
      refine y_getR lfX9_11 rfl g_a0 dX9_sitsAhead_17 ?_
      refine z_iload_n dX9_sitsAhead_20 rfl rfl ?_
      obtain ⟨g5, hf⟩ := z_g_el hf
      refine y_aald (t := 1) (Or.inr rfl) g5 dX9_sitsAhead_21 ?_
      obtain ⟨g6, hf⟩ := z_g_el hf
      refine y_getI lfX9_44 rfl g6 dX9_sitsAhead_22 ?_
      refine z_aload_n dX9_sitsAhead_25 rfl rfl (z_okl g_a0) ?_
      refine y_getR lfX9_11 rfl g_a0 dX9_sitsAhead_26 ?_
      refine z_iload_n dX9_sitsAhead_29 rfl rfl ?_
      obtain ⟨g7, hf⟩ := z_g_el hf
      refine y_aald (t := 1) (Or.inr rfl) g7 dX9_sitsAhead_30 ?_
      obtain ⟨g8, hf⟩ := z_g_el hf
      refine y_getI lfX9_44 rfl g8 dX9_sitsAhead_31 ?_
      refine z_isub dX9_sitsAhead_34 ?_
      refine y_istore_n (fun t9 => [some (.ref a0), some (.int x1), some (.int x2), some (.int t9)]) dX9_sitsAhead_35 rfl (by decide) (fun _ => rfl) (fun t9 et9 => ?_)
      have hf := z_l_el hf et9
      refine z_iload_n dX9_sitsAhead_36 rfl rfl ?_
      refine z_if_gt (tgt := 49) dX9_sitsAhead_37 (by decide) (fun c10 => ?_) (fun c10 => ?_)
      · have hf := z_if_t hf c10
        refine z_iconst dX9_sitsAhead_49 kc_1 ?_
        refine z_goto (tgt := 54) dX9_sitsAhead_50 (by decide) ?_
        cases hf
        exact z_iret hk ⟨_, rfl, rfl⟩ dX9_sitsAhead_54
      · have hf := z_if_f hf c10
        refine z_iload_n dX9_sitsAhead_40 rfl rfl ?_
        refine z_if_ne (tgt := 53) dX9_sitsAhead_41 (by decide) (fun c11 => ?_) (fun c11 => ?_)
        · have hf := z_if_f hf c11
          refine z_iconst dX9_sitsAhead_53 kc_0 ?_
          cases hf
          exact z_iret hk ⟨_, rfl, rfl⟩ dX9_sitsAhead_54
        · have hf := z_if_t hf c11
          refine z_iload_n dX9_sitsAhead_44 rfl rfl ?_
          refine z_iload_n dX9_sitsAhead_45 rfl rfl ?_
          refine z_icmp_ge (tgt := 53) dX9_sitsAhead_46 (by decide) (fun c12 => ?_) (fun c12 => ?_)
          · have hf := z_if_t hf c12
            refine z_iconst dX9_sitsAhead_53 kc_0 ?_
            cases hf
            exact z_iret hk ⟨_, rfl, rfl⟩ dX9_sitsAhead_54
          · have hf := z_if_f hf c12
            refine z_iconst dX9_sitsAhead_49 kc_1 ?_
            refine z_goto (tgt := 54) dX9_sitsAhead_50 (by decide) ?_
            cases hf
            exact z_iret hk ⟨_, rfl, rfl⟩ dX9_sitsAhead_54
    · have hf := z_if_t hf c4
      refine z_iconst dX9_sitsAhead_14 kc_0 ?_
      cases hf
      exact z_iret hk ⟨_, rfl, rfl⟩ dX9_sitsAhead_15
theorem wX9_sitsAhead {G : z_G} {d : Nat} {a0 : Nat} {x1 : Int32} {x2 : Int32} {I : Nat → Nat → Int32} {R : Nat → Nat → Nat} {q : Int32} (hd : 2 ≤ d) (hf : fX9_sitsAhead a0 x1 x2 I R = some q) : z_M G d 0 0 eX9_sitsAhead [.ref a0, .int x1, .int x2] z_SH (I, R) (z_E (some (.int q)) (I, R)) :=
  y_M_of _ (by decide +kernel) rfl rfl rfl (vX9_sitsAhead hd hf ⟨rfl, rfl, rfl⟩)
def fX10_length (a0 : Nat) (I : Nat → Nat → Int32) : Option (Int32) :=
  z_g (z_ob a0 10) (some (I a0 1))
theorem vX10_length {G : z_G} {d : Nat} {Q : Option Value → z_S → z_H → Prop} {a0 : Nat} {I : Nat → Nat → Int32} {R : Nat → Nat → Nat} {q : Int32} (hd : 0 ≤ d) (hf : fX10_length a0 I = some q) (hk : Q (some (.int q)) z_SH (I, R)) : z_W G eX10_length d 0 0 0 [some (.ref a0)] [] z_SH (I, R) Q := by
  unfold fX10_length at hf
  obtain ⟨g_a0, hf⟩ := z_g_el hf
  refine z_aload_n dX10_length_0 rfl rfl (z_okl g_a0) ?_
  refine y_getI lfX10_13 rfl g_a0 dX10_length_1 ?_
  cases hf
  exact z_iret hk ⟨_, rfl, rfl⟩ dX10_length_4
theorem wX10_length {G : z_G} {d : Nat} {a0 : Nat} {I : Nat → Nat → Int32} {R : Nat → Nat → Nat} {q : Int32} (hd : 0 ≤ d) (hf : fX10_length a0 I = some q) : z_M G d 0 0 eX10_length [.ref a0] z_SH (I, R) (z_E (some (.int q)) (I, R)) :=
  y_M_of _ (by decide +kernel) rfl rfl rfl (vX10_length hd hf ⟨rfl, rfl, rfl⟩)
def fX10_hasRoomFor (a0 : Nat) (x1 : Int32) (I : Nat → Nat → Int32) : Option (Int32) :=
  z_g (z_ob a0 10) (if (260 : Int32) < ((I a0 1) + x1) then (some (0 : Int32)) else (some (1 : Int32)))
theorem vX10_hasRoomFor {G : z_G} {d : Nat} {Q : Option Value → z_S → z_H → Prop} {a0 : Nat} {x1 : Int32} {I : Nat → Nat → Int32} {R : Nat → Nat → Nat} {q : Int32} (hd : 0 ≤ d) (hf : fX10_hasRoomFor a0 x1 I = some q) (hk : Q (some (.int q)) z_SH (I, R)) : z_W G eX10_hasRoomFor d 0 0 0 [some (.ref a0), some (.int x1)] [] z_SH (I, R) Q := by
  unfold fX10_hasRoomFor at hf
  obtain ⟨g_a0, hf⟩ := z_g_el hf
  refine z_aload_n dX10_hasRoomFor_0 rfl rfl (z_okl g_a0) ?_
  refine y_getI lfX10_13 rfl g_a0 dX10_hasRoomFor_1 ?_
  refine z_iload_n dX10_hasRoomFor_4 rfl rfl ?_
  refine z_iadd dX10_hasRoomFor_5 ?_
  refine z_sipush dX10_hasRoomFor_6 ks_260 ?_
  refine z_icmp_gt (tgt := 16) dX10_hasRoomFor_9 (by decide) (fun c1 => ?_) (fun c1 => ?_)
  · have hf := z_if_t hf c1
    refine z_iconst dX10_hasRoomFor_16 kc_0 ?_
    cases hf
    exact z_iret hk ⟨_, rfl, rfl⟩ dX10_hasRoomFor_17
  · have hf := z_if_f hf c1
    refine z_iconst dX10_hasRoomFor_12 kc_1 ?_
    refine z_goto (tgt := 17) dX10_hasRoomFor_13 (by decide) ?_
    cases hf
    exact z_iret hk ⟨_, rfl, rfl⟩ dX10_hasRoomFor_17
theorem wX10_hasRoomFor {G : z_G} {d : Nat} {a0 : Nat} {x1 : Int32} {I : Nat → Nat → Int32} {R : Nat → Nat → Nat} {q : Int32} (hd : 0 ≤ d) (hf : fX10_hasRoomFor a0 x1 I = some q) : z_M G d 0 0 eX10_hasRoomFor [.ref a0, .int x1] z_SH (I, R) (z_E (some (.int q)) (I, R)) :=
  y_M_of _ (by decide +kernel) rfl rfl rfl (vX10_hasRoomFor hd hf ⟨rfl, rfl, rfl⟩)
def fX10_put_b12 (a0 : Nat) (z1 : Int32) (R : Nat → Nat → Nat) : (Int32 × (Nat → Nat → Int32)) → Option ((Int32 × (Nat → Nat → Int32)) ⊕ ((Nat → Nat → Int32))) :=
  fun s => (fun (p2 : Int32) (I : Nat → Nat → Int32) => if p2 < 0 then (some (.inr I)) else (z_g (z_ok 1 (R a0 0) (I a0 1)) (z_l (z_u I (R a0 0) (I a0 1).toNatClampNeg ((z_shr z1 p2) &&& (255 : Int32))) (fun I5 => z_l (z_u I5 a0 1 ((I5 a0 1) + (1 : Int32))) (fun I6 => z_l (p2 + (-8 : Int32)) (fun t7 => some (.inl (t7, I6)))))))) s.1 s.2
theorem wX10_put_b12 {G : z_G} {d : Nat} {Q : Option Value → z_S → z_H → Prop} {a0 : Nat} {z1 : Int32} {R : Nat → Nat → Nat} (hd : 1 ≤ d) (g_a0 : z_ob a0 10) : ∀ (s : Int32 × (Nat → Nat → Int32)) (o : (Int32 × (Nat → Nat → Int32)) ⊕ ((Nat → Nat → Int32))), fX10_put_b12 a0 z1 R s = some o → z_or (fun s : Int32 × (Nat → Nat → Int32) => z_W G eX10_put d 0 0 12 [some (.ref a0), some (.int z1), some (.int s.1)] [] z_SH (s.2, R) Q) (fun x : (Nat → Nat → Int32) => z_W G eX10_put d 0 0 48 [none, none, none] [] z_SH (x, R) Q) o → (fun s : Int32 × (Nat → Nat → Int32) => z_W G eX10_put d 0 0 12 [some (.ref a0), some (.int z1), some (.int s.1)] [] z_SH (s.2, R) Q) s := by
  rintro ⟨p2, I⟩ o hf hk
  show z_W G eX10_put d 0 0 12 [some (.ref a0), some (.int z1), some (.int p2)] [] z_SH (I, R) Q
  unfold fX10_put_b12 at hf
  try dsimp only at hf
  refine z_iload_n dX10_put_12 rfl rfl ?_
  refine z_if_lt (tgt := 48) dX10_put_13 (by decide) (fun c3 => ?_) (fun c3 => ?_)
  · have hf := z_if_t hf c3
    cases hf
    exact y_sub hk (z_le_n (z_le_n (z_le_n z_le_0)))
  · have hf := z_if_f hf c3
    refine z_aload_n dX10_put_16 rfl rfl (z_okl g_a0) ?_
    refine y_getR lfX10_9 rfl g_a0 dX10_put_17 ?_
    refine z_aload_n dX10_put_20 rfl rfl (z_okl g_a0) ?_
    refine y_getI lfX10_13 rfl g_a0 dX10_put_21 ?_
    refine z_iload_n dX10_put_24 rfl rfl ?_
    refine z_iload_n dX10_put_25 rfl rfl ?_
    refine y_ishr dX10_put_26 ?_
    refine z_sipush dX10_put_27 ks_255 ?_
    refine z_iand dX10_put_30 ?_
    obtain ⟨g4, hf⟩ := z_g_el hf
    refine y_iast g4 dX10_put_31 (fun I5 eI5 => ?_)
    have hf := z_l_el hf eI5
    refine z_aload_n dX10_put_32 rfl rfl (z_okl g_a0) ?_
    refine z_dup dX10_put_33 rfl ?_
    refine y_getI lfX10_13 rfl g_a0 dX10_put_34 ?_
    refine z_iconst dX10_put_37 kc_1 ?_
    refine z_iadd dX10_put_38 ?_
    refine y_putI lfX10_13 rfl g_a0 rfl rfl rfl dX10_put_39 (fun I6 eI6 => ?_)
    have hf := z_l_el hf eI6
    refine y_iinc (fun t7 => [some (.ref a0), some (.int z1), some (.int t7)]) dX10_put_42 rfl kc_m8 (by decide) (fun _ => rfl) (fun t7 et7 => ?_)
    have hf := z_l_el hf et7
    refine z_goto (tgt := 12) dX10_put_45 (by decide) ?_
    cases hf
    exact y_sub hk (z_le_c rfl (z_le_c rfl (z_le_c rfl z_le_0)))
def fX10_put (a0 : Nat) (x1 : Int32) (I : Nat → Nat → Int32) (R : Nat → Nat → Nat) : Option ((Nat → Nat → Int32)) :=
  z_g (z_ob a0 10) (z_b (fX10_hasRoomFor a0 (4 : Int32) I) (fun q1 => if q1 = 0 then (some I) else (z_b (z_lp (fX10_put_b12 a0 x1 R) 300 ((24 : Int32), I)) (fun q8 => some q8))))
theorem vX10_put {G : z_G} {d : Nat} {Q : Option Value → z_S → z_H → Prop} {a0 : Nat} {x1 : Int32} {I : Nat → Nat → Int32} {R : Nat → Nat → Nat} {q : (Nat → Nat → Int32)} (hd : 1 ≤ d) (hf : fX10_put a0 x1 I R = some q) (hk : Q none z_SH (q, R)) : z_W G eX10_put d 0 0 0 [some (.ref a0), some (.int x1), none] [] z_SH (I, R) Q := by
  unfold fX10_put at hf
  obtain ⟨g_a0, hf⟩ := z_g_el hf
  refine z_aload_n dX10_put_0 rfl rfl (z_okl g_a0) ?_
  refine z_iconst dX10_put_1 kc_4 ?_
  obtain ⟨q1, hq1, hf⟩ := z_b_el hf
  refine y_cVi (av := [.int (4 : Int32)]) (Nat.le_trans (Nat.le_of_ble_eq_true rfl) hd) (wX10_hasRoomFor (z_dl rfl hd) hq1) oX10_hasRoomFor lmX10_17 iX10_hasRoomFor g_a0 rfl _ rfl rfl (Nat.le_of_ble_eq_true rfl) dX10_put_2 ?_
  refine z_if_ne (tgt := 9) dX10_put_5 (by decide) (fun c2 => ?_) (fun c2 => ?_)
  · have hf := z_if_f hf c2
    refine z_bipush dX10_put_9 kb_24 ?_
    refine y_istore_n0 [some (.ref a0), some (.int x1), some (.int (24 : Int32))] dX10_put_11 rfl (by decide) rfl ?_
    obtain ⟨q8, hq8, hf⟩ := z_b_el hf
    refine y_sub (lv' := [some (.ref a0), some (.int x1), some (.int (24 : Int32))]) ?_ (z_le_c rfl (z_le_c rfl (z_le_c rfl z_le_0)))
    refine z_lp_el (P := (fun s : Int32 × (Nat → Nat → Int32) => z_W G eX10_put d 0 0 12 [some (.ref a0), some (.int x1), some (.int s.1)] [] z_SH (s.2, R) Q)) (E := (fun x : (Nat → Nat → Int32) => z_W G eX10_put d 0 0 48 [none, none, none] [] z_SH (x, R) Q)) (wX10_put_b12 hd g_a0) 300 ((24 : Int32), I) q8 hq8 ?_
    show z_W G eX10_put d 0 0 48 [none, none, none] [] z_SH (q8, R) _
    cases hf
    exact z_vret hk rfl dX10_put_48
  · have hf := z_if_t hf c2
    cases hf
    exact z_vret hk rfl dX10_put_8
theorem wX10_put {G : z_G} {d : Nat} {a0 : Nat} {x1 : Int32} {I : Nat → Nat → Int32} {R : Nat → Nat → Nat} {q : (Nat → Nat → Int32)} (hd : 1 ≤ d) (hf : fX10_put a0 x1 I R = some q) : z_M G d 0 0 eX10_put [.ref a0, .int x1] z_SH (I, R) (z_E none (q, R)) :=
  y_M_of _ (by decide +kernel) rfl rfl rfl (vX10_put hd hf ⟨rfl, rfl, rfl⟩)
def fX10_clear (a0 : Nat) (I : Nat → Nat → Int32) : Option ((Nat → Nat → Int32)) :=
  z_g (z_ob a0 10) (z_l (z_u I a0 1 (0 : Int32)) (fun I1 => some I1))
theorem vX10_clear {G : z_G} {d : Nat} {Q : Option Value → z_S → z_H → Prop} {a0 : Nat} {I : Nat → Nat → Int32} {R : Nat → Nat → Nat} {q : (Nat → Nat → Int32)} (hd : 0 ≤ d) (hf : fX10_clear a0 I = some q) (hk : Q none z_SH (q, R)) : z_W G eX10_clear d 0 0 0 [some (.ref a0)] [] z_SH (I, R) Q := by
  unfold fX10_clear at hf
  obtain ⟨g_a0, hf⟩ := z_g_el hf
  refine z_aload_n dX10_clear_0 rfl rfl (z_okl g_a0) ?_
  refine z_iconst dX10_clear_1 kc_0 ?_
  refine y_putI lfX10_13 rfl g_a0 rfl rfl rfl dX10_clear_2 (fun I1 eI1 => ?_)
  have hf := z_l_el hf eI1
  cases hf
  exact z_vret hk rfl dX10_clear_5
theorem wX10_clear {G : z_G} {d : Nat} {a0 : Nat} {I : Nat → Nat → Int32} {R : Nat → Nat → Nat} {q : (Nat → Nat → Int32)} (hd : 0 ≤ d) (hf : fX10_clear a0 I = some q) : z_M G d 0 0 eX10_clear [.ref a0] z_SH (I, R) (z_E none (q, R)) :=
  y_M_of _ (by decide +kernel) rfl rfl rfl (vX10_clear hd hf ⟨rfl, rfl, rfl⟩)
def fX10_byteAt (a0 : Nat) (x1 : Int32) (I : Nat → Nat → Int32) (R : Nat → Nat → Nat) : Option (Int32) :=
  z_g (z_ob a0 10) (if x1 < 0 then (some (-1 : Int32)) else (if (I a0 1) ≤ x1 then (some (-1 : Int32)) else (z_g (z_ok 1 (R a0 0) x1) (some (I (R a0 0) x1.toNatClampNeg)))))
theorem vX10_byteAt {G : z_G} {d : Nat} {Q : Option Value → z_S → z_H → Prop} {a0 : Nat} {x1 : Int32} {I : Nat → Nat → Int32} {R : Nat → Nat → Nat} {q : Int32} (hd : 0 ≤ d) (hf : fX10_byteAt a0 x1 I R = some q) (hk : Q (some (.int q)) z_SH (I, R)) : z_W G eX10_byteAt d 0 0 0 [some (.ref a0), some (.int x1)] [] z_SH (I, R) Q := by
  unfold fX10_byteAt at hf
  obtain ⟨g_a0, hf⟩ := z_g_el hf
  refine z_iload_n dX10_byteAt_0 rfl rfl ?_
  refine z_if_lt (tgt := 21) dX10_byteAt_1 (by decide) (fun c1 => ?_) (fun c1 => ?_)
  · have hf := z_if_t hf c1
    refine z_iconst dX10_byteAt_21 kc_m1 ?_
    cases hf
    exact z_iret hk ⟨_, rfl, rfl⟩ dX10_byteAt_22
  · have hf := z_if_f hf c1
    refine z_iload_n dX10_byteAt_4 rfl rfl ?_
    refine z_aload_n dX10_byteAt_5 rfl rfl (z_okl g_a0) ?_
    refine y_getI lfX10_13 rfl g_a0 dX10_byteAt_6 ?_
    refine z_icmp_ge (tgt := 21) dX10_byteAt_9 (by decide) (fun c2 => ?_) (fun c2 => ?_)
    · have hf := z_if_t hf c2
      refine z_iconst dX10_byteAt_21 kc_m1 ?_
      cases hf
      exact z_iret hk ⟨_, rfl, rfl⟩ dX10_byteAt_22
    · have hf := z_if_f hf c2
      refine z_aload_n dX10_byteAt_12 rfl rfl (z_okl g_a0) ?_
      refine y_getR lfX10_9 rfl g_a0 dX10_byteAt_13 ?_
      refine z_iload_n dX10_byteAt_16 rfl rfl ?_
      obtain ⟨g3, hf⟩ := z_g_el hf
      refine y_iald g3 dX10_byteAt_17 ?_
      refine z_goto (tgt := 22) dX10_byteAt_18 (by decide) ?_
      cases hf
      exact z_iret hk ⟨_, rfl, rfl⟩ dX10_byteAt_22
theorem wX10_byteAt {G : z_G} {d : Nat} {a0 : Nat} {x1 : Int32} {I : Nat → Nat → Int32} {R : Nat → Nat → Nat} {q : Int32} (hd : 0 ≤ d) (hf : fX10_byteAt a0 x1 I R = some q) : z_M G d 0 0 eX10_byteAt [.ref a0, .int x1] z_SH (I, R) (z_E (some (.int q)) (I, R)) :=
  y_M_of _ (by decide +kernel) rfl rfl rfl (vX10_byteAt hd hf ⟨rfl, rfl, rfl⟩)
def fX11_write_b4 (a0 : Nat) (a1 : Nat) (R : Nat → Nat → Nat) : (Int32 × Int32 × (Nat → Nat → Int32)) → Option ((Int32 × Int32 × (Nat → Nat → Int32)) ⊕ (Int32 × (Nat → Nat → Int32))) :=
  fun s => (fun (p2 : Int32) (p3 : Int32) (I : Nat → Nat → Int32) => z_b (fX5_length a0 I) (fun q1 => if q1 ≤ p3 then (some (.inr (p2, I))) else (z_b (fX5_beginsSound a0 p3 I R) (fun q3 => if q3 = 0 then (z_l (p3 + (1 : Int32)) (fun t5 => some (.inl (p2, t5, I)))) else (if (Int32.ofNat (z_len 1 a1)) ≤ p2 then (z_l (p3 + (1 : Int32)) (fun t7 => some (.inl (p2, t7, I)))) else (z_b (fX5_noteAt a0 p3 I R) (fun q8 => z_g (z_ok 1 a1 p2) (z_l (z_u I a1 p2.toNatClampNeg q8) (fun I10 => z_l (p2 + (1 : Int32)) (fun t11 => z_l (p3 + (1 : Int32)) (fun t12 => some (.inl (t11, t12, I10))))))))))))) s.1 s.2.1 s.2.2
theorem wX11_write_b4 {G : z_G} {d : Nat} {Q : Option Value → z_S → z_H → Prop} {a0 : Nat} {a1 : Nat} {R : Nat → Nat → Nat} (hd : 3 ≤ d) (g_a0 : z_ob a0 5) (g_a1 : z_ar a1) : ∀ (s : Int32 × Int32 × (Nat → Nat → Int32)) (o : (Int32 × Int32 × (Nat → Nat → Int32)) ⊕ (Int32 × (Nat → Nat → Int32))), fX11_write_b4 a0 a1 R s = some o → z_or (fun s : Int32 × Int32 × (Nat → Nat → Int32) => z_W G eX11_write d 0 0 4 [some (.ref a0), some (.ref a1), some (.int s.1), some (.int s.2.1)] [] z_SH (s.2.2, R) Q) (fun x : Int32 × (Nat → Nat → Int32) => z_W G eX11_write d 0 0 43 [none, none, some (.int x.1), none] [] z_SH (x.2, R) Q) o → (fun s : Int32 × Int32 × (Nat → Nat → Int32) => z_W G eX11_write d 0 0 4 [some (.ref a0), some (.ref a1), some (.int s.1), some (.int s.2.1)] [] z_SH (s.2.2, R) Q) s := by
  rintro ⟨p2, p3, I⟩ o hf hk
  show z_W G eX11_write d 0 0 4 [some (.ref a0), some (.ref a1), some (.int p2), some (.int p3)] [] z_SH (I, R) Q
  unfold fX11_write_b4 at hf
  try dsimp only at hf
  refine z_iload_n dX11_write_4 rfl rfl ?_
  refine z_aload_n dX11_write_5 rfl rfl (z_okl g_a0) ?_
  obtain ⟨q1, hq1, hf⟩ := z_b_el hf
  refine y_cVi (av := []) (Nat.le_trans (Nat.le_of_ble_eq_true rfl) hd) (wX5_length (z_dl rfl hd) hq1) oX5_length lmX11_18 iX5_length g_a0 rfl _ rfl rfl (Nat.le_of_ble_eq_true rfl) dX11_write_6 ?_
  refine z_icmp_ge (tgt := 43) dX11_write_9 (by decide) (fun c2 => ?_) (fun c2 => ?_)
  · have hf := z_if_t hf c2
    cases hf
    exact y_sub hk (z_le_n (z_le_n (z_le_c rfl (z_le_n z_le_0))))
  · have hf := z_if_f hf c2
    refine z_aload_n dX11_write_12 rfl rfl (z_okl g_a0) ?_
    refine z_iload_n dX11_write_13 rfl rfl ?_
    obtain ⟨q3, hq3, hf⟩ := z_b_el hf
    refine y_cVi (av := [.int p3]) (Nat.le_trans (Nat.le_of_ble_eq_true rfl) hd) (wX5_beginsSound (z_dl rfl hd) hq3) oX5_beginsSound lmX11_22 iX5_beginsSound g_a0 rfl _ rfl rfl (Nat.le_of_ble_eq_true rfl) dX11_write_14 ?_
    refine z_if_eq (tgt := 37) dX11_write_17 (by decide) (fun c4 => ?_) (fun c4 => ?_)
    · have hf := z_if_t hf c4
      refine y_iinc (fun t5 => [some (.ref a0), some (.ref a1), some (.int p2), some (.int t5)]) dX11_write_37 rfl kc_1 (by decide) (fun _ => rfl) (fun t5 et5 => ?_)
      have hf := z_l_el hf et5
      refine z_goto (tgt := 4) dX11_write_40 (by decide) ?_
      cases hf
      exact y_sub hk (z_le_c rfl (z_le_c rfl (z_le_c rfl (z_le_c rfl z_le_0))))
    · have hf := z_if_f hf c4
      refine z_iload_n dX11_write_20 rfl rfl ?_
      refine z_aload_n dX11_write_21 rfl rfl (z_ar_lt g_a1) ?_
      refine y_alen g_a1 dX11_write_22 ?_
      refine z_icmp_ge (tgt := 37) dX11_write_23 (by decide) (fun c6 => ?_) (fun c6 => ?_)
      · have hf := z_if_t hf c6
        refine y_iinc (fun t7 => [some (.ref a0), some (.ref a1), some (.int p2), some (.int t7)]) dX11_write_37 rfl kc_1 (by decide) (fun _ => rfl) (fun t7 et7 => ?_)
        have hf := z_l_el hf et7
        refine z_goto (tgt := 4) dX11_write_40 (by decide) ?_
        cases hf
        exact y_sub hk (z_le_c rfl (z_le_c rfl (z_le_c rfl (z_le_c rfl z_le_0))))
      · have hf := z_if_f hf c6
        refine z_aload_n dX11_write_26 rfl rfl (z_ar_lt g_a1) ?_
        refine z_iload_n dX11_write_27 rfl rfl ?_
        refine z_aload_n dX11_write_28 rfl rfl (z_okl g_a0) ?_
        refine z_iload_n dX11_write_29 rfl rfl ?_
        obtain ⟨q8, hq8, hf⟩ := z_b_el hf
        refine y_cVi (av := [.int p3]) (Nat.le_trans (Nat.le_of_ble_eq_true rfl) hd) (wX5_noteAt (z_dl rfl hd) hq8) oX5_noteAt lmX11_26 iX5_noteAt g_a0 rfl _ rfl rfl (Nat.le_of_ble_eq_true rfl) dX11_write_30 ?_
        obtain ⟨g9, hf⟩ := z_g_el hf
        refine y_iast g9 dX11_write_33 (fun I10 eI10 => ?_)
        have hf := z_l_el hf eI10
        refine y_iinc (fun t11 => [some (.ref a0), some (.ref a1), some (.int t11), some (.int p3)]) dX11_write_34 rfl kc_1 (by decide) (fun _ => rfl) (fun t11 et11 => ?_)
        have hf := z_l_el hf et11
        refine y_iinc (fun t12 => [some (.ref a0), some (.ref a1), some (.int t11), some (.int t12)]) dX11_write_37 rfl kc_1 (by decide) (fun _ => rfl) (fun t12 et12 => ?_)
        have hf := z_l_el hf et12
        refine z_goto (tgt := 4) dX11_write_40 (by decide) ?_
        cases hf
        exact y_sub hk (z_le_c rfl (z_le_c rfl (z_le_c rfl (z_le_c rfl z_le_0))))
def fX11_write (a0 : Nat) (a1 : Nat) (I : Nat → Nat → Int32) (R : Nat → Nat → Nat) : Option (Int32 × (Nat → Nat → Int32)) :=
  z_g (z_ob a0 5) (z_g (z_ar a1) (z_b (z_lp (fX11_write_b4 a0 a1 R) 300 ((0 : Int32), (0 : Int32), I)) (fun q13 => some (q13.1, q13.2))))
theorem vX11_write {G : z_G} {d : Nat} {Q : Option Value → z_S → z_H → Prop} {a0 : Nat} {a1 : Nat} {I : Nat → Nat → Int32} {R : Nat → Nat → Nat} {q : Int32 × (Nat → Nat → Int32)} (hd : 3 ≤ d) (hf : fX11_write a0 a1 I R = some q) (hk : Q (some (.int q.1)) z_SH (q.2, R)) : z_W G eX11_write d 0 0 0 [some (.ref a0), some (.ref a1), none, none] [] z_SH (I, R) Q := by
  unfold fX11_write at hf
  obtain ⟨g_a0, hf⟩ := z_g_el hf
  obtain ⟨g_a1, hf⟩ := z_g_el hf
  refine z_iconst dX11_write_0 kc_0 ?_
  refine y_istore_n0 [some (.ref a0), some (.ref a1), some (.int (0 : Int32)), none] dX11_write_1 rfl (by decide) rfl ?_
  refine z_iconst dX11_write_2 kc_0 ?_
  refine y_istore_n0 [some (.ref a0), some (.ref a1), some (.int (0 : Int32)), some (.int (0 : Int32))] dX11_write_3 rfl (by decide) rfl ?_
  obtain ⟨q13, hq13, hf⟩ := z_b_el hf
  refine y_sub (lv' := [some (.ref a0), some (.ref a1), some (.int (0 : Int32)), some (.int (0 : Int32))]) ?_ (z_le_c rfl (z_le_c rfl (z_le_c rfl (z_le_c rfl z_le_0))))
  refine z_lp_el (P := (fun s : Int32 × Int32 × (Nat → Nat → Int32) => z_W G eX11_write d 0 0 4 [some (.ref a0), some (.ref a1), some (.int s.1), some (.int s.2.1)] [] z_SH (s.2.2, R) Q)) (E := (fun x : Int32 × (Nat → Nat → Int32) => z_W G eX11_write d 0 0 43 [none, none, some (.int x.1), none] [] z_SH (x.2, R) Q)) (wX11_write_b4 hd g_a0 g_a1) 300 ((0 : Int32), (0 : Int32), I) q13 hq13 ?_
  show z_W G eX11_write d 0 0 43 [none, none, some (.int q13.1), none] [] z_SH (q13.2, R) _
  refine z_iload_n dX11_write_43 rfl rfl ?_
  cases hf
  exact z_iret hk ⟨_, rfl, rfl⟩ dX11_write_44
theorem wX11_write {G : z_G} {d : Nat} {a0 : Nat} {a1 : Nat} {I : Nat → Nat → Int32} {R : Nat → Nat → Nat} {q : Int32 × (Nat → Nat → Int32)} (hd : 3 ≤ d) (hf : fX11_write a0 a1 I R = some q) : z_M G d 0 0 eX11_write [.ref a0, .ref a1] z_SH (I, R) (z_E (some (.int q.1)) (q.2, R)) :=
  y_M_of _ (by decide +kernel) rfl rfl rfl (vX11_write hd hf ⟨rfl, rfl, rfl⟩)
def fX11_load (a0 : Nat) (a1 : Nat) (a2 : Nat) (I : Nat → Nat → Int32) (R : Nat → Nat → Nat) : Option ((Nat → Nat → Int32)) :=
  z_g (z_ob a0 11) (z_g (z_ob a1 5) (z_g (z_ob a2 5) (z_b (fX11_write a1 (R a0 0) I R) (fun q1 => z_l (z_u q1.2 a0 2 q1.1) (fun I2 => z_b (fX11_write a2 (R a0 1) I2 R) (fun q3 => z_l (z_u q3.2 a0 3 q3.1) (fun I4 => some I4)))))))
theorem vX11_load {G : z_G} {d : Nat} {Q : Option Value → z_S → z_H → Prop} {a0 : Nat} {a1 : Nat} {a2 : Nat} {I : Nat → Nat → Int32} {R : Nat → Nat → Nat} {q : (Nat → Nat → Int32)} (hd : 4 ≤ d) (hf : fX11_load a0 a1 a2 I R = some q) (hk : Q none z_SH (q, R)) : z_W G eX11_load d 0 0 0 [some (.ref a0), some (.ref a1), some (.ref a2)] [] z_SH (I, R) Q := by
  unfold fX11_load at hf
  obtain ⟨g_a0, hf⟩ := z_g_el hf
  obtain ⟨g_a1, hf⟩ := z_g_el hf
  obtain ⟨g_a2, hf⟩ := z_g_el hf
  refine z_aload_n dX11_load_0 rfl rfl (z_okl g_a0) ?_
  refine z_aload_n dX11_load_1 rfl rfl (z_okl g_a1) ?_
  refine z_aload_n dX11_load_2 rfl rfl (z_okl g_a0) ?_
  refine y_getR lfX11_9 rfl g_a0 dX11_load_3 ?_
  obtain ⟨q1, hq1, hf⟩ := z_b_el hf
  refine y_cSi (Nat.le_trans (Nat.le_of_ble_eq_true rfl) hd) (wX11_write (z_dl rfl hd) hq1) oX11_write lmX11_30 sX11_write _ rfl rfl (Nat.le_of_ble_eq_true rfl) dX11_load_6 ?_
  refine y_putI lfX11_34 rfl g_a0 rfl rfl rfl dX11_load_9 (fun I2 eI2 => ?_)
  have hf := z_l_el hf eI2
  refine z_aload_n dX11_load_12 rfl rfl (z_okl g_a0) ?_
  refine z_aload_n dX11_load_13 rfl rfl (z_okl g_a2) ?_
  refine z_aload_n dX11_load_14 rfl rfl (z_okl g_a0) ?_
  refine y_getR lfX11_15 rfl g_a0 dX11_load_15 ?_
  obtain ⟨q3, hq3, hf⟩ := z_b_el hf
  refine y_cSi (Nat.le_trans (Nat.le_of_ble_eq_true rfl) hd) (wX11_write (z_dl rfl hd) hq3) oX11_write lmX11_30 sX11_write _ rfl rfl (Nat.le_of_ble_eq_true rfl) dX11_load_18 ?_
  refine y_putI lfX11_38 rfl g_a0 rfl rfl rfl dX11_load_21 (fun I4 eI4 => ?_)
  have hf := z_l_el hf eI4
  cases hf
  exact z_vret hk rfl dX11_load_24
theorem wX11_load {G : z_G} {d : Nat} {a0 : Nat} {a1 : Nat} {a2 : Nat} {I : Nat → Nat → Int32} {R : Nat → Nat → Nat} {q : (Nat → Nat → Int32)} (hd : 4 ≤ d) (hf : fX11_load a0 a1 a2 I R = some q) : z_M G d 0 0 eX11_load [.ref a0, .ref a1, .ref a2] z_SH (I, R) (z_E none (q, R)) :=
  y_M_of _ (by decide +kernel) rfl rfl rfl (vX11_load hd hf ⟨rfl, rfl, rfl⟩)
def fX11_areMirrored_b21 (a0 : Nat) (a1 : Nat) (a2 : Nat) (I : Nat → Nat → Int32) (R : Nat → Nat → Nat) : (Int32) → Option ((Int32) ⊕ ((Int32 × (Nat → Nat → Int32)) ⊕ (Unit))) :=
  fun s => (fun (p3 : Int32) => if (I a0 2) ≤ p3 then (some (.inr (.inr (())))) else (z_g (z_ok 1 (R a0 0) p3) (z_g (z_ok 1 (R a0 1) (((I a0 3) - (1 : Int32)) - p3)) (if (I (R a0 0) p3.toNatClampNeg) = (I (R a0 1) (((I a0 3) - (1 : Int32)) - p3).toNatClampNeg) then (z_l (p3 + (1 : Int32)) (fun t7 => some (.inl t7))) else (some (.inr (.inl ((0 : Int32), I)))))))) s
theorem wX11_areMirrored_b21 {G : z_G} {d : Nat} {Q : Option Value → z_S → z_H → Prop} {a0 : Nat} {a1 : Nat} {a2 : Nat} {I : Nat → Nat → Int32} {R : Nat → Nat → Nat} (hd : 5 ≤ d) (g_a0 : z_ob a0 11) (g_a1 : z_ob a1 5) (g_a2 : z_ob a2 5) : ∀ (s : Int32) (o : (Int32) ⊕ ((Int32 × (Nat → Nat → Int32)) ⊕ (Unit))), fX11_areMirrored_b21 a0 a1 a2 I R s = some o → z_or (fun s : Int32 => z_W G eX11_areMirrored d 0 0 21 [some (.ref a0), none, none, some (.int s)] [] z_SH (I, R) Q) (z_or (fun r : Int32 × (Nat → Nat → Int32) => Q (some (.int r.1)) z_SH (r.2, R)) (fun x : Unit => z_W G eX11_areMirrored d 0 0 59 [none, none, none, none] [] z_SH (I, R) Q)) o → (fun s : Int32 => z_W G eX11_areMirrored d 0 0 21 [some (.ref a0), none, none, some (.int s)] [] z_SH (I, R) Q) s := by
  intro p3 o hf hk
  show z_W G eX11_areMirrored d 0 0 21 [some (.ref a0), none, none, some (.int p3)] [] z_SH (I, R) Q
  unfold fX11_areMirrored_b21 at hf
  try dsimp only at hf
  refine z_iload_n dX11_areMirrored_21 rfl rfl ?_
  refine z_aload_n dX11_areMirrored_22 rfl rfl (z_okl g_a0) ?_
  refine y_getI lfX11_34 rfl g_a0 dX11_areMirrored_23 ?_
  refine z_icmp_ge (tgt := 59) dX11_areMirrored_26 (by decide) (fun c3 => ?_) (fun c3 => ?_)
  · have hf := z_if_t hf c3
    cases hf
    exact y_sub hk (z_le_n (z_le_n (z_le_n (z_le_n z_le_0))))
  · have hf := z_if_f hf c3
    refine z_aload_n dX11_areMirrored_29 rfl rfl (z_okl g_a0) ?_
    refine y_getR lfX11_9 rfl g_a0 dX11_areMirrored_30 ?_
    refine z_iload_n dX11_areMirrored_33 rfl rfl ?_
    obtain ⟨g4, hf⟩ := z_g_el hf
    refine y_iald g4 dX11_areMirrored_34 ?_
    refine z_aload_n dX11_areMirrored_35 rfl rfl (z_okl g_a0) ?_
    refine y_getR lfX11_15 rfl g_a0 dX11_areMirrored_36 ?_
    refine z_aload_n dX11_areMirrored_39 rfl rfl (z_okl g_a0) ?_
    refine y_getI lfX11_38 rfl g_a0 dX11_areMirrored_40 ?_
    refine z_iconst dX11_areMirrored_43 kc_1 ?_
    refine z_isub dX11_areMirrored_44 ?_
    refine z_iload_n dX11_areMirrored_45 rfl rfl ?_
    refine z_isub dX11_areMirrored_46 ?_
    obtain ⟨g5, hf⟩ := z_g_el hf
    refine y_iald g5 dX11_areMirrored_47 ?_
    refine z_icmp_eq (tgt := 53) dX11_areMirrored_48 (by decide) (fun c6 => ?_) (fun c6 => ?_)
    · have hf := z_if_t hf c6
      refine y_iinc (fun t7 => [some (.ref a0), none, none, some (.int t7)]) dX11_areMirrored_53 rfl kc_1 (by decide) (fun _ => rfl) (fun t7 et7 => ?_)
      have hf := z_l_el hf et7
      refine z_goto (tgt := 21) dX11_areMirrored_56 (by decide) ?_
      cases hf
      exact y_sub hk (z_le_c rfl (z_le_n (z_le_n (z_le_c rfl z_le_0))))
    · have hf := z_if_f hf c6
      refine z_iconst dX11_areMirrored_51 kc_0 ?_
      cases hf
      exact z_iret hk ⟨_, rfl, rfl⟩ dX11_areMirrored_52
def fX11_areMirrored (a0 : Nat) (a1 : Nat) (a2 : Nat) (I : Nat → Nat → Int32) (R : Nat → Nat → Nat) : Option (Int32 × (Nat → Nat → Int32)) :=
  z_g (z_ob a0 11) (z_g (z_ob a1 5) (z_g (z_ob a2 5) (z_b (fX11_load a0 a1 a2 I R) (fun q1 => if (q1 a0 2) = (q1 a0 3) then (z_b (z_lp (fX11_areMirrored_b21 a0 a1 a2 q1 R) 300 (0 : Int32)) (fun q8 => z_x q8 (fun q10 => some q10) (fun q9 => some ((1 : Int32), q1)))) else (some ((0 : Int32), q1))))))
theorem vX11_areMirrored {G : z_G} {d : Nat} {Q : Option Value → z_S → z_H → Prop} {a0 : Nat} {a1 : Nat} {a2 : Nat} {I : Nat → Nat → Int32} {R : Nat → Nat → Nat} {q : Int32 × (Nat → Nat → Int32)} (hd : 5 ≤ d) (hf : fX11_areMirrored a0 a1 a2 I R = some q) (hk : Q (some (.int q.1)) z_SH (q.2, R)) : z_W G eX11_areMirrored d 0 0 0 [some (.ref a0), some (.ref a1), some (.ref a2), none] [] z_SH (I, R) Q := by
  unfold fX11_areMirrored at hf
  obtain ⟨g_a0, hf⟩ := z_g_el hf
  obtain ⟨g_a1, hf⟩ := z_g_el hf
  obtain ⟨g_a2, hf⟩ := z_g_el hf
  refine z_aload_n dX11_areMirrored_0 rfl rfl (z_okl g_a0) ?_
  refine z_aload_n dX11_areMirrored_1 rfl rfl (z_okl g_a1) ?_
  refine z_aload_n dX11_areMirrored_2 rfl rfl (z_okl g_a2) ?_
  obtain ⟨q1, hq1, hf⟩ := z_b_el hf
  refine y_cVv (av := [.ref a1, .ref a2]) (Nat.le_trans (Nat.le_of_ble_eq_true rfl) hd) (wX11_load (z_dl rfl hd) hq1) oX11_load lmX11_41 iX11_load g_a0 rfl _ rfl rfl (Nat.le_of_ble_eq_true rfl) dX11_areMirrored_3 ?_
  refine z_aload_n dX11_areMirrored_6 rfl rfl (z_okl g_a0) ?_
  refine y_getI lfX11_34 rfl g_a0 dX11_areMirrored_7 ?_
  refine z_aload_n dX11_areMirrored_10 rfl rfl (z_okl g_a0) ?_
  refine y_getI lfX11_38 rfl g_a0 dX11_areMirrored_11 ?_
  refine z_icmp_eq (tgt := 19) dX11_areMirrored_14 (by decide) (fun c2 => ?_) (fun c2 => ?_)
  · have hf := z_if_t hf c2
    refine z_iconst dX11_areMirrored_19 kc_0 ?_
    refine y_istore_n0 [some (.ref a0), some (.ref a1), some (.ref a2), some (.int (0 : Int32))] dX11_areMirrored_20 rfl (by decide) rfl ?_
    obtain ⟨q8, hq8, hf⟩ := z_b_el hf
    refine y_sub (lv' := [some (.ref a0), none, none, some (.int (0 : Int32))]) ?_ (z_le_c rfl (z_le_n (z_le_n (z_le_c rfl z_le_0))))
    refine z_lp_el (P := (fun s : Int32 => z_W G eX11_areMirrored d 0 0 21 [some (.ref a0), none, none, some (.int s)] [] z_SH (q1, R) Q)) (E := (z_or (fun r : Int32 × (Nat → Nat → Int32) => Q (some (.int r.1)) z_SH (r.2, R)) (fun x : Unit => z_W G eX11_areMirrored d 0 0 59 [none, none, none, none] [] z_SH (q1, R) Q))) (wX11_areMirrored_b21 hd g_a0 g_a1 g_a2) 300 (0 : Int32) q8 hq8 ?_
    rcases q8 with q10 | q9
    · have hf := z_x_l hf
      cases hf
      exact hk
    · have hf := z_x_r hf
      show z_W G eX11_areMirrored d 0 0 59 [none, none, none, none] [] z_SH (q1, R) _
      refine z_iconst dX11_areMirrored_59 kc_1 ?_
      cases hf
      exact z_iret hk ⟨_, rfl, rfl⟩ dX11_areMirrored_60
  · have hf := z_if_f hf c2
    refine z_iconst dX11_areMirrored_17 kc_0 ?_
    cases hf
    exact z_iret hk ⟨_, rfl, rfl⟩ dX11_areMirrored_18
theorem wX11_areMirrored {G : z_G} {d : Nat} {a0 : Nat} {a1 : Nat} {a2 : Nat} {I : Nat → Nat → Int32} {R : Nat → Nat → Nat} {q : Int32 × (Nat → Nat → Int32)} (hd : 5 ≤ d) (hf : fX11_areMirrored a0 a1 a2 I R = some q) : z_M G d 0 0 eX11_areMirrored [.ref a0, .ref a1, .ref a2] z_SH (I, R) (z_E (some (.int q.1)) (q.2, R)) :=
  y_M_of _ (by decide +kernel) rfl rfl rfl (vX11_areMirrored hd hf ⟨rfl, rfl, rfl⟩)
def fX11_rowFrom_b43 (a0 : Nat) (z1 : Int32) (z2 : Int32) (z3 : Int32) (I : Nat → Nat → Int32) (R : Nat → Nat → Nat) : (Int32) → Option ((Int32) ⊕ (Int32)) :=
  fun s => (fun (p4 : Int32) => if (I a0 2) ≤ (z1 + p4) then (some (.inr p4)) else (if (I a0 3) ≤ (z2 + p4) then (some (.inr p4)) else (z_g (z_ok 1 (R a0 1) (z2 + p4)) (z_g (z_ok 1 (R a0 0) (z1 + p4)) (if ((I (R a0 1) (z2 + p4).toNatClampNeg) - (I (R a0 0) (z1 + p4).toNatClampNeg)) = z3 then (z_l (p4 + (1 : Int32)) (fun t13 => some (.inl t13))) else (some (.inr p4))))))) s
theorem wX11_rowFrom_b43 {G : z_G} {d : Nat} {Q : Option Value → z_S → z_H → Prop} {a0 : Nat} {z1 : Int32} {z2 : Int32} {z3 : Int32} {I : Nat → Nat → Int32} {R : Nat → Nat → Nat} (hd : 0 ≤ d) (g_a0 : z_ob a0 11) : ∀ (s : Int32) (o : (Int32) ⊕ (Int32)), fX11_rowFrom_b43 a0 z1 z2 z3 I R s = some o → z_or (fun s : Int32 => z_W G eX11_rowFrom d 0 0 43 [some (.ref a0), some (.int z1), some (.int z2), some (.int z3), some (.int s)] [] z_SH (I, R) Q) (fun x : Int32 => z_W G eX11_rowFrom d 0 0 94 [none, none, none, none, some (.int x)] [] z_SH (I, R) Q) o → (fun s : Int32 => z_W G eX11_rowFrom d 0 0 43 [some (.ref a0), some (.int z1), some (.int z2), some (.int z3), some (.int s)] [] z_SH (I, R) Q) s := by
  intro p4 o hf hk
  show z_W G eX11_rowFrom d 0 0 43 [some (.ref a0), some (.int z1), some (.int z2), some (.int z3), some (.int p4)] [] z_SH (I, R) Q
  unfold fX11_rowFrom_b43 at hf
  try dsimp only at hf
  refine z_iload_n dX11_rowFrom_43 rfl rfl ?_
  refine z_iload dX11_rowFrom_44 rfl ?_
  refine z_iadd dX11_rowFrom_46 ?_
  refine z_aload_n dX11_rowFrom_47 rfl rfl (z_okl g_a0) ?_
  refine y_getI lfX11_34 rfl g_a0 dX11_rowFrom_48 ?_
  refine z_icmp_ge (tgt := 94) dX11_rowFrom_51 (by decide) (fun c8 => ?_) (fun c8 => ?_)
  · have hf := z_if_t hf c8
    cases hf
    exact y_sub hk (z_le_n (z_le_n (z_le_n (z_le_n (z_le_c rfl z_le_0)))))
  · have hf := z_if_f hf c8
    refine z_iload_n dX11_rowFrom_54 rfl rfl ?_
    refine z_iload dX11_rowFrom_55 rfl ?_
    refine z_iadd dX11_rowFrom_57 ?_
    refine z_aload_n dX11_rowFrom_58 rfl rfl (z_okl g_a0) ?_
    refine y_getI lfX11_38 rfl g_a0 dX11_rowFrom_59 ?_
    refine z_icmp_ge (tgt := 94) dX11_rowFrom_62 (by decide) (fun c9 => ?_) (fun c9 => ?_)
    · have hf := z_if_t hf c9
      cases hf
      exact y_sub hk (z_le_n (z_le_n (z_le_n (z_le_n (z_le_c rfl z_le_0)))))
    · have hf := z_if_f hf c9
      refine z_aload_n dX11_rowFrom_65 rfl rfl (z_okl g_a0) ?_
      refine y_getR lfX11_15 rfl g_a0 dX11_rowFrom_66 ?_
      refine z_iload_n dX11_rowFrom_69 rfl rfl ?_
      refine z_iload dX11_rowFrom_70 rfl ?_
      refine z_iadd dX11_rowFrom_72 ?_
      obtain ⟨g10, hf⟩ := z_g_el hf
      refine y_iald g10 dX11_rowFrom_73 ?_
      refine z_aload_n dX11_rowFrom_74 rfl rfl (z_okl g_a0) ?_
      refine y_getR lfX11_9 rfl g_a0 dX11_rowFrom_75 ?_
      refine z_iload_n dX11_rowFrom_78 rfl rfl ?_
      refine z_iload dX11_rowFrom_79 rfl ?_
      refine z_iadd dX11_rowFrom_81 ?_
      obtain ⟨g11, hf⟩ := z_g_el hf
      refine y_iald g11 dX11_rowFrom_82 ?_
      refine z_isub dX11_rowFrom_83 ?_
      refine z_iload_n dX11_rowFrom_84 rfl rfl ?_
      refine z_icmp_ne (tgt := 94) dX11_rowFrom_85 (by decide) (fun c12 => ?_) (fun c12 => ?_)
      · have hf := z_if_f hf c12
        cases hf
        exact y_sub hk (z_le_n (z_le_n (z_le_n (z_le_n (z_le_c rfl z_le_0)))))
      · have hf := z_if_t hf c12
        refine y_iinc (fun t13 => [some (.ref a0), some (.int z1), some (.int z2), some (.int z3), some (.int t13)]) dX11_rowFrom_88 rfl kc_1 (by decide) (fun _ => rfl) (fun t13 et13 => ?_)
        have hf := z_l_el hf et13
        refine z_goto (tgt := 43) dX11_rowFrom_91 (by decide) ?_
        cases hf
        exact y_sub hk (z_le_c rfl (z_le_c rfl (z_le_c rfl (z_le_c rfl (z_le_c rfl z_le_0)))))
def fX11_rowFrom (a0 : Nat) (x1 : Int32) (x2 : Int32) (I : Nat → Nat → Int32) (R : Nat → Nat → Nat) : Option (Int32) :=
  z_g (z_ob a0 11) (if x1 < 0 then (some (0 : Int32)) else (if x2 < 0 then (some (0 : Int32)) else (if (I a0 2) ≤ x1 then (some (0 : Int32)) else (if x2 < (I a0 3) then (z_g (z_ok 1 (R a0 1) x2) (z_g (z_ok 1 (R a0 0) x1) (z_l ((I (R a0 1) x2.toNatClampNeg) - (I (R a0 0) x1.toNatClampNeg)) (fun t7 => z_b (z_lp (fX11_rowFrom_b43 a0 x1 x2 t7 I R) 300 (1 : Int32)) (fun q14 => some q14))))) else (some (0 : Int32))))))
theorem vX11_rowFrom {G : z_G} {d : Nat} {Q : Option Value → z_S → z_H → Prop} {a0 : Nat} {x1 : Int32} {x2 : Int32} {I : Nat → Nat → Int32} {R : Nat → Nat → Nat} {q : Int32} (hd : 0 ≤ d) (hf : fX11_rowFrom a0 x1 x2 I R = some q) (hk : Q (some (.int q)) z_SH (I, R)) : z_W G eX11_rowFrom d 0 0 0 [some (.ref a0), some (.int x1), some (.int x2), none, none] [] z_SH (I, R) Q := by
  unfold fX11_rowFrom at hf
  obtain ⟨g_a0, hf⟩ := z_g_el hf
  refine z_iload_n dX11_rowFrom_0 rfl rfl ?_
  refine z_if_lt (tgt := 24) dX11_rowFrom_1 (by decide) (fun c1 => ?_) (fun c1 => ?_)
  · have hf := z_if_t hf c1
    refine z_iconst dX11_rowFrom_24 kc_0 ?_
    cases hf
    exact z_iret hk ⟨_, rfl, rfl⟩ dX11_rowFrom_25
  · have hf := z_if_f hf c1
    refine z_iload_n dX11_rowFrom_4 rfl rfl ?_
    refine z_if_lt (tgt := 24) dX11_rowFrom_5 (by decide) (fun c2 => ?_) (fun c2 => ?_)
    · have hf := z_if_t hf c2
      refine z_iconst dX11_rowFrom_24 kc_0 ?_
      cases hf
      exact z_iret hk ⟨_, rfl, rfl⟩ dX11_rowFrom_25
    · have hf := z_if_f hf c2
      refine z_iload_n dX11_rowFrom_8 rfl rfl ?_
      refine z_aload_n dX11_rowFrom_9 rfl rfl (z_okl g_a0) ?_
      refine y_getI lfX11_34 rfl g_a0 dX11_rowFrom_10 ?_
      refine z_icmp_ge (tgt := 24) dX11_rowFrom_13 (by decide) (fun c3 => ?_) (fun c3 => ?_)
      · have hf := z_if_t hf c3
        refine z_iconst dX11_rowFrom_24 kc_0 ?_
        cases hf
        exact z_iret hk ⟨_, rfl, rfl⟩ dX11_rowFrom_25
      · have hf := z_if_f hf c3
        refine z_iload_n dX11_rowFrom_16 rfl rfl ?_
        refine z_aload_n dX11_rowFrom_17 rfl rfl (z_okl g_a0) ?_
        refine y_getI lfX11_38 rfl g_a0 dX11_rowFrom_18 ?_
        refine z_icmp_lt (tgt := 26) dX11_rowFrom_21 (by decide) (fun c4 => ?_) (fun c4 => ?_)
        · have hf := z_if_t hf c4
          refine z_aload_n dX11_rowFrom_26 rfl rfl (z_okl g_a0) ?_
          refine y_getR lfX11_15 rfl g_a0 dX11_rowFrom_27 ?_
          refine z_iload_n dX11_rowFrom_30 rfl rfl ?_
          obtain ⟨g5, hf⟩ := z_g_el hf
          refine y_iald g5 dX11_rowFrom_31 ?_
          refine z_aload_n dX11_rowFrom_32 rfl rfl (z_okl g_a0) ?_
          refine y_getR lfX11_9 rfl g_a0 dX11_rowFrom_33 ?_
          refine z_iload_n dX11_rowFrom_36 rfl rfl ?_
          obtain ⟨g6, hf⟩ := z_g_el hf
          refine y_iald g6 dX11_rowFrom_37 ?_
          refine z_isub dX11_rowFrom_38 ?_
          refine y_istore_n (fun t7 => [some (.ref a0), some (.int x1), some (.int x2), some (.int t7), none]) dX11_rowFrom_39 rfl (by decide) (fun _ => rfl) (fun t7 et7 => ?_)
          have hf := z_l_el hf et7
          refine z_iconst dX11_rowFrom_40 kc_1 ?_
          refine y_istore0 [some (.ref a0), some (.int x1), some (.int x2), some (.int t7), some (.int (1 : Int32))] dX11_rowFrom_41 (by decide) rfl ?_
          obtain ⟨q14, hq14, hf⟩ := z_b_el hf
          refine y_sub (lv' := [some (.ref a0), some (.int x1), some (.int x2), some (.int t7), some (.int (1 : Int32))]) ?_ (z_le_c rfl (z_le_c rfl (z_le_c rfl (z_le_c rfl (z_le_c rfl z_le_0)))))
          refine z_lp_el (P := (fun s : Int32 => z_W G eX11_rowFrom d 0 0 43 [some (.ref a0), some (.int x1), some (.int x2), some (.int t7), some (.int s)] [] z_SH (I, R) Q)) (E := (fun x : Int32 => z_W G eX11_rowFrom d 0 0 94 [none, none, none, none, some (.int x)] [] z_SH (I, R) Q)) (wX11_rowFrom_b43 hd g_a0) 300 (1 : Int32) q14 hq14 ?_
          show z_W G eX11_rowFrom d 0 0 94 [none, none, none, none, some (.int q14)] [] z_SH (I, R) _
          refine z_iload dX11_rowFrom_94 rfl ?_
          cases hf
          exact z_iret hk ⟨_, rfl, rfl⟩ dX11_rowFrom_96
        · have hf := z_if_f hf c4
          refine z_iconst dX11_rowFrom_24 kc_0 ?_
          cases hf
          exact z_iret hk ⟨_, rfl, rfl⟩ dX11_rowFrom_25
theorem wX11_rowFrom {G : z_G} {d : Nat} {a0 : Nat} {x1 : Int32} {x2 : Int32} {I : Nat → Nat → Int32} {R : Nat → Nat → Nat} {q : Int32} (hd : 0 ≤ d) (hf : fX11_rowFrom a0 x1 x2 I R = some q) : z_M G d 0 0 eX11_rowFrom [.ref a0, .int x1, .int x2] z_SH (I, R) (z_E (some (.int q)) (I, R)) :=
  y_M_of _ (by decide +kernel) rfl rfl rfl (vX11_rowFrom hd hf ⟨rfl, rfl, rfl⟩)
def fX11_compare_b29 (a0 : Nat) (a1 : Nat) (a2 : Nat) (z3 : Int32) (R : Nat → Nat → Nat) : (Int32 × (Nat → Nat → Int32)) → Option ((Int32 × (Nat → Nat → Int32)) ⊕ ((Nat → Nat → Int32))) :=
  fun s => (fun (p4 : Int32) (I : Nat → Nat → Int32) => if (I a0 3) ≤ (p4 + (I a0 4)) then (some (.inr I)) else (z_b (fX11_rowFrom a0 z3 p4 I R) (fun q5 => if q5 ≤ (I a0 4) then (z_l (p4 + (1 : Int32)) (fun t7 => some (.inl (t7, I)))) else (z_l (z_u I a0 4 q5) (fun I8 => z_l (z_u I8 a0 5 z3) (fun I9 => z_l (z_u I9 a0 6 p4) (fun I10 => z_g (z_ok 1 (R a0 1) p4) (z_g (z_ok 1 (R a0 0) z3) (z_l (z_u I10 a0 7 ((I10 (R a0 1) p4.toNatClampNeg) - (I10 (R a0 0) z3.toNatClampNeg))) (fun I13 => z_l (p4 + (1 : Int32)) (fun t14 => some (.inl (t14, I13))))))))))))) s.1 s.2
theorem wX11_compare_b29 {G : z_G} {d : Nat} {Q : Option Value → z_S → z_H → Prop} {a0 : Nat} {a1 : Nat} {a2 : Nat} {z3 : Int32} {R : Nat → Nat → Nat} (hd : 5 ≤ d) (g_a0 : z_ob a0 11) (g_a1 : z_ob a1 5) (g_a2 : z_ob a2 5) : ∀ (s : Int32 × (Nat → Nat → Int32)) (o : (Int32 × (Nat → Nat → Int32)) ⊕ ((Nat → Nat → Int32))), fX11_compare_b29 a0 a1 a2 z3 R s = some o → z_or (fun s : Int32 × (Nat → Nat → Int32) => z_W G eX11_compare d 0 0 29 [some (.ref a0), none, none, some (.int z3), some (.int s.1), none] [] z_SH (s.2, R) Q) (fun x : (Nat → Nat → Int32) => z_W G eX11_compare d 0 0 102 [some (.ref a0), none, none, some (.int z3), none, none] [] z_SH (x, R) Q) o → (fun s : Int32 × (Nat → Nat → Int32) => z_W G eX11_compare d 0 0 29 [some (.ref a0), none, none, some (.int z3), some (.int s.1), none] [] z_SH (s.2, R) Q) s := by
  rintro ⟨p4, I⟩ o hf hk
  show z_W G eX11_compare d 0 0 29 [some (.ref a0), none, none, some (.int z3), some (.int p4), none] [] z_SH (I, R) Q
  unfold fX11_compare_b29 at hf
  try dsimp only at hf
  refine z_iload dX11_compare_29 rfl ?_
  refine z_aload_n dX11_compare_31 rfl rfl (z_okl g_a0) ?_
  refine y_getI lfX11_45 rfl g_a0 dX11_compare_32 ?_
  refine z_iadd dX11_compare_35 ?_
  refine z_aload_n dX11_compare_36 rfl rfl (z_okl g_a0) ?_
  refine y_getI lfX11_38 rfl g_a0 dX11_compare_37 ?_
  refine z_icmp_ge (tgt := 102) dX11_compare_40 (by decide) (fun c4 => ?_) (fun c4 => ?_)
  · have hf := z_if_t hf c4
    cases hf
    exact y_sub hk (z_le_c rfl (z_le_n (z_le_n (z_le_c rfl (z_le_n (z_le_n z_le_0))))))
  · have hf := z_if_f hf c4
    refine z_aload_n dX11_compare_43 rfl rfl (z_okl g_a0) ?_
    refine z_iload_n dX11_compare_44 rfl rfl ?_
    refine z_iload dX11_compare_45 rfl ?_
    obtain ⟨q5, hq5, hf⟩ := z_b_el hf
    refine y_cVi (av := [.int z3, .int p4]) (Nat.le_trans (Nat.le_of_ble_eq_true rfl) hd) (wX11_rowFrom (z_dl rfl hd) hq5) oX11_rowFrom lmX11_48 iX11_rowFrom g_a0 rfl _ rfl rfl (Nat.le_of_ble_eq_true rfl) dX11_compare_47 ?_
    refine y_istore0 [some (.ref a0), none, none, some (.int z3), some (.int p4), some (.int q5)] dX11_compare_50 (by decide) rfl ?_
    refine z_iload dX11_compare_52 rfl ?_
    refine z_aload_n dX11_compare_54 rfl rfl (z_okl g_a0) ?_
    refine y_getI lfX11_45 rfl g_a0 dX11_compare_55 ?_
    refine z_icmp_le (tgt := 96) dX11_compare_58 (by decide) (fun c6 => ?_) (fun c6 => ?_)
    · have hf := z_if_t hf c6
      refine y_iinc (fun t7 => [some (.ref a0), none, none, some (.int z3), some (.int t7), some (.int q5)]) dX11_compare_96 rfl kc_1 (by decide) (fun _ => rfl) (fun t7 et7 => ?_)
      have hf := z_l_el hf et7
      refine z_goto (tgt := 29) dX11_compare_99 (by decide) ?_
      cases hf
      exact y_sub hk (z_le_c rfl (z_le_n (z_le_n (z_le_c rfl (z_le_c rfl (z_le_n z_le_0))))))
    · have hf := z_if_f hf c6
      refine z_aload_n dX11_compare_61 rfl rfl (z_okl g_a0) ?_
      refine z_iload dX11_compare_62 rfl ?_
      refine y_putI lfX11_45 rfl g_a0 rfl rfl rfl dX11_compare_64 (fun I8 eI8 => ?_)
      have hf := z_l_el hf eI8
      refine z_aload_n dX11_compare_67 rfl rfl (z_okl g_a0) ?_
      refine z_iload_n dX11_compare_68 rfl rfl ?_
      refine y_putI lfX11_52 rfl g_a0 rfl rfl rfl dX11_compare_69 (fun I9 eI9 => ?_)
      have hf := z_l_el hf eI9
      refine z_aload_n dX11_compare_72 rfl rfl (z_okl g_a0) ?_
      refine z_iload dX11_compare_73 rfl ?_
      refine y_putI lfX11_55 rfl g_a0 rfl rfl rfl dX11_compare_75 (fun I10 eI10 => ?_)
      have hf := z_l_el hf eI10
      refine z_aload_n dX11_compare_78 rfl rfl (z_okl g_a0) ?_
      refine z_aload_n dX11_compare_79 rfl rfl (z_okl g_a0) ?_
      refine y_getR lfX11_15 rfl g_a0 dX11_compare_80 ?_
      refine z_iload dX11_compare_83 rfl ?_
      obtain ⟨g11, hf⟩ := z_g_el hf
      refine y_iald g11 dX11_compare_85 ?_
      refine z_aload_n dX11_compare_86 rfl rfl (z_okl g_a0) ?_
      refine y_getR lfX11_9 rfl g_a0 dX11_compare_87 ?_
      refine z_iload_n dX11_compare_90 rfl rfl ?_
      obtain ⟨g12, hf⟩ := z_g_el hf
      refine y_iald g12 dX11_compare_91 ?_
      refine z_isub dX11_compare_92 ?_
      refine y_putI lfX11_58 rfl g_a0 rfl rfl rfl dX11_compare_93 (fun I13 eI13 => ?_)
      have hf := z_l_el hf eI13
      refine y_iinc (fun t14 => [some (.ref a0), none, none, some (.int z3), some (.int t14), some (.int q5)]) dX11_compare_96 rfl kc_1 (by decide) (fun _ => rfl) (fun t14 et14 => ?_)
      have hf := z_l_el hf et14
      refine z_goto (tgt := 29) dX11_compare_99 (by decide) ?_
      cases hf
      exact y_sub hk (z_le_c rfl (z_le_n (z_le_n (z_le_c rfl (z_le_c rfl (z_le_n z_le_0))))))
def fX11_compare_b13 (a0 : Nat) (a1 : Nat) (a2 : Nat) (R : Nat → Nat → Nat) : (Int32 × (Nat → Nat → Int32)) → Option ((Int32 × (Nat → Nat → Int32)) ⊕ ((Nat → Nat → Int32))) :=
  fun s => (fun (p3 : Int32) (I : Nat → Nat → Int32) => if (I a0 2) ≤ (p3 + (I a0 4)) then (some (.inr I)) else (z_b (z_lp (fX11_compare_b29 a0 a1 a2 p3 R) 300 ((0 : Int32), I)) (fun q15 => z_l (p3 + (1 : Int32)) (fun t16 => some (.inl (t16, q15)))))) s.1 s.2
theorem wX11_compare_b13 {G : z_G} {d : Nat} {Q : Option Value → z_S → z_H → Prop} {a0 : Nat} {a1 : Nat} {a2 : Nat} {R : Nat → Nat → Nat} (hd : 5 ≤ d) (g_a0 : z_ob a0 11) (g_a1 : z_ob a1 5) (g_a2 : z_ob a2 5) : ∀ (s : Int32 × (Nat → Nat → Int32)) (o : (Int32 × (Nat → Nat → Int32)) ⊕ ((Nat → Nat → Int32))), fX11_compare_b13 a0 a1 a2 R s = some o → z_or (fun s : Int32 × (Nat → Nat → Int32) => z_W G eX11_compare d 0 0 13 [some (.ref a0), none, none, some (.int s.1), none, none] [] z_SH (s.2, R) Q) (fun x : (Nat → Nat → Int32) => z_W G eX11_compare d 0 0 108 [none, none, none, none, none, none] [] z_SH (x, R) Q) o → (fun s : Int32 × (Nat → Nat → Int32) => z_W G eX11_compare d 0 0 13 [some (.ref a0), none, none, some (.int s.1), none, none] [] z_SH (s.2, R) Q) s := by
  rintro ⟨p3, I⟩ o hf hk
  show z_W G eX11_compare d 0 0 13 [some (.ref a0), none, none, some (.int p3), none, none] [] z_SH (I, R) Q
  unfold fX11_compare_b13 at hf
  try dsimp only at hf
  refine z_iload_n dX11_compare_13 rfl rfl ?_
  refine z_aload_n dX11_compare_14 rfl rfl (z_okl g_a0) ?_
  refine y_getI lfX11_45 rfl g_a0 dX11_compare_15 ?_
  refine z_iadd dX11_compare_18 ?_
  refine z_aload_n dX11_compare_19 rfl rfl (z_okl g_a0) ?_
  refine y_getI lfX11_34 rfl g_a0 dX11_compare_20 ?_
  refine z_icmp_ge (tgt := 108) dX11_compare_23 (by decide) (fun c3 => ?_) (fun c3 => ?_)
  · have hf := z_if_t hf c3
    cases hf
    exact y_sub hk (z_le_n (z_le_n (z_le_n (z_le_n (z_le_n (z_le_n z_le_0))))))
  · have hf := z_if_f hf c3
    refine z_iconst dX11_compare_26 kc_0 ?_
    refine y_istore0 [some (.ref a0), none, none, some (.int p3), some (.int (0 : Int32)), none] dX11_compare_27 (by decide) rfl ?_
    obtain ⟨q15, hq15, hf⟩ := z_b_el hf
    refine y_sub (lv' := [some (.ref a0), none, none, some (.int p3), some (.int (0 : Int32)), none]) ?_ (z_le_c rfl (z_le_n (z_le_n (z_le_c rfl (z_le_c rfl (z_le_n z_le_0))))))
    refine z_lp_el (P := (fun s : Int32 × (Nat → Nat → Int32) => z_W G eX11_compare d 0 0 29 [some (.ref a0), none, none, some (.int p3), some (.int s.1), none] [] z_SH (s.2, R) Q)) (E := (fun x : (Nat → Nat → Int32) => z_W G eX11_compare d 0 0 102 [some (.ref a0), none, none, some (.int p3), none, none] [] z_SH (x, R) Q)) (wX11_compare_b29 hd g_a0 g_a1 g_a2) 300 ((0 : Int32), I) q15 hq15 ?_
    show z_W G eX11_compare d 0 0 102 [some (.ref a0), none, none, some (.int p3), none, none] [] z_SH (q15, R) _
    refine y_iinc (fun t16 => [some (.ref a0), none, none, some (.int t16), none, none]) dX11_compare_102 rfl kc_1 (by decide) (fun _ => rfl) (fun t16 et16 => ?_)
    have hf := z_l_el hf et16
    refine z_goto (tgt := 13) dX11_compare_105 (by decide) ?_
    cases hf
    exact y_sub hk (z_le_c rfl (z_le_n (z_le_n (z_le_c rfl (z_le_n (z_le_n z_le_0))))))
def fX11_compare (a0 : Nat) (a1 : Nat) (a2 : Nat) (I : Nat → Nat → Int32) (R : Nat → Nat → Nat) : Option ((Nat → Nat → Int32)) :=
  z_g (z_ob a0 11) (z_g (z_ob a1 5) (z_g (z_ob a2 5) (z_b (fX11_load a0 a1 a2 I R) (fun q1 => z_l (z_u q1 a0 4 (0 : Int32)) (fun I2 => z_b (z_lp (fX11_compare_b13 a0 a1 a2 R) 300 ((0 : Int32), I2)) (fun q17 => some q17))))))
theorem vX11_compare {G : z_G} {d : Nat} {Q : Option Value → z_S → z_H → Prop} {a0 : Nat} {a1 : Nat} {a2 : Nat} {I : Nat → Nat → Int32} {R : Nat → Nat → Nat} {q : (Nat → Nat → Int32)} (hd : 5 ≤ d) (hf : fX11_compare a0 a1 a2 I R = some q) (hk : Q none z_SH (q, R)) : z_W G eX11_compare d 0 0 0 [some (.ref a0), some (.ref a1), some (.ref a2), none, none, none] [] z_SH (I, R) Q := by
  unfold fX11_compare at hf
  obtain ⟨g_a0, hf⟩ := z_g_el hf
  obtain ⟨g_a1, hf⟩ := z_g_el hf
  obtain ⟨g_a2, hf⟩ := z_g_el hf
  refine z_aload_n dX11_compare_0 rfl rfl (z_okl g_a0) ?_
  refine z_aload_n dX11_compare_1 rfl rfl (z_okl g_a1) ?_
  refine z_aload_n dX11_compare_2 rfl rfl (z_okl g_a2) ?_
  obtain ⟨q1, hq1, hf⟩ := z_b_el hf
  refine y_cVv (av := [.ref a1, .ref a2]) (Nat.le_trans (Nat.le_of_ble_eq_true rfl) hd) (wX11_load (z_dl rfl hd) hq1) oX11_load lmX11_41 iX11_load g_a0 rfl _ rfl rfl (Nat.le_of_ble_eq_true rfl) dX11_compare_3 ?_
  refine z_aload_n dX11_compare_6 rfl rfl (z_okl g_a0) ?_
  refine z_iconst dX11_compare_7 kc_0 ?_
  refine y_putI lfX11_45 rfl g_a0 rfl rfl rfl dX11_compare_8 (fun I2 eI2 => ?_)
  have hf := z_l_el hf eI2
  refine z_iconst dX11_compare_11 kc_0 ?_
  refine y_istore_n0 [some (.ref a0), some (.ref a1), some (.ref a2), some (.int (0 : Int32)), none, none] dX11_compare_12 rfl (by decide) rfl ?_
  obtain ⟨q17, hq17, hf⟩ := z_b_el hf
  refine y_sub (lv' := [some (.ref a0), none, none, some (.int (0 : Int32)), none, none]) ?_ (z_le_c rfl (z_le_n (z_le_n (z_le_c rfl (z_le_n (z_le_n z_le_0))))))
  refine z_lp_el (P := (fun s : Int32 × (Nat → Nat → Int32) => z_W G eX11_compare d 0 0 13 [some (.ref a0), none, none, some (.int s.1), none, none] [] z_SH (s.2, R) Q)) (E := (fun x : (Nat → Nat → Int32) => z_W G eX11_compare d 0 0 108 [none, none, none, none, none, none] [] z_SH (x, R) Q)) (wX11_compare_b13 hd g_a0 g_a1 g_a2) 300 ((0 : Int32), I2) q17 hq17 ?_
  show z_W G eX11_compare d 0 0 108 [none, none, none, none, none, none] [] z_SH (q17, R) _
  cases hf
  exact z_vret hk rfl dX11_compare_108
theorem wX11_compare {G : z_G} {d : Nat} {a0 : Nat} {a1 : Nat} {a2 : Nat} {I : Nat → Nat → Int32} {R : Nat → Nat → Nat} {q : (Nat → Nat → Int32)} (hd : 5 ≤ d) (hf : fX11_compare a0 a1 a2 I R = some q) : z_M G d 0 0 eX11_compare [.ref a0, .ref a1, .ref a2] z_SH (I, R) (z_E none (q, R)) :=
  y_M_of _ (by decide +kernel) rfl rfl rfl (vX11_compare hd hf ⟨rfl, rfl, rfl⟩)
def fX12_singer (a0 : Nat) (x1 : Int32) (x2 : Int32) (x3 : Int32) (x4 : Int32) (x5 : Int32) (I : Nat → Nat → Int32) (R : Nat → Nat → Nat) : Option (Int32 × (Nat → Nat → Int32)) :=
  z_g (z_ob a0 12) (z_b (fX12_isSinger x1) (fun q1 => if q1 = 0 then (some ((0 : Int32), I)) else (z_b (fX12_within x2 (-20 : Int32) (20 : Int32)) (fun q3 => if q3 = 0 then (some ((0 : Int32), I)) else (z_b (fX12_within x3 (0 : Int32) (15 : Int32)) (fun q5 => if q5 = 0 then (some ((0 : Int32), I)) else (z_b (fX12_within x4 (0 : Int32) (3 : Int32)) (fun q7 => if q7 = 0 then (some ((0 : Int32), I)) else (z_b (fX12_within x5 (1 : Int32) (20 : Int32)) (fun q9 => if q9 = 0 then (some ((0 : Int32), I)) else (z_g (z_ob (R a0 5) 9) (z_g (z_ok 4 (R (R a0 5) 0) x1) (z_g (z_ob (R (R (R a0 5) 0) x1.toNatClampNeg) 8) (z_l (z_u I (R (R (R a0 5) 0) x1.toNatClampNeg) 0 (1 : Int32)) (fun I14 => z_l (z_u I14 (R (R (R a0 5) 0) x1.toNatClampNeg) 1 x2) (fun I15 => z_l (z_u I15 (R (R (R a0 5) 0) x1.toNatClampNeg) 2 x3) (fun I16 => z_l (z_u I16 (R (R (R a0 5) 0) x1.toNatClampNeg) 3 x4) (fun I17 => z_l (z_u I17 (R (R (R a0 5) 0) x1.toNatClampNeg) 4 x5) (fun I18 => z_b (fX8_begin (R (R (R a0 5) 0) x1.toNatClampNeg) I18) (fun q19 => some ((1 : Int32), q19)))))))))))))))))))))
theorem vX12_singer {G : z_G} {d : Nat} {Q : Option Value → z_S → z_H → Prop} {a0 : Nat} {x1 : Int32} {x2 : Int32} {x3 : Int32} {x4 : Int32} {x5 : Int32} {I : Nat → Nat → Int32} {R : Nat → Nat → Nat} {q : Int32 × (Nat → Nat → Int32)} (hd : 2 ≤ d) (hf : fX12_singer a0 x1 x2 x3 x4 x5 I R = some q) (hk : Q (some (.int q.1)) z_SH (q.2, R)) : z_W G eX12_singer d 0 0 0 [some (.ref a0), some (.int x1), some (.int x2), some (.int x3), some (.int x4), some (.int x5), none] [] z_SH (I, R) Q := by
  unfold fX12_singer at hf
  obtain ⟨g_a0, hf⟩ := z_g_el hf
  refine z_iload_n dX12_singer_0 rfl rfl ?_
  obtain ⟨q1, hq1, hf⟩ := z_b_el hf
  refine y_cSi (Nat.le_trans (Nat.le_of_ble_eq_true rfl) hd) (wX12_isSinger (z_dl rfl hd) hq1) oX12_isSinger lmX12_92 sX12_isSinger _ rfl rfl (Nat.le_of_ble_eq_true rfl) dX12_singer_1 ?_
  refine z_if_eq (tgt := 49) dX12_singer_4 (by decide) (fun c2 => ?_) (fun c2 => ?_)
  · have hf := z_if_t hf c2
    refine z_iconst dX12_singer_49 kc_0 ?_
    cases hf
    exact z_iret hk ⟨_, rfl, rfl⟩ dX12_singer_50
  · have hf := z_if_f hf c2
    refine z_iload_n dX12_singer_7 rfl rfl ?_
    refine z_bipush dX12_singer_8 kb_m20 ?_
    refine z_bipush dX12_singer_10 kb_20 ?_
    obtain ⟨q3, hq3, hf⟩ := z_b_el hf
    refine y_cSi (Nat.le_trans (Nat.le_of_ble_eq_true rfl) hd) (wX12_within (z_dl rfl hd) hq3) oX12_within lmX12_96 sX12_within _ rfl rfl (Nat.le_of_ble_eq_true rfl) dX12_singer_12 ?_
    refine z_if_eq (tgt := 49) dX12_singer_15 (by decide) (fun c4 => ?_) (fun c4 => ?_)
    · have hf := z_if_t hf c4
      refine z_iconst dX12_singer_49 kc_0 ?_
      cases hf
      exact z_iret hk ⟨_, rfl, rfl⟩ dX12_singer_50
    · have hf := z_if_f hf c4
      refine z_iload_n dX12_singer_18 rfl rfl ?_
      refine z_iconst dX12_singer_19 kc_0 ?_
      refine z_bipush dX12_singer_20 kb_15 ?_
      obtain ⟨q5, hq5, hf⟩ := z_b_el hf
      refine y_cSi (Nat.le_trans (Nat.le_of_ble_eq_true rfl) hd) (wX12_within (z_dl rfl hd) hq5) oX12_within lmX12_96 sX12_within _ rfl rfl (Nat.le_of_ble_eq_true rfl) dX12_singer_22 ?_
      refine z_if_eq (tgt := 49) dX12_singer_25 (by decide) (fun c6 => ?_) (fun c6 => ?_)
      · have hf := z_if_t hf c6
        refine z_iconst dX12_singer_49 kc_0 ?_
        cases hf
        exact z_iret hk ⟨_, rfl, rfl⟩ dX12_singer_50
      · have hf := z_if_f hf c6
        refine z_iload dX12_singer_28 rfl ?_
        refine z_iconst dX12_singer_30 kc_0 ?_
        refine z_iconst dX12_singer_31 kc_3 ?_
        obtain ⟨q7, hq7, hf⟩ := z_b_el hf
        refine y_cSi (Nat.le_trans (Nat.le_of_ble_eq_true rfl) hd) (wX12_within (z_dl rfl hd) hq7) oX12_within lmX12_96 sX12_within _ rfl rfl (Nat.le_of_ble_eq_true rfl) dX12_singer_32 ?_
        refine z_if_eq (tgt := 49) dX12_singer_35 (by decide) (fun c8 => ?_) (fun c8 => ?_)
        · have hf := z_if_t hf c8
          refine z_iconst dX12_singer_49 kc_0 ?_
          cases hf
          exact z_iret hk ⟨_, rfl, rfl⟩ dX12_singer_50
        · have hf := z_if_f hf c8
          refine z_iload dX12_singer_38 rfl ?_
          refine z_iconst dX12_singer_40 kc_1 ?_
          refine z_bipush dX12_singer_41 kb_20 ?_
          obtain ⟨q9, hq9, hf⟩ := z_b_el hf
          refine y_cSi (Nat.le_trans (Nat.le_of_ble_eq_true rfl) hd) (wX12_within (z_dl rfl hd) hq9) oX12_within lmX12_96 sX12_within _ rfl rfl (Nat.le_of_ble_eq_true rfl) dX12_singer_43 ?_
          refine z_if_ne (tgt := 51) dX12_singer_46 (by decide) (fun c10 => ?_) (fun c10 => ?_)
          · have hf := z_if_f hf c10
            refine z_aload_n dX12_singer_51 rfl rfl (z_okl g_a0) ?_
            refine y_getR lfX12_61 rfl g_a0 dX12_singer_52 ?_
            obtain ⟨g11, hf⟩ := z_g_el hf
            refine y_getR lfX12_100 rfl g11 dX12_singer_55 ?_
            refine z_iload_n dX12_singer_58 rfl rfl ?_
            obtain ⟨g12, hf⟩ := z_g_el hf
            refine y_aald (t := 1) (Or.inr rfl) g12 dX12_singer_59 ?_
            obtain ⟨g13, hf⟩ := z_g_el hf
            refine y_astore [some (.ref a0), some (.int x1), some (.int x2), some (.int x3), some (.int x4), some (.int x5), some (.ref (R (R (R a0 5) 0) x1.toNatClampNeg))] dX12_singer_60 (by decide) (z_okl g13) rfl ?_
            refine z_aload dX12_singer_62 rfl (z_okl g13) ?_
            refine z_iconst dX12_singer_64 kc_1 ?_
            refine y_putI lfX12_104 rfl g13 rfl rfl rfl dX12_singer_65 (fun I14 eI14 => ?_)
            have hf := z_l_el hf eI14
            refine z_aload dX12_singer_68 rfl (z_okl g13) ?_
            refine z_iload_n dX12_singer_70 rfl rfl ?_
            refine y_putI lfX12_110 rfl g13 rfl rfl rfl dX12_singer_71 (fun I15 eI15 => ?_)
            have hf := z_l_el hf eI15
            refine z_aload dX12_singer_74 rfl (z_okl g13) ?_
            refine z_iload_n dX12_singer_76 rfl rfl ?_
            refine y_putI lfX12_114 rfl g13 rfl rfl rfl dX12_singer_77 (fun I16 eI16 => ?_)
            have hf := z_l_el hf eI16
            refine z_aload dX12_singer_80 rfl (z_okl g13) ?_
            refine z_iload dX12_singer_82 rfl ?_
            refine y_putI lfX12_117 rfl g13 rfl rfl rfl dX12_singer_84 (fun I17 eI17 => ?_)
            have hf := z_l_el hf eI17
            refine z_aload dX12_singer_87 rfl (z_okl g13) ?_
            refine z_iload dX12_singer_89 rfl ?_
            refine y_putI lfX12_120 rfl g13 rfl rfl rfl dX12_singer_91 (fun I18 eI18 => ?_)
            have hf := z_l_el hf eI18
            refine z_aload dX12_singer_94 rfl (z_okl g13) ?_
            obtain ⟨q19, hq19, hf⟩ := z_b_el hf
            refine y_cVv (av := []) (Nat.le_trans (Nat.le_of_ble_eq_true rfl) hd) (wX8_begin (z_dl rfl hd) hq19) oX8_begin lmX12_123 iX8_begin g13 rfl _ rfl rfl (Nat.le_of_ble_eq_true rfl) dX12_singer_96 ?_
            refine z_iconst dX12_singer_99 kc_1 ?_
            cases hf
            exact z_iret hk ⟨_, rfl, rfl⟩ dX12_singer_100
          · have hf := z_if_t hf c10
            refine z_iconst dX12_singer_49 kc_0 ?_
            cases hf
            exact z_iret hk ⟨_, rfl, rfl⟩ dX12_singer_50
theorem wX12_singer {G : z_G} {d : Nat} {a0 : Nat} {x1 : Int32} {x2 : Int32} {x3 : Int32} {x4 : Int32} {x5 : Int32} {I : Nat → Nat → Int32} {R : Nat → Nat → Nat} {q : Int32 × (Nat → Nat → Int32)} (hd : 2 ≤ d) (hf : fX12_singer a0 x1 x2 x3 x4 x5 I R = some q) : z_M G d 0 0 eX12_singer [.ref a0, .int x1, .int x2, .int x3, .int x4, .int x5] z_SH (I, R) (z_E (some (.int q.1)) (q.2, R)) :=
  y_M_of _ (by decide +kernel) rfl rfl rfl (vX12_singer hd hf ⟨rfl, rfl, rfl⟩)
def fX12_ears (a0 : Nat) (x1 : Int32) (I : Nat → Nat → Int32) (R : Nat → Nat → Nat) : Option (Int32 × (Nat → Nat → Int32)) :=
  z_g (z_ob a0 12) (z_b (fX12_within x1 (0 : Int32) (15 : Int32)) (fun q1 => if q1 = 0 then (some ((0 : Int32), I)) else (z_g (z_ob (R a0 1) 7) (z_l (z_u I (R a0 1) 4 x1) (fun I4 => some ((1 : Int32), I4))))))
theorem vX12_ears {G : z_G} {d : Nat} {Q : Option Value → z_S → z_H → Prop} {a0 : Nat} {x1 : Int32} {I : Nat → Nat → Int32} {R : Nat → Nat → Nat} {q : Int32 × (Nat → Nat → Int32)} (hd : 1 ≤ d) (hf : fX12_ears a0 x1 I R = some q) (hk : Q (some (.int q.1)) z_SH (q.2, R)) : z_W G eX12_ears d 0 0 0 [some (.ref a0), some (.int x1)] [] z_SH (I, R) Q := by
  unfold fX12_ears at hf
  obtain ⟨g_a0, hf⟩ := z_g_el hf
  refine z_iload_n dX12_ears_0 rfl rfl ?_
  refine z_iconst dX12_ears_1 kc_0 ?_
  refine z_bipush dX12_ears_2 kb_15 ?_
  obtain ⟨q1, hq1, hf⟩ := z_b_el hf
  refine y_cSi (Nat.le_trans (Nat.le_of_ble_eq_true rfl) hd) (wX12_within (z_dl rfl hd) hq1) oX12_within lmX12_96 sX12_within _ rfl rfl (Nat.le_of_ble_eq_true rfl) dX12_ears_4 ?_
  refine z_if_ne (tgt := 12) dX12_ears_7 (by decide) (fun c2 => ?_) (fun c2 => ?_)
  · have hf := z_if_f hf c2
    refine z_aload_n dX12_ears_12 rfl rfl (z_okl g_a0) ?_
    refine y_getR lfX12_19 rfl g_a0 dX12_ears_13 ?_
    refine z_iload_n dX12_ears_16 rfl rfl ?_
    obtain ⟨g3, hf⟩ := z_g_el hf
    refine y_putI lfX12_126 rfl g3 rfl rfl rfl dX12_ears_17 (fun I4 eI4 => ?_)
    have hf := z_l_el hf eI4
    refine z_iconst dX12_ears_20 kc_1 ?_
    cases hf
    exact z_iret hk ⟨_, rfl, rfl⟩ dX12_ears_21
  · have hf := z_if_t hf c2
    refine z_iconst dX12_ears_10 kc_0 ?_
    cases hf
    exact z_iret hk ⟨_, rfl, rfl⟩ dX12_ears_11
theorem wX12_ears {G : z_G} {d : Nat} {a0 : Nat} {x1 : Int32} {I : Nat → Nat → Int32} {R : Nat → Nat → Nat} {q : Int32 × (Nat → Nat → Int32)} (hd : 1 ≤ d) (hf : fX12_ears a0 x1 I R = some q) : z_M G d 0 0 eX12_ears [.ref a0, .int x1] z_SH (I, R) (z_E (some (.int q.1)) (q.2, R)) :=
  y_M_of _ (by decide +kernel) rfl rfl rfl (vX12_ears hd hf ⟨rfl, rfl, rfl⟩)
def fX12_tempo (a0 : Nat) (x1 : Int32) (I : Nat → Nat → Int32) (R : Nat → Nat → Nat) : Option (Int32 × (Nat → Nat → Int32)) :=
  z_g (z_ob a0 12) (z_b (fX12_within x1 (60 : Int32) (600 : Int32)) (fun q1 => if q1 = 0 then (some ((0 : Int32), I)) else (z_g (z_ob (R a0 1) 7) (z_l (z_u I (R a0 1) 5 x1) (fun I4 => some ((1 : Int32), I4))))))
theorem vX12_tempo {G : z_G} {d : Nat} {Q : Option Value → z_S → z_H → Prop} {a0 : Nat} {x1 : Int32} {I : Nat → Nat → Int32} {R : Nat → Nat → Nat} {q : Int32 × (Nat → Nat → Int32)} (hd : 1 ≤ d) (hf : fX12_tempo a0 x1 I R = some q) (hk : Q (some (.int q.1)) z_SH (q.2, R)) : z_W G eX12_tempo d 0 0 0 [some (.ref a0), some (.int x1)] [] z_SH (I, R) Q := by
  unfold fX12_tempo at hf
  obtain ⟨g_a0, hf⟩ := z_g_el hf
  refine z_iload_n dX12_tempo_0 rfl rfl ?_
  refine z_bipush dX12_tempo_1 kb_60 ?_
  refine z_sipush dX12_tempo_3 ks_600 ?_
  obtain ⟨q1, hq1, hf⟩ := z_b_el hf
  refine y_cSi (Nat.le_trans (Nat.le_of_ble_eq_true rfl) hd) (wX12_within (z_dl rfl hd) hq1) oX12_within lmX12_96 sX12_within _ rfl rfl (Nat.le_of_ble_eq_true rfl) dX12_tempo_6 ?_
  refine z_if_ne (tgt := 14) dX12_tempo_9 (by decide) (fun c2 => ?_) (fun c2 => ?_)
  · have hf := z_if_f hf c2
    refine z_aload_n dX12_tempo_14 rfl rfl (z_okl g_a0) ?_
    refine y_getR lfX12_19 rfl g_a0 dX12_tempo_15 ?_
    refine z_iload_n dX12_tempo_18 rfl rfl ?_
    obtain ⟨g3, hf⟩ := z_g_el hf
    refine y_putI lfX12_129 rfl g3 rfl rfl rfl dX12_tempo_19 (fun I4 eI4 => ?_)
    have hf := z_l_el hf eI4
    refine z_iconst dX12_tempo_22 kc_1 ?_
    cases hf
    exact z_iret hk ⟨_, rfl, rfl⟩ dX12_tempo_23
  · have hf := z_if_t hf c2
    refine z_iconst dX12_tempo_12 kc_0 ?_
    cases hf
    exact z_iret hk ⟨_, rfl, rfl⟩ dX12_tempo_13
theorem wX12_tempo {G : z_G} {d : Nat} {a0 : Nat} {x1 : Int32} {I : Nat → Nat → Int32} {R : Nat → Nat → Nat} {q : Int32 × (Nat → Nat → Int32)} (hd : 1 ≤ d) (hf : fX12_tempo a0 x1 I R = some q) : z_M G d 0 0 eX12_tempo [.ref a0, .int x1] z_SH (I, R) (z_E (some (.int q.1)) (q.2, R)) :=
  y_M_of _ (by decide +kernel) rfl rfl rfl (vX12_tempo hd hf ⟨rfl, rfl, rfl⟩)
def fJ6_bitCount_0f7a4 (x0 : Int32) : Option (Int32) :=
  z_l (x0 - ((z_ushr x0 (1 : Int32)) &&& (1431655765 : Int32))) (fun t1 => z_l ((t1 &&& (858993459 : Int32)) + ((z_ushr t1 (2 : Int32)) &&& (858993459 : Int32))) (fun t2 => z_l ((t2 + (z_ushr t2 (4 : Int32))) &&& (252645135 : Int32)) (fun t3 => z_l (t3 + (z_ushr t3 (8 : Int32))) (fun t4 => z_l (t4 + (z_ushr t4 (16 : Int32))) (fun t5 => some (t5 &&& (63 : Int32)))))))
theorem vJ6_bitCount_0f7a4 {G : z_G} {d : Nat} {Q : Option Value → z_S → z_H → Prop} {x0 : Int32} {I : Nat → Nat → Int32} {R : Nat → Nat → Nat} {q : Int32} (hd : 0 ≤ d) (hf : fJ6_bitCount_0f7a4 x0 = some q) (hk : Q (some (.int q)) z_SH (I, R)) : z_W G eJ6_bitCount_0f7a4 d 0 0 0 [some (.int x0)] [] z_SH (I, R) Q := by
  unfold fJ6_bitCount_0f7a4 at hf
  refine z_iload_n dJ6_bitCount_0f7a4_0 rfl rfl ?_
  refine z_iload_n dJ6_bitCount_0f7a4_1 rfl rfl ?_
  refine z_iconst dJ6_bitCount_0f7a4_2 kc_1 ?_
  refine y_iushr dJ6_bitCount_0f7a4_3 ?_
  refine z_ldcw dJ6_bitCount_0f7a4_4 lkJ6_265 ?_
  refine z_iand dJ6_bitCount_0f7a4_7 ?_
  refine z_isub dJ6_bitCount_0f7a4_8 ?_
  refine y_istore_n (fun t1 => [some (.int t1)]) dJ6_bitCount_0f7a4_9 rfl (by decide) (fun _ => rfl) (fun t1 et1 => ?_)
  have hf := z_l_el hf et1
  refine z_iload_n dJ6_bitCount_0f7a4_10 rfl rfl ?_
  refine z_ldcw dJ6_bitCount_0f7a4_11 lkJ6_266 ?_
  refine z_iand dJ6_bitCount_0f7a4_14 ?_
  refine z_iload_n dJ6_bitCount_0f7a4_15 rfl rfl ?_
  refine z_iconst dJ6_bitCount_0f7a4_16 kc_2 ?_
  refine y_iushr dJ6_bitCount_0f7a4_17 ?_
  refine z_ldcw dJ6_bitCount_0f7a4_18 lkJ6_266 ?_
  refine z_iand dJ6_bitCount_0f7a4_21 ?_
  refine z_iadd dJ6_bitCount_0f7a4_22 ?_
  refine y_istore_n (fun t2 => [some (.int t2)]) dJ6_bitCount_0f7a4_23 rfl (by decide) (fun _ => rfl) (fun t2 et2 => ?_)
  have hf := z_l_el hf et2
  refine z_iload_n dJ6_bitCount_0f7a4_24 rfl rfl ?_
  refine z_iload_n dJ6_bitCount_0f7a4_25 rfl rfl ?_
  refine z_iconst dJ6_bitCount_0f7a4_26 kc_4 ?_
  refine y_iushr dJ6_bitCount_0f7a4_27 ?_
  refine z_iadd dJ6_bitCount_0f7a4_28 ?_
  refine z_ldcw dJ6_bitCount_0f7a4_29 lkJ6_267 ?_
  refine z_iand dJ6_bitCount_0f7a4_32 ?_
  refine y_istore_n (fun t3 => [some (.int t3)]) dJ6_bitCount_0f7a4_33 rfl (by decide) (fun _ => rfl) (fun t3 et3 => ?_)
  have hf := z_l_el hf et3
  refine z_iload_n dJ6_bitCount_0f7a4_34 rfl rfl ?_
  refine z_iload_n dJ6_bitCount_0f7a4_35 rfl rfl ?_
  refine z_bipush dJ6_bitCount_0f7a4_36 kb_8 ?_
  refine y_iushr dJ6_bitCount_0f7a4_38 ?_
  refine z_iadd dJ6_bitCount_0f7a4_39 ?_
  refine y_istore_n (fun t4 => [some (.int t4)]) dJ6_bitCount_0f7a4_40 rfl (by decide) (fun _ => rfl) (fun t4 et4 => ?_)
  have hf := z_l_el hf et4
  refine z_iload_n dJ6_bitCount_0f7a4_41 rfl rfl ?_
  refine z_iload_n dJ6_bitCount_0f7a4_42 rfl rfl ?_
  refine z_bipush dJ6_bitCount_0f7a4_43 kb_16 ?_
  refine y_iushr dJ6_bitCount_0f7a4_45 ?_
  refine z_iadd dJ6_bitCount_0f7a4_46 ?_
  refine y_istore_n (fun t5 => [some (.int t5)]) dJ6_bitCount_0f7a4_47 rfl (by decide) (fun _ => rfl) (fun t5 et5 => ?_)
  have hf := z_l_el hf et5
  refine z_iload_n dJ6_bitCount_0f7a4_48 rfl rfl ?_
  refine z_bipush dJ6_bitCount_0f7a4_49 kb_63 ?_
  refine z_iand dJ6_bitCount_0f7a4_51 ?_
  cases hf
  exact z_iret hk ⟨_, rfl, rfl⟩ dJ6_bitCount_0f7a4_52
theorem wJ6_bitCount_0f7a4 {G : z_G} {d : Nat} {x0 : Int32} {I : Nat → Nat → Int32} {R : Nat → Nat → Nat} {q : Int32} (hd : 0 ≤ d) (hf : fJ6_bitCount_0f7a4 x0 = some q) : z_M G d 0 0 eJ6_bitCount_0f7a4 [.int x0] z_SH (I, R) (z_E (some (.int q)) (I, R)) :=
  y_M_of _ (by decide +kernel) rfl rfl rfl (vJ6_bitCount_0f7a4 hd hf ⟨rfl, rfl, rfl⟩)
def fX12_anew_b2 (a0 : Nat) (R : Nat → Nat → Nat) : (Int32 × (Nat → Nat → Int32)) → Option ((Int32 × (Nat → Nat → Int32)) ⊕ ((Nat → Nat → Int32))) :=
  fun s => (fun (p1 : Int32) (I : Nat → Nat → Int32) => if (8 : Int32) ≤ p1 then (some (.inr I)) else (z_g (z_ob (R a0 5) 9) (z_g (z_ok 4 (R (R a0 5) 0) p1) (z_g (z_ob (R (R (R a0 5) 0) p1.toNatClampNeg) 8) (z_b (fX8_begin (R (R (R a0 5) 0) p1.toNatClampNeg) I) (fun q4 => z_l (p1 + (1 : Int32)) (fun t6 => some (.inl (t6, q4))))))))) s.1 s.2
theorem wX12_anew_b2 {G : z_G} {d : Nat} {Q : Option Value → z_S → z_H → Prop} {a0 : Nat} {R : Nat → Nat → Nat} (hd : 1 ≤ d) (g_a0 : z_ob a0 12) : ∀ (s : Int32 × (Nat → Nat → Int32)) (o : (Int32 × (Nat → Nat → Int32)) ⊕ ((Nat → Nat → Int32))), fX12_anew_b2 a0 R s = some o → z_or (fun s : Int32 × (Nat → Nat → Int32) => z_W G eX12_anew d 0 0 2 [some (.ref a0), some (.int s.1)] [] z_SH (s.2, R) Q) (fun x : (Nat → Nat → Int32) => z_W G eX12_anew d 0 0 26 [some (.ref a0), none] [] z_SH (x, R) Q) o → (fun s : Int32 × (Nat → Nat → Int32) => z_W G eX12_anew d 0 0 2 [some (.ref a0), some (.int s.1)] [] z_SH (s.2, R) Q) s := by
  rintro ⟨p1, I⟩ o hf hk
  show z_W G eX12_anew d 0 0 2 [some (.ref a0), some (.int p1)] [] z_SH (I, R) Q
  unfold fX12_anew_b2 at hf
  try dsimp only at hf
  refine z_iload_n dX12_anew_2 rfl rfl ?_
  refine z_bipush dX12_anew_3 kb_8 ?_
  refine z_icmp_ge (tgt := 26) dX12_anew_5 (by decide) (fun c1 => ?_) (fun c1 => ?_)
  · have hf := z_if_t hf c1
    cases hf
    exact y_sub hk (z_le_c rfl (z_le_n z_le_0))
  · have hf := z_if_f hf c1
    refine z_aload_n dX12_anew_8 rfl rfl (z_okl g_a0) ?_
    refine y_getR lfX12_61 rfl g_a0 dX12_anew_9 ?_
    obtain ⟨g2, hf⟩ := z_g_el hf
    refine y_getR lfX12_100 rfl g2 dX12_anew_12 ?_
    refine z_iload_n dX12_anew_15 rfl rfl ?_
    obtain ⟨g3, hf⟩ := z_g_el hf
    refine y_aald (t := 1) (Or.inr rfl) g3 dX12_anew_16 ?_
    obtain ⟨g5, hf⟩ := z_g_el hf
    obtain ⟨q4, hq4, hf⟩ := z_b_el hf
    refine y_cVv (av := []) (Nat.le_trans (Nat.le_of_ble_eq_true rfl) hd) (wX8_begin (z_dl rfl hd) hq4) oX8_begin lmX12_123 iX8_begin g5 rfl _ rfl rfl (Nat.le_of_ble_eq_true rfl) dX12_anew_17 ?_
    refine y_iinc (fun t6 => [some (.ref a0), some (.int t6)]) dX12_anew_20 rfl kc_1 (by decide) (fun _ => rfl) (fun t6 et6 => ?_)
    have hf := z_l_el hf et6
    refine z_goto (tgt := 2) dX12_anew_23 (by decide) ?_
    cases hf
    exact y_sub hk (z_le_c rfl (z_le_c rfl z_le_0))
def fX12_anew (a0 : Nat) (I : Nat → Nat → Int32) (R : Nat → Nat → Nat) : Option (Int32 × (Nat → Nat → Int32)) :=
  z_g (z_ob a0 12) (z_b (z_lp (fX12_anew_b2 a0 R) 300 ((0 : Int32), I)) (fun q7 => z_g (z_ob (R a0 5) 9) (z_b (fX9_toldBits (R a0 5) q7 R) (fun q8 => z_b (fJ6_bitCount_0f7a4 q8) (fun q10 => some (q10, q7))))))
theorem vX12_anew {G : z_G} {d : Nat} {Q : Option Value → z_S → z_H → Prop} {a0 : Nat} {I : Nat → Nat → Int32} {R : Nat → Nat → Nat} {q : Int32 × (Nat → Nat → Int32)} (hd : 1 ≤ d) (hf : fX12_anew a0 I R = some q) (hk : Q (some (.int q.1)) z_SH (q.2, R)) : z_W G eX12_anew d 0 0 0 [some (.ref a0), none] [] z_SH (I, R) Q := by
  unfold fX12_anew at hf
  obtain ⟨g_a0, hf⟩ := z_g_el hf
  refine z_iconst dX12_anew_0 kc_0 ?_
  refine y_istore_n0 [some (.ref a0), some (.int (0 : Int32))] dX12_anew_1 rfl (by decide) rfl ?_
  obtain ⟨q7, hq7, hf⟩ := z_b_el hf
  refine y_sub (lv' := [some (.ref a0), some (.int (0 : Int32))]) ?_ (z_le_c rfl (z_le_c rfl z_le_0))
  refine z_lp_el (P := (fun s : Int32 × (Nat → Nat → Int32) => z_W G eX12_anew d 0 0 2 [some (.ref a0), some (.int s.1)] [] z_SH (s.2, R) Q)) (E := (fun x : (Nat → Nat → Int32) => z_W G eX12_anew d 0 0 26 [some (.ref a0), none] [] z_SH (x, R) Q)) (wX12_anew_b2 hd g_a0) 300 ((0 : Int32), I) q7 hq7 ?_
  show z_W G eX12_anew d 0 0 26 [some (.ref a0), none] [] z_SH (q7, R) _
  refine z_aload_n dX12_anew_26 rfl rfl (z_okl g_a0) ?_
  refine y_getR lfX12_61 rfl g_a0 dX12_anew_27 ?_
  obtain ⟨g9, hf⟩ := z_g_el hf
  obtain ⟨q8, hq8, hf⟩ := z_b_el hf
  refine y_cVi (av := []) (Nat.le_trans (Nat.le_of_ble_eq_true rfl) hd) (wX9_toldBits (z_dl rfl hd) hq8) oX9_toldBits lmX12_132 iX9_toldBits g9 rfl _ rfl rfl (Nat.le_of_ble_eq_true rfl) dX12_anew_30 ?_
  obtain ⟨q10, hq10, hf⟩ := z_b_el hf
  refine y_cSi (Nat.le_trans (Nat.le_of_ble_eq_true rfl) hd) (wJ6_bitCount_0f7a4 (z_dl rfl hd) hq10) oJ6_bitCount_0f7a4 lmX12_136 sJ6_bitCount_0f7a4 _ rfl rfl (Nat.le_of_ble_eq_true rfl) dX12_anew_33 ?_
  cases hf
  exact z_iret hk ⟨_, rfl, rfl⟩ dX12_anew_36
theorem wX12_anew {G : z_G} {d : Nat} {a0 : Nat} {I : Nat → Nat → Int32} {R : Nat → Nat → Nat} {q : Int32 × (Nat → Nat → Int32)} (hd : 1 ≤ d) (hf : fX12_anew a0 I R = some q) : z_M G d 0 0 eX12_anew [.ref a0] z_SH (I, R) (z_E (some (.int q.1)) (q.2, R)) :=
  y_M_of _ (by decide +kernel) rfl rfl rfl (vX12_anew hd hf ⟨rfl, rfl, rfl⟩)
def fX12_feed (a0 : Nat) (x1 : Int32) (x2 : Int32) (x3 : Int32) (x4 : Int32) (x5 : Int32) (I : Nat → Nat → Int32) (R : Nat → Nat → Nat) : Option (Int32 × (Nat → Nat → Int32)) :=
  z_g (z_ob a0 12) (z_g (z_ob (R a0 0) 10) (z_b (fX10_hasRoomFor (R a0 0) (20 : Int32) I) (fun q1 => if q1 = 0 then (some ((-1 : Int32), I)) else (z_b (fX10_put (R a0 0) x1 I R) (fun q4 => z_b (fX10_put (R a0 0) x2 q4 R) (fun q5 => z_b (fX10_put (R a0 0) x3 q5 R) (fun q6 => z_b (fX10_put (R a0 0) x4 q6 R) (fun q7 => z_b (fX10_put (R a0 0) x5 q7 R) (fun q8 => z_b (fX10_length (R a0 0) q8) (fun q9 => some (q9, q8)))))))))))
theorem vX12_feed {G : z_G} {d : Nat} {Q : Option Value → z_S → z_H → Prop} {a0 : Nat} {x1 : Int32} {x2 : Int32} {x3 : Int32} {x4 : Int32} {x5 : Int32} {I : Nat → Nat → Int32} {R : Nat → Nat → Nat} {q : Int32 × (Nat → Nat → Int32)} (hd : 2 ≤ d) (hf : fX12_feed a0 x1 x2 x3 x4 x5 I R = some q) (hk : Q (some (.int q.1)) z_SH (q.2, R)) : z_W G eX12_feed d 0 0 0 [some (.ref a0), some (.int x1), some (.int x2), some (.int x3), some (.int x4), some (.int x5)] [] z_SH (I, R) Q := by
  unfold fX12_feed at hf
  obtain ⟨g_a0, hf⟩ := z_g_el hf
  refine z_aload_n dX12_feed_0 rfl rfl (z_okl g_a0) ?_
  refine y_getR lfX12_10 rfl g_a0 dX12_feed_1 ?_
  refine z_bipush dX12_feed_4 kb_20 ?_
  obtain ⟨g2, hf⟩ := z_g_el hf
  obtain ⟨q1, hq1, hf⟩ := z_b_el hf
  refine y_cVi (av := [.int (20 : Int32)]) (Nat.le_trans (Nat.le_of_ble_eq_true rfl) hd) (wX10_hasRoomFor (z_dl rfl hd) hq1) oX10_hasRoomFor lmX12_142 iX10_hasRoomFor g2 rfl _ rfl rfl (Nat.le_of_ble_eq_true rfl) dX12_feed_6 ?_
  refine z_if_ne (tgt := 14) dX12_feed_9 (by decide) (fun c3 => ?_) (fun c3 => ?_)
  · have hf := z_if_f hf c3
    refine z_aload_n dX12_feed_14 rfl rfl (z_okl g_a0) ?_
    refine y_getR lfX12_10 rfl g_a0 dX12_feed_15 ?_
    refine z_iload_n dX12_feed_18 rfl rfl ?_
    obtain ⟨q4, hq4, hf⟩ := z_b_el hf
    refine y_cVv (av := [.int x1]) (Nat.le_trans (Nat.le_of_ble_eq_true rfl) hd) (wX10_put (z_dl rfl hd) hq4) oX10_put lmX12_145 iX10_put g2 rfl _ rfl rfl (Nat.le_of_ble_eq_true rfl) dX12_feed_19 ?_
    refine z_aload_n dX12_feed_22 rfl rfl (z_okl g_a0) ?_
    refine y_getR lfX12_10 rfl g_a0 dX12_feed_23 ?_
    refine z_iload_n dX12_feed_26 rfl rfl ?_
    obtain ⟨q5, hq5, hf⟩ := z_b_el hf
    refine y_cVv (av := [.int x2]) (Nat.le_trans (Nat.le_of_ble_eq_true rfl) hd) (wX10_put (z_dl rfl hd) hq5) oX10_put lmX12_145 iX10_put g2 rfl _ rfl rfl (Nat.le_of_ble_eq_true rfl) dX12_feed_27 ?_
    refine z_aload_n dX12_feed_30 rfl rfl (z_okl g_a0) ?_
    refine y_getR lfX12_10 rfl g_a0 dX12_feed_31 ?_
    refine z_iload_n dX12_feed_34 rfl rfl ?_
    obtain ⟨q6, hq6, hf⟩ := z_b_el hf
    refine y_cVv (av := [.int x3]) (Nat.le_trans (Nat.le_of_ble_eq_true rfl) hd) (wX10_put (z_dl rfl hd) hq6) oX10_put lmX12_145 iX10_put g2 rfl _ rfl rfl (Nat.le_of_ble_eq_true rfl) dX12_feed_35 ?_
    refine z_aload_n dX12_feed_38 rfl rfl (z_okl g_a0) ?_
    refine y_getR lfX12_10 rfl g_a0 dX12_feed_39 ?_
    refine z_iload dX12_feed_42 rfl ?_
    obtain ⟨q7, hq7, hf⟩ := z_b_el hf
    refine y_cVv (av := [.int x4]) (Nat.le_trans (Nat.le_of_ble_eq_true rfl) hd) (wX10_put (z_dl rfl hd) hq7) oX10_put lmX12_145 iX10_put g2 rfl _ rfl rfl (Nat.le_of_ble_eq_true rfl) dX12_feed_44 ?_
    refine z_aload_n dX12_feed_47 rfl rfl (z_okl g_a0) ?_
    refine y_getR lfX12_10 rfl g_a0 dX12_feed_48 ?_
    refine z_iload dX12_feed_51 rfl ?_
    obtain ⟨q8, hq8, hf⟩ := z_b_el hf
    refine y_cVv (av := [.int x5]) (Nat.le_trans (Nat.le_of_ble_eq_true rfl) hd) (wX10_put (z_dl rfl hd) hq8) oX10_put lmX12_145 iX10_put g2 rfl _ rfl rfl (Nat.le_of_ble_eq_true rfl) dX12_feed_53 ?_
    refine z_aload_n dX12_feed_56 rfl rfl (z_okl g_a0) ?_
    refine y_getR lfX12_10 rfl g_a0 dX12_feed_57 ?_
    obtain ⟨q9, hq9, hf⟩ := z_b_el hf
    refine y_cVi (av := []) (Nat.le_trans (Nat.le_of_ble_eq_true rfl) hd) (wX10_length (z_dl rfl hd) hq9) oX10_length lmX12_149 iX10_length g2 rfl _ rfl rfl (Nat.le_of_ble_eq_true rfl) dX12_feed_60 ?_
    cases hf
    exact z_iret hk ⟨_, rfl, rfl⟩ dX12_feed_63
  · have hf := z_if_t hf c3
    refine z_iconst dX12_feed_12 kc_m1 ?_
    cases hf
    exact z_iret hk ⟨_, rfl, rfl⟩ dX12_feed_13
theorem wX12_feed {G : z_G} {d : Nat} {a0 : Nat} {x1 : Int32} {x2 : Int32} {x3 : Int32} {x4 : Int32} {x5 : Int32} {I : Nat → Nat → Int32} {R : Nat → Nat → Nat} {q : Int32 × (Nat → Nat → Int32)} (hd : 2 ≤ d) (hf : fX12_feed a0 x1 x2 x3 x4 x5 I R = some q) : z_M G d 0 0 eX12_feed [.ref a0, .int x1, .int x2, .int x3, .int x4, .int x5] z_SH (I, R) (z_E (some (.int q.1)) (q.2, R)) :=
  y_M_of _ (by decide +kernel) rfl rfl rfl (vX12_feed hd hf ⟨rfl, rfl, rfl⟩)
def fX12_law (a0 : Nat) (x1 : Int32) (I : Nat → Nat → Int32) (R : Nat → Nat → Nat) : Option (Int32 × (Nat → Nat → Int32) × (Nat → Nat → Nat)) :=
  z_g (z_ob a0 12) (z_b (fX12_within x1 (1 : Int32) (240 : Int32)) (fun q1 => if q1 = 0 then (some ((-1 : Int32), I, R)) else (z_g (z_ob (R a0 0) 10) (z_b (fX10_length (R a0 0) I) (fun q3 => if x1 ≤ q3 then (z_g (z_ob (R a0 1) 7) (z_g (z_ob (R a0 3) 4) (z_b (fX4_readLaw (R a0 3) x1 (R (R a0 1) 3) I R) (fun q7 => z_g (z_ob (q7.2.2 a0 0) 10) (z_b (fX10_clear (q7.2.2 a0 0) q7.2.1) (fun q9 => if q7.1 ≤ 0 then (some (q7.1, q9, q7.2.2)) else (z_g (z_ob (q7.2.2 a0 1) 7) (z_b (fX7_takeSpareLaw (q7.2.2 a0 1) q7.2.2) (fun q12 => some (q7.1, q9, q12)))))))))) else (some ((-1 : Int32), I, R)))))))
theorem vX12_law {G : z_G} {d : Nat} {Q : Option Value → z_S → z_H → Prop} {a0 : Nat} {x1 : Int32} {I : Nat → Nat → Int32} {R : Nat → Nat → Nat} {q : Int32 × (Nat → Nat → Int32) × (Nat → Nat → Nat)} (hd : 67 ≤ d) (hf : fX12_law a0 x1 I R = some q) (hk : Q (some (.int q.1)) z_SH (q.2.1, q.2.2)) : z_W G eX12_law d 0 0 0 [some (.ref a0), some (.int x1), none] [] z_SH (I, R) Q := by
  unfold fX12_law at hf
  obtain ⟨g_a0, hf⟩ := z_g_el hf
  refine z_iload_n dX12_law_0 rfl rfl ?_
  refine z_iconst dX12_law_1 kc_1 ?_
  refine z_sipush dX12_law_2 ks_240 ?_
  obtain ⟨q1, hq1, hf⟩ := z_b_el hf
  refine y_cSi (Nat.le_trans (Nat.le_of_ble_eq_true rfl) hd) (wX12_within (z_dl rfl hd) hq1) oX12_within lmX12_96 sX12_within _ rfl rfl (Nat.le_of_ble_eq_true rfl) dX12_law_5 ?_
  refine z_if_eq (tgt := 22) dX12_law_8 (by decide) (fun c2 => ?_) (fun c2 => ?_)
  · have hf := z_if_t hf c2
    refine z_iconst dX12_law_22 kc_m1 ?_
    cases hf
    exact z_iret hk ⟨_, rfl, rfl⟩ dX12_law_23
  · have hf := z_if_f hf c2
    refine z_iload_n dX12_law_11 rfl rfl ?_
    refine z_aload_n dX12_law_12 rfl rfl (z_okl g_a0) ?_
    refine y_getR lfX12_10 rfl g_a0 dX12_law_13 ?_
    obtain ⟨g4, hf⟩ := z_g_el hf
    obtain ⟨q3, hq3, hf⟩ := z_b_el hf
    refine y_cVi (av := []) (Nat.le_trans (Nat.le_of_ble_eq_true rfl) hd) (wX10_length (z_dl rfl hd) hq3) oX10_length lmX12_149 iX10_length g4 rfl _ rfl rfl (Nat.le_of_ble_eq_true rfl) dX12_law_16 ?_
    refine z_icmp_le (tgt := 24) dX12_law_19 (by decide) (fun c5 => ?_) (fun c5 => ?_)
    · have hf := z_if_t hf c5
      refine z_aload_n dX12_law_24 rfl rfl (z_okl g_a0) ?_
      refine y_getR lfX12_45 rfl g_a0 dX12_law_25 ?_
      refine z_iload_n dX12_law_28 rfl rfl ?_
      refine z_aload_n dX12_law_29 rfl rfl (z_okl g_a0) ?_
      refine y_getR lfX12_19 rfl g_a0 dX12_law_30 ?_
      obtain ⟨g6, hf⟩ := z_g_el hf
      refine y_getR lfX12_38 rfl g6 dX12_law_33 ?_
      obtain ⟨g8, hf⟩ := z_g_el hf
      obtain ⟨q7, hq7, hf⟩ := z_b_el hf
      refine y_cVi (av := [.int x1, .ref (R (R a0 1) 3)]) (Nat.le_trans (Nat.le_of_ble_eq_true rfl) hd) (wX4_readLaw (z_dl rfl hd) hq7) oX4_readLaw lmX12_154 iX4_readLaw g8 rfl _ rfl rfl (Nat.le_of_ble_eq_true rfl) dX12_law_36 ?_
      refine y_istore_n0 [some (.ref a0), some (.int x1), some (.int q7.1)] dX12_law_39 rfl (by decide) rfl ?_
      refine z_aload_n dX12_law_40 rfl rfl (z_okl g_a0) ?_
      refine y_getR lfX12_10 rfl g_a0 dX12_law_41 ?_
      obtain ⟨g10, hf⟩ := z_g_el hf
      obtain ⟨q9, hq9, hf⟩ := z_b_el hf
      refine y_cVv (av := []) (Nat.le_trans (Nat.le_of_ble_eq_true rfl) hd) (wX10_clear (z_dl rfl hd) hq9) oX10_clear lmX12_158 iX10_clear g10 rfl _ rfl rfl (Nat.le_of_ble_eq_true rfl) dX12_law_44 ?_
      refine z_iload_n dX12_law_47 rfl rfl ?_
      refine z_if_le (tgt := 58) dX12_law_48 (by decide) (fun c11 => ?_) (fun c11 => ?_)
      · have hf := z_if_t hf c11
        refine z_iload_n dX12_law_58 rfl rfl ?_
        cases hf
        exact z_iret hk ⟨_, rfl, rfl⟩ dX12_law_59
      · have hf := z_if_f hf c11
        refine z_aload_n dX12_law_51 rfl rfl (z_okl g_a0) ?_
        refine y_getR lfX12_19 rfl g_a0 dX12_law_52 ?_
        obtain ⟨g13, hf⟩ := z_g_el hf
        obtain ⟨q12, hq12, hf⟩ := z_b_el hf
        refine y_cVv (av := []) (Nat.le_trans (Nat.le_of_ble_eq_true rfl) hd) (wX7_takeSpareLaw (z_dl rfl hd) hq12) oX7_takeSpareLaw lmX12_161 iX7_takeSpareLaw g13 rfl _ rfl rfl (Nat.le_of_ble_eq_true rfl) dX12_law_55 ?_
        refine z_iload_n dX12_law_58 rfl rfl ?_
        cases hf
        exact z_iret hk ⟨_, rfl, rfl⟩ dX12_law_59
    · have hf := z_if_f hf c5
      refine z_iconst dX12_law_22 kc_m1 ?_
      cases hf
      exact z_iret hk ⟨_, rfl, rfl⟩ dX12_law_23
theorem wX12_law {G : z_G} {d : Nat} {a0 : Nat} {x1 : Int32} {I : Nat → Nat → Int32} {R : Nat → Nat → Nat} {q : Int32 × (Nat → Nat → Int32) × (Nat → Nat → Nat)} (hd : 67 ≤ d) (hf : fX12_law a0 x1 I R = some q) : z_M G d 0 0 eX12_law [.ref a0, .int x1] z_SH (I, R) (z_E (some (.int q.1)) (q.2.1, q.2.2)) :=
  y_M_of _ (by decide +kernel) rfl rfl rfl (vX12_law hd hf ⟨rfl, rfl, rfl⟩)
def fX12_roll (a0 : Nat) (x1 : Int32) (x2 : Int32) (I : Nat → Nat → Int32) (R : Nat → Nat → Nat) : Option (Int32 × (Nat → Nat → Int32) × (Nat → Nat → Nat)) :=
  z_g (z_ob a0 12) (z_b (fX12_isSinger x1) (fun q1 => if q1 = 0 then (some ((-1 : Int32), I, R)) else (z_b (fX12_within x2 (1 : Int32) (60 : Int32)) (fun q3 => if q3 = 0 then (some ((-1 : Int32), I, R)) else (z_g (z_ob (R a0 0) 10) (z_b (fX10_length (R a0 0) I) (fun q5 => if x2 ≤ q5 then (z_g (z_ob (R a0 1) 7) (z_g (z_ob (R a0 2) 6) (z_b (fX6_readRoll (R a0 2) x2 (R (R a0 1) 1) I R) (fun q9 => z_g (z_ob (q9.2.2 a0 0) 10) (z_b (fX10_clear (q9.2.2 a0 0) q9.2.1) (fun q11 => if q9.1 ≤ 0 then (some (q9.1, q11, q9.2.2)) else (z_g (z_ob (q9.2.2 a0 1) 7) (z_b (fX7_takeSpareRoll (q9.2.2 a0 1) x1 q9.2.2) (fun q14 => z_g (z_ob (q14 a0 5) 9) (z_g (z_ok 4 (q14 (q14 a0 5) 0) x1) (z_g (z_ob (q14 (q14 (q14 a0 5) 0) x1.toNatClampNeg) 8) (z_b (fX8_begin (q14 (q14 (q14 a0 5) 0) x1.toNatClampNeg) q11) (fun q18 => some (q9.1, q18, q14)))))))))))))) else (some ((-1 : Int32), I, R)))))))))
theorem vX12_roll {G : z_G} {d : Nat} {Q : Option Value → z_S → z_H → Prop} {a0 : Nat} {x1 : Int32} {x2 : Int32} {I : Nat → Nat → Int32} {R : Nat → Nat → Nat} {q : Int32 × (Nat → Nat → Int32) × (Nat → Nat → Nat)} (hd : 17 ≤ d) (hf : fX12_roll a0 x1 x2 I R = some q) (hk : Q (some (.int q.1)) z_SH (q.2.1, q.2.2)) : z_W G eX12_roll d 0 0 0 [some (.ref a0), some (.int x1), some (.int x2), none] [] z_SH (I, R) Q := by
  unfold fX12_roll at hf
  obtain ⟨g_a0, hf⟩ := z_g_el hf
  refine z_iload_n dX12_roll_0 rfl rfl ?_
  obtain ⟨q1, hq1, hf⟩ := z_b_el hf
  refine y_cSi (Nat.le_trans (Nat.le_of_ble_eq_true rfl) hd) (wX12_isSinger (z_dl rfl hd) hq1) oX12_isSinger lmX12_92 sX12_isSinger _ rfl rfl (Nat.le_of_ble_eq_true rfl) dX12_roll_1 ?_
  refine z_if_eq (tgt := 28) dX12_roll_4 (by decide) (fun c2 => ?_) (fun c2 => ?_)
  · have hf := z_if_t hf c2
    refine z_iconst dX12_roll_28 kc_m1 ?_
    cases hf
    exact z_iret hk ⟨_, rfl, rfl⟩ dX12_roll_29
  · have hf := z_if_f hf c2
    refine z_iload_n dX12_roll_7 rfl rfl ?_
    refine z_iconst dX12_roll_8 kc_1 ?_
    refine z_bipush dX12_roll_9 kb_60 ?_
    obtain ⟨q3, hq3, hf⟩ := z_b_el hf
    refine y_cSi (Nat.le_trans (Nat.le_of_ble_eq_true rfl) hd) (wX12_within (z_dl rfl hd) hq3) oX12_within lmX12_96 sX12_within _ rfl rfl (Nat.le_of_ble_eq_true rfl) dX12_roll_11 ?_
    refine z_if_eq (tgt := 28) dX12_roll_14 (by decide) (fun c4 => ?_) (fun c4 => ?_)
    · have hf := z_if_t hf c4
      refine z_iconst dX12_roll_28 kc_m1 ?_
      cases hf
      exact z_iret hk ⟨_, rfl, rfl⟩ dX12_roll_29
    · have hf := z_if_f hf c4
      refine z_iload_n dX12_roll_17 rfl rfl ?_
      refine z_aload_n dX12_roll_18 rfl rfl (z_okl g_a0) ?_
      refine y_getR lfX12_10 rfl g_a0 dX12_roll_19 ?_
      obtain ⟨g6, hf⟩ := z_g_el hf
      obtain ⟨q5, hq5, hf⟩ := z_b_el hf
      refine y_cVi (av := []) (Nat.le_trans (Nat.le_of_ble_eq_true rfl) hd) (wX10_length (z_dl rfl hd) hq5) oX10_length lmX12_149 iX10_length g6 rfl _ rfl rfl (Nat.le_of_ble_eq_true rfl) dX12_roll_22 ?_
      refine z_icmp_le (tgt := 30) dX12_roll_25 (by decide) (fun c7 => ?_) (fun c7 => ?_)
      · have hf := z_if_t hf c7
        refine z_aload_n dX12_roll_30 rfl rfl (z_okl g_a0) ?_
        refine y_getR lfX12_32 rfl g_a0 dX12_roll_31 ?_
        refine z_iload_n dX12_roll_34 rfl rfl ?_
        refine z_aload_n dX12_roll_35 rfl rfl (z_okl g_a0) ?_
        refine y_getR lfX12_19 rfl g_a0 dX12_roll_36 ?_
        obtain ⟨g8, hf⟩ := z_g_el hf
        refine y_getR lfX12_25 rfl g8 dX12_roll_39 ?_
        obtain ⟨g10, hf⟩ := z_g_el hf
        obtain ⟨q9, hq9, hf⟩ := z_b_el hf
        refine y_cVi (av := [.int x2, .ref (R (R a0 1) 1)]) (Nat.le_trans (Nat.le_of_ble_eq_true rfl) hd) (wX6_readRoll (z_dl rfl hd) hq9) oX6_readRoll lmX12_166 iX6_readRoll g10 rfl _ rfl rfl (Nat.le_of_ble_eq_true rfl) dX12_roll_42 ?_
        refine y_istore_n0 [some (.ref a0), some (.int x1), some (.int x2), some (.int q9.1)] dX12_roll_45 rfl (by decide) rfl ?_
        refine z_aload_n dX12_roll_46 rfl rfl (z_okl g_a0) ?_
        refine y_getR lfX12_10 rfl g_a0 dX12_roll_47 ?_
        obtain ⟨g12, hf⟩ := z_g_el hf
        obtain ⟨q11, hq11, hf⟩ := z_b_el hf
        refine y_cVv (av := []) (Nat.le_trans (Nat.le_of_ble_eq_true rfl) hd) (wX10_clear (z_dl rfl hd) hq11) oX10_clear lmX12_158 iX10_clear g12 rfl _ rfl rfl (Nat.le_of_ble_eq_true rfl) dX12_roll_50 ?_
        refine z_iload_n dX12_roll_53 rfl rfl ?_
        refine z_if_le (tgt := 77) dX12_roll_54 (by decide) (fun c13 => ?_) (fun c13 => ?_)
        · have hf := z_if_t hf c13
          refine z_iload_n dX12_roll_77 rfl rfl ?_
          cases hf
          exact z_iret hk ⟨_, rfl, rfl⟩ dX12_roll_78
        · have hf := z_if_f hf c13
          refine z_aload_n dX12_roll_57 rfl rfl (z_okl g_a0) ?_
          refine y_getR lfX12_19 rfl g_a0 dX12_roll_58 ?_
          refine z_iload_n dX12_roll_61 rfl rfl ?_
          obtain ⟨g15, hf⟩ := z_g_el hf
          obtain ⟨q14, hq14, hf⟩ := z_b_el hf
          refine y_cVv (av := [.int x1]) (Nat.le_trans (Nat.le_of_ble_eq_true rfl) hd) (wX7_takeSpareRoll (z_dl rfl hd) hq14) oX7_takeSpareRoll lmX12_170 iX7_takeSpareRoll g15 rfl _ rfl rfl (Nat.le_of_ble_eq_true rfl) dX12_roll_62 ?_
          refine z_aload_n dX12_roll_65 rfl rfl (z_okl g_a0) ?_
          refine y_getR lfX12_61 rfl g_a0 dX12_roll_66 ?_
          obtain ⟨g16, hf⟩ := z_g_el hf
          refine y_getR lfX12_100 rfl g16 dX12_roll_69 ?_
          refine z_iload_n dX12_roll_72 rfl rfl ?_
          obtain ⟨g17, hf⟩ := z_g_el hf
          refine y_aald (t := 1) (Or.inr rfl) g17 dX12_roll_73 ?_
          obtain ⟨g19, hf⟩ := z_g_el hf
          obtain ⟨q18, hq18, hf⟩ := z_b_el hf
          refine y_cVv (av := []) (Nat.le_trans (Nat.le_of_ble_eq_true rfl) hd) (wX8_begin (z_dl rfl hd) hq18) oX8_begin lmX12_123 iX8_begin g19 rfl _ rfl rfl (Nat.le_of_ble_eq_true rfl) dX12_roll_74 ?_
          refine z_iload_n dX12_roll_77 rfl rfl ?_
          cases hf
          exact z_iret hk ⟨_, rfl, rfl⟩ dX12_roll_78
      · have hf := z_if_f hf c7
        refine z_iconst dX12_roll_28 kc_m1 ?_
        cases hf
        exact z_iret hk ⟨_, rfl, rfl⟩ dX12_roll_29
theorem wX12_roll {G : z_G} {d : Nat} {a0 : Nat} {x1 : Int32} {x2 : Int32} {I : Nat → Nat → Int32} {R : Nat → Nat → Nat} {q : Int32 × (Nat → Nat → Int32) × (Nat → Nat → Nat)} (hd : 17 ≤ d) (hf : fX12_roll a0 x1 x2 I R = some q) : z_M G d 0 0 eX12_roll [.ref a0, .int x1, .int x2] z_SH (I, R) (z_E (some (.int q.1)) (q.2.1, q.2.2)) :=
  y_M_of _ (by decide +kernel) rfl rfl rfl (vX12_roll hd hf ⟨rfl, rfl, rfl⟩)
def fX12_areTicks (x0 : Int32) : Option (Int32) :=
  z_b (fX12_within x0 (1 : Int32) (240 : Int32)) (fun q1 => z_g (q1 = 0 ∨ q1 = 1) (some q1))
theorem vX12_areTicks {G : z_G} {d : Nat} {Q : Option Value → z_S → z_H → Prop} {x0 : Int32} {I : Nat → Nat → Int32} {R : Nat → Nat → Nat} {q : Int32} (hd : 1 ≤ d) (hf : fX12_areTicks x0 = some q) (hk : Q (some (.int q)) z_SH (I, R)) : z_W G eX12_areTicks d 0 0 0 [some (.int x0)] [] z_SH (I, R) Q := by
  unfold fX12_areTicks at hf
  refine z_iload_n dX12_areTicks_0 rfl rfl ?_
  refine z_iconst dX12_areTicks_1 kc_1 ?_
  refine z_sipush dX12_areTicks_2 ks_240 ?_
  obtain ⟨q1, hq1, hf⟩ := z_b_el hf
  refine y_cSi (Nat.le_trans (Nat.le_of_ble_eq_true rfl) hd) (wX12_within (z_dl rfl hd) hq1) oX12_within lmX12_96 sX12_within _ rfl rfl (Nat.le_of_ble_eq_true rfl) dX12_areTicks_5 ?_
  obtain ⟨g2, hf⟩ := z_g_el hf
  cases hf
  exact z_iret hk ⟨_, rfl, z_bn g2⟩ dX12_areTicks_8
theorem wX12_areTicks {G : z_G} {d : Nat} {x0 : Int32} {I : Nat → Nat → Int32} {R : Nat → Nat → Nat} {q : Int32} (hd : 1 ≤ d) (hf : fX12_areTicks x0 = some q) : z_M G d 0 0 eX12_areTicks [.int x0] z_SH (I, R) (z_E (some (.int q)) (I, R)) :=
  y_M_of _ (by decide +kernel) rfl rfl rfl (vX12_areTicks hd hf ⟨rfl, rfl, rfl⟩)
def fX12_ticks_b18 (a0 : Nat) (z1 : Int32) (R : Nat → Nat → Nat) : (Int32 × (Nat → Nat → Int32)) → Option ((Int32 × (Nat → Nat → Int32)) ⊕ ((Nat → Nat → Int32))) :=
  fun s => (fun (p2 : Int32) (I : Nat → Nat → Int32) => if z1 ≤ p2 then (some (.inr I)) else (z_g (z_ob (R a0 4) 2) (z_b (fX2_step (R a0 4) (R a0 5) I R) (fun q6 => z_l (p2 + (1 : Int32)) (fun t8 => some (.inl (t8, q6.2))))))) s.1 s.2
theorem wX12_ticks_b18 {G : z_G} {d : Nat} {Q : Option Value → z_S → z_H → Prop} {a0 : Nat} {z1 : Int32} {R : Nat → Nat → Nat} (hd : 6 ≤ d) (g_a0 : z_ob a0 12) : ∀ (s : Int32 × (Nat → Nat → Int32)) (o : (Int32 × (Nat → Nat → Int32)) ⊕ ((Nat → Nat → Int32))), fX12_ticks_b18 a0 z1 R s = some o → z_or (fun s : Int32 × (Nat → Nat → Int32) => z_W G eX12_ticks d 0 0 18 [some (.ref a0), some (.int z1), some (.int s.1)] [] z_SH (s.2, R) Q) (fun x : (Nat → Nat → Int32) => z_W G eX12_ticks d 0 0 41 [some (.ref a0), none, none] [] z_SH (x, R) Q) o → (fun s : Int32 × (Nat → Nat → Int32) => z_W G eX12_ticks d 0 0 18 [some (.ref a0), some (.int z1), some (.int s.1)] [] z_SH (s.2, R) Q) s := by
  rintro ⟨p2, I⟩ o hf hk
  show z_W G eX12_ticks d 0 0 18 [some (.ref a0), some (.int z1), some (.int p2)] [] z_SH (I, R) Q
  unfold fX12_ticks_b18 at hf
  try dsimp only at hf
  refine z_iload_n dX12_ticks_18 rfl rfl ?_
  refine z_iload_n dX12_ticks_19 rfl rfl ?_
  refine z_icmp_ge (tgt := 41) dX12_ticks_20 (by decide) (fun c5 => ?_) (fun c5 => ?_)
  · have hf := z_if_t hf c5
    cases hf
    exact y_sub hk (z_le_c rfl (z_le_n (z_le_n z_le_0)))
  · have hf := z_if_f hf c5
    refine z_aload_n dX12_ticks_23 rfl rfl (z_okl g_a0) ?_
    refine y_getR lfX12_54 rfl g_a0 dX12_ticks_24 ?_
    refine z_aload_n dX12_ticks_27 rfl rfl (z_okl g_a0) ?_
    refine y_getR lfX12_61 rfl g_a0 dX12_ticks_28 ?_
    obtain ⟨g7, hf⟩ := z_g_el hf
    obtain ⟨q6, hq6, hf⟩ := z_b_el hf
    refine y_cVi (av := [.ref (R a0 5)]) (Nat.le_trans (Nat.le_of_ble_eq_true rfl) hd) (wX2_step (z_dl rfl hd) hq6) oX2_step lmX12_179 iX2_step g7 rfl _ rfl rfl (Nat.le_of_ble_eq_true rfl) dX12_ticks_31 ?_
    refine z_pop dX12_ticks_34 rfl ?_
    refine y_iinc (fun t8 => [some (.ref a0), some (.int z1), some (.int t8)]) dX12_ticks_35 rfl kc_1 (by decide) (fun _ => rfl) (fun t8 et8 => ?_)
    have hf := z_l_el hf et8
    refine z_goto (tgt := 18) dX12_ticks_38 (by decide) ?_
    cases hf
    exact y_sub hk (z_le_c rfl (z_le_c rfl (z_le_c rfl z_le_0)))
def fX12_ticks (a0 : Nat) (x1 : Int32) (I : Nat → Nat → Int32) (R : Nat → Nat → Nat) : Option (Int32 × (Nat → Nat → Int32)) :=
  z_g (z_ob a0 12) (z_b (fX12_areTicks x1) (fun q1 => if q1 = 0 then (some ((-1 : Int32), I)) else (z_g (z_ob (R a0 4) 2) (z_b (fX2_forget (R a0 4) I) (fun q3 => z_b (z_lp (fX12_ticks_b18 a0 x1 R) 300 ((0 : Int32), q3)) (fun q9 => some (q9 (R a0 4) 3, q9)))))))
theorem vX12_ticks {G : z_G} {d : Nat} {Q : Option Value → z_S → z_H → Prop} {a0 : Nat} {x1 : Int32} {I : Nat → Nat → Int32} {R : Nat → Nat → Nat} {q : Int32 × (Nat → Nat → Int32)} (hd : 6 ≤ d) (hf : fX12_ticks a0 x1 I R = some q) (hk : Q (some (.int q.1)) z_SH (q.2, R)) : z_W G eX12_ticks d 0 0 0 [some (.ref a0), some (.int x1), none] [] z_SH (I, R) Q := by
  unfold fX12_ticks at hf
  obtain ⟨g_a0, hf⟩ := z_g_el hf
  refine z_iload_n dX12_ticks_0 rfl rfl ?_
  obtain ⟨q1, hq1, hf⟩ := z_b_el hf
  refine y_cSi (Nat.le_trans (Nat.le_of_ble_eq_true rfl) hd) (wX12_areTicks (z_dl rfl hd) hq1) oX12_areTicks lmX12_173 sX12_areTicks _ rfl rfl (Nat.le_of_ble_eq_true rfl) dX12_ticks_1 ?_
  refine z_if_ne (tgt := 9) dX12_ticks_4 (by decide) (fun c2 => ?_) (fun c2 => ?_)
  · have hf := z_if_f hf c2
    refine z_aload_n dX12_ticks_9 rfl rfl (z_okl g_a0) ?_
    refine y_getR lfX12_54 rfl g_a0 dX12_ticks_10 ?_
    obtain ⟨g4, hf⟩ := z_g_el hf
    obtain ⟨q3, hq3, hf⟩ := z_b_el hf
    refine y_cVv (av := []) (Nat.le_trans (Nat.le_of_ble_eq_true rfl) hd) (wX2_forget (z_dl rfl hd) hq3) oX2_forget lmX12_176 iX2_forget g4 rfl _ rfl rfl (Nat.le_of_ble_eq_true rfl) dX12_ticks_13 ?_
    refine z_iconst dX12_ticks_16 kc_0 ?_
    refine y_istore_n0 [some (.ref a0), some (.int x1), some (.int (0 : Int32))] dX12_ticks_17 rfl (by decide) rfl ?_
    obtain ⟨q9, hq9, hf⟩ := z_b_el hf
    refine y_sub (lv' := [some (.ref a0), some (.int x1), some (.int (0 : Int32))]) ?_ (z_le_c rfl (z_le_c rfl (z_le_c rfl z_le_0)))
    refine z_lp_el (P := (fun s : Int32 × (Nat → Nat → Int32) => z_W G eX12_ticks d 0 0 18 [some (.ref a0), some (.int x1), some (.int s.1)] [] z_SH (s.2, R) Q)) (E := (fun x : (Nat → Nat → Int32) => z_W G eX12_ticks d 0 0 41 [some (.ref a0), none, none] [] z_SH (x, R) Q)) (wX12_ticks_b18 hd g_a0) 300 ((0 : Int32), q3) q9 hq9 ?_
    show z_W G eX12_ticks d 0 0 41 [some (.ref a0), none, none] [] z_SH (q9, R) _
    refine z_aload_n dX12_ticks_41 rfl rfl (z_okl g_a0) ?_
    refine y_getR lfX12_54 rfl g_a0 dX12_ticks_42 ?_
    refine y_getI lfX12_183 rfl g4 dX12_ticks_45 ?_
    cases hf
    exact z_iret hk ⟨_, rfl, rfl⟩ dX12_ticks_48
  · have hf := z_if_t hf c2
    refine z_iconst dX12_ticks_7 kc_m1 ?_
    cases hf
    exact z_iret hk ⟨_, rfl, rfl⟩ dX12_ticks_8
theorem wX12_ticks {G : z_G} {d : Nat} {a0 : Nat} {x1 : Int32} {I : Nat → Nat → Int32} {R : Nat → Nat → Nat} {q : Int32 × (Nat → Nat → Int32)} (hd : 6 ≤ d) (hf : fX12_ticks a0 x1 I R = some q) : z_M G d 0 0 eX12_ticks [.ref a0, .int x1] z_SH (I, R) (z_E (some (.int q.1)) (q.2, R)) :=
  y_M_of _ (by decide +kernel) rfl rfl rfl (vX12_ticks hd hf ⟨rfl, rfl, rfl⟩)
def fX12_triedByAll (a0 : Nat) (x1 : Int32) (I : Nat → Nat → Int32) (R : Nat → Nat → Nat) : Option (Int32) :=
  z_g (z_ob a0 12) (if x1 = (0 : Int32) then (z_g (z_ob (R a0 4) 2) (some (I (R a0 4) 3))) else (if x1 = (1 : Int32) then (z_g (z_ob (R a0 4) 2) (some (I (R a0 4) 4))) else (if x1 = (2 : Int32) then (z_g (z_ob (R a0 4) 2) (some (I (R a0 4) 5))) else (z_g (z_ob (R a0 6) 9) (z_b (fX9_waitingBits (R a0 6) I R) (fun q7 => z_b (fJ6_bitCount_0f7a4 q7) (fun q9 => some q9)))))))
theorem vX12_triedByAll {G : z_G} {d : Nat} {Q : Option Value → z_S → z_H → Prop} {a0 : Nat} {x1 : Int32} {I : Nat → Nat → Int32} {R : Nat → Nat → Nat} {q : Int32} (hd : 1 ≤ d) (hf : fX12_triedByAll a0 x1 I R = some q) (hk : Q (some (.int q)) z_SH (I, R)) : z_W G eX12_triedByAll d 0 0 0 [some (.ref a0), some (.int x1)] [] z_SH (I, R) Q := by
  unfold fX12_triedByAll at hf
  obtain ⟨g_a0, hf⟩ := z_g_el hf
  refine z_iload_n dX12_triedByAll_0 rfl rfl ?_
  by_cases c1 : x1 = (0 : Int32)
  · have hf := z_if_t hf c1
    refine z_tabIn (off := 27) (tgt := 28) dX12_triedByAll_1 (by rw [c1]; decide) (by rw [c1]; decide) (by rw [c1]; rfl) (by decide) ?_
    refine z_aload_n dX12_triedByAll_28 rfl rfl (z_okl g_a0) ?_
    refine y_getR lfX12_54 rfl g_a0 dX12_triedByAll_29 ?_
    obtain ⟨g2, hf⟩ := z_g_el hf
    refine y_getI lfX12_183 rfl g2 dX12_triedByAll_32 ?_
    cases hf
    exact z_iret hk ⟨_, rfl, rfl⟩ dX12_triedByAll_35
  · have hf := z_if_f hf c1
    by_cases c3 : x1 = (1 : Int32)
    · have hf := z_if_t hf c3
      refine z_tabIn (off := 35) (tgt := 36) dX12_triedByAll_1 (by rw [c3]; decide) (by rw [c3]; decide) (by rw [c3]; rfl) (by decide) ?_
      refine z_aload_n dX12_triedByAll_36 rfl rfl (z_okl g_a0) ?_
      refine y_getR lfX12_54 rfl g_a0 dX12_triedByAll_37 ?_
      obtain ⟨g4, hf⟩ := z_g_el hf
      refine y_getI lfX12_200 rfl g4 dX12_triedByAll_40 ?_
      cases hf
      exact z_iret hk ⟨_, rfl, rfl⟩ dX12_triedByAll_43
    · have hf := z_if_f hf c3
      by_cases c5 : x1 = (2 : Int32)
      · have hf := z_if_t hf c5
        refine z_tabIn (off := 43) (tgt := 44) dX12_triedByAll_1 (by rw [c5]; decide) (by rw [c5]; decide) (by rw [c5]; rfl) (by decide) ?_
        refine z_aload_n dX12_triedByAll_44 rfl rfl (z_okl g_a0) ?_
        refine y_getR lfX12_54 rfl g_a0 dX12_triedByAll_45 ?_
        obtain ⟨g6, hf⟩ := z_g_el hf
        refine y_getI lfX12_203 rfl g6 dX12_triedByAll_48 ?_
        cases hf
        exact z_iret hk ⟨_, rfl, rfl⟩ dX12_triedByAll_51
      · have hf := z_if_f hf c5
        have nc1 : ¬ (x1).toInt = 0 := z_toInt_ne c1
        have nc3 : ¬ (x1).toInt = 1 := z_toInt_ne c3
        have nc5 : ¬ (x1).toInt = 2 := z_toInt_ne c5
        refine z_tabOut (tgt := 52) dX12_triedByAll_1 (by omega) (by decide) ?_
        refine z_aload_n dX12_triedByAll_52 rfl rfl (z_okl g_a0) ?_
        refine y_getR lfX12_65 rfl g_a0 dX12_triedByAll_53 ?_
        obtain ⟨g8, hf⟩ := z_g_el hf
        obtain ⟨q7, hq7, hf⟩ := z_b_el hf
        refine y_cVi (av := []) (Nat.le_trans (Nat.le_of_ble_eq_true rfl) hd) (wX9_waitingBits (z_dl rfl hd) hq7) oX9_waitingBits lmX12_206 iX9_waitingBits g8 rfl _ rfl rfl (Nat.le_of_ble_eq_true rfl) dX12_triedByAll_56 ?_
        obtain ⟨q9, hq9, hf⟩ := z_b_el hf
        refine y_cSi (Nat.le_trans (Nat.le_of_ble_eq_true rfl) hd) (wJ6_bitCount_0f7a4 (z_dl rfl hd) hq9) oJ6_bitCount_0f7a4 lmX12_136 sJ6_bitCount_0f7a4 _ rfl rfl (Nat.le_of_ble_eq_true rfl) dX12_triedByAll_59 ?_
        cases hf
        exact z_iret hk ⟨_, rfl, rfl⟩ dX12_triedByAll_62
theorem wX12_triedByAll {G : z_G} {d : Nat} {a0 : Nat} {x1 : Int32} {I : Nat → Nat → Int32} {R : Nat → Nat → Nat} {q : Int32} (hd : 1 ≤ d) (hf : fX12_triedByAll a0 x1 I R = some q) : z_M G d 0 0 eX12_triedByAll [.ref a0, .int x1] z_SH (I, R) (z_E (some (.int q)) (I, R)) :=
  y_M_of _ (by decide +kernel) rfl rfl rfl (vX12_triedByAll hd hf ⟨rfl, rfl, rfl⟩)
def fX12_triedByOne (a0 : Nat) (x1 : Int32) (x2 : Int32) (I : Nat → Nat → Int32) (R : Nat → Nat → Nat) : Option (Int32) :=
  z_g (z_ob a0 12) (z_g (z_ob (R a0 6) 9) (z_g (z_ok 4 (R (R a0 6) 0) x1) (z_g (z_ob (R (R (R a0 6) 0) x1.toNatClampNeg) 8) (if x2 = (1 : Int32) then (some (I (R (R (R a0 6) 0) x1.toNatClampNeg) 5)) else (if x2 = (2 : Int32) then (some (I (R (R (R a0 6) 0) x1.toNatClampNeg) 6)) else (some (I (R (R (R a0 6) 0) x1.toNatClampNeg) 7)))))))
theorem vX12_triedByOne {G : z_G} {d : Nat} {Q : Option Value → z_S → z_H → Prop} {a0 : Nat} {x1 : Int32} {x2 : Int32} {I : Nat → Nat → Int32} {R : Nat → Nat → Nat} {q : Int32} (hd : 0 ≤ d) (hf : fX12_triedByOne a0 x1 x2 I R = some q) (hk : Q (some (.int q)) z_SH (I, R)) : z_W G eX12_triedByOne d 0 0 0 [some (.ref a0), some (.int x1), some (.int x2), none] [] z_SH (I, R) Q := by
  unfold fX12_triedByOne at hf
  obtain ⟨g_a0, hf⟩ := z_g_el hf
  refine z_aload_n dX12_triedByOne_0 rfl rfl (z_okl g_a0) ?_
  refine y_getR lfX12_65 rfl g_a0 dX12_triedByOne_1 ?_
  obtain ⟨g1, hf⟩ := z_g_el hf
  refine y_getR lfX12_100 rfl g1 dX12_triedByOne_4 ?_
  refine z_iload_n dX12_triedByOne_7 rfl rfl ?_
  obtain ⟨g2, hf⟩ := z_g_el hf
  refine y_aald (t := 1) (Or.inr rfl) g2 dX12_triedByOne_8 ?_
  obtain ⟨g3, hf⟩ := z_g_el hf
  refine y_astore_n [some (.ref a0), some (.int x1), some (.int x2), some (.ref (R (R (R a0 6) 0) x1.toNatClampNeg))] dX12_triedByOne_9 rfl (by decide) (z_okl g3) rfl ?_
  refine z_iload_n dX12_triedByOne_10 rfl rfl ?_
  by_cases c4 : x2 = (1 : Int32)
  · have hf := z_if_t hf c4
    refine z_look (off := 25) (tgt := 36) dX12_triedByOne_11 (by decide) (by rw [c4]; rfl) (by decide) ?_
    refine z_aload_n dX12_triedByOne_36 rfl rfl (z_okl g3) ?_
    refine y_getI lfX12_209 rfl g3 dX12_triedByOne_37 ?_
    cases hf
    exact z_iret hk ⟨_, rfl, rfl⟩ dX12_triedByOne_40
  · have hf := z_if_f hf c4
    by_cases c5 : x2 = (2 : Int32)
    · have hf := z_if_t hf c5
      refine z_look (off := 30) (tgt := 41) dX12_triedByOne_11 (by decide) (by rw [c5]; rfl) (by decide) ?_
      refine z_aload_n dX12_triedByOne_41 rfl rfl (z_okl g3) ?_
      refine y_getI lfX12_212 rfl g3 dX12_triedByOne_42 ?_
      cases hf
      exact z_iret hk ⟨_, rfl, rfl⟩ dX12_triedByOne_45
    · have hf := z_if_f hf c5
      have nc4 : ¬ (x2).toInt = 1 := z_toInt_ne c4
      have nc5 : ¬ (x2).toInt = 2 := z_toInt_ne c5
      refine z_look (off := 35) (tgt := 46) dX12_triedByOne_11 (by decide) (by simp [Op.lookupswitch.offset, Ne.symm nc4, nc4, Ne.symm nc5, nc5]) (by decide) ?_
      refine z_aload_n dX12_triedByOne_46 rfl rfl (z_okl g3) ?_
      refine y_getI lfX12_215 rfl g3 dX12_triedByOne_47 ?_
      cases hf
      exact z_iret hk ⟨_, rfl, rfl⟩ dX12_triedByOne_50
theorem wX12_triedByOne {G : z_G} {d : Nat} {a0 : Nat} {x1 : Int32} {x2 : Int32} {I : Nat → Nat → Int32} {R : Nat → Nat → Nat} {q : Int32} (hd : 0 ≤ d) (hf : fX12_triedByOne a0 x1 x2 I R = some q) : z_M G d 0 0 eX12_triedByOne [.ref a0, .int x1, .int x2] z_SH (I, R) (z_E (some (.int q)) (I, R)) :=
  y_M_of _ (by decide +kernel) rfl rfl rfl (vX12_triedByOne hd hf ⟨rfl, rfl, rfl⟩)
def fX12_tried_b78 (a0 : Nat) (z1 : Int32) (z2 : Int32) (z3 : Int32) (R : Nat → Nat → Nat) : (Int32 × (Nat → Nat → Int32)) → Option ((Int32 × (Nat → Nat → Int32)) ⊕ ((Nat → Nat → Int32))) :=
  fun s => (fun (p5 : Int32) (I : Nat → Nat → Int32) => if z1 ≤ p5 then (some (.inr I)) else (z_g (z_ob (R a0 4) 2) (z_b (fX2_step (R a0 4) (R a0 6) I R) (fun q12 => z_l (p5 + (1 : Int32)) (fun t14 => some (.inl (t14, q12.2))))))) s.1 s.2
theorem wX12_tried_b78 {G : z_G} {d : Nat} {Q : Option Value → z_S → z_H → Prop} {a0 : Nat} {z1 : Int32} {z2 : Int32} {z3 : Int32} {R : Nat → Nat → Nat} (hd : 6 ≤ d) (g_a0 : z_ob a0 12) : ∀ (s : Int32 × (Nat → Nat → Int32)) (o : (Int32 × (Nat → Nat → Int32)) ⊕ ((Nat → Nat → Int32))), fX12_tried_b78 a0 z1 z2 z3 R s = some o → z_or (fun s : Int32 × (Nat → Nat → Int32) => z_W G eX12_tried d 0 0 78 [some (.ref a0), some (.int z1), some (.int z2), some (.int z3), none, some (.int s.1)] [] z_SH (s.2, R) Q) (fun x : (Nat → Nat → Int32) => z_W G eX12_tried d 0 0 102 [some (.ref a0), none, some (.int z2), some (.int z3), none, none] [] z_SH (x, R) Q) o → (fun s : Int32 × (Nat → Nat → Int32) => z_W G eX12_tried d 0 0 78 [some (.ref a0), some (.int z1), some (.int z2), some (.int z3), none, some (.int s.1)] [] z_SH (s.2, R) Q) s := by
  rintro ⟨p5, I⟩ o hf hk
  show z_W G eX12_tried d 0 0 78 [some (.ref a0), some (.int z1), some (.int z2), some (.int z3), none, some (.int p5)] [] z_SH (I, R) Q
  unfold fX12_tried_b78 at hf
  try dsimp only at hf
  refine z_iload dX12_tried_78 rfl ?_
  refine z_iload_n dX12_tried_80 rfl rfl ?_
  refine z_icmp_ge (tgt := 102) dX12_tried_81 (by decide) (fun c11 => ?_) (fun c11 => ?_)
  · have hf := z_if_t hf c11
    cases hf
    exact y_sub hk (z_le_c rfl (z_le_n (z_le_c rfl (z_le_c rfl (z_le_n (z_le_n z_le_0))))))
  · have hf := z_if_f hf c11
    refine z_aload_n dX12_tried_84 rfl rfl (z_okl g_a0) ?_
    refine y_getR lfX12_54 rfl g_a0 dX12_tried_85 ?_
    refine z_aload_n dX12_tried_88 rfl rfl (z_okl g_a0) ?_
    refine y_getR lfX12_65 rfl g_a0 dX12_tried_89 ?_
    obtain ⟨g13, hf⟩ := z_g_el hf
    obtain ⟨q12, hq12, hf⟩ := z_b_el hf
    refine y_cVi (av := [.ref (R a0 6)]) (Nat.le_trans (Nat.le_of_ble_eq_true rfl) hd) (wX2_step (z_dl rfl hd) hq12) oX2_step lmX12_179 iX2_step g13 rfl _ rfl rfl (Nat.le_of_ble_eq_true rfl) dX12_tried_92 ?_
    refine z_pop dX12_tried_95 rfl ?_
    refine y_iinc (fun t14 => [some (.ref a0), some (.int z1), some (.int z2), some (.int z3), none, some (.int t14)]) dX12_tried_96 rfl kc_1 (by decide) (fun _ => rfl) (fun t14 et14 => ?_)
    have hf := z_l_el hf et14
    refine z_goto (tgt := 78) dX12_tried_99 (by decide) ?_
    cases hf
    exact y_sub hk (z_le_c rfl (z_le_c rfl (z_le_c rfl (z_le_c rfl (z_le_n (z_le_c rfl z_le_0))))))
def fX12_tried_j57 (a0 : Nat) (y1 : Int32) (y2 : Int32) (y3 : Int32) (I : Nat → Nat → Int32) (R : Nat → Nat → Nat) : Option (Int32 × (Nat → Nat → Int32)) :=
  z_g (z_ob (R a0 4) 2) (z_b (fX2_forget (R a0 4) I) (fun q7 => z_g (z_ob (R a0 6) 9) (z_b (fX9_copyFrom (R a0 6) (R a0 5) q7 R) (fun q9 => z_b (z_lp (fX12_tried_b78 a0 y1 y2 y3 R) 300 ((0 : Int32), q9)) (fun q15 => if y3 = 0 then (z_b (fX12_triedByOne a0 (z_rem y2 (10 : Int32)) (y2 / (10 : Int32)) q15 R) (fun q17 => some (q17, q15))) else (z_b (fX12_triedByAll a0 y2 q15 R) (fun q18 => some (q18, q15))))))))
theorem wX12_tried_j57 {G : z_G} {d : Nat} {Q : Option Value → z_S → z_H → Prop} {a0 : Nat} {y1 : Int32} {y2 : Int32} {y3 : Int32} {I : Nat → Nat → Int32} {R : Nat → Nat → Nat} {o : Int32 × (Nat → Nat → Int32)} (hd : 6 ≤ d) (g_a0 : z_ob a0 12) (hf : fX12_tried_j57 a0 y1 y2 y3 I R = some o) (hk : Q (some (.int o.1)) z_SH (o.2, R)) : z_W G eX12_tried d 0 0 57 [some (.ref a0), some (.int y1), some (.int y2), some (.int y3), none, none] [] z_SH (I, R) Q := by
  unfold fX12_tried_j57 at hf
  refine z_aload_n dX12_tried_57 rfl rfl (z_okl g_a0) ?_
  refine y_getR lfX12_54 rfl g_a0 dX12_tried_58 ?_
  obtain ⟨g8, hf⟩ := z_g_el hf
  obtain ⟨q7, hq7, hf⟩ := z_b_el hf
  refine y_cVv (av := []) (Nat.le_trans (Nat.le_of_ble_eq_true rfl) hd) (wX2_forget (z_dl rfl hd) hq7) oX2_forget lmX12_176 iX2_forget g8 rfl _ rfl rfl (Nat.le_of_ble_eq_true rfl) dX12_tried_61 ?_
  refine z_aload_n dX12_tried_64 rfl rfl (z_okl g_a0) ?_
  refine y_getR lfX12_65 rfl g_a0 dX12_tried_65 ?_
  refine z_aload_n dX12_tried_68 rfl rfl (z_okl g_a0) ?_
  refine y_getR lfX12_61 rfl g_a0 dX12_tried_69 ?_
  obtain ⟨g10, hf⟩ := z_g_el hf
  obtain ⟨q9, hq9, hf⟩ := z_b_el hf
  refine y_cVv (av := [.ref (R a0 5)]) (Nat.le_trans (Nat.le_of_ble_eq_true rfl) hd) (wX9_copyFrom (z_dl rfl hd) hq9) oX9_copyFrom lmX12_189 iX9_copyFrom g10 rfl _ rfl rfl (Nat.le_of_ble_eq_true rfl) dX12_tried_72 ?_
  refine z_iconst dX12_tried_75 kc_0 ?_
  refine y_istore0 [some (.ref a0), some (.int y1), some (.int y2), some (.int y3), none, some (.int (0 : Int32))] dX12_tried_76 (by decide) rfl ?_
  obtain ⟨q15, hq15, hf⟩ := z_b_el hf
  refine y_sub (lv' := [some (.ref a0), some (.int y1), some (.int y2), some (.int y3), none, some (.int (0 : Int32))]) ?_ (z_le_c rfl (z_le_c rfl (z_le_c rfl (z_le_c rfl (z_le_n (z_le_c rfl z_le_0))))))
  refine z_lp_el (P := (fun s : Int32 × (Nat → Nat → Int32) => z_W G eX12_tried d 0 0 78 [some (.ref a0), some (.int y1), some (.int y2), some (.int y3), none, some (.int s.1)] [] z_SH (s.2, R) Q)) (E := (fun x : (Nat → Nat → Int32) => z_W G eX12_tried d 0 0 102 [some (.ref a0), none, some (.int y2), some (.int y3), none, none] [] z_SH (x, R) Q)) (wX12_tried_b78 hd g_a0) 300 ((0 : Int32), q9) q15 hq15 ?_
  show z_W G eX12_tried d 0 0 102 [some (.ref a0), none, some (.int y2), some (.int y3), none, none] [] z_SH (q15, R) _
  refine z_iload_n dX12_tried_102 rfl rfl ?_
  refine z_if_eq (tgt := 114) dX12_tried_103 (by decide) (fun c16 => ?_) (fun c16 => ?_)
  · have hf := z_if_t hf c16
    refine z_aload_n dX12_tried_114 rfl rfl (z_okl g_a0) ?_
    refine z_iload_n dX12_tried_115 rfl rfl ?_
    refine z_bipush dX12_tried_116 kb_10 ?_
    refine y_irem dX12_tried_118 (by decide) ?_
    refine z_iload_n dX12_tried_119 rfl rfl ?_
    refine z_bipush dX12_tried_120 kb_10 ?_
    refine z_idiv dX12_tried_122 (by decide) ?_
    obtain ⟨q17, hq17, hf⟩ := z_b_el hf
    refine y_cVi (av := [.int (z_rem y2 (10 : Int32)), .int (y2 / (10 : Int32))]) (Nat.le_trans (Nat.le_of_ble_eq_true rfl) hd) (wX12_triedByOne (z_dl rfl hd) hq17) oX12_triedByOne lmX12_196 iX12_triedByOne g_a0 rfl _ rfl rfl (Nat.le_of_ble_eq_true rfl) dX12_tried_123 ?_
    cases hf
    exact z_iret hk ⟨_, rfl, rfl⟩ dX12_tried_126
  · have hf := z_if_f hf c16
    refine z_aload_n dX12_tried_106 rfl rfl (z_okl g_a0) ?_
    refine z_iload_n dX12_tried_107 rfl rfl ?_
    obtain ⟨q18, hq18, hf⟩ := z_b_el hf
    refine y_cVi (av := [.int y2]) (Nat.le_trans (Nat.le_of_ble_eq_true rfl) hd) (wX12_triedByAll (z_dl rfl hd) hq18) oX12_triedByAll lmX12_193 iX12_triedByAll g_a0 rfl _ rfl rfl (Nat.le_of_ble_eq_true rfl) dX12_tried_108 ?_
    refine z_goto (tgt := 126) dX12_tried_111 (by decide) ?_
    cases hf
    exact z_iret hk ⟨_, rfl, rfl⟩ dX12_tried_126
def fX12_tried_j37 (a0 : Nat) (y1 : Int32) (y2 : Int32) (y3 : Int32) (v0 : Int32) (I : Nat → Nat → Int32) (R : Nat → Nat → Nat) : Option (Int32 × (Nat → Nat → Int32)) :=
  z_b (fX12_areTicks y1) (fun q4 => if q4 = 0 then (some ((-1 : Int32), I)) else (if y3 = 0 then (if v0 = 0 then (some ((-1 : Int32), I)) else (fX12_tried_j57 a0 y1 y2 y3 I R)) else (fX12_tried_j57 a0 y1 y2 y3 I R)))
theorem wX12_tried_j37 {G : z_G} {d : Nat} {Q : Option Value → z_S → z_H → Prop} {a0 : Nat} {y1 : Int32} {y2 : Int32} {y3 : Int32} {v0 : Int32} {I : Nat → Nat → Int32} {R : Nat → Nat → Nat} {o : Int32 × (Nat → Nat → Int32)} (hd : 6 ≤ d) (g_a0 : z_ob a0 12) (hf : fX12_tried_j37 a0 y1 y2 y3 v0 I R = some o) (hk : Q (some (.int o.1)) z_SH (o.2, R)) : z_W G eX12_tried d 0 0 37 [some (.ref a0), some (.int y1), some (.int y2), some (.int y3), none, none] [.int v0] z_SH (I, R) Q := by
  unfold fX12_tried_j37 at hf
  refine y_istore0 [some (.ref a0), some (.int y1), some (.int y2), some (.int y3), some (.int v0), none] dX12_tried_37 (by decide) rfl ?_
  refine z_iload_n dX12_tried_39 rfl rfl ?_
  obtain ⟨q4, hq4, hf⟩ := z_b_el hf
  refine y_cSi (Nat.le_trans (Nat.le_of_ble_eq_true rfl) hd) (wX12_areTicks (z_dl rfl hd) hq4) oX12_areTicks lmX12_173 sX12_areTicks _ rfl rfl (Nat.le_of_ble_eq_true rfl) dX12_tried_40 ?_
  refine z_if_eq (tgt := 55) dX12_tried_43 (by decide) (fun c5 => ?_) (fun c5 => ?_)
  · have hf := z_if_t hf c5
    refine z_iconst dX12_tried_55 kc_m1 ?_
    cases hf
    exact z_iret hk ⟨_, rfl, rfl⟩ dX12_tried_56
  · have hf := z_if_f hf c5
    refine z_iload_n dX12_tried_46 rfl rfl ?_
    refine z_if_ne (tgt := 57) dX12_tried_47 (by decide) (fun c6 => ?_) (fun c6 => ?_)
    · have hf := z_if_f hf c6
      exact y_sub (wX12_tried_j57 hd g_a0 hf hk) (z_le_c rfl (z_le_c rfl (z_le_c rfl (z_le_c rfl (z_le_n (z_le_n z_le_0))))))
    · have hf := z_if_t hf c6
      refine z_iload dX12_tried_50 rfl ?_
      refine z_if_ne (tgt := 57) dX12_tried_52 (by decide) (fun c19 => ?_) (fun c19 => ?_)
      · have hf := z_if_f hf c19
        exact y_sub (wX12_tried_j57 hd g_a0 hf hk) (z_le_c rfl (z_le_c rfl (z_le_c rfl (z_le_c rfl (z_le_n (z_le_n z_le_0))))))
      · have hf := z_if_t hf c19
        refine z_iconst dX12_tried_55 kc_m1 ?_
        cases hf
        exact z_iret hk ⟨_, rfl, rfl⟩ dX12_tried_56
def fX12_tried_j36 (a0 : Nat) (y1 : Int32) (y2 : Int32) (y3 : Int32) (I : Nat → Nat → Int32) (R : Nat → Nat → Nat) : Option (Int32 × (Nat → Nat → Int32)) :=
  fX12_tried_j37 a0 y1 y2 y3 (0 : Int32) I R
theorem wX12_tried_j36 {G : z_G} {d : Nat} {Q : Option Value → z_S → z_H → Prop} {a0 : Nat} {y1 : Int32} {y2 : Int32} {y3 : Int32} {I : Nat → Nat → Int32} {R : Nat → Nat → Nat} {o : Int32 × (Nat → Nat → Int32)} (hd : 6 ≤ d) (g_a0 : z_ob a0 12) (hf : fX12_tried_j36 a0 y1 y2 y3 I R = some o) (hk : Q (some (.int o.1)) z_SH (o.2, R)) : z_W G eX12_tried d 0 0 36 [some (.ref a0), some (.int y1), some (.int y2), some (.int y3), none, none] [] z_SH (I, R) Q := by
  unfold fX12_tried_j36 at hf
  refine z_iconst dX12_tried_36 kc_0 ?_
  exact y_sub (wX12_tried_j37 hd g_a0 hf hk) (z_le_c rfl (z_le_c rfl (z_le_c rfl (z_le_c rfl (z_le_n (z_le_n z_le_0))))))
def fX12_tried (a0 : Nat) (x1 : Int32) (x2 : Int32) (I : Nat → Nat → Int32) (R : Nat → Nat → Nat) : Option (Int32 × (Nat → Nat → Int32)) :=
  z_g (z_ob a0 12) (z_b (fX12_within x2 (0 : Int32) (3 : Int32)) (fun q1 => z_b (fX12_within x2 (10 : Int32) (39 : Int32)) (fun q2 => if q2 = 0 then (fX12_tried_j36 a0 x1 x2 q1 I R) else (z_g (z_ob (R a0 5) 9) (z_b (fX9_isTold (R a0 5) (z_rem x2 (10 : Int32)) I R) (fun q20 => if q20 = 0 then (fX12_tried_j36 a0 x1 x2 q1 I R) else (fX12_tried_j37 a0 x1 x2 q1 (1 : Int32) I R)))))))
set_option maxRecDepth 20000 in
theorem vX12_tried {G : z_G} {d : Nat} {Q : Option Value → z_S → z_H → Prop} {a0 : Nat} {x1 : Int32} {x2 : Int32} {I : Nat → Nat → Int32} {R : Nat → Nat → Nat} {q : Int32 × (Nat → Nat → Int32)} (hd : 6 ≤ d) (hf : fX12_tried a0 x1 x2 I R = some q) (hk : Q (some (.int q.1)) z_SH (q.2, R)) : z_W G eX12_tried d 0 0 0 [some (.ref a0), some (.int x1), some (.int x2), none, none, none] [] z_SH (I, R) Q := by
  unfold fX12_tried at hf
  obtain ⟨g_a0, hf⟩ := z_g_el hf
  refine z_iload_n dX12_tried_0 rfl rfl ?_
  refine z_iconst dX12_tried_1 kc_0 ?_
  refine z_iconst dX12_tried_2 kc_3 ?_
  obtain ⟨q1, hq1, hf⟩ := z_b_el hf
  refine y_cSi (Nat.le_trans (Nat.le_of_ble_eq_true rfl) hd) (wX12_within (z_dl rfl hd) hq1) oX12_within lmX12_96 sX12_within _ rfl rfl (Nat.le_of_ble_eq_true rfl) dX12_tried_3 ?_
  refine y_istore_n0 [some (.ref a0), some (.int x1), some (.int x2), some (.int q1), none, none] dX12_tried_6 rfl (by decide) rfl ?_
  refine z_iload_n dX12_tried_7 rfl rfl ?_
  refine z_bipush dX12_tried_8 kb_10 ?_
  refine z_bipush dX12_tried_10 kb_39 ?_
  obtain ⟨q2, hq2, hf⟩ := z_b_el hf
  refine y_cSi (Nat.le_trans (Nat.le_of_ble_eq_true rfl) hd) (wX12_within (z_dl rfl hd) hq2) oX12_within lmX12_96 sX12_within _ rfl rfl (Nat.le_of_ble_eq_true rfl) dX12_tried_12 ?_
  refine z_if_eq (tgt := 36) dX12_tried_15 (by decide) (fun c3 => ?_) (fun c3 => ?_)
  · have hf := z_if_t hf c3
    exact y_sub (wX12_tried_j36 hd g_a0 hf hk) (z_le_c rfl (z_le_c rfl (z_le_c rfl (z_le_c rfl (z_le_n (z_le_n z_le_0))))))
  · have hf := z_if_f hf c3
    refine z_aload_n dX12_tried_18 rfl rfl (z_okl g_a0) ?_
    refine y_getR lfX12_61 rfl g_a0 dX12_tried_19 ?_
    refine z_iload_n dX12_tried_22 rfl rfl ?_
    refine z_bipush dX12_tried_23 kb_10 ?_
    refine y_irem dX12_tried_25 (by decide) ?_
    obtain ⟨g21, hf⟩ := z_g_el hf
    obtain ⟨q20, hq20, hf⟩ := z_b_el hf
    refine y_cVi (av := [.int (z_rem x2 (10 : Int32))]) (Nat.le_trans (Nat.le_of_ble_eq_true rfl) hd) (wX9_isTold (z_dl rfl hd) hq20) oX9_isTold lmX12_186 iX9_isTold g21 rfl _ rfl rfl (Nat.le_of_ble_eq_true rfl) dX12_tried_26 ?_
    refine z_if_eq (tgt := 36) dX12_tried_29 (by decide) (fun c22 => ?_) (fun c22 => ?_)
    · have hf := z_if_t hf c22
      exact y_sub (wX12_tried_j36 hd g_a0 hf hk) (z_le_c rfl (z_le_c rfl (z_le_c rfl (z_le_c rfl (z_le_n (z_le_n z_le_0))))))
    · have hf := z_if_f hf c22
      refine z_iconst dX12_tried_32 kc_1 ?_
      refine z_goto (tgt := 37) dX12_tried_33 (by decide) ?_
      exact y_sub (wX12_tried_j37 hd g_a0 hf hk) (z_le_c rfl (z_le_c rfl (z_le_c rfl (z_le_c rfl (z_le_n (z_le_n z_le_0))))))
theorem wX12_tried {G : z_G} {d : Nat} {a0 : Nat} {x1 : Int32} {x2 : Int32} {I : Nat → Nat → Int32} {R : Nat → Nat → Nat} {q : Int32 × (Nat → Nat → Int32)} (hd : 6 ≤ d) (hf : fX12_tried a0 x1 x2 I R = some q) : z_M G d 0 0 eX12_tried [.ref a0, .int x1, .int x2] z_SH (I, R) (z_E (some (.int q.1)) (q.2, R)) :=
  y_M_of _ (by decide +kernel) rfl rfl rfl (vX12_tried hd hf ⟨rfl, rfl, rfl⟩)
def fX12_singerIs (a0 : Nat) (x1 : Int32) (x2 : Int32) (I : Nat → Nat → Int32) (R : Nat → Nat → Nat) : Option (Int32) :=
  z_g (z_ob a0 12) (z_g (z_ob (R a0 5) 9) (z_b (fX9_isTold (R a0 5) x1 I R) (fun q1 => if q1 = 0 then (some (-1 : Int32)) else (z_g (z_ok 4 (R (R a0 5) 0) x1) (z_g (z_ob (R (R (R a0 5) 0) x1.toNatClampNeg) 8) (if x2 = (0 : Int32) then (some (I (R (R (R a0 5) 0) x1.toNatClampNeg) 2)) else (if x2 = (1 : Int32) then (some (I (R (R (R a0 5) 0) x1.toNatClampNeg) 3)) else (if x2 = (2 : Int32) then (some (I (R (R (R a0 5) 0) x1.toNatClampNeg) 4)) else (if x2 = (3 : Int32) then (some (I (R (R (R a0 5) 0) x1.toNatClampNeg) 5)) else (if x2 = (4 : Int32) then (some (I (R (R (R a0 5) 0) x1.toNatClampNeg) 6)) else (if x2 = (5 : Int32) then (some (I (R (R (R a0 5) 0) x1.toNatClampNeg) 7)) else (if x2 = (6 : Int32) then (some (I (R (R (R a0 5) 0) x1.toNatClampNeg) 8)) else (if x2 = (7 : Int32) then (if (I (R (R (R a0 5) 0) x1.toNatClampNeg) 9) = 0 then (some (0 : Int32)) else (some (1 : Int32))) else (if x2 = (8 : Int32) then (z_g (z_ob (R a0 4) 2) (z_b (fX2_isDone (R a0 4) (R a0 5) x1 I R) (fun q16 => if q16 = 0 then (some (0 : Int32)) else (some (1 : Int32))))) else (if x2 = (9 : Int32) then (z_g (z_ob (R a0 1) 7) (z_b (fX9_heardBits (R a0 5) x1 (I (R a0 1) 4) I R) (fun q21 => some q21))) else (some (-1 : Int32)))))))))))))))))
set_option maxRecDepth 20000 in
theorem vX12_singerIs {G : z_G} {d : Nat} {Q : Option Value → z_S → z_H → Prop} {a0 : Nat} {x1 : Int32} {x2 : Int32} {I : Nat → Nat → Int32} {R : Nat → Nat → Nat} {q : Int32} (hd : 3 ≤ d) (hf : fX12_singerIs a0 x1 x2 I R = some q) (hk : Q (some (.int q)) z_SH (I, R)) : z_W G eX12_singerIs d 0 0 0 [some (.ref a0), some (.int x1), some (.int x2), none] [] z_SH (I, R) Q := by
  unfold fX12_singerIs at hf
  obtain ⟨g_a0, hf⟩ := z_g_el hf
  refine z_aload_n dX12_singerIs_0 rfl rfl (z_okl g_a0) ?_
  refine y_getR lfX12_61 rfl g_a0 dX12_singerIs_1 ?_
  refine z_iload_n dX12_singerIs_4 rfl rfl ?_
  obtain ⟨g2, hf⟩ := z_g_el hf
  obtain ⟨q1, hq1, hf⟩ := z_b_el hf
  refine y_cVi (av := [.int x1]) (Nat.le_trans (Nat.le_of_ble_eq_true rfl) hd) (wX9_isTold (z_dl rfl hd) hq1) oX9_isTold lmX12_186 iX9_isTold g2 rfl _ rfl rfl (Nat.le_of_ble_eq_true rfl) dX12_singerIs_5 ?_
  refine z_if_ne (tgt := 13) dX12_singerIs_8 (by decide) (fun c3 => ?_) (fun c3 => ?_)
  · have hf := z_if_f hf c3
    refine z_aload_n dX12_singerIs_13 rfl rfl (z_okl g_a0) ?_
    refine y_getR lfX12_61 rfl g_a0 dX12_singerIs_14 ?_
    refine y_getR lfX12_100 rfl g2 dX12_singerIs_17 ?_
    refine z_iload_n dX12_singerIs_20 rfl rfl ?_
    obtain ⟨g4, hf⟩ := z_g_el hf
    refine y_aald (t := 1) (Or.inr rfl) g4 dX12_singerIs_21 ?_
    obtain ⟨g5, hf⟩ := z_g_el hf
    refine y_astore_n [some (.ref a0), some (.int x1), some (.int x2), some (.ref (R (R (R a0 5) 0) x1.toNatClampNeg))] dX12_singerIs_22 rfl (by decide) (z_okl g5) rfl ?_
    refine z_iload_n dX12_singerIs_23 rfl rfl ?_
    by_cases c6 : x2 = (0 : Int32)
    · have hf := z_if_t hf c6
      refine z_tabIn (off := 56) (tgt := 80) dX12_singerIs_24 (by rw [c6]; decide) (by rw [c6]; decide) (by rw [c6]; rfl) (by decide) ?_
      refine z_aload_n dX12_singerIs_80 rfl rfl (z_okl g5) ?_
      refine y_getI lfX12_114 rfl g5 dX12_singerIs_81 ?_
      cases hf
      exact z_iret hk ⟨_, rfl, rfl⟩ dX12_singerIs_84
    · have hf := z_if_f hf c6
      by_cases c7 : x2 = (1 : Int32)
      · have hf := z_if_t hf c7
        refine z_tabIn (off := 61) (tgt := 85) dX12_singerIs_24 (by rw [c7]; decide) (by rw [c7]; decide) (by rw [c7]; rfl) (by decide) ?_
        refine z_aload_n dX12_singerIs_85 rfl rfl (z_okl g5) ?_
        refine y_getI lfX12_117 rfl g5 dX12_singerIs_86 ?_
        cases hf
        exact z_iret hk ⟨_, rfl, rfl⟩ dX12_singerIs_89
      · have hf := z_if_f hf c7
        by_cases c8 : x2 = (2 : Int32)
        · have hf := z_if_t hf c8
          refine z_tabIn (off := 66) (tgt := 90) dX12_singerIs_24 (by rw [c8]; decide) (by rw [c8]; decide) (by rw [c8]; rfl) (by decide) ?_
          refine z_aload_n dX12_singerIs_90 rfl rfl (z_okl g5) ?_
          refine y_getI lfX12_120 rfl g5 dX12_singerIs_91 ?_
          cases hf
          exact z_iret hk ⟨_, rfl, rfl⟩ dX12_singerIs_94
        · have hf := z_if_f hf c8
          by_cases c9 : x2 = (3 : Int32)
          · have hf := z_if_t hf c9
            refine z_tabIn (off := 71) (tgt := 95) dX12_singerIs_24 (by rw [c9]; decide) (by rw [c9]; decide) (by rw [c9]; rfl) (by decide) ?_
            refine z_aload_n dX12_singerIs_95 rfl rfl (z_okl g5) ?_
            refine y_getI lfX12_209 rfl g5 dX12_singerIs_96 ?_
            cases hf
            exact z_iret hk ⟨_, rfl, rfl⟩ dX12_singerIs_99
          · have hf := z_if_f hf c9
            by_cases c10 : x2 = (4 : Int32)
            · have hf := z_if_t hf c10
              refine z_tabIn (off := 76) (tgt := 100) dX12_singerIs_24 (by rw [c10]; decide) (by rw [c10]; decide) (by rw [c10]; rfl) (by decide) ?_
              refine z_aload_n dX12_singerIs_100 rfl rfl (z_okl g5) ?_
              refine y_getI lfX12_212 rfl g5 dX12_singerIs_101 ?_
              cases hf
              exact z_iret hk ⟨_, rfl, rfl⟩ dX12_singerIs_104
            · have hf := z_if_f hf c10
              by_cases c11 : x2 = (5 : Int32)
              · have hf := z_if_t hf c11
                refine z_tabIn (off := 81) (tgt := 105) dX12_singerIs_24 (by rw [c11]; decide) (by rw [c11]; decide) (by rw [c11]; rfl) (by decide) ?_
                refine z_aload_n dX12_singerIs_105 rfl rfl (z_okl g5) ?_
                refine y_getI lfX12_215 rfl g5 dX12_singerIs_106 ?_
                cases hf
                exact z_iret hk ⟨_, rfl, rfl⟩ dX12_singerIs_109
              · have hf := z_if_f hf c11
                by_cases c12 : x2 = (6 : Int32)
                · have hf := z_if_t hf c12
                  refine z_tabIn (off := 86) (tgt := 110) dX12_singerIs_24 (by rw [c12]; decide) (by rw [c12]; decide) (by rw [c12]; rfl) (by decide) ?_
                  refine z_aload_n dX12_singerIs_110 rfl rfl (z_okl g5) ?_
                  refine y_getI lfX12_218 rfl g5 dX12_singerIs_111 ?_
                  cases hf
                  exact z_iret hk ⟨_, rfl, rfl⟩ dX12_singerIs_114
                · have hf := z_if_f hf c12
                  by_cases c13 : x2 = (7 : Int32)
                  · have hf := z_if_t hf c13
                    refine z_tabIn (off := 91) (tgt := 115) dX12_singerIs_24 (by rw [c13]; decide) (by rw [c13]; decide) (by rw [c13]; rfl) (by decide) ?_
                    refine z_aload_n dX12_singerIs_115 rfl rfl (z_okl g5) ?_
                    refine y_getI lfX12_219 rfl g5 dX12_singerIs_116 ?_
                    refine z_if_eq (tgt := 126) dX12_singerIs_119 (by decide) (fun c14 => ?_) (fun c14 => ?_)
                    · have hf := z_if_t hf c14
                      refine z_iconst dX12_singerIs_126 kc_0 ?_
                      cases hf
                      exact z_iret hk ⟨_, rfl, rfl⟩ dX12_singerIs_127
                    · have hf := z_if_f hf c14
                      refine z_iconst dX12_singerIs_122 kc_1 ?_
                      refine z_goto (tgt := 127) dX12_singerIs_123 (by decide) ?_
                      cases hf
                      exact z_iret hk ⟨_, rfl, rfl⟩ dX12_singerIs_127
                  · have hf := z_if_f hf c13
                    by_cases c15 : x2 = (8 : Int32)
                    · have hf := z_if_t hf c15
                      refine z_tabIn (off := 104) (tgt := 128) dX12_singerIs_24 (by rw [c15]; decide) (by rw [c15]; decide) (by rw [c15]; rfl) (by decide) ?_
                      refine z_aload_n dX12_singerIs_128 rfl rfl (z_okl g_a0) ?_
                      refine y_getR lfX12_54 rfl g_a0 dX12_singerIs_129 ?_
                      refine z_aload_n dX12_singerIs_132 rfl rfl (z_okl g_a0) ?_
                      refine y_getR lfX12_61 rfl g_a0 dX12_singerIs_133 ?_
                      refine z_iload_n dX12_singerIs_136 rfl rfl ?_
                      obtain ⟨g17, hf⟩ := z_g_el hf
                      obtain ⟨q16, hq16, hf⟩ := z_b_el hf
                      refine y_cVi (av := [.ref (R a0 5), .int x1]) (Nat.le_trans (Nat.le_of_ble_eq_true rfl) hd) (wX2_isDone (z_dl rfl hd) hq16) oX2_isDone lmX12_222 iX2_isDone g17 rfl _ rfl rfl (Nat.le_of_ble_eq_true rfl) dX12_singerIs_137 ?_
                      refine z_if_eq (tgt := 147) dX12_singerIs_140 (by decide) (fun c18 => ?_) (fun c18 => ?_)
                      · have hf := z_if_t hf c18
                        refine z_iconst dX12_singerIs_147 kc_0 ?_
                        cases hf
                        exact z_iret hk ⟨_, rfl, rfl⟩ dX12_singerIs_148
                      · have hf := z_if_f hf c18
                        refine z_iconst dX12_singerIs_143 kc_1 ?_
                        refine z_goto (tgt := 148) dX12_singerIs_144 (by decide) ?_
                        cases hf
                        exact z_iret hk ⟨_, rfl, rfl⟩ dX12_singerIs_148
                    · have hf := z_if_f hf c15
                      by_cases c19 : x2 = (9 : Int32)
                      · have hf := z_if_t hf c19
                        refine z_tabIn (off := 125) (tgt := 149) dX12_singerIs_24 (by rw [c19]; decide) (by rw [c19]; decide) (by rw [c19]; rfl) (by decide) ?_
                        refine z_aload_n dX12_singerIs_149 rfl rfl (z_okl g_a0) ?_
                        refine y_getR lfX12_61 rfl g_a0 dX12_singerIs_150 ?_
                        refine z_iload_n dX12_singerIs_153 rfl rfl ?_
                        refine z_aload_n dX12_singerIs_154 rfl rfl (z_okl g_a0) ?_
                        refine y_getR lfX12_19 rfl g_a0 dX12_singerIs_155 ?_
                        obtain ⟨g20, hf⟩ := z_g_el hf
                        refine y_getI lfX12_126 rfl g20 dX12_singerIs_158 ?_
                        obtain ⟨q21, hq21, hf⟩ := z_b_el hf
                        refine y_cVi (av := [.int x1, .int (I (R a0 1) 4)]) (Nat.le_trans (Nat.le_of_ble_eq_true rfl) hd) (wX9_heardBits (z_dl rfl hd) hq21) oX9_heardBits lmX12_226 iX9_heardBits g2 rfl _ rfl rfl (Nat.le_of_ble_eq_true rfl) dX12_singerIs_161 ?_
                        cases hf
                        exact z_iret hk ⟨_, rfl, rfl⟩ dX12_singerIs_164
                      · have hf := z_if_f hf c19
                        have nc6 : ¬ (x2).toInt = 0 := z_toInt_ne c6
                        have nc7 : ¬ (x2).toInt = 1 := z_toInt_ne c7
                        have nc8 : ¬ (x2).toInt = 2 := z_toInt_ne c8
                        have nc9 : ¬ (x2).toInt = 3 := z_toInt_ne c9
                        have nc10 : ¬ (x2).toInt = 4 := z_toInt_ne c10
                        have nc11 : ¬ (x2).toInt = 5 := z_toInt_ne c11
                        have nc12 : ¬ (x2).toInt = 6 := z_toInt_ne c12
                        have nc13 : ¬ (x2).toInt = 7 := z_toInt_ne c13
                        have nc15 : ¬ (x2).toInt = 8 := z_toInt_ne c15
                        have nc19 : ¬ (x2).toInt = 9 := z_toInt_ne c19
                        refine z_tabOut (tgt := 165) dX12_singerIs_24 (by omega) (by decide) ?_
                        refine z_iconst dX12_singerIs_165 kc_m1 ?_
                        cases hf
                        exact z_iret hk ⟨_, rfl, rfl⟩ dX12_singerIs_166
  · have hf := z_if_t hf c3
    refine z_iconst dX12_singerIs_11 kc_m1 ?_
    cases hf
    exact z_iret hk ⟨_, rfl, rfl⟩ dX12_singerIs_12
theorem wX12_singerIs {G : z_G} {d : Nat} {a0 : Nat} {x1 : Int32} {x2 : Int32} {I : Nat → Nat → Int32} {R : Nat → Nat → Nat} {q : Int32} (hd : 3 ≤ d) (hf : fX12_singerIs a0 x1 x2 I R = some q) : z_M G d 0 0 eX12_singerIs [.ref a0, .int x1, .int x2] z_SH (I, R) (z_E (some (.int q)) (I, R)) :=
  y_M_of _ (by decide +kernel) rfl rfl rfl (vX12_singerIs hd hf ⟨rfl, rfl, rfl⟩)
def fX12_drift (a0 : Nat) (x1 : Int32) (I : Nat → Nat → Int32) (R : Nat → Nat → Nat) : Option (Int32) :=
  z_g (z_ob a0 12) (z_g (z_ob (R a0 5) 9) (z_b (fX9_isTold (R a0 5) x1 I R) (fun q1 => if q1 = 0 then (some (-100 : Int32)) else (z_g (z_ok 4 (R (R a0 5) 0) x1) (z_g (z_ob (R (R (R a0 5) 0) x1.toNatClampNeg) 8) (some (I (R (R (R a0 5) 0) x1.toNatClampNeg) 1)))))))
theorem vX12_drift {G : z_G} {d : Nat} {Q : Option Value → z_S → z_H → Prop} {a0 : Nat} {x1 : Int32} {I : Nat → Nat → Int32} {R : Nat → Nat → Nat} {q : Int32} (hd : 3 ≤ d) (hf : fX12_drift a0 x1 I R = some q) (hk : Q (some (.int q)) z_SH (I, R)) : z_W G eX12_drift d 0 0 0 [some (.ref a0), some (.int x1)] [] z_SH (I, R) Q := by
  unfold fX12_drift at hf
  obtain ⟨g_a0, hf⟩ := z_g_el hf
  refine z_aload_n dX12_drift_0 rfl rfl (z_okl g_a0) ?_
  refine y_getR lfX12_61 rfl g_a0 dX12_drift_1 ?_
  refine z_iload_n dX12_drift_4 rfl rfl ?_
  obtain ⟨g2, hf⟩ := z_g_el hf
  obtain ⟨q1, hq1, hf⟩ := z_b_el hf
  refine y_cVi (av := [.int x1]) (Nat.le_trans (Nat.le_of_ble_eq_true rfl) hd) (wX9_isTold (z_dl rfl hd) hq1) oX9_isTold lmX12_186 iX9_isTold g2 rfl _ rfl rfl (Nat.le_of_ble_eq_true rfl) dX12_drift_5 ?_
  refine z_if_eq (tgt := 26) dX12_drift_8 (by decide) (fun c3 => ?_) (fun c3 => ?_)
  · have hf := z_if_t hf c3
    refine z_bipush dX12_drift_26 kb_m100 ?_
    cases hf
    exact z_iret hk ⟨_, rfl, rfl⟩ dX12_drift_28
  · have hf := z_if_f hf c3
    refine z_aload_n dX12_drift_11 rfl rfl (z_okl g_a0) ?_
    refine y_getR lfX12_61 rfl g_a0 dX12_drift_12 ?_
    refine y_getR lfX12_100 rfl g2 dX12_drift_15 ?_
    refine z_iload_n dX12_drift_18 rfl rfl ?_
    obtain ⟨g4, hf⟩ := z_g_el hf
    refine y_aald (t := 1) (Or.inr rfl) g4 dX12_drift_19 ?_
    obtain ⟨g5, hf⟩ := z_g_el hf
    refine y_getI lfX12_110 rfl g5 dX12_drift_20 ?_
    refine z_goto (tgt := 28) dX12_drift_23 (by decide) ?_
    cases hf
    exact z_iret hk ⟨_, rfl, rfl⟩ dX12_drift_28
theorem wX12_drift {G : z_G} {d : Nat} {a0 : Nat} {x1 : Int32} {I : Nat → Nat → Int32} {R : Nat → Nat → Nat} {q : Int32} (hd : 3 ≤ d) (hf : fX12_drift a0 x1 I R = some q) : z_M G d 0 0 eX12_drift [.ref a0, .int x1] z_SH (I, R) (z_E (some (.int q)) (I, R)) :=
  y_M_of _ (by decide +kernel) rfl rfl rfl (vX12_drift hd hf ⟨rfl, rfl, rfl⟩)
def fX12_beat (a0 : Nat) (x1 : Int32) (x2 : Int32) (x3 : Int32) (I : Nat → Nat → Int32) (R : Nat → Nat → Nat) : Option (Int32) :=
  z_g (z_ob a0 12) (z_b (fX12_isSinger x1) (fun q1 => if q1 = 0 then (some (-1 : Int32)) else (z_g (z_ob (R a0 1) 7) (z_g (z_ok 3 (R (R a0 1) 0) x1) (z_g (z_ob (R (R (R a0 1) 0) x1.toNatClampNeg) 5) (z_b (fX5_length (R (R (R a0 1) 0) x1.toNatClampNeg) I) (fun q5 => z_b (fX12_within x2 (0 : Int32) (q5 - (1 : Int32))) (fun q7 => if q7 = 0 then (some (-1 : Int32)) else (if x3 = (0 : Int32) then (z_b (fX5_noteAt (R (R (R a0 1) 0) x1.toNatClampNeg) x2 I R) (fun q10 => some q10)) else (if x3 = (1 : Int32) then (z_b (fX5_hasFermata (R (R (R a0 1) 0) x1.toNatClampNeg) x2 I R) (fun q12 => if q12 = 0 then (some (0 : Int32)) else (some (1 : Int32)))) else (if x3 = (2 : Int32) then (z_b (fX5_hasBreath (R (R (R a0 1) 0) x1.toNatClampNeg) x2 I R) (fun q15 => if q15 = 0 then (some (0 : Int32)) else (some (1 : Int32)))) else (if x3 = (3 : Int32) then (z_b (fX5_begins (R (R (R a0 1) 0) x1.toNatClampNeg) x2 I R) (fun q18 => if q18 = 0 then (some (0 : Int32)) else (some (1 : Int32)))) else (some (-1 : Int32))))))))))))))
theorem vX12_beat {G : z_G} {d : Nat} {Q : Option Value → z_S → z_H → Prop} {a0 : Nat} {x1 : Int32} {x2 : Int32} {x3 : Int32} {I : Nat → Nat → Int32} {R : Nat → Nat → Nat} {q : Int32} (hd : 2 ≤ d) (hf : fX12_beat a0 x1 x2 x3 I R = some q) (hk : Q (some (.int q)) z_SH (I, R)) : z_W G eX12_beat d 0 0 0 [some (.ref a0), some (.int x1), some (.int x2), some (.int x3), none] [] z_SH (I, R) Q := by
  unfold fX12_beat at hf
  obtain ⟨g_a0, hf⟩ := z_g_el hf
  refine z_iload_n dX12_beat_0 rfl rfl ?_
  obtain ⟨q1, hq1, hf⟩ := z_b_el hf
  refine y_cSi (Nat.le_trans (Nat.le_of_ble_eq_true rfl) hd) (wX12_isSinger (z_dl rfl hd) hq1) oX12_isSinger lmX12_92 sX12_isSinger _ rfl rfl (Nat.le_of_ble_eq_true rfl) dX12_beat_1 ?_
  refine z_if_eq (tgt := 29) dX12_beat_4 (by decide) (fun c2 => ?_) (fun c2 => ?_)
  · have hf := z_if_t hf c2
    refine z_iconst dX12_beat_29 kc_m1 ?_
    cases hf
    exact z_iret hk ⟨_, rfl, rfl⟩ dX12_beat_30
  · have hf := z_if_f hf c2
    refine z_iload_n dX12_beat_7 rfl rfl ?_
    refine z_iconst dX12_beat_8 kc_0 ?_
    refine z_aload_n dX12_beat_9 rfl rfl (z_okl g_a0) ?_
    refine y_getR lfX12_19 rfl g_a0 dX12_beat_10 ?_
    obtain ⟨g3, hf⟩ := z_g_el hf
    refine y_getR lfX12_229 rfl g3 dX12_beat_13 ?_
    refine z_iload_n dX12_beat_16 rfl rfl ?_
    obtain ⟨g4, hf⟩ := z_g_el hf
    refine y_aald (t := 0) (Or.inl rfl) g4 dX12_beat_17 ?_
    obtain ⟨g6, hf⟩ := z_g_el hf
    obtain ⟨q5, hq5, hf⟩ := z_b_el hf
    refine y_cVi (av := []) (Nat.le_trans (Nat.le_of_ble_eq_true rfl) hd) (wX5_length (z_dl rfl hd) hq5) oX5_length lmX12_233 iX5_length g6 rfl _ rfl rfl (Nat.le_of_ble_eq_true rfl) dX12_beat_18 ?_
    refine z_iconst dX12_beat_21 kc_1 ?_
    refine z_isub dX12_beat_22 ?_
    obtain ⟨q7, hq7, hf⟩ := z_b_el hf
    refine y_cSi (Nat.le_trans (Nat.le_of_ble_eq_true rfl) hd) (wX12_within (z_dl rfl hd) hq7) oX12_within lmX12_96 sX12_within _ rfl rfl (Nat.le_of_ble_eq_true rfl) dX12_beat_23 ?_
    refine z_if_ne (tgt := 31) dX12_beat_26 (by decide) (fun c8 => ?_) (fun c8 => ?_)
    · have hf := z_if_f hf c8
      refine z_aload_n dX12_beat_31 rfl rfl (z_okl g_a0) ?_
      refine y_getR lfX12_19 rfl g_a0 dX12_beat_32 ?_
      refine y_getR lfX12_229 rfl g3 dX12_beat_35 ?_
      refine z_iload_n dX12_beat_38 rfl rfl ?_
      refine y_aald (t := 0) (Or.inl rfl) g4 dX12_beat_39 ?_
      refine y_astore [some (.ref a0), some (.int x1), some (.int x2), some (.int x3), some (.ref (R (R (R a0 1) 0) x1.toNatClampNeg))] dX12_beat_40 (by decide) (z_okl g6) rfl ?_
      refine z_iload_n dX12_beat_42 rfl rfl ?_
      by_cases c9 : x3 = (0 : Int32)
      · have hf := z_if_t hf c9
        refine z_tabIn (off := 29) (tgt := 72) dX12_beat_43 (by rw [c9]; decide) (by rw [c9]; decide) (by rw [c9]; rfl) (by decide) ?_
        refine z_aload dX12_beat_72 rfl (z_okl g6) ?_
        refine z_iload_n dX12_beat_74 rfl rfl ?_
        obtain ⟨q10, hq10, hf⟩ := z_b_el hf
        refine y_cVi (av := [.int x2]) (Nat.le_trans (Nat.le_of_ble_eq_true rfl) hd) (wX5_noteAt (z_dl rfl hd) hq10) oX5_noteAt lmX12_234 iX5_noteAt g6 rfl _ rfl rfl (Nat.le_of_ble_eq_true rfl) dX12_beat_75 ?_
        cases hf
        exact z_iret hk ⟨_, rfl, rfl⟩ dX12_beat_78
      · have hf := z_if_f hf c9
        by_cases c11 : x3 = (1 : Int32)
        · have hf := z_if_t hf c11
          refine z_tabIn (off := 36) (tgt := 79) dX12_beat_43 (by rw [c11]; decide) (by rw [c11]; decide) (by rw [c11]; rfl) (by decide) ?_
          refine z_aload dX12_beat_79 rfl (z_okl g6) ?_
          refine z_iload_n dX12_beat_81 rfl rfl ?_
          obtain ⟨q12, hq12, hf⟩ := z_b_el hf
          refine y_cVi (av := [.int x2]) (Nat.le_trans (Nat.le_of_ble_eq_true rfl) hd) (wX5_hasFermata (z_dl rfl hd) hq12) oX5_hasFermata lmX12_237 iX5_hasFermata g6 rfl _ rfl rfl (Nat.le_of_ble_eq_true rfl) dX12_beat_82 ?_
          refine z_if_eq (tgt := 92) dX12_beat_85 (by decide) (fun c13 => ?_) (fun c13 => ?_)
          · have hf := z_if_t hf c13
            refine z_iconst dX12_beat_92 kc_0 ?_
            cases hf
            exact z_iret hk ⟨_, rfl, rfl⟩ dX12_beat_93
          · have hf := z_if_f hf c13
            refine z_iconst dX12_beat_88 kc_1 ?_
            refine z_goto (tgt := 93) dX12_beat_89 (by decide) ?_
            cases hf
            exact z_iret hk ⟨_, rfl, rfl⟩ dX12_beat_93
        · have hf := z_if_f hf c11
          by_cases c14 : x3 = (2 : Int32)
          · have hf := z_if_t hf c14
            refine z_tabIn (off := 51) (tgt := 94) dX12_beat_43 (by rw [c14]; decide) (by rw [c14]; decide) (by rw [c14]; rfl) (by decide) ?_
            refine z_aload dX12_beat_94 rfl (z_okl g6) ?_
            refine z_iload_n dX12_beat_96 rfl rfl ?_
            obtain ⟨q15, hq15, hf⟩ := z_b_el hf
            refine y_cVi (av := [.int x2]) (Nat.le_trans (Nat.le_of_ble_eq_true rfl) hd) (wX5_hasBreath (z_dl rfl hd) hq15) oX5_hasBreath lmX12_240 iX5_hasBreath g6 rfl _ rfl rfl (Nat.le_of_ble_eq_true rfl) dX12_beat_97 ?_
            refine z_if_eq (tgt := 107) dX12_beat_100 (by decide) (fun c16 => ?_) (fun c16 => ?_)
            · have hf := z_if_t hf c16
              refine z_iconst dX12_beat_107 kc_0 ?_
              cases hf
              exact z_iret hk ⟨_, rfl, rfl⟩ dX12_beat_108
            · have hf := z_if_f hf c16
              refine z_iconst dX12_beat_103 kc_1 ?_
              refine z_goto (tgt := 108) dX12_beat_104 (by decide) ?_
              cases hf
              exact z_iret hk ⟨_, rfl, rfl⟩ dX12_beat_108
          · have hf := z_if_f hf c14
            by_cases c17 : x3 = (3 : Int32)
            · have hf := z_if_t hf c17
              refine z_tabIn (off := 66) (tgt := 109) dX12_beat_43 (by rw [c17]; decide) (by rw [c17]; decide) (by rw [c17]; rfl) (by decide) ?_
              refine z_aload dX12_beat_109 rfl (z_okl g6) ?_
              refine z_iload_n dX12_beat_111 rfl rfl ?_
              obtain ⟨q18, hq18, hf⟩ := z_b_el hf
              refine y_cVi (av := [.int x2]) (Nat.le_trans (Nat.le_of_ble_eq_true rfl) hd) (wX5_begins (z_dl rfl hd) hq18) oX5_begins lmX12_243 iX5_begins g6 rfl _ rfl rfl (Nat.le_of_ble_eq_true rfl) dX12_beat_112 ?_
              refine z_if_eq (tgt := 122) dX12_beat_115 (by decide) (fun c19 => ?_) (fun c19 => ?_)
              · have hf := z_if_t hf c19
                refine z_iconst dX12_beat_122 kc_0 ?_
                cases hf
                exact z_iret hk ⟨_, rfl, rfl⟩ dX12_beat_123
              · have hf := z_if_f hf c19
                refine z_iconst dX12_beat_118 kc_1 ?_
                refine z_goto (tgt := 123) dX12_beat_119 (by decide) ?_
                cases hf
                exact z_iret hk ⟨_, rfl, rfl⟩ dX12_beat_123
            · have hf := z_if_f hf c17
              have nc9 : ¬ (x3).toInt = 0 := z_toInt_ne c9
              have nc11 : ¬ (x3).toInt = 1 := z_toInt_ne c11
              have nc14 : ¬ (x3).toInt = 2 := z_toInt_ne c14
              have nc17 : ¬ (x3).toInt = 3 := z_toInt_ne c17
              refine z_tabOut (tgt := 124) dX12_beat_43 (by omega) (by decide) ?_
              refine z_iconst dX12_beat_124 kc_m1 ?_
              cases hf
              exact z_iret hk ⟨_, rfl, rfl⟩ dX12_beat_125
    · have hf := z_if_t hf c8
      refine z_iconst dX12_beat_29 kc_m1 ?_
      cases hf
      exact z_iret hk ⟨_, rfl, rfl⟩ dX12_beat_30
theorem wX12_beat {G : z_G} {d : Nat} {a0 : Nat} {x1 : Int32} {x2 : Int32} {x3 : Int32} {I : Nat → Nat → Int32} {R : Nat → Nat → Nat} {q : Int32} (hd : 2 ≤ d) (hf : fX12_beat a0 x1 x2 x3 I R = some q) : z_M G d 0 0 eX12_beat [.ref a0, .int x1, .int x2, .int x3] z_SH (I, R) (z_E (some (.int q)) (I, R)) :=
  y_M_of _ (by decide +kernel) rfl rfl rfl (vX12_beat hd hf ⟨rfl, rfl, rfl⟩)
def fX12_highest_b3 (z0 : Int32) : (Int32) → Option ((Int32) ⊕ ((Int32) ⊕ (Unit))) :=
  fun s => (fun (p1 : Int32) => if p1 < 0 then (some (.inr (.inr (())))) else (if ((z_shr z0 p1) &&& (1 : Int32)) = 0 then (z_l (p1 + (-1 : Int32)) (fun t3 => some (.inl t3))) else (some (.inr (.inl p1))))) s
theorem wX12_highest_b3 {G : z_G} {d : Nat} {Q : Option Value → z_S → z_H → Prop} {z0 : Int32} {I : Nat → Nat → Int32} {R : Nat → Nat → Nat} (hd : 0 ≤ d)  : ∀ (s : Int32) (o : (Int32) ⊕ ((Int32) ⊕ (Unit))), fX12_highest_b3 z0 s = some o → z_or (fun s : Int32 => z_W G eX12_highest d 0 0 3 [some (.int z0), some (.int s)] [] z_SH (I, R) Q) (z_or (fun r : Int32 => Q (some (.int r)) z_SH (I, R)) (fun x : Unit => z_W G eX12_highest d 0 0 23 [none, none] [] z_SH (I, R) Q)) o → (fun s : Int32 => z_W G eX12_highest d 0 0 3 [some (.int z0), some (.int s)] [] z_SH (I, R) Q) s := by
  intro p1 o hf hk
  show z_W G eX12_highest d 0 0 3 [some (.int z0), some (.int p1)] [] z_SH (I, R) Q
  unfold fX12_highest_b3 at hf
  try dsimp only at hf
  refine z_iload_n dX12_highest_3 rfl rfl ?_
  refine z_if_lt (tgt := 23) dX12_highest_4 (by decide) (fun c1 => ?_) (fun c1 => ?_)
  · have hf := z_if_t hf c1
    cases hf
    exact y_sub hk (z_le_n (z_le_n z_le_0))
  · have hf := z_if_f hf c1
    refine z_iload_n dX12_highest_7 rfl rfl ?_
    refine z_iload_n dX12_highest_8 rfl rfl ?_
    refine y_ishr dX12_highest_9 ?_
    refine z_iconst dX12_highest_10 kc_1 ?_
    refine z_iand dX12_highest_11 ?_
    refine z_if_eq (tgt := 17) dX12_highest_12 (by decide) (fun c2 => ?_) (fun c2 => ?_)
    · have hf := z_if_t hf c2
      refine y_iinc (fun t3 => [some (.int z0), some (.int t3)]) dX12_highest_17 rfl kc_m1 (by decide) (fun _ => rfl) (fun t3 et3 => ?_)
      have hf := z_l_el hf et3
      refine z_goto (tgt := 3) dX12_highest_20 (by decide) ?_
      cases hf
      exact y_sub hk (z_le_c rfl (z_le_c rfl z_le_0))
    · have hf := z_if_f hf c2
      refine z_iload_n dX12_highest_15 rfl rfl ?_
      cases hf
      exact z_iret hk ⟨_, rfl, rfl⟩ dX12_highest_16
def fX12_highest (x0 : Int32) : Option (Int32) :=
  z_b (z_lp (fX12_highest_b3 x0) 300 (7 : Int32)) (fun q4 => z_x q4 (fun q6 => some q6) (fun q5 => some (-1 : Int32)))
theorem vX12_highest {G : z_G} {d : Nat} {Q : Option Value → z_S → z_H → Prop} {x0 : Int32} {I : Nat → Nat → Int32} {R : Nat → Nat → Nat} {q : Int32} (hd : 0 ≤ d) (hf : fX12_highest x0 = some q) (hk : Q (some (.int q)) z_SH (I, R)) : z_W G eX12_highest d 0 0 0 [some (.int x0), none] [] z_SH (I, R) Q := by
  unfold fX12_highest at hf
  refine z_bipush dX12_highest_0 kb_7 ?_
  refine y_istore_n0 [some (.int x0), some (.int (7 : Int32))] dX12_highest_2 rfl (by decide) rfl ?_
  obtain ⟨q4, hq4, hf⟩ := z_b_el hf
  refine y_sub (lv' := [some (.int x0), some (.int (7 : Int32))]) ?_ (z_le_c rfl (z_le_c rfl z_le_0))
  refine z_lp_el (P := (fun s : Int32 => z_W G eX12_highest d 0 0 3 [some (.int x0), some (.int s)] [] z_SH (I, R) Q)) (E := (z_or (fun r : Int32 => Q (some (.int r)) z_SH (I, R)) (fun x : Unit => z_W G eX12_highest d 0 0 23 [none, none] [] z_SH (I, R) Q))) (wX12_highest_b3 hd ) 300 (7 : Int32) q4 hq4 ?_
  rcases q4 with q6 | q5
  · have hf := z_x_l hf
    cases hf
    exact hk
  · have hf := z_x_r hf
    show z_W G eX12_highest d 0 0 23 [none, none] [] z_SH (I, R) _
    refine z_iconst dX12_highest_23 kc_m1 ?_
    cases hf
    exact z_iret hk ⟨_, rfl, rfl⟩ dX12_highest_24
theorem wX12_highest {G : z_G} {d : Nat} {x0 : Int32} {I : Nat → Nat → Int32} {R : Nat → Nat → Nat} {q : Int32} (hd : 0 ≤ d) (hf : fX12_highest x0 = some q) : z_M G d 0 0 eX12_highest [.int x0] z_SH (I, R) (z_E (some (.int q)) (I, R)) :=
  y_M_of _ (by decide +kernel) rfl rfl rfl (vX12_highest hd hf ⟨rfl, rfl, rfl⟩)
def fX12_end_b74 (a0 : Nat) (z1 : Int32) (z2 : Int32) (z3 : Int32) (R : Nat → Nat → Nat) : (Int32 × Int32 × (Nat → Nat → Int32)) → Option ((Int32 × Int32 × (Nat → Nat → Int32)) ⊕ ((Int32 × (Nat → Nat → Int32)) ⊕ (Int32 × Int32 × Int32 × (Nat → Nat → Int32)))) :=
  fun s => (fun (p4 : Int32) (p5 : Int32) (I : Nat → Nat → Int32) => if z1 < p5 then (some (.inr (.inl ((-2 : Int32), I)))) else (z_g (z_ob (R a0 4) 2) (z_b (fX2_step (R a0 4) (R a0 6) I R) (fun q14 => z_b (fX2_doneBits (R a0 4) (R a0 6) q14.2 R) (fun q16 => if q16 = z3 then (some (.inr (.inr (p4, p5, q16, q14.2)))) else (z_l (p5 + (1 : Int32)) (fun t18 => some (.inl (q16, t18, q14.2))))))))) s.1 s.2.1 s.2.2
theorem wX12_end_b74 {G : z_G} {d : Nat} {Q : Option Value → z_S → z_H → Prop} {a0 : Nat} {z1 : Int32} {z2 : Int32} {z3 : Int32} {R : Nat → Nat → Nat} (hd : 6 ≤ d) (g_a0 : z_ob a0 12) : ∀ (s : Int32 × Int32 × (Nat → Nat → Int32)) (o : (Int32 × Int32 × (Nat → Nat → Int32)) ⊕ ((Int32 × (Nat → Nat → Int32)) ⊕ (Int32 × Int32 × Int32 × (Nat → Nat → Int32)))), fX12_end_b74 a0 z1 z2 z3 R s = some o → z_or (fun s : Int32 × Int32 × (Nat → Nat → Int32) => z_W G eX12_end d 0 0 74 [some (.ref a0), some (.int z1), some (.int z2), some (.int z3), some (.int s.1), some (.int s.2.1), none] [] z_SH (s.2.2, R) Q) (z_or (fun r : Int32 × (Nat → Nat → Int32) => Q (some (.int r.1)) z_SH (r.2, R)) (fun x : Int32 × Int32 × Int32 × (Nat → Nat → Int32) => z_W G eX12_end d 0 0 111 [none, none, some (.int z2), none, some (.int x.1), some (.int x.2.1), some (.int x.2.2.1)] [] z_SH (x.2.2.2, R) Q)) o → (fun s : Int32 × Int32 × (Nat → Nat → Int32) => z_W G eX12_end d 0 0 74 [some (.ref a0), some (.int z1), some (.int z2), some (.int z3), some (.int s.1), some (.int s.2.1), none] [] z_SH (s.2.2, R) Q) s := by
  rintro ⟨p4, p5, I⟩ o hf hk
  show z_W G eX12_end d 0 0 74 [some (.ref a0), some (.int z1), some (.int z2), some (.int z3), some (.int p4), some (.int p5), none] [] z_SH (I, R) Q
  unfold fX12_end_b74 at hf
  try dsimp only at hf
  refine z_iload dX12_end_74 rfl ?_
  refine z_iload_n dX12_end_76 rfl rfl ?_
  refine z_icmp_gt (tgt := 141) dX12_end_77 (by decide) (fun c13 => ?_) (fun c13 => ?_)
  · have hf := z_if_t hf c13
    refine z_bipush dX12_end_141 kb_m2 ?_
    cases hf
    exact z_iret hk ⟨_, rfl, rfl⟩ dX12_end_143
  · have hf := z_if_f hf c13
    refine z_aload_n dX12_end_80 rfl rfl (z_okl g_a0) ?_
    refine y_getR lfX12_54 rfl g_a0 dX12_end_81 ?_
    refine z_aload_n dX12_end_84 rfl rfl (z_okl g_a0) ?_
    refine y_getR lfX12_65 rfl g_a0 dX12_end_85 ?_
    obtain ⟨g15, hf⟩ := z_g_el hf
    obtain ⟨q14, hq14, hf⟩ := z_b_el hf
    refine y_cVi (av := [.ref (R a0 6)]) (Nat.le_trans (Nat.le_of_ble_eq_true rfl) hd) (wX2_step (z_dl rfl hd) hq14) oX2_step lmX12_179 iX2_step g15 rfl _ rfl rfl (Nat.le_of_ble_eq_true rfl) dX12_end_88 ?_
    refine z_pop dX12_end_91 rfl ?_
    refine z_aload_n dX12_end_92 rfl rfl (z_okl g_a0) ?_
    refine y_getR lfX12_54 rfl g_a0 dX12_end_93 ?_
    refine z_aload_n dX12_end_96 rfl rfl (z_okl g_a0) ?_
    refine y_getR lfX12_65 rfl g_a0 dX12_end_97 ?_
    obtain ⟨q16, hq16, hf⟩ := z_b_el hf
    refine y_cVi (av := [.ref (R a0 6)]) (Nat.le_trans (Nat.le_of_ble_eq_true rfl) hd) (wX2_doneBits (z_dl rfl hd) hq16) oX2_doneBits lmX12_246 iX2_doneBits g15 rfl _ rfl rfl (Nat.le_of_ble_eq_true rfl) dX12_end_100 ?_
    refine y_istore0 [some (.ref a0), some (.int z1), some (.int z2), some (.int z3), some (.int p4), some (.int p5), some (.int q16)] dX12_end_103 (by decide) rfl ?_
    refine z_iload dX12_end_105 rfl ?_
    refine z_iload_n dX12_end_107 rfl rfl ?_
    refine z_icmp_ne (tgt := 131) dX12_end_108 (by decide) (fun c17 => ?_) (fun c17 => ?_)
    · have hf := z_if_f hf c17
      refine z_iload dX12_end_131 rfl ?_
      refine y_istore0 [some (.ref a0), some (.int z1), some (.int z2), some (.int z3), some (.int q16), some (.int p5), some (.int q16)] dX12_end_133 (by decide) rfl ?_
      refine y_iinc (fun t18 => [some (.ref a0), some (.int z1), some (.int z2), some (.int z3), some (.int q16), some (.int t18), some (.int q16)]) dX12_end_135 rfl kc_1 (by decide) (fun _ => rfl) (fun t18 et18 => ?_)
      have hf := z_l_el hf et18
      refine z_goto (tgt := 74) dX12_end_138 (by decide) ?_
      cases hf
      exact y_sub hk (z_le_c rfl (z_le_c rfl (z_le_c rfl (z_le_c rfl (z_le_c rfl (z_le_c rfl (z_le_n z_le_0)))))))
    · have hf := z_if_t hf c17
      cases hf
      exact y_sub hk (z_le_n (z_le_n (z_le_c rfl (z_le_n (z_le_c rfl (z_le_c rfl (z_le_c rfl z_le_0)))))))
def fX12_end (a0 : Nat) (x1 : Int32) (x2 : Int32) (I : Nat → Nat → Int32) (R : Nat → Nat → Nat) : Option (Int32 × (Nat → Nat → Int32)) :=
  z_g (z_ob a0 12) (z_g (z_ob (R a0 5) 9) (z_b (fX9_toldBits (R a0 5) I R) (fun q1 => z_b (fX12_areTicks x1) (fun q3 => if q3 = 0 then (some ((-1 : Int32), I)) else (z_b (fX12_within x2 (0 : Int32) (1 : Int32)) (fun q5 => if q5 = 0 then (some ((-1 : Int32), I)) else (if q1 = 0 then (some ((-1 : Int32), I)) else (z_g (z_ob (R a0 4) 2) (z_b (fX2_doneBits (R a0 4) (R a0 5) I R) (fun q8 => if q8 = q1 then (if x2 = 0 then (some ((0 : Int32), I)) else (some ((-2 : Int32), I))) else (z_g (z_ob (R a0 6) 9) (z_b (fX9_copyFrom (R a0 6) (R a0 5) I R) (fun q11 => z_b (z_lp (fX12_end_b74 a0 x1 x2 q1 R) 300 (q8, (1 : Int32), q11)) (fun q19 => z_x q19 (fun q21 => some q21) (fun q20 => if x2 = 0 then (some (q20.2.1, q20.2.2.2)) else (z_b (fX12_highest (q20.2.2.1 &&& (q20.1 ^^^ (-1 : Int32)))) (fun q23 => some (q23, q20.2.2.2))))))))))))))))))
set_option maxRecDepth 20000 in
theorem vX12_end {G : z_G} {d : Nat} {Q : Option Value → z_S → z_H → Prop} {a0 : Nat} {x1 : Int32} {x2 : Int32} {I : Nat → Nat → Int32} {R : Nat → Nat → Nat} {q : Int32 × (Nat → Nat → Int32)} (hd : 6 ≤ d) (hf : fX12_end a0 x1 x2 I R = some q) (hk : Q (some (.int q.1)) z_SH (q.2, R)) : z_W G eX12_end d 0 0 0 [some (.ref a0), some (.int x1), some (.int x2), none, none, none, none] [] z_SH (I, R) Q := by
  unfold fX12_end at hf
  obtain ⟨g_a0, hf⟩ := z_g_el hf
  refine z_aload_n dX12_end_0 rfl rfl (z_okl g_a0) ?_
  refine y_getR lfX12_61 rfl g_a0 dX12_end_1 ?_
  obtain ⟨g2, hf⟩ := z_g_el hf
  obtain ⟨q1, hq1, hf⟩ := z_b_el hf
  refine y_cVi (av := []) (Nat.le_trans (Nat.le_of_ble_eq_true rfl) hd) (wX9_toldBits (z_dl rfl hd) hq1) oX9_toldBits lmX12_132 iX9_toldBits g2 rfl _ rfl rfl (Nat.le_of_ble_eq_true rfl) dX12_end_4 ?_
  refine y_istore_n0 [some (.ref a0), some (.int x1), some (.int x2), some (.int q1), none, none, none] dX12_end_7 rfl (by decide) rfl ?_
  refine z_iload_n dX12_end_8 rfl rfl ?_
  obtain ⟨q3, hq3, hf⟩ := z_b_el hf
  refine y_cSi (Nat.le_trans (Nat.le_of_ble_eq_true rfl) hd) (wX12_areTicks (z_dl rfl hd) hq3) oX12_areTicks lmX12_173 sX12_areTicks _ rfl rfl (Nat.le_of_ble_eq_true rfl) dX12_end_9 ?_
  refine z_if_eq (tgt := 28) dX12_end_12 (by decide) (fun c4 => ?_) (fun c4 => ?_)
  · have hf := z_if_t hf c4
    refine z_iconst dX12_end_28 kc_m1 ?_
    cases hf
    exact z_iret hk ⟨_, rfl, rfl⟩ dX12_end_29
  · have hf := z_if_f hf c4
    refine z_iload_n dX12_end_15 rfl rfl ?_
    refine z_iconst dX12_end_16 kc_0 ?_
    refine z_iconst dX12_end_17 kc_1 ?_
    obtain ⟨q5, hq5, hf⟩ := z_b_el hf
    refine y_cSi (Nat.le_trans (Nat.le_of_ble_eq_true rfl) hd) (wX12_within (z_dl rfl hd) hq5) oX12_within lmX12_96 sX12_within _ rfl rfl (Nat.le_of_ble_eq_true rfl) dX12_end_18 ?_
    refine z_if_eq (tgt := 28) dX12_end_21 (by decide) (fun c6 => ?_) (fun c6 => ?_)
    · have hf := z_if_t hf c6
      refine z_iconst dX12_end_28 kc_m1 ?_
      cases hf
      exact z_iret hk ⟨_, rfl, rfl⟩ dX12_end_29
    · have hf := z_if_f hf c6
      refine z_iload_n dX12_end_24 rfl rfl ?_
      refine z_if_ne (tgt := 30) dX12_end_25 (by decide) (fun c7 => ?_) (fun c7 => ?_)
      · have hf := z_if_f hf c7
        refine z_aload_n dX12_end_30 rfl rfl (z_okl g_a0) ?_
        refine y_getR lfX12_54 rfl g_a0 dX12_end_31 ?_
        refine z_aload_n dX12_end_34 rfl rfl (z_okl g_a0) ?_
        refine y_getR lfX12_61 rfl g_a0 dX12_end_35 ?_
        obtain ⟨g9, hf⟩ := z_g_el hf
        obtain ⟨q8, hq8, hf⟩ := z_b_el hf
        refine y_cVi (av := [.ref (R a0 5)]) (Nat.le_trans (Nat.le_of_ble_eq_true rfl) hd) (wX2_doneBits (z_dl rfl hd) hq8) oX2_doneBits lmX12_246 iX2_doneBits g9 rfl _ rfl rfl (Nat.le_of_ble_eq_true rfl) dX12_end_38 ?_
        refine y_istore0 [some (.ref a0), some (.int x1), some (.int x2), some (.int q1), some (.int q8), none, none] dX12_end_41 (by decide) rfl ?_
        refine z_iload dX12_end_43 rfl ?_
        refine z_iload_n dX12_end_45 rfl rfl ?_
        refine z_icmp_ne (tgt := 60) dX12_end_46 (by decide) (fun c10 => ?_) (fun c10 => ?_)
        · have hf := z_if_f hf c10
          refine z_aload_n dX12_end_60 rfl rfl (z_okl g_a0) ?_
          refine y_getR lfX12_65 rfl g_a0 dX12_end_61 ?_
          refine z_aload_n dX12_end_64 rfl rfl (z_okl g_a0) ?_
          refine y_getR lfX12_61 rfl g_a0 dX12_end_65 ?_
          obtain ⟨g12, hf⟩ := z_g_el hf
          obtain ⟨q11, hq11, hf⟩ := z_b_el hf
          refine y_cVv (av := [.ref (R a0 5)]) (Nat.le_trans (Nat.le_of_ble_eq_true rfl) hd) (wX9_copyFrom (z_dl rfl hd) hq11) oX9_copyFrom lmX12_189 iX9_copyFrom g12 rfl _ rfl rfl (Nat.le_of_ble_eq_true rfl) dX12_end_68 ?_
          refine z_iconst dX12_end_71 kc_1 ?_
          refine y_istore0 [some (.ref a0), some (.int x1), some (.int x2), some (.int q1), some (.int q8), some (.int (1 : Int32)), none] dX12_end_72 (by decide) rfl ?_
          obtain ⟨q19, hq19, hf⟩ := z_b_el hf
          refine y_sub (lv' := [some (.ref a0), some (.int x1), some (.int x2), some (.int q1), some (.int q8), some (.int (1 : Int32)), none]) ?_ (z_le_c rfl (z_le_c rfl (z_le_c rfl (z_le_c rfl (z_le_c rfl (z_le_c rfl (z_le_n z_le_0)))))))
          refine z_lp_el (P := (fun s : Int32 × Int32 × (Nat → Nat → Int32) => z_W G eX12_end d 0 0 74 [some (.ref a0), some (.int x1), some (.int x2), some (.int q1), some (.int s.1), some (.int s.2.1), none] [] z_SH (s.2.2, R) Q)) (E := (z_or (fun r : Int32 × (Nat → Nat → Int32) => Q (some (.int r.1)) z_SH (r.2, R)) (fun x : Int32 × Int32 × Int32 × (Nat → Nat → Int32) => z_W G eX12_end d 0 0 111 [none, none, some (.int x2), none, some (.int x.1), some (.int x.2.1), some (.int x.2.2.1)] [] z_SH (x.2.2.2, R) Q))) (wX12_end_b74 hd g_a0) 300 (q8, (1 : Int32), q11) q19 hq19 ?_
          rcases q19 with q21 | q20
          · have hf := z_x_l hf
            cases hf
            exact hk
          · have hf := z_x_r hf
            show z_W G eX12_end d 0 0 111 [none, none, some (.int x2), none, some (.int q20.1), some (.int q20.2.1), some (.int q20.2.2.1)] [] z_SH (q20.2.2.2, R) _
            refine z_iload_n dX12_end_111 rfl rfl ?_
            refine z_if_ne (tgt := 120) dX12_end_112 (by decide) (fun c22 => ?_) (fun c22 => ?_)
            · have hf := z_if_f hf c22
              refine z_iload dX12_end_120 rfl ?_
              refine z_iload dX12_end_122 rfl ?_
              refine z_iconst dX12_end_124 kc_m1 ?_
              refine z_ixor dX12_end_125 ?_
              refine z_iand dX12_end_126 ?_
              obtain ⟨q23, hq23, hf⟩ := z_b_el hf
              refine y_cSi (Nat.le_trans (Nat.le_of_ble_eq_true rfl) hd) (wX12_highest (z_dl rfl hd) hq23) oX12_highest lmX12_250 sX12_highest _ rfl rfl (Nat.le_of_ble_eq_true rfl) dX12_end_127 ?_
              cases hf
              exact z_iret hk ⟨_, rfl, rfl⟩ dX12_end_130
            · have hf := z_if_t hf c22
              refine z_iload dX12_end_115 rfl ?_
              refine z_goto (tgt := 130) dX12_end_117 (by decide) ?_
              cases hf
              exact z_iret hk ⟨_, rfl, rfl⟩ dX12_end_130
        · have hf := z_if_t hf c10
          refine z_iload_n dX12_end_49 rfl rfl ?_
          refine z_if_ne (tgt := 57) dX12_end_50 (by decide) (fun c24 => ?_) (fun c24 => ?_)
          · have hf := z_if_f hf c24
            refine z_bipush dX12_end_57 kb_m2 ?_
            cases hf
            exact z_iret hk ⟨_, rfl, rfl⟩ dX12_end_59
          · have hf := z_if_t hf c24
            refine z_iconst dX12_end_53 kc_0 ?_
            refine z_goto (tgt := 59) dX12_end_54 (by decide) ?_
            cases hf
            exact z_iret hk ⟨_, rfl, rfl⟩ dX12_end_59
      · have hf := z_if_t hf c7
        refine z_iconst dX12_end_28 kc_m1 ?_
        cases hf
        exact z_iret hk ⟨_, rfl, rfl⟩ dX12_end_29
theorem wX12_end {G : z_G} {d : Nat} {a0 : Nat} {x1 : Int32} {x2 : Int32} {I : Nat → Nat → Int32} {R : Nat → Nat → Nat} {q : Int32 × (Nat → Nat → Int32)} (hd : 6 ≤ d) (hf : fX12_end a0 x1 x2 I R = some q) : z_M G d 0 0 eX12_end [.ref a0, .int x1, .int x2] z_SH (I, R) (z_E (some (.int q.1)) (q.2, R)) :=
  y_M_of _ (by decide +kernel) rfl rfl rfl (vX12_end hd hf ⟨rfl, rfl, rfl⟩)
def fX12_spread_b24 (a0 : Nat) (z1 : Int32) (R : Nat → Nat → Nat) : (Int32 × Int32 × (Nat → Nat → Int32)) → Option ((Int32 × Int32 × (Nat → Nat → Int32)) ⊕ (Int32 × (Nat → Nat → Int32))) :=
  fun s => (fun (p2 : Int32) (p3 : Int32) (I : Nat → Nat → Int32) => if z1 ≤ p3 then (some (.inr (p2, I))) else (z_g (z_ob (R a0 4) 2) (z_b (fX2_step (R a0 4) (R a0 6) I R) (fun q6 => if q6.1 = 0 then (some (.inr (p2, q6.2))) else (z_b (fX2_apart (R a0 4) (R a0 6) q6.2 R) (fun q9 => z_l (z_max p2 q9) (fun t10 => z_l (p3 + (1 : Int32)) (fun t11 => some (.inl (t10, t11, q6.2)))))))))) s.1 s.2.1 s.2.2
theorem wX12_spread_b24 {G : z_G} {d : Nat} {Q : Option Value → z_S → z_H → Prop} {a0 : Nat} {z1 : Int32} {R : Nat → Nat → Nat} (hd : 6 ≤ d) (g_a0 : z_ob a0 12) : ∀ (s : Int32 × Int32 × (Nat → Nat → Int32)) (o : (Int32 × Int32 × (Nat → Nat → Int32)) ⊕ (Int32 × (Nat → Nat → Int32))), fX12_spread_b24 a0 z1 R s = some o → z_or (fun s : Int32 × Int32 × (Nat → Nat → Int32) => z_W G eX12_spread d 0 0 24 [some (.ref a0), some (.int z1), some (.int s.1), some (.int s.2.1)] [] z_SH (s.2.2, R) Q) (fun x : Int32 × (Nat → Nat → Int32) => z_W G eX12_spread d 0 0 65 [none, none, some (.int x.1), none] [] z_SH (x.2, R) Q) o → (fun s : Int32 × Int32 × (Nat → Nat → Int32) => z_W G eX12_spread d 0 0 24 [some (.ref a0), some (.int z1), some (.int s.1), some (.int s.2.1)] [] z_SH (s.2.2, R) Q) s := by
  rintro ⟨p2, p3, I⟩ o hf hk
  show z_W G eX12_spread d 0 0 24 [some (.ref a0), some (.int z1), some (.int p2), some (.int p3)] [] z_SH (I, R) Q
  unfold fX12_spread_b24 at hf
  try dsimp only at hf
  refine z_iload_n dX12_spread_24 rfl rfl ?_
  refine z_iload_n dX12_spread_25 rfl rfl ?_
  refine z_icmp_ge (tgt := 65) dX12_spread_26 (by decide) (fun c5 => ?_) (fun c5 => ?_)
  · have hf := z_if_t hf c5
    cases hf
    exact y_sub hk (z_le_n (z_le_n (z_le_c rfl (z_le_n z_le_0))))
  · have hf := z_if_f hf c5
    refine z_aload_n dX12_spread_29 rfl rfl (z_okl g_a0) ?_
    refine y_getR lfX12_54 rfl g_a0 dX12_spread_30 ?_
    refine z_aload_n dX12_spread_33 rfl rfl (z_okl g_a0) ?_
    refine y_getR lfX12_65 rfl g_a0 dX12_spread_34 ?_
    obtain ⟨g7, hf⟩ := z_g_el hf
    obtain ⟨q6, hq6, hf⟩ := z_b_el hf
    refine y_cVi (av := [.ref (R a0 6)]) (Nat.le_trans (Nat.le_of_ble_eq_true rfl) hd) (wX2_step (z_dl rfl hd) hq6) oX2_step lmX12_179 iX2_step g7 rfl _ rfl rfl (Nat.le_of_ble_eq_true rfl) dX12_spread_37 ?_
    refine z_if_eq (tgt := 65) dX12_spread_40 (by decide) (fun c8 => ?_) (fun c8 => ?_)
    · have hf := z_if_t hf c8
      cases hf
      exact y_sub hk (z_le_n (z_le_n (z_le_c rfl (z_le_n z_le_0))))
    · have hf := z_if_f hf c8
      refine z_iload_n dX12_spread_43 rfl rfl ?_
      refine z_aload_n dX12_spread_44 rfl rfl (z_okl g_a0) ?_
      refine y_getR lfX12_54 rfl g_a0 dX12_spread_45 ?_
      refine z_aload_n dX12_spread_48 rfl rfl (z_okl g_a0) ?_
      refine y_getR lfX12_65 rfl g_a0 dX12_spread_49 ?_
      obtain ⟨q9, hq9, hf⟩ := z_b_el hf
      refine y_cVi (av := [.ref (R a0 6)]) (Nat.le_trans (Nat.le_of_ble_eq_true rfl) hd) (wX2_apart (z_dl rfl hd) hq9) oX2_apart lmX12_253 iX2_apart g7 rfl _ rfl rfl (Nat.le_of_ble_eq_true rfl) dX12_spread_52 ?_
      refine y_max (Nat.le_trans (Nat.le_of_ble_eq_true rfl) hd) lmX12_256 (Nat.le_of_ble_eq_true rfl) dX12_spread_55 ?_
      refine y_istore_n (fun t10 => [some (.ref a0), some (.int z1), some (.int t10), some (.int p3)]) dX12_spread_58 rfl (by decide) (fun _ => rfl) (fun t10 et10 => ?_)
      have hf := z_l_el hf et10
      refine y_iinc (fun t11 => [some (.ref a0), some (.int z1), some (.int t10), some (.int t11)]) dX12_spread_59 rfl kc_1 (by decide) (fun _ => rfl) (fun t11 et11 => ?_)
      have hf := z_l_el hf et11
      refine z_goto (tgt := 24) dX12_spread_62 (by decide) ?_
      cases hf
      exact y_sub hk (z_le_c rfl (z_le_c rfl (z_le_c rfl (z_le_c rfl z_le_0))))
def fX12_spread (a0 : Nat) (x1 : Int32) (I : Nat → Nat → Int32) (R : Nat → Nat → Nat) : Option (Int32 × (Nat → Nat → Int32)) :=
  z_g (z_ob a0 12) (z_b (fX12_areTicks x1) (fun q1 => if q1 = 0 then (some ((-1 : Int32), I)) else (z_g (z_ob (R a0 6) 9) (z_b (fX9_copyFrom (R a0 6) (R a0 5) I R) (fun q3 => z_b (z_lp (fX12_spread_b24 a0 x1 R) 300 ((0 : Int32), (0 : Int32), q3)) (fun q12 => some (q12.1, q12.2)))))))
theorem vX12_spread {G : z_G} {d : Nat} {Q : Option Value → z_S → z_H → Prop} {a0 : Nat} {x1 : Int32} {I : Nat → Nat → Int32} {R : Nat → Nat → Nat} {q : Int32 × (Nat → Nat → Int32)} (hd : 6 ≤ d) (hf : fX12_spread a0 x1 I R = some q) (hk : Q (some (.int q.1)) z_SH (q.2, R)) : z_W G eX12_spread d 0 0 0 [some (.ref a0), some (.int x1), none, none] [] z_SH (I, R) Q := by
  unfold fX12_spread at hf
  obtain ⟨g_a0, hf⟩ := z_g_el hf
  refine z_iload_n dX12_spread_0 rfl rfl ?_
  obtain ⟨q1, hq1, hf⟩ := z_b_el hf
  refine y_cSi (Nat.le_trans (Nat.le_of_ble_eq_true rfl) hd) (wX12_areTicks (z_dl rfl hd) hq1) oX12_areTicks lmX12_173 sX12_areTicks _ rfl rfl (Nat.le_of_ble_eq_true rfl) dX12_spread_1 ?_
  refine z_if_ne (tgt := 9) dX12_spread_4 (by decide) (fun c2 => ?_) (fun c2 => ?_)
  · have hf := z_if_f hf c2
    refine z_aload_n dX12_spread_9 rfl rfl (z_okl g_a0) ?_
    refine y_getR lfX12_65 rfl g_a0 dX12_spread_10 ?_
    refine z_aload_n dX12_spread_13 rfl rfl (z_okl g_a0) ?_
    refine y_getR lfX12_61 rfl g_a0 dX12_spread_14 ?_
    obtain ⟨g4, hf⟩ := z_g_el hf
    obtain ⟨q3, hq3, hf⟩ := z_b_el hf
    refine y_cVv (av := [.ref (R a0 5)]) (Nat.le_trans (Nat.le_of_ble_eq_true rfl) hd) (wX9_copyFrom (z_dl rfl hd) hq3) oX9_copyFrom lmX12_189 iX9_copyFrom g4 rfl _ rfl rfl (Nat.le_of_ble_eq_true rfl) dX12_spread_17 ?_
    refine z_iconst dX12_spread_20 kc_0 ?_
    refine y_istore_n0 [some (.ref a0), some (.int x1), some (.int (0 : Int32)), none] dX12_spread_21 rfl (by decide) rfl ?_
    refine z_iconst dX12_spread_22 kc_0 ?_
    refine y_istore_n0 [some (.ref a0), some (.int x1), some (.int (0 : Int32)), some (.int (0 : Int32))] dX12_spread_23 rfl (by decide) rfl ?_
    obtain ⟨q12, hq12, hf⟩ := z_b_el hf
    refine y_sub (lv' := [some (.ref a0), some (.int x1), some (.int (0 : Int32)), some (.int (0 : Int32))]) ?_ (z_le_c rfl (z_le_c rfl (z_le_c rfl (z_le_c rfl z_le_0))))
    refine z_lp_el (P := (fun s : Int32 × Int32 × (Nat → Nat → Int32) => z_W G eX12_spread d 0 0 24 [some (.ref a0), some (.int x1), some (.int s.1), some (.int s.2.1)] [] z_SH (s.2.2, R) Q)) (E := (fun x : Int32 × (Nat → Nat → Int32) => z_W G eX12_spread d 0 0 65 [none, none, some (.int x.1), none] [] z_SH (x.2, R) Q)) (wX12_spread_b24 hd g_a0) 300 ((0 : Int32), (0 : Int32), q3) q12 hq12 ?_
    show z_W G eX12_spread d 0 0 65 [none, none, some (.int q12.1), none] [] z_SH (q12.2, R) _
    refine z_iload_n dX12_spread_65 rfl rfl ?_
    cases hf
    exact z_iret hk ⟨_, rfl, rfl⟩ dX12_spread_66
  · have hf := z_if_t hf c2
    refine z_iconst dX12_spread_7 kc_m1 ?_
    cases hf
    exact z_iret hk ⟨_, rfl, rfl⟩ dX12_spread_8
theorem wX12_spread {G : z_G} {d : Nat} {a0 : Nat} {x1 : Int32} {I : Nat → Nat → Int32} {R : Nat → Nat → Nat} {q : Int32 × (Nat → Nat → Int32)} (hd : 6 ≤ d) (hf : fX12_spread a0 x1 I R = some q) : z_M G d 0 0 eX12_spread [.ref a0, .int x1] z_SH (I, R) (z_E (some (.int q.1)) (q.2, R)) :=
  y_M_of _ (by decide +kernel) rfl rfl rfl (vX12_spread hd hf ⟨rfl, rfl, rfl⟩)
def fX12_lowest_b2 (z0 : Int32) : (Int32) → Option ((Int32) ⊕ ((Int32) ⊕ (Unit))) :=
  fun s => (fun (p1 : Int32) => if (8 : Int32) ≤ p1 then (some (.inr (.inr (())))) else (if ((z_shr z0 p1) &&& (1 : Int32)) = 0 then (z_l (p1 + (1 : Int32)) (fun t3 => some (.inl t3))) else (some (.inr (.inl p1))))) s
theorem wX12_lowest_b2 {G : z_G} {d : Nat} {Q : Option Value → z_S → z_H → Prop} {z0 : Int32} {I : Nat → Nat → Int32} {R : Nat → Nat → Nat} (hd : 0 ≤ d)  : ∀ (s : Int32) (o : (Int32) ⊕ ((Int32) ⊕ (Unit))), fX12_lowest_b2 z0 s = some o → z_or (fun s : Int32 => z_W G eX12_lowest d 0 0 2 [some (.int z0), some (.int s)] [] z_SH (I, R) Q) (z_or (fun r : Int32 => Q (some (.int r)) z_SH (I, R)) (fun x : Unit => z_W G eX12_lowest d 0 0 24 [none, none] [] z_SH (I, R) Q)) o → (fun s : Int32 => z_W G eX12_lowest d 0 0 2 [some (.int z0), some (.int s)] [] z_SH (I, R) Q) s := by
  intro p1 o hf hk
  show z_W G eX12_lowest d 0 0 2 [some (.int z0), some (.int p1)] [] z_SH (I, R) Q
  unfold fX12_lowest_b2 at hf
  try dsimp only at hf
  refine z_iload_n dX12_lowest_2 rfl rfl ?_
  refine z_bipush dX12_lowest_3 kb_8 ?_
  refine z_icmp_ge (tgt := 24) dX12_lowest_5 (by decide) (fun c1 => ?_) (fun c1 => ?_)
  · have hf := z_if_t hf c1
    cases hf
    exact y_sub hk (z_le_n (z_le_n z_le_0))
  · have hf := z_if_f hf c1
    refine z_iload_n dX12_lowest_8 rfl rfl ?_
    refine z_iload_n dX12_lowest_9 rfl rfl ?_
    refine y_ishr dX12_lowest_10 ?_
    refine z_iconst dX12_lowest_11 kc_1 ?_
    refine z_iand dX12_lowest_12 ?_
    refine z_if_eq (tgt := 18) dX12_lowest_13 (by decide) (fun c2 => ?_) (fun c2 => ?_)
    · have hf := z_if_t hf c2
      refine y_iinc (fun t3 => [some (.int z0), some (.int t3)]) dX12_lowest_18 rfl kc_1 (by decide) (fun _ => rfl) (fun t3 et3 => ?_)
      have hf := z_l_el hf et3
      refine z_goto (tgt := 2) dX12_lowest_21 (by decide) ?_
      cases hf
      exact y_sub hk (z_le_c rfl (z_le_c rfl z_le_0))
    · have hf := z_if_f hf c2
      refine z_iload_n dX12_lowest_16 rfl rfl ?_
      cases hf
      exact z_iret hk ⟨_, rfl, rfl⟩ dX12_lowest_17
def fX12_lowest (x0 : Int32) : Option (Int32) :=
  z_b (z_lp (fX12_lowest_b2 x0) 300 (0 : Int32)) (fun q4 => z_x q4 (fun q6 => some q6) (fun q5 => some (-1 : Int32)))
theorem vX12_lowest {G : z_G} {d : Nat} {Q : Option Value → z_S → z_H → Prop} {x0 : Int32} {I : Nat → Nat → Int32} {R : Nat → Nat → Nat} {q : Int32} (hd : 0 ≤ d) (hf : fX12_lowest x0 = some q) (hk : Q (some (.int q)) z_SH (I, R)) : z_W G eX12_lowest d 0 0 0 [some (.int x0), none] [] z_SH (I, R) Q := by
  unfold fX12_lowest at hf
  refine z_iconst dX12_lowest_0 kc_0 ?_
  refine y_istore_n0 [some (.int x0), some (.int (0 : Int32))] dX12_lowest_1 rfl (by decide) rfl ?_
  obtain ⟨q4, hq4, hf⟩ := z_b_el hf
  refine y_sub (lv' := [some (.int x0), some (.int (0 : Int32))]) ?_ (z_le_c rfl (z_le_c rfl z_le_0))
  refine z_lp_el (P := (fun s : Int32 => z_W G eX12_lowest d 0 0 2 [some (.int x0), some (.int s)] [] z_SH (I, R) Q)) (E := (z_or (fun r : Int32 => Q (some (.int r)) z_SH (I, R)) (fun x : Unit => z_W G eX12_lowest d 0 0 24 [none, none] [] z_SH (I, R) Q))) (wX12_lowest_b2 hd ) 300 (0 : Int32) q4 hq4 ?_
  rcases q4 with q6 | q5
  · have hf := z_x_l hf
    cases hf
    exact hk
  · have hf := z_x_r hf
    show z_W G eX12_lowest d 0 0 24 [none, none] [] z_SH (I, R) _
    refine z_iconst dX12_lowest_24 kc_m1 ?_
    cases hf
    exact z_iret hk ⟨_, rfl, rfl⟩ dX12_lowest_25
theorem wX12_lowest {G : z_G} {d : Nat} {x0 : Int32} {I : Nat → Nat → Int32} {R : Nat → Nat → Nat} {q : Int32} (hd : 0 ≤ d) (hf : fX12_lowest x0 = some q) : z_M G d 0 0 eX12_lowest [.int x0] z_SH (I, R) (z_E (some (.int q)) (I, R)) :=
  y_M_of _ (by decide +kernel) rfl rfl rfl (vX12_lowest hd hf ⟨rfl, rfl, rfl⟩)
def fX12_firstCome_b31 (a0 : Nat) (z1 : Int32) (z2 : Int32) (R : Nat → Nat → Nat) : (Int32 × (Nat → Nat → Int32)) → Option ((Int32 × (Nat → Nat → Int32)) ⊕ ((Int32 × (Nat → Nat → Int32)) ⊕ (Int32 × (Nat → Nat → Int32)))) :=
  fun s => (fun (p3 : Int32) (I : Nat → Nat → Int32) => if z1 < p3 then (some (.inr (.inl ((-2 : Int32), I)))) else (z_g (z_ob (R a0 6) 9) (z_b (fX9_waitingBits (R a0 6) I R) (fun q8 => if q8 = 0 then (if z1 ≤ p3 then (z_l (p3 + (1 : Int32)) (fun t12 => some (.inl (t12, I)))) else (z_g (z_ob (R a0 4) 2) (z_b (fX2_step (R a0 4) (R a0 6) I R) (fun q13 => z_l (p3 + (1 : Int32)) (fun t15 => some (.inl (t15, q13.2))))))) else (some (.inr (.inr (p3, I)))))))) s.1 s.2
theorem wX12_firstCome_b31 {G : z_G} {d : Nat} {Q : Option Value → z_S → z_H → Prop} {a0 : Nat} {z1 : Int32} {z2 : Int32} {R : Nat → Nat → Nat} (hd : 6 ≤ d) (g_a0 : z_ob a0 12) : ∀ (s : Int32 × (Nat → Nat → Int32)) (o : (Int32 × (Nat → Nat → Int32)) ⊕ ((Int32 × (Nat → Nat → Int32)) ⊕ (Int32 × (Nat → Nat → Int32)))), fX12_firstCome_b31 a0 z1 z2 R s = some o → z_or (fun s : Int32 × (Nat → Nat → Int32) => z_W G eX12_firstCome d 0 0 31 [some (.ref a0), some (.int z1), some (.int z2), some (.int s.1)] [] z_SH (s.2, R) Q) (z_or (fun r : Int32 × (Nat → Nat → Int32) => Q (some (.int r.1)) z_SH (r.2, R)) (fun x : Int32 × (Nat → Nat → Int32) => z_W G eX12_firstCome d 0 0 46 [some (.ref a0), none, some (.int z2), some (.int x.1)] [] z_SH (x.2, R) Q)) o → (fun s : Int32 × (Nat → Nat → Int32) => z_W G eX12_firstCome d 0 0 31 [some (.ref a0), some (.int z1), some (.int z2), some (.int s.1)] [] z_SH (s.2, R) Q) s := by
  rintro ⟨p3, I⟩ o hf hk
  show z_W G eX12_firstCome d 0 0 31 [some (.ref a0), some (.int z1), some (.int z2), some (.int p3)] [] z_SH (I, R) Q
  unfold fX12_firstCome_b31 at hf
  try dsimp only at hf
  refine z_iload_n dX12_firstCome_31 rfl rfl ?_
  refine z_iload_n dX12_firstCome_32 rfl rfl ?_
  refine z_icmp_gt (tgt := 88) dX12_firstCome_33 (by decide) (fun c7 => ?_) (fun c7 => ?_)
  · have hf := z_if_t hf c7
    refine z_bipush dX12_firstCome_88 kb_m2 ?_
    cases hf
    exact z_iret hk ⟨_, rfl, rfl⟩ dX12_firstCome_90
  · have hf := z_if_f hf c7
    refine z_aload_n dX12_firstCome_36 rfl rfl (z_okl g_a0) ?_
    refine y_getR lfX12_65 rfl g_a0 dX12_firstCome_37 ?_
    obtain ⟨g9, hf⟩ := z_g_el hf
    obtain ⟨q8, hq8, hf⟩ := z_b_el hf
    refine y_cVi (av := []) (Nat.le_trans (Nat.le_of_ble_eq_true rfl) hd) (wX9_waitingBits (z_dl rfl hd) hq8) oX9_waitingBits lmX12_206 iX9_waitingBits g9 rfl _ rfl rfl (Nat.le_of_ble_eq_true rfl) dX12_firstCome_40 ?_
    refine z_if_eq (tgt := 65) dX12_firstCome_43 (by decide) (fun c10 => ?_) (fun c10 => ?_)
    · have hf := z_if_t hf c10
      refine z_iload_n dX12_firstCome_65 rfl rfl ?_
      refine z_iload_n dX12_firstCome_66 rfl rfl ?_
      refine z_icmp_ge (tgt := 82) dX12_firstCome_67 (by decide) (fun c11 => ?_) (fun c11 => ?_)
      · have hf := z_if_t hf c11
        refine y_iinc (fun t12 => [some (.ref a0), some (.int z1), some (.int z2), some (.int t12)]) dX12_firstCome_82 rfl kc_1 (by decide) (fun _ => rfl) (fun t12 et12 => ?_)
        have hf := z_l_el hf et12
        refine z_goto (tgt := 31) dX12_firstCome_85 (by decide) ?_
        cases hf
        exact y_sub hk (z_le_c rfl (z_le_c rfl (z_le_c rfl (z_le_c rfl z_le_0))))
      · have hf := z_if_f hf c11
        refine z_aload_n dX12_firstCome_70 rfl rfl (z_okl g_a0) ?_
        refine y_getR lfX12_54 rfl g_a0 dX12_firstCome_71 ?_
        refine z_aload_n dX12_firstCome_74 rfl rfl (z_okl g_a0) ?_
        refine y_getR lfX12_65 rfl g_a0 dX12_firstCome_75 ?_
        obtain ⟨g14, hf⟩ := z_g_el hf
        obtain ⟨q13, hq13, hf⟩ := z_b_el hf
        refine y_cVi (av := [.ref (R a0 6)]) (Nat.le_trans (Nat.le_of_ble_eq_true rfl) hd) (wX2_step (z_dl rfl hd) hq13) oX2_step lmX12_179 iX2_step g14 rfl _ rfl rfl (Nat.le_of_ble_eq_true rfl) dX12_firstCome_78 ?_
        refine z_pop dX12_firstCome_81 rfl ?_
        refine y_iinc (fun t15 => [some (.ref a0), some (.int z1), some (.int z2), some (.int t15)]) dX12_firstCome_82 rfl kc_1 (by decide) (fun _ => rfl) (fun t15 et15 => ?_)
        have hf := z_l_el hf et15
        refine z_goto (tgt := 31) dX12_firstCome_85 (by decide) ?_
        cases hf
        exact y_sub hk (z_le_c rfl (z_le_c rfl (z_le_c rfl (z_le_c rfl z_le_0))))
    · have hf := z_if_f hf c10
      cases hf
      exact y_sub hk (z_le_c rfl (z_le_n (z_le_c rfl (z_le_c rfl z_le_0))))
def fX12_firstCome (a0 : Nat) (x1 : Int32) (x2 : Int32) (I : Nat → Nat → Int32) (R : Nat → Nat → Nat) : Option (Int32 × (Nat → Nat → Int32)) :=
  z_g (z_ob a0 12) (z_b (fX12_areTicks x1) (fun q1 => if q1 = 0 then (some ((-1 : Int32), I)) else (z_b (fX12_within x2 (0 : Int32) (1 : Int32)) (fun q3 => if q3 = 0 then (some ((-1 : Int32), I)) else (z_g (z_ob (R a0 6) 9) (z_b (fX9_copyFrom (R a0 6) (R a0 5) I R) (fun q5 => z_b (z_lp (fX12_firstCome_b31 a0 x1 x2 R) 300 ((0 : Int32), q5)) (fun q16 => z_x q16 (fun q18 => some q18) (fun q17 => if x2 = 0 then (z_b (fX9_waitingBits (R a0 6) q17.2 R) (fun q20 => z_b (fX12_lowest q20) (fun q21 => some (q21, q17.2)))) else (some (q17.1, q17.2)))))))))))
theorem vX12_firstCome {G : z_G} {d : Nat} {Q : Option Value → z_S → z_H → Prop} {a0 : Nat} {x1 : Int32} {x2 : Int32} {I : Nat → Nat → Int32} {R : Nat → Nat → Nat} {q : Int32 × (Nat → Nat → Int32)} (hd : 6 ≤ d) (hf : fX12_firstCome a0 x1 x2 I R = some q) (hk : Q (some (.int q.1)) z_SH (q.2, R)) : z_W G eX12_firstCome d 0 0 0 [some (.ref a0), some (.int x1), some (.int x2), none] [] z_SH (I, R) Q := by
  unfold fX12_firstCome at hf
  obtain ⟨g_a0, hf⟩ := z_g_el hf
  refine z_iload_n dX12_firstCome_0 rfl rfl ?_
  obtain ⟨q1, hq1, hf⟩ := z_b_el hf
  refine y_cSi (Nat.le_trans (Nat.le_of_ble_eq_true rfl) hd) (wX12_areTicks (z_dl rfl hd) hq1) oX12_areTicks lmX12_173 sX12_areTicks _ rfl rfl (Nat.le_of_ble_eq_true rfl) dX12_firstCome_1 ?_
  refine z_if_eq (tgt := 16) dX12_firstCome_4 (by decide) (fun c2 => ?_) (fun c2 => ?_)
  · have hf := z_if_t hf c2
    refine z_iconst dX12_firstCome_16 kc_m1 ?_
    cases hf
    exact z_iret hk ⟨_, rfl, rfl⟩ dX12_firstCome_17
  · have hf := z_if_f hf c2
    refine z_iload_n dX12_firstCome_7 rfl rfl ?_
    refine z_iconst dX12_firstCome_8 kc_0 ?_
    refine z_iconst dX12_firstCome_9 kc_1 ?_
    obtain ⟨q3, hq3, hf⟩ := z_b_el hf
    refine y_cSi (Nat.le_trans (Nat.le_of_ble_eq_true rfl) hd) (wX12_within (z_dl rfl hd) hq3) oX12_within lmX12_96 sX12_within _ rfl rfl (Nat.le_of_ble_eq_true rfl) dX12_firstCome_10 ?_
    refine z_if_ne (tgt := 18) dX12_firstCome_13 (by decide) (fun c4 => ?_) (fun c4 => ?_)
    · have hf := z_if_f hf c4
      refine z_aload_n dX12_firstCome_18 rfl rfl (z_okl g_a0) ?_
      refine y_getR lfX12_65 rfl g_a0 dX12_firstCome_19 ?_
      refine z_aload_n dX12_firstCome_22 rfl rfl (z_okl g_a0) ?_
      refine y_getR lfX12_61 rfl g_a0 dX12_firstCome_23 ?_
      obtain ⟨g6, hf⟩ := z_g_el hf
      obtain ⟨q5, hq5, hf⟩ := z_b_el hf
      refine y_cVv (av := [.ref (R a0 5)]) (Nat.le_trans (Nat.le_of_ble_eq_true rfl) hd) (wX9_copyFrom (z_dl rfl hd) hq5) oX9_copyFrom lmX12_189 iX9_copyFrom g6 rfl _ rfl rfl (Nat.le_of_ble_eq_true rfl) dX12_firstCome_26 ?_
      refine z_iconst dX12_firstCome_29 kc_0 ?_
      refine y_istore_n0 [some (.ref a0), some (.int x1), some (.int x2), some (.int (0 : Int32))] dX12_firstCome_30 rfl (by decide) rfl ?_
      obtain ⟨q16, hq16, hf⟩ := z_b_el hf
      refine y_sub (lv' := [some (.ref a0), some (.int x1), some (.int x2), some (.int (0 : Int32))]) ?_ (z_le_c rfl (z_le_c rfl (z_le_c rfl (z_le_c rfl z_le_0))))
      refine z_lp_el (P := (fun s : Int32 × (Nat → Nat → Int32) => z_W G eX12_firstCome d 0 0 31 [some (.ref a0), some (.int x1), some (.int x2), some (.int s.1)] [] z_SH (s.2, R) Q)) (E := (z_or (fun r : Int32 × (Nat → Nat → Int32) => Q (some (.int r.1)) z_SH (r.2, R)) (fun x : Int32 × (Nat → Nat → Int32) => z_W G eX12_firstCome d 0 0 46 [some (.ref a0), none, some (.int x2), some (.int x.1)] [] z_SH (x.2, R) Q))) (wX12_firstCome_b31 hd g_a0) 300 ((0 : Int32), q5) q16 hq16 ?_
      rcases q16 with q18 | q17
      · have hf := z_x_l hf
        cases hf
        exact hk
      · have hf := z_x_r hf
        show z_W G eX12_firstCome d 0 0 46 [some (.ref a0), none, some (.int x2), some (.int q17.1)] [] z_SH (q17.2, R) _
        refine z_iload_n dX12_firstCome_46 rfl rfl ?_
        refine z_if_ne (tgt := 63) dX12_firstCome_47 (by decide) (fun c19 => ?_) (fun c19 => ?_)
        · have hf := z_if_f hf c19
          refine z_iload_n dX12_firstCome_63 rfl rfl ?_
          cases hf
          exact z_iret hk ⟨_, rfl, rfl⟩ dX12_firstCome_64
        · have hf := z_if_t hf c19
          refine z_aload_n dX12_firstCome_50 rfl rfl (z_okl g_a0) ?_
          refine y_getR lfX12_65 rfl g_a0 dX12_firstCome_51 ?_
          obtain ⟨q20, hq20, hf⟩ := z_b_el hf
          refine y_cVi (av := []) (Nat.le_trans (Nat.le_of_ble_eq_true rfl) hd) (wX9_waitingBits (z_dl rfl hd) hq20) oX9_waitingBits lmX12_206 iX9_waitingBits g6 rfl _ rfl rfl (Nat.le_of_ble_eq_true rfl) dX12_firstCome_54 ?_
          obtain ⟨q21, hq21, hf⟩ := z_b_el hf
          refine y_cSi (Nat.le_trans (Nat.le_of_ble_eq_true rfl) hd) (wX12_lowest (z_dl rfl hd) hq21) oX12_lowest lmX12_261 sX12_lowest _ rfl rfl (Nat.le_of_ble_eq_true rfl) dX12_firstCome_57 ?_
          refine z_goto (tgt := 64) dX12_firstCome_60 (by decide) ?_
          cases hf
          exact z_iret hk ⟨_, rfl, rfl⟩ dX12_firstCome_64
    · have hf := z_if_t hf c4
      refine z_iconst dX12_firstCome_16 kc_m1 ?_
      cases hf
      exact z_iret hk ⟨_, rfl, rfl⟩ dX12_firstCome_17
theorem wX12_firstCome {G : z_G} {d : Nat} {a0 : Nat} {x1 : Int32} {x2 : Int32} {I : Nat → Nat → Int32} {R : Nat → Nat → Nat} {q : Int32 × (Nat → Nat → Int32)} (hd : 6 ≤ d) (hf : fX12_firstCome a0 x1 x2 I R = some q) : z_M G d 0 0 eX12_firstCome [.ref a0, .int x1, .int x2] z_SH (I, R) (z_E (some (.int q.1)) (q.2, R)) :=
  y_M_of _ (by decide +kernel) rfl rfl rfl (vX12_firstCome hd hf ⟨rfl, rfl, rfl⟩)
def fX12_together_b53 (a0 : Nat) (z1 : Int32) (z2 : Int32) (z3 : Int32) (R : Nat → Nat → Nat) : (Int32 × Int32 × (Nat → Nat → Int32)) → Option ((Int32 × Int32 × (Nat → Nat → Int32)) ⊕ (Int32 × (Nat → Nat → Int32))) :=
  fun s => (fun (p4 : Int32) (p5 : Int32) (I : Nat → Nat → Int32) => if z3 ≤ p5 then (some (.inr (p4, I))) else (z_g (z_ob (R a0 4) 2) (z_b (fX2_step (R a0 4) (R a0 6) I R) (fun q12 => if q12.1 = 0 then (some (.inr (p4, q12.2))) else (z_g (z_ob (R a0 6) 9) (z_g (z_ok 4 (R (R a0 6) 0) z1) (z_g (z_ob (R (R (R a0 6) 0) z1.toNatClampNeg) 8) (z_g (z_ok 4 (R (R a0 6) 0) z2) (z_g (z_ob (R (R (R a0 6) 0) z2.toNatClampNeg) 8) (if (q12.2 (R (R (R a0 6) 0) z1.toNatClampNeg) 5) = (q12.2 (R (R (R a0 6) 0) z2.toNatClampNeg) 5) then (z_l (p4 + (1 : Int32)) (fun t22 => z_l (p5 + (1 : Int32)) (fun t23 => some (.inl (t22, t23, q12.2))))) else (z_l (p5 + (1 : Int32)) (fun t21 => some (.inl (p4, t21, q12.2)))))))))))))) s.1 s.2.1 s.2.2
theorem wX12_together_b53 {G : z_G} {d : Nat} {Q : Option Value → z_S → z_H → Prop} {a0 : Nat} {z1 : Int32} {z2 : Int32} {z3 : Int32} {R : Nat → Nat → Nat} (hd : 6 ≤ d) (g_a0 : z_ob a0 12) : ∀ (s : Int32 × Int32 × (Nat → Nat → Int32)) (o : (Int32 × Int32 × (Nat → Nat → Int32)) ⊕ (Int32 × (Nat → Nat → Int32))), fX12_together_b53 a0 z1 z2 z3 R s = some o → z_or (fun s : Int32 × Int32 × (Nat → Nat → Int32) => z_W G eX12_together d 0 0 53 [some (.ref a0), some (.int z1), some (.int z2), some (.int z3), some (.int s.1), some (.int s.2.1)] [] z_SH (s.2.2, R) Q) (fun x : Int32 × (Nat → Nat → Int32) => z_W G eX12_together d 0 0 109 [none, none, none, none, some (.int x.1), none] [] z_SH (x.2, R) Q) o → (fun s : Int32 × Int32 × (Nat → Nat → Int32) => z_W G eX12_together d 0 0 53 [some (.ref a0), some (.int z1), some (.int z2), some (.int z3), some (.int s.1), some (.int s.2.1)] [] z_SH (s.2.2, R) Q) s := by
  rintro ⟨p4, p5, I⟩ o hf hk
  show z_W G eX12_together d 0 0 53 [some (.ref a0), some (.int z1), some (.int z2), some (.int z3), some (.int p4), some (.int p5)] [] z_SH (I, R) Q
  unfold fX12_together_b53 at hf
  try dsimp only at hf
  refine z_iload dX12_together_53 rfl ?_
  refine z_iload_n dX12_together_55 rfl rfl ?_
  refine z_icmp_ge (tgt := 109) dX12_together_56 (by decide) (fun c11 => ?_) (fun c11 => ?_)
  · have hf := z_if_t hf c11
    cases hf
    exact y_sub hk (z_le_n (z_le_n (z_le_n (z_le_n (z_le_c rfl (z_le_n z_le_0))))))
  · have hf := z_if_f hf c11
    refine z_aload_n dX12_together_59 rfl rfl (z_okl g_a0) ?_
    refine y_getR lfX12_54 rfl g_a0 dX12_together_60 ?_
    refine z_aload_n dX12_together_63 rfl rfl (z_okl g_a0) ?_
    refine y_getR lfX12_65 rfl g_a0 dX12_together_64 ?_
    obtain ⟨g13, hf⟩ := z_g_el hf
    obtain ⟨q12, hq12, hf⟩ := z_b_el hf
    refine y_cVi (av := [.ref (R a0 6)]) (Nat.le_trans (Nat.le_of_ble_eq_true rfl) hd) (wX2_step (z_dl rfl hd) hq12) oX2_step lmX12_179 iX2_step g13 rfl _ rfl rfl (Nat.le_of_ble_eq_true rfl) dX12_together_67 ?_
    refine z_if_eq (tgt := 109) dX12_together_70 (by decide) (fun c14 => ?_) (fun c14 => ?_)
    · have hf := z_if_t hf c14
      cases hf
      exact y_sub hk (z_le_n (z_le_n (z_le_n (z_le_n (z_le_c rfl (z_le_n z_le_0))))))
    · have hf := z_if_f hf c14
      refine z_aload_n dX12_together_73 rfl rfl (z_okl g_a0) ?_
      refine y_getR lfX12_65 rfl g_a0 dX12_together_74 ?_
      obtain ⟨g15, hf⟩ := z_g_el hf
      refine y_getR lfX12_100 rfl g15 dX12_together_77 ?_
      refine z_iload_n dX12_together_80 rfl rfl ?_
      obtain ⟨g16, hf⟩ := z_g_el hf
      refine y_aald (t := 1) (Or.inr rfl) g16 dX12_together_81 ?_
      obtain ⟨g17, hf⟩ := z_g_el hf
      refine y_getI lfX12_209 rfl g17 dX12_together_82 ?_
      refine z_aload_n dX12_together_85 rfl rfl (z_okl g_a0) ?_
      refine y_getR lfX12_65 rfl g_a0 dX12_together_86 ?_
      refine y_getR lfX12_100 rfl g15 dX12_together_89 ?_
      refine z_iload_n dX12_together_92 rfl rfl ?_
      obtain ⟨g18, hf⟩ := z_g_el hf
      refine y_aald (t := 1) (Or.inr rfl) g18 dX12_together_93 ?_
      obtain ⟨g19, hf⟩ := z_g_el hf
      refine y_getI lfX12_209 rfl g19 dX12_together_94 ?_
      refine z_icmp_ne (tgt := 103) dX12_together_97 (by decide) (fun c20 => ?_) (fun c20 => ?_)
      · have hf := z_if_f hf c20
        refine y_iinc (fun t21 => [some (.ref a0), some (.int z1), some (.int z2), some (.int z3), some (.int p4), some (.int t21)]) dX12_together_103 rfl kc_1 (by decide) (fun _ => rfl) (fun t21 et21 => ?_)
        have hf := z_l_el hf et21
        refine z_goto (tgt := 53) dX12_together_106 (by decide) ?_
        cases hf
        exact y_sub hk (z_le_c rfl (z_le_c rfl (z_le_c rfl (z_le_c rfl (z_le_c rfl (z_le_c rfl z_le_0))))))
      · have hf := z_if_t hf c20
        refine y_iinc (fun t22 => [some (.ref a0), some (.int z1), some (.int z2), some (.int z3), some (.int t22), some (.int p5)]) dX12_together_100 rfl kc_1 (by decide) (fun _ => rfl) (fun t22 et22 => ?_)
        have hf := z_l_el hf et22
        refine y_iinc (fun t23 => [some (.ref a0), some (.int z1), some (.int z2), some (.int z3), some (.int t22), some (.int t23)]) dX12_together_103 rfl kc_1 (by decide) (fun _ => rfl) (fun t23 et23 => ?_)
        have hf := z_l_el hf et23
        refine z_goto (tgt := 53) dX12_together_106 (by decide) ?_
        cases hf
        exact y_sub hk (z_le_c rfl (z_le_c rfl (z_le_c rfl (z_le_c rfl (z_le_c rfl (z_le_c rfl z_le_0))))))
def fX12_together (a0 : Nat) (x1 : Int32) (x2 : Int32) (x3 : Int32) (I : Nat → Nat → Int32) (R : Nat → Nat → Nat) : Option (Int32 × (Nat → Nat → Int32)) :=
  z_g (z_ob a0 12) (z_g (z_ob (R a0 5) 9) (z_b (fX9_isTold (R a0 5) x1 I R) (fun q1 => if q1 = 0 then (some ((-1 : Int32), I)) else (z_b (fX9_isTold (R a0 5) x2 I R) (fun q4 => if q4 = 0 then (some ((-1 : Int32), I)) else (if x1 = x2 then (some ((-1 : Int32), I)) else (z_b (fX12_areTicks x3) (fun q7 => if q7 = 0 then (some ((-1 : Int32), I)) else (z_g (z_ob (R a0 6) 9) (z_b (fX9_copyFrom (R a0 6) (R a0 5) I R) (fun q9 => z_b (z_lp (fX12_together_b53 a0 x1 x2 x3 R) 300 ((0 : Int32), (0 : Int32), q9)) (fun q24 => some (q24.1, q24.2)))))))))))))
theorem vX12_together {G : z_G} {d : Nat} {Q : Option Value → z_S → z_H → Prop} {a0 : Nat} {x1 : Int32} {x2 : Int32} {x3 : Int32} {I : Nat → Nat → Int32} {R : Nat → Nat → Nat} {q : Int32 × (Nat → Nat → Int32)} (hd : 6 ≤ d) (hf : fX12_together a0 x1 x2 x3 I R = some q) (hk : Q (some (.int q.1)) z_SH (q.2, R)) : z_W G eX12_together d 0 0 0 [some (.ref a0), some (.int x1), some (.int x2), some (.int x3), none, none] [] z_SH (I, R) Q := by
  unfold fX12_together at hf
  obtain ⟨g_a0, hf⟩ := z_g_el hf
  refine z_aload_n dX12_together_0 rfl rfl (z_okl g_a0) ?_
  refine y_getR lfX12_61 rfl g_a0 dX12_together_1 ?_
  refine z_iload_n dX12_together_4 rfl rfl ?_
  obtain ⟨g2, hf⟩ := z_g_el hf
  obtain ⟨q1, hq1, hf⟩ := z_b_el hf
  refine y_cVi (av := [.int x1]) (Nat.le_trans (Nat.le_of_ble_eq_true rfl) hd) (wX9_isTold (z_dl rfl hd) hq1) oX9_isTold lmX12_186 iX9_isTold g2 rfl _ rfl rfl (Nat.le_of_ble_eq_true rfl) dX12_together_5 ?_
  refine z_if_eq (tgt := 34) dX12_together_8 (by decide) (fun c3 => ?_) (fun c3 => ?_)
  · have hf := z_if_t hf c3
    refine z_iconst dX12_together_34 kc_m1 ?_
    cases hf
    exact z_iret hk ⟨_, rfl, rfl⟩ dX12_together_35
  · have hf := z_if_f hf c3
    refine z_aload_n dX12_together_11 rfl rfl (z_okl g_a0) ?_
    refine y_getR lfX12_61 rfl g_a0 dX12_together_12 ?_
    refine z_iload_n dX12_together_15 rfl rfl ?_
    obtain ⟨q4, hq4, hf⟩ := z_b_el hf
    refine y_cVi (av := [.int x2]) (Nat.le_trans (Nat.le_of_ble_eq_true rfl) hd) (wX9_isTold (z_dl rfl hd) hq4) oX9_isTold lmX12_186 iX9_isTold g2 rfl _ rfl rfl (Nat.le_of_ble_eq_true rfl) dX12_together_16 ?_
    refine z_if_eq (tgt := 34) dX12_together_19 (by decide) (fun c5 => ?_) (fun c5 => ?_)
    · have hf := z_if_t hf c5
      refine z_iconst dX12_together_34 kc_m1 ?_
      cases hf
      exact z_iret hk ⟨_, rfl, rfl⟩ dX12_together_35
    · have hf := z_if_f hf c5
      refine z_iload_n dX12_together_22 rfl rfl ?_
      refine z_iload_n dX12_together_23 rfl rfl ?_
      refine z_icmp_eq (tgt := 34) dX12_together_24 (by decide) (fun c6 => ?_) (fun c6 => ?_)
      · have hf := z_if_t hf c6
        refine z_iconst dX12_together_34 kc_m1 ?_
        cases hf
        exact z_iret hk ⟨_, rfl, rfl⟩ dX12_together_35
      · have hf := z_if_f hf c6
        refine z_iload_n dX12_together_27 rfl rfl ?_
        obtain ⟨q7, hq7, hf⟩ := z_b_el hf
        refine y_cSi (Nat.le_trans (Nat.le_of_ble_eq_true rfl) hd) (wX12_areTicks (z_dl rfl hd) hq7) oX12_areTicks lmX12_173 sX12_areTicks _ rfl rfl (Nat.le_of_ble_eq_true rfl) dX12_together_28 ?_
        refine z_if_ne (tgt := 36) dX12_together_31 (by decide) (fun c8 => ?_) (fun c8 => ?_)
        · have hf := z_if_f hf c8
          refine z_aload_n dX12_together_36 rfl rfl (z_okl g_a0) ?_
          refine y_getR lfX12_65 rfl g_a0 dX12_together_37 ?_
          refine z_aload_n dX12_together_40 rfl rfl (z_okl g_a0) ?_
          refine y_getR lfX12_61 rfl g_a0 dX12_together_41 ?_
          obtain ⟨g10, hf⟩ := z_g_el hf
          obtain ⟨q9, hq9, hf⟩ := z_b_el hf
          refine y_cVv (av := [.ref (R a0 5)]) (Nat.le_trans (Nat.le_of_ble_eq_true rfl) hd) (wX9_copyFrom (z_dl rfl hd) hq9) oX9_copyFrom lmX12_189 iX9_copyFrom g10 rfl _ rfl rfl (Nat.le_of_ble_eq_true rfl) dX12_together_44 ?_
          refine z_iconst dX12_together_47 kc_0 ?_
          refine y_istore0 [some (.ref a0), some (.int x1), some (.int x2), some (.int x3), some (.int (0 : Int32)), none] dX12_together_48 (by decide) rfl ?_
          refine z_iconst dX12_together_50 kc_0 ?_
          refine y_istore0 [some (.ref a0), some (.int x1), some (.int x2), some (.int x3), some (.int (0 : Int32)), some (.int (0 : Int32))] dX12_together_51 (by decide) rfl ?_
          obtain ⟨q24, hq24, hf⟩ := z_b_el hf
          refine y_sub (lv' := [some (.ref a0), some (.int x1), some (.int x2), some (.int x3), some (.int (0 : Int32)), some (.int (0 : Int32))]) ?_ (z_le_c rfl (z_le_c rfl (z_le_c rfl (z_le_c rfl (z_le_c rfl (z_le_c rfl z_le_0))))))
          refine z_lp_el (P := (fun s : Int32 × Int32 × (Nat → Nat → Int32) => z_W G eX12_together d 0 0 53 [some (.ref a0), some (.int x1), some (.int x2), some (.int x3), some (.int s.1), some (.int s.2.1)] [] z_SH (s.2.2, R) Q)) (E := (fun x : Int32 × (Nat → Nat → Int32) => z_W G eX12_together d 0 0 109 [none, none, none, none, some (.int x.1), none] [] z_SH (x.2, R) Q)) (wX12_together_b53 hd g_a0) 300 ((0 : Int32), (0 : Int32), q9) q24 hq24 ?_
          show z_W G eX12_together d 0 0 109 [none, none, none, none, some (.int q24.1), none] [] z_SH (q24.2, R) _
          refine z_iload dX12_together_109 rfl ?_
          cases hf
          exact z_iret hk ⟨_, rfl, rfl⟩ dX12_together_111
        · have hf := z_if_t hf c8
          refine z_iconst dX12_together_34 kc_m1 ?_
          cases hf
          exact z_iret hk ⟨_, rfl, rfl⟩ dX12_together_35
theorem wX12_together {G : z_G} {d : Nat} {a0 : Nat} {x1 : Int32} {x2 : Int32} {x3 : Int32} {I : Nat → Nat → Int32} {R : Nat → Nat → Nat} {q : Int32 × (Nat → Nat → Int32)} (hd : 6 ≤ d) (hf : fX12_together a0 x1 x2 x3 I R = some q) : z_M G d 0 0 eX12_together [.ref a0, .int x1, .int x2, .int x3] z_SH (I, R) (z_E (some (.int q.1)) (q.2, R)) :=
  y_M_of _ (by decide +kernel) rfl rfl rfl (vX12_together hd hf ⟨rfl, rfl, rfl⟩)
def fX12_alone (a0 : Nat) (x1 : Int32) (I : Nat → Nat → Int32) (R : Nat → Nat → Nat) : Option (Int32) :=
  z_g (z_ob a0 12) (z_g (z_ob (R a0 5) 9) (z_b (fX9_isTold (R a0 5) x1 I R) (fun q1 => if q1 = 0 then (some (-1 : Int32)) else (z_g (z_ok 4 (R (R a0 5) 0) x1) (z_g (z_ob (R (R (R a0 5) 0) x1.toNatClampNeg) 8) (z_b (fX8_speed (R (R (R a0 5) 0) x1.toNatClampNeg) I) (fun q5 => z_l (z_max (1 : Int32) q5) (fun t7 => z_g (z_ob (R a0 1) 7) (z_g (z_ok 3 (R (R a0 1) 0) x1) (z_g (z_ob (R (R (R a0 1) 0) x1.toNatClampNeg) 5) (z_b (fX5_length (R (R (R a0 1) 0) x1.toNatClampNeg) I) (fun q10 => z_g (¬ t7 = 0) (some ((((q10 * (I (R a0 1) 5)) + t7) - (1 : Int32)) / t7))))))))))))))
theorem vX12_alone {G : z_G} {d : Nat} {Q : Option Value → z_S → z_H → Prop} {a0 : Nat} {x1 : Int32} {I : Nat → Nat → Int32} {R : Nat → Nat → Nat} {q : Int32} (hd : 3 ≤ d) (hf : fX12_alone a0 x1 I R = some q) (hk : Q (some (.int q)) z_SH (I, R)) : z_W G eX12_alone d 0 0 0 [some (.ref a0), some (.int x1), none] [] z_SH (I, R) Q := by
  unfold fX12_alone at hf
  obtain ⟨g_a0, hf⟩ := z_g_el hf
  refine z_aload_n dX12_alone_0 rfl rfl (z_okl g_a0) ?_
  refine y_getR lfX12_61 rfl g_a0 dX12_alone_1 ?_
  refine z_iload_n dX12_alone_4 rfl rfl ?_
  obtain ⟨g2, hf⟩ := z_g_el hf
  obtain ⟨q1, hq1, hf⟩ := z_b_el hf
  refine y_cVi (av := [.int x1]) (Nat.le_trans (Nat.le_of_ble_eq_true rfl) hd) (wX9_isTold (z_dl rfl hd) hq1) oX9_isTold lmX12_186 iX9_isTold g2 rfl _ rfl rfl (Nat.le_of_ble_eq_true rfl) dX12_alone_5 ?_
  refine z_if_ne (tgt := 13) dX12_alone_8 (by decide) (fun c3 => ?_) (fun c3 => ?_)
  · have hf := z_if_f hf c3
    refine z_iconst dX12_alone_13 kc_1 ?_
    refine z_aload_n dX12_alone_14 rfl rfl (z_okl g_a0) ?_
    refine y_getR lfX12_61 rfl g_a0 dX12_alone_15 ?_
    refine y_getR lfX12_100 rfl g2 dX12_alone_18 ?_
    refine z_iload_n dX12_alone_21 rfl rfl ?_
    obtain ⟨g4, hf⟩ := z_g_el hf
    refine y_aald (t := 1) (Or.inr rfl) g4 dX12_alone_22 ?_
    obtain ⟨g6, hf⟩ := z_g_el hf
    obtain ⟨q5, hq5, hf⟩ := z_b_el hf
    refine y_cVi (av := []) (Nat.le_trans (Nat.le_of_ble_eq_true rfl) hd) (wX8_speed (z_dl rfl hd) hq5) oX8_speed lmX12_264 iX8_speed g6 rfl _ rfl rfl (Nat.le_of_ble_eq_true rfl) dX12_alone_23 ?_
    refine y_max (Nat.le_trans (Nat.le_of_ble_eq_true rfl) hd) lmX12_256 (Nat.le_of_ble_eq_true rfl) dX12_alone_26 ?_
    refine y_istore_n (fun t7 => [some (.ref a0), some (.int x1), some (.int t7)]) dX12_alone_29 rfl (by decide) (fun _ => rfl) (fun t7 et7 => ?_)
    have hf := z_l_el hf et7
    refine z_aload_n dX12_alone_30 rfl rfl (z_okl g_a0) ?_
    refine y_getR lfX12_19 rfl g_a0 dX12_alone_31 ?_
    obtain ⟨g8, hf⟩ := z_g_el hf
    refine y_getR lfX12_229 rfl g8 dX12_alone_34 ?_
    refine z_iload_n dX12_alone_37 rfl rfl ?_
    obtain ⟨g9, hf⟩ := z_g_el hf
    refine y_aald (t := 0) (Or.inl rfl) g9 dX12_alone_38 ?_
    obtain ⟨g11, hf⟩ := z_g_el hf
    obtain ⟨q10, hq10, hf⟩ := z_b_el hf
    refine y_cVi (av := []) (Nat.le_trans (Nat.le_of_ble_eq_true rfl) hd) (wX5_length (z_dl rfl hd) hq10) oX5_length lmX12_233 iX5_length g11 rfl _ rfl rfl (Nat.le_of_ble_eq_true rfl) dX12_alone_39 ?_
    refine z_aload_n dX12_alone_42 rfl rfl (z_okl g_a0) ?_
    refine y_getR lfX12_19 rfl g_a0 dX12_alone_43 ?_
    refine y_getI lfX12_129 rfl g8 dX12_alone_46 ?_
    refine z_imul dX12_alone_49 ?_
    refine z_iload_n dX12_alone_50 rfl rfl ?_
    refine z_iadd dX12_alone_51 ?_
    refine z_iconst dX12_alone_52 kc_1 ?_
    refine z_isub dX12_alone_53 ?_
    refine z_iload_n dX12_alone_54 rfl rfl ?_
    obtain ⟨g12, hf⟩ := z_g_el hf
    refine z_idiv dX12_alone_55 g12 ?_
    cases hf
    exact z_iret hk ⟨_, rfl, rfl⟩ dX12_alone_56
  · have hf := z_if_t hf c3
    refine z_iconst dX12_alone_11 kc_m1 ?_
    cases hf
    exact z_iret hk ⟨_, rfl, rfl⟩ dX12_alone_12
theorem wX12_alone {G : z_G} {d : Nat} {a0 : Nat} {x1 : Int32} {I : Nat → Nat → Int32} {R : Nat → Nat → Nat} {q : Int32} (hd : 3 ≤ d) (hf : fX12_alone a0 x1 I R = some q) : z_M G d 0 0 eX12_alone [.ref a0, .int x1] z_SH (I, R) (z_E (some (.int q)) (I, R)) :=
  y_M_of _ (by decide +kernel) rfl rfl rfl (vX12_alone hd hf ⟨rfl, rfl, rfl⟩)
def fX12_clash (x0 : Int32) (x1 : Int32) : Option (Int32) :=
  z_l (z_abs (x0 - x1)) (fun t1 => if x0 = 0 then (some (0 : Int32)) else (if x1 = 0 then (some (0 : Int32)) else (if t1 = (1 : Int32) then (some (1 : Int32)) else (if t1 = (6 : Int32) then (some (1 : Int32)) else (some (0 : Int32))))))
theorem vX12_clash {G : z_G} {d : Nat} {Q : Option Value → z_S → z_H → Prop} {x0 : Int32} {x1 : Int32} {I : Nat → Nat → Int32} {R : Nat → Nat → Nat} {q : Int32} (hd : 1 ≤ d) (hf : fX12_clash x0 x1 = some q) (hk : Q (some (.int q)) z_SH (I, R)) : z_W G eX12_clash d 0 0 0 [some (.int x0), some (.int x1), none] [] z_SH (I, R) Q := by
  unfold fX12_clash at hf
  refine z_iload_n dX12_clash_0 rfl rfl ?_
  refine z_iload_n dX12_clash_1 rfl rfl ?_
  refine z_isub dX12_clash_2 ?_
  refine y_abs (Nat.le_trans (Nat.le_of_ble_eq_true rfl) hd) lmX12_324 (Nat.le_of_ble_eq_true rfl) dX12_clash_3 ?_
  refine y_istore_n (fun t1 => [some (.int x0), some (.int x1), some (.int t1)]) dX12_clash_6 rfl (by decide) (fun _ => rfl) (fun t1 et1 => ?_)
  have hf := z_l_el hf et1
  refine z_iload_n dX12_clash_7 rfl rfl ?_
  refine z_if_eq (tgt := 30) dX12_clash_8 (by decide) (fun c2 => ?_) (fun c2 => ?_)
  · have hf := z_if_t hf c2
    refine z_iconst dX12_clash_30 kc_0 ?_
    cases hf
    exact z_iret hk ⟨_, rfl, rfl⟩ dX12_clash_31
  · have hf := z_if_f hf c2
    refine z_iload_n dX12_clash_11 rfl rfl ?_
    refine z_if_eq (tgt := 30) dX12_clash_12 (by decide) (fun c3 => ?_) (fun c3 => ?_)
    · have hf := z_if_t hf c3
      refine z_iconst dX12_clash_30 kc_0 ?_
      cases hf
      exact z_iret hk ⟨_, rfl, rfl⟩ dX12_clash_31
    · have hf := z_if_f hf c3
      refine z_iload_n dX12_clash_15 rfl rfl ?_
      refine z_iconst dX12_clash_16 kc_1 ?_
      refine z_icmp_eq (tgt := 26) dX12_clash_17 (by decide) (fun c4 => ?_) (fun c4 => ?_)
      · have hf := z_if_t hf c4
        refine z_iconst dX12_clash_26 kc_1 ?_
        refine z_goto (tgt := 31) dX12_clash_27 (by decide) ?_
        cases hf
        exact z_iret hk ⟨_, rfl, rfl⟩ dX12_clash_31
      · have hf := z_if_f hf c4
        refine z_iload_n dX12_clash_20 rfl rfl ?_
        refine z_bipush dX12_clash_21 kb_6 ?_
        refine z_icmp_ne (tgt := 30) dX12_clash_23 (by decide) (fun c5 => ?_) (fun c5 => ?_)
        · have hf := z_if_f hf c5
          refine z_iconst dX12_clash_30 kc_0 ?_
          cases hf
          exact z_iret hk ⟨_, rfl, rfl⟩ dX12_clash_31
        · have hf := z_if_t hf c5
          refine z_iconst dX12_clash_26 kc_1 ?_
          refine z_goto (tgt := 31) dX12_clash_27 (by decide) ?_
          cases hf
          exact z_iret hk ⟨_, rfl, rfl⟩ dX12_clash_31
theorem wX12_clash {G : z_G} {d : Nat} {x0 : Int32} {x1 : Int32} {I : Nat → Nat → Int32} {R : Nat → Nat → Nat} {q : Int32} (hd : 1 ≤ d) (hf : fX12_clash x0 x1 = some q) : z_M G d 0 0 eX12_clash [.int x0, .int x1] z_SH (I, R) (z_E (some (.int q)) (I, R)) :=
  y_M_of _ (by decide +kernel) rfl rfl rfl (vX12_clash hd hf ⟨rfl, rfl, rfl⟩)
def fX12_sounds_b55 (a0 : Nat) (z1 : Int32) (z2 : Int32) (z4 : Int32) (z5 : Int32) (I : Nat → Nat → Int32) (R : Nat → Nat → Nat) : (Int32 × Int32) → Option ((Int32 × Int32) ⊕ (Int32)) :=
  fun s => (fun (p3 : Int32) (p6 : Int32) => if z4 ≤ p6 then (some (.inr p3)) else (z_g (z_ob (R a0 4) 2) (z_b (fX2_noteNow (R a0 4) (R a0 5) p6 I R) (fun q8 => z_b (fX12_clash z5 q8) (fun q10 => if q10 = 0 then (z_l (p6 + (1 : Int32)) (fun t12 => some (.inl (p3, t12)))) else (z_l (p3 + (1 : Int32)) (fun t13 => z_l (p6 + (1 : Int32)) (fun t14 => some (.inl (t13, t14)))))))))) s.1 s.2
theorem wX12_sounds_b55 {G : z_G} {d : Nat} {Q : Option Value → z_S → z_H → Prop} {a0 : Nat} {z1 : Int32} {z2 : Int32} {z4 : Int32} {z5 : Int32} {I : Nat → Nat → Int32} {R : Nat → Nat → Nat} (hd : 4 ≤ d) (g_a0 : z_ob a0 12) : ∀ (s : Int32 × Int32) (o : (Int32 × Int32) ⊕ (Int32)), fX12_sounds_b55 a0 z1 z2 z4 z5 I R s = some o → z_or (fun s : Int32 × Int32 => z_W G eX12_sounds d 0 0 55 [some (.ref a0), some (.int z1), some (.int z2), some (.int s.1), some (.int z4), some (.int z5), some (.int s.2)] [] z_SH (I, R) Q) (fun x : Int32 => z_W G eX12_sounds d 0 0 92 [some (.ref a0), some (.int z1), some (.int z2), some (.int x), some (.int z4), none, none] [] z_SH (I, R) Q) o → (fun s : Int32 × Int32 => z_W G eX12_sounds d 0 0 55 [some (.ref a0), some (.int z1), some (.int z2), some (.int s.1), some (.int z4), some (.int z5), some (.int s.2)] [] z_SH (I, R) Q) s := by
  rintro ⟨p3, p6⟩ o hf hk
  show z_W G eX12_sounds d 0 0 55 [some (.ref a0), some (.int z1), some (.int z2), some (.int p3), some (.int z4), some (.int z5), some (.int p6)] [] z_SH (I, R) Q
  unfold fX12_sounds_b55 at hf
  try dsimp only at hf
  refine z_iload dX12_sounds_55 rfl ?_
  refine z_iload dX12_sounds_57 rfl ?_
  refine z_icmp_ge (tgt := 92) dX12_sounds_59 (by decide) (fun c7 => ?_) (fun c7 => ?_)
  · have hf := z_if_t hf c7
    cases hf
    exact y_sub hk (z_le_c rfl (z_le_c rfl (z_le_c rfl (z_le_c rfl (z_le_c rfl (z_le_n (z_le_n z_le_0)))))))
  · have hf := z_if_f hf c7
    refine z_iload dX12_sounds_62 rfl ?_
    refine z_aload_n dX12_sounds_64 rfl rfl (z_okl g_a0) ?_
    refine y_getR lfX12_54 rfl g_a0 dX12_sounds_65 ?_
    refine z_aload_n dX12_sounds_68 rfl rfl (z_okl g_a0) ?_
    refine y_getR lfX12_61 rfl g_a0 dX12_sounds_69 ?_
    refine z_iload dX12_sounds_72 rfl ?_
    obtain ⟨g9, hf⟩ := z_g_el hf
    obtain ⟨q8, hq8, hf⟩ := z_b_el hf
    refine y_cVi (av := [.ref (R a0 5), .int p6]) (Nat.le_trans (Nat.le_of_ble_eq_true rfl) hd) (wX2_noteNow (z_dl rfl hd) hq8) oX2_noteNow lmX12_267 iX2_noteNow g9 rfl _ rfl rfl (Nat.le_of_ble_eq_true rfl) dX12_sounds_74 ?_
    obtain ⟨q10, hq10, hf⟩ := z_b_el hf
    refine y_cSi (Nat.le_trans (Nat.le_of_ble_eq_true rfl) hd) (wX12_clash (z_dl rfl hd) hq10) oX12_clash lmX12_271 sX12_clash _ rfl rfl (Nat.le_of_ble_eq_true rfl) dX12_sounds_77 ?_
    refine z_if_eq (tgt := 86) dX12_sounds_80 (by decide) (fun c11 => ?_) (fun c11 => ?_)
    · have hf := z_if_t hf c11
      refine y_iinc (fun t12 => [some (.ref a0), some (.int z1), some (.int z2), some (.int p3), some (.int z4), some (.int z5), some (.int t12)]) dX12_sounds_86 rfl kc_1 (by decide) (fun _ => rfl) (fun t12 et12 => ?_)
      have hf := z_l_el hf et12
      refine z_goto (tgt := 55) dX12_sounds_89 (by decide) ?_
      cases hf
      exact y_sub hk (z_le_c rfl (z_le_c rfl (z_le_c rfl (z_le_c rfl (z_le_c rfl (z_le_c rfl (z_le_c rfl z_le_0)))))))
    · have hf := z_if_f hf c11
      refine y_iinc (fun t13 => [some (.ref a0), some (.int z1), some (.int z2), some (.int t13), some (.int z4), some (.int z5), some (.int p6)]) dX12_sounds_83 rfl kc_1 (by decide) (fun _ => rfl) (fun t13 et13 => ?_)
      have hf := z_l_el hf et13
      refine y_iinc (fun t14 => [some (.ref a0), some (.int z1), some (.int z2), some (.int t13), some (.int z4), some (.int z5), some (.int t14)]) dX12_sounds_86 rfl kc_1 (by decide) (fun _ => rfl) (fun t14 et14 => ?_)
      have hf := z_l_el hf et14
      refine z_goto (tgt := 55) dX12_sounds_89 (by decide) ?_
      cases hf
      exact y_sub hk (z_le_c rfl (z_le_c rfl (z_le_c rfl (z_le_c rfl (z_le_c rfl (z_le_c rfl (z_le_c rfl z_le_0)))))))
def fX12_sounds_j52_18 (a0 : Nat) (z1 : Int32) (y2 : Int32) (y3 : Int32) (y4 : Int32) (y5 : Int32) (I : Nat → Nat → Int32) (R : Nat → Nat → Nat) : Option ((Int32 × Int32 × Int32) ⊕ (Int32 × Int32)) :=
  z_b (z_lp (fX12_sounds_b55 a0 z1 y2 y4 y5 I R) 300 (y3, (0 : Int32))) (fun q15 => z_l (y4 + (1 : Int32)) (fun t16 => some (.inl (y2, q15, t16))))
theorem wX12_sounds_j52_18 {G : z_G} {d : Nat} {Q : Option Value → z_S → z_H → Prop} {a0 : Nat} {z1 : Int32} {y2 : Int32} {y3 : Int32} {y4 : Int32} {y5 : Int32} {I : Nat → Nat → Int32} {R : Nat → Nat → Nat} {o : (Int32 × Int32 × Int32) ⊕ (Int32 × Int32)} (hd : 4 ≤ d) (g_a0 : z_ob a0 12) (hf : fX12_sounds_j52_18 a0 z1 y2 y3 y4 y5 I R = some o) (hk : z_or (fun s : Int32 × Int32 × Int32 => z_W G eX12_sounds d 0 0 18 [some (.ref a0), some (.int z1), some (.int s.1), some (.int s.2.1), some (.int s.2.2), none, none] [] z_SH (I, R) Q) (fun x : Int32 × Int32 => z_W G eX12_sounds d 0 0 98 [none, some (.int z1), some (.int x.1), some (.int x.2), none, none, none] [] z_SH (I, R) Q) o) : z_W G eX12_sounds d 0 0 52 [some (.ref a0), some (.int z1), some (.int y2), some (.int y3), some (.int y4), some (.int y5), none] [] z_SH (I, R) Q := by
  unfold fX12_sounds_j52_18 at hf
  refine z_iconst dX12_sounds_52 kc_0 ?_
  refine y_istore0 [some (.ref a0), some (.int z1), some (.int y2), some (.int y3), some (.int y4), some (.int y5), some (.int (0 : Int32))] dX12_sounds_53 (by decide) rfl ?_
  obtain ⟨q15, hq15, hf⟩ := z_b_el hf
  refine y_sub (lv' := [some (.ref a0), some (.int z1), some (.int y2), some (.int y3), some (.int y4), some (.int y5), some (.int (0 : Int32))]) ?_ (z_le_c rfl (z_le_c rfl (z_le_c rfl (z_le_c rfl (z_le_c rfl (z_le_c rfl (z_le_c rfl z_le_0)))))))
  refine z_lp_el (P := (fun s : Int32 × Int32 => z_W G eX12_sounds d 0 0 55 [some (.ref a0), some (.int z1), some (.int y2), some (.int s.1), some (.int y4), some (.int y5), some (.int s.2)] [] z_SH (I, R) Q)) (E := (fun x : Int32 => z_W G eX12_sounds d 0 0 92 [some (.ref a0), some (.int z1), some (.int y2), some (.int x), some (.int y4), none, none] [] z_SH (I, R) Q)) (wX12_sounds_b55 hd g_a0) 300 (y3, (0 : Int32)) q15 hq15 ?_
  show z_W G eX12_sounds d 0 0 92 [some (.ref a0), some (.int z1), some (.int y2), some (.int q15), some (.int y4), none, none] [] z_SH (I, R) _
  refine y_iinc (fun t16 => [some (.ref a0), some (.int z1), some (.int y2), some (.int q15), some (.int t16), none, none]) dX12_sounds_92 rfl kc_1 (by decide) (fun _ => rfl) (fun t16 et16 => ?_)
  have hf := z_l_el hf et16
  refine z_goto (tgt := 18) dX12_sounds_95 (by decide) ?_
  cases hf
  exact y_sub hk (z_le_c rfl (z_le_c rfl (z_le_c rfl (z_le_c rfl (z_le_c rfl (z_le_n (z_le_n z_le_0)))))))
def fX12_sounds_b18 (a0 : Nat) (z1 : Int32) (I : Nat → Nat → Int32) (R : Nat → Nat → Nat) : (Int32 × Int32 × Int32) → Option ((Int32 × Int32 × Int32) ⊕ (Int32 × Int32)) :=
  fun s => (fun (p2 : Int32) (p3 : Int32) (p4 : Int32) => if (8 : Int32) ≤ p4 then (some (.inr (p2, p3))) else (z_g (z_ob (R a0 4) 2) (z_b (fX2_noteNow (R a0 4) (R a0 5) p4 I R) (fun q4 => if q4 = 0 then (fX12_sounds_j52_18 a0 z1 p2 p3 p4 q4 I R) else (z_l (p2 ||| (z_shl (1 : Int32) q4)) (fun t17 => fX12_sounds_j52_18 a0 z1 t17 p3 p4 q4 I R)))))) s.1 s.2.1 s.2.2
theorem wX12_sounds_b18 {G : z_G} {d : Nat} {Q : Option Value → z_S → z_H → Prop} {a0 : Nat} {z1 : Int32} {I : Nat → Nat → Int32} {R : Nat → Nat → Nat} (hd : 4 ≤ d) (g_a0 : z_ob a0 12) : ∀ (s : Int32 × Int32 × Int32) (o : (Int32 × Int32 × Int32) ⊕ (Int32 × Int32)), fX12_sounds_b18 a0 z1 I R s = some o → z_or (fun s : Int32 × Int32 × Int32 => z_W G eX12_sounds d 0 0 18 [some (.ref a0), some (.int z1), some (.int s.1), some (.int s.2.1), some (.int s.2.2), none, none] [] z_SH (I, R) Q) (fun x : Int32 × Int32 => z_W G eX12_sounds d 0 0 98 [none, some (.int z1), some (.int x.1), some (.int x.2), none, none, none] [] z_SH (I, R) Q) o → (fun s : Int32 × Int32 × Int32 => z_W G eX12_sounds d 0 0 18 [some (.ref a0), some (.int z1), some (.int s.1), some (.int s.2.1), some (.int s.2.2), none, none] [] z_SH (I, R) Q) s := by
  rintro ⟨p2, p3, p4⟩ o hf hk
  show z_W G eX12_sounds d 0 0 18 [some (.ref a0), some (.int z1), some (.int p2), some (.int p3), some (.int p4), none, none] [] z_SH (I, R) Q
  unfold fX12_sounds_b18 at hf
  try dsimp only at hf
  refine z_iload dX12_sounds_18 rfl ?_
  refine z_bipush dX12_sounds_20 kb_8 ?_
  refine z_icmp_ge (tgt := 98) dX12_sounds_22 (by decide) (fun c3 => ?_) (fun c3 => ?_)
  · have hf := z_if_t hf c3
    cases hf
    exact y_sub hk (z_le_n (z_le_c rfl (z_le_c rfl (z_le_c rfl (z_le_n (z_le_n (z_le_n z_le_0)))))))
  · have hf := z_if_f hf c3
    refine z_aload_n dX12_sounds_25 rfl rfl (z_okl g_a0) ?_
    refine y_getR lfX12_54 rfl g_a0 dX12_sounds_26 ?_
    refine z_aload_n dX12_sounds_29 rfl rfl (z_okl g_a0) ?_
    refine y_getR lfX12_61 rfl g_a0 dX12_sounds_30 ?_
    refine z_iload dX12_sounds_33 rfl ?_
    obtain ⟨g5, hf⟩ := z_g_el hf
    obtain ⟨q4, hq4, hf⟩ := z_b_el hf
    refine y_cVi (av := [.ref (R a0 5), .int p4]) (Nat.le_trans (Nat.le_of_ble_eq_true rfl) hd) (wX2_noteNow (z_dl rfl hd) hq4) oX2_noteNow lmX12_267 iX2_noteNow g5 rfl _ rfl rfl (Nat.le_of_ble_eq_true rfl) dX12_sounds_35 ?_
    refine y_istore0 [some (.ref a0), some (.int z1), some (.int p2), some (.int p3), some (.int p4), some (.int q4), none] dX12_sounds_38 (by decide) rfl ?_
    refine z_iload dX12_sounds_40 rfl ?_
    refine z_if_eq (tgt := 52) dX12_sounds_42 (by decide) (fun c6 => ?_) (fun c6 => ?_)
    · have hf := z_if_t hf c6
      exact y_sub (wX12_sounds_j52_18 hd g_a0 hf hk) (z_le_c rfl (z_le_c rfl (z_le_c rfl (z_le_c rfl (z_le_c rfl (z_le_c rfl (z_le_n z_le_0)))))))
    · have hf := z_if_f hf c6
      refine z_iload_n dX12_sounds_45 rfl rfl ?_
      refine z_iconst dX12_sounds_46 kc_1 ?_
      refine z_iload dX12_sounds_47 rfl ?_
      refine y_ishl dX12_sounds_49 ?_
      refine z_ior dX12_sounds_50 ?_
      refine y_istore_n (fun t17 => [some (.ref a0), some (.int z1), some (.int t17), some (.int p3), some (.int p4), some (.int q4), none]) dX12_sounds_51 rfl (by decide) (fun _ => rfl) (fun t17 et17 => ?_)
      have hf := z_l_el hf et17
      exact y_sub (wX12_sounds_j52_18 hd g_a0 hf hk) (z_le_c rfl (z_le_c rfl (z_le_c rfl (z_le_c rfl (z_le_c rfl (z_le_c rfl (z_le_n z_le_0)))))))
def fX12_sounds (a0 : Nat) (x1 : Int32) (I : Nat → Nat → Int32) (R : Nat → Nat → Nat) : Option (Int32) :=
  z_g (z_ob a0 12) (z_b (fX12_within x1 (0 : Int32) (1 : Int32)) (fun q1 => if q1 = 0 then (some (-1 : Int32)) else (z_b (z_lp (fX12_sounds_b18 a0 x1 I R) 300 ((0 : Int32), (0 : Int32), (0 : Int32))) (fun q18 => if x1 = 0 then (some q18.1) else (some q18.2)))))
theorem vX12_sounds {G : z_G} {d : Nat} {Q : Option Value → z_S → z_H → Prop} {a0 : Nat} {x1 : Int32} {I : Nat → Nat → Int32} {R : Nat → Nat → Nat} {q : Int32} (hd : 4 ≤ d) (hf : fX12_sounds a0 x1 I R = some q) (hk : Q (some (.int q)) z_SH (I, R)) : z_W G eX12_sounds d 0 0 0 [some (.ref a0), some (.int x1), none, none, none, none, none] [] z_SH (I, R) Q := by
  unfold fX12_sounds at hf
  obtain ⟨g_a0, hf⟩ := z_g_el hf
  refine z_iload_n dX12_sounds_0 rfl rfl ?_
  refine z_iconst dX12_sounds_1 kc_0 ?_
  refine z_iconst dX12_sounds_2 kc_1 ?_
  obtain ⟨q1, hq1, hf⟩ := z_b_el hf
  refine y_cSi (Nat.le_trans (Nat.le_of_ble_eq_true rfl) hd) (wX12_within (z_dl rfl hd) hq1) oX12_within lmX12_96 sX12_within _ rfl rfl (Nat.le_of_ble_eq_true rfl) dX12_sounds_3 ?_
  refine z_if_ne (tgt := 11) dX12_sounds_6 (by decide) (fun c2 => ?_) (fun c2 => ?_)
  · have hf := z_if_f hf c2
    refine z_iconst dX12_sounds_11 kc_0 ?_
    refine y_istore_n0 [some (.ref a0), some (.int x1), some (.int (0 : Int32)), none, none, none, none] dX12_sounds_12 rfl (by decide) rfl ?_
    refine z_iconst dX12_sounds_13 kc_0 ?_
    refine y_istore_n0 [some (.ref a0), some (.int x1), some (.int (0 : Int32)), some (.int (0 : Int32)), none, none, none] dX12_sounds_14 rfl (by decide) rfl ?_
    refine z_iconst dX12_sounds_15 kc_0 ?_
    refine y_istore0 [some (.ref a0), some (.int x1), some (.int (0 : Int32)), some (.int (0 : Int32)), some (.int (0 : Int32)), none, none] dX12_sounds_16 (by decide) rfl ?_
    obtain ⟨q18, hq18, hf⟩ := z_b_el hf
    refine y_sub (lv' := [some (.ref a0), some (.int x1), some (.int (0 : Int32)), some (.int (0 : Int32)), some (.int (0 : Int32)), none, none]) ?_ (z_le_c rfl (z_le_c rfl (z_le_c rfl (z_le_c rfl (z_le_c rfl (z_le_n (z_le_n z_le_0)))))))
    refine z_lp_el (P := (fun s : Int32 × Int32 × Int32 => z_W G eX12_sounds d 0 0 18 [some (.ref a0), some (.int x1), some (.int s.1), some (.int s.2.1), some (.int s.2.2), none, none] [] z_SH (I, R) Q)) (E := (fun x : Int32 × Int32 => z_W G eX12_sounds d 0 0 98 [none, some (.int x1), some (.int x.1), some (.int x.2), none, none, none] [] z_SH (I, R) Q)) (wX12_sounds_b18 hd g_a0) 300 ((0 : Int32), (0 : Int32), (0 : Int32)) q18 hq18 ?_
    show z_W G eX12_sounds d 0 0 98 [none, some (.int x1), some (.int q18.1), some (.int q18.2), none, none, none] [] z_SH (I, R) _
    refine z_iload_n dX12_sounds_98 rfl rfl ?_
    refine z_if_ne (tgt := 106) dX12_sounds_99 (by decide) (fun c19 => ?_) (fun c19 => ?_)
    · have hf := z_if_f hf c19
      refine z_iload_n dX12_sounds_106 rfl rfl ?_
      cases hf
      exact z_iret hk ⟨_, rfl, rfl⟩ dX12_sounds_107
    · have hf := z_if_t hf c19
      refine z_iload_n dX12_sounds_102 rfl rfl ?_
      refine z_goto (tgt := 107) dX12_sounds_103 (by decide) ?_
      cases hf
      exact z_iret hk ⟨_, rfl, rfl⟩ dX12_sounds_107
  · have hf := z_if_t hf c2
    refine z_iconst dX12_sounds_9 kc_m1 ?_
    cases hf
    exact z_iret hk ⟨_, rfl, rfl⟩ dX12_sounds_10
theorem wX12_sounds {G : z_G} {d : Nat} {a0 : Nat} {x1 : Int32} {I : Nat → Nat → Int32} {R : Nat → Nat → Nat} {q : Int32} (hd : 4 ≤ d) (hf : fX12_sounds a0 x1 I R = some q) : z_M G d 0 0 eX12_sounds [.ref a0, .int x1] z_SH (I, R) (z_E (some (.int q)) (I, R)) :=
  y_M_of _ (by decide +kernel) rfl rfl rfl (vX12_sounds hd hf ⟨rfl, rfl, rfl⟩)
