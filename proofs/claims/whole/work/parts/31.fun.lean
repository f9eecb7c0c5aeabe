def fX2_sing_j101_2 (a0 : Nat) (a1 : Nat) (a2 : Nat) (y3 : Int32) (y4 : Int32) (I : Nat → Nat → Int32) (R : Nat → Nat → Nat) : Option ((Int32 × (Nat → Nat → Int32)) ⊕ ((Nat → Nat → Int32))) :=
  z_b (fX5_length a2 I) (fun q12 => if (I a1 5) < q12 then (z_b (fX5_hasFermata a2 y4 I R) (fun q14 => if q14 = 0 then (z_l (y3 + (1 : Int32)) (fun t16 => some (.inl (t16, I)))) else (z_l (z_u I a1 9 (1 : Int32)) (fun I17 => z_l (z_u I17 a1 6 (0 : Int32)) (fun I18 => z_l (y3 + (1 : Int32)) (fun t19 => some (.inl (t19, I18)))))))) else (z_l (z_u I a1 6 (0 : Int32)) (fun I20 => z_l (y3 + (1 : Int32)) (fun t21 => some (.inl (t21, I20))))))
theorem wX2_sing_j101_2 {G : z_G} {d : Nat} {Q : Option Value → z_S → z_H → Prop} {a0 : Nat} {a1 : Nat} {a2 : Nat} {y3 : Int32} {y4 : Int32} {I : Nat → Nat → Int32} {R : Nat → Nat → Nat} {o : (Int32 × (Nat → Nat → Int32)) ⊕ ((Nat → Nat → Int32))} (hd : 4 ≤ d) (g_a0 : z_ob a0 2) (g_a1 : z_ob a1 8) (g_a2 : z_ob a2 5) (hf : fX2_sing_j101_2 a0 a1 a2 y3 y4 I R = some o) (hk : z_or (fun s : Int32 × (Nat → Nat → Int32) => z_W G eX2_sing d 0 0 2 [some (.ref a0), some (.ref a1), some (.ref a2), some (.int s.1), none] [] z_SH (s.2, R) Q) (fun x : (Nat → Nat → Int32) => z_W G eX2_sing d 0 0 145 [none, none, none, none, none] [] z_SH (x, R) Q) o) : z_W G eX2_sing d 0 0 101 [some (.ref a0), some (.ref a1), some (.ref a2), some (.int y3), some (.int y4)] [] z_SH (I, R) Q := by
  unfold fX2_sing_j101_2 at hf
  refine z_aload_n dX2_sing_101 rfl rfl (z_okl g_a1) ?_
  refine y_getI lfX2_44 rfl g_a1 dX2_sing_102 ?_
  refine z_aload_n dX2_sing_105 rfl rfl (z_okl g_a2) ?_
  obtain ⟨q12, hq12, hf⟩ := z_b_el hf
  refine y_cVi (av := []) (Nat.le_trans (Nat.le_of_ble_eq_true rfl) hd) (wX5_length (z_dl rfl hd) hq12) oX5_length lmX2_55 iX5_length g_a2 rfl _ rfl rfl (Nat.le_of_ble_eq_true rfl) dX2_sing_106 ?_
  refine z_icmp_lt (tgt := 120) dX2_sing_109 (by decide) (fun c13 => ?_) (fun c13 => ?_)
  · have hf := z_if_t hf c13
    refine z_aload_n dX2_sing_120 rfl rfl (z_okl g_a2) ?_
    refine z_iload dX2_sing_121 rfl ?_
    obtain ⟨q14, hq14, hf⟩ := z_b_el hf
    refine y_cVi (av := [.int y4]) (Nat.le_trans (Nat.le_of_ble_eq_true rfl) hd) (wX5_hasFermata (z_dl rfl hd) hq14) oX5_hasFermata lmX2_159 iX5_hasFermata g_a2 rfl _ rfl rfl (Nat.le_of_ble_eq_true rfl) dX2_sing_123 ?_
    refine z_if_eq (tgt := 139) dX2_sing_126 (by decide) (fun c15 => ?_) (fun c15 => ?_)
    · have hf := z_if_t hf c15
      refine y_iinc (fun t16 => [some (.ref a0), some (.ref a1), some (.ref a2), some (.int t16), some (.int y4)]) dX2_sing_139 rfl kc_1 (by decide) (fun _ => rfl) (fun t16 et16 => ?_)
      have hf := z_l_el hf et16
      refine z_goto (tgt := 2) dX2_sing_142 (by decide) ?_
      cases hf
      exact y_sub hk (z_le_c rfl (z_le_c rfl (z_le_c rfl (z_le_c rfl (z_le_n z_le_0)))))
    · have hf := z_if_f hf c15
      refine z_aload_n dX2_sing_129 rfl rfl (z_okl g_a1) ?_
      refine z_iconst dX2_sing_130 kc_1 ?_
      refine y_putI lfX2_72 rfl g_a1 rfl rfl rfl dX2_sing_131 (fun I17 eI17 => ?_)
      have hf := z_l_el hf eI17
      refine z_aload_n dX2_sing_134 rfl rfl (z_okl g_a1) ?_
      refine z_iconst dX2_sing_135 kc_0 ?_
      refine y_putI lfX2_127 rfl g_a1 rfl rfl rfl dX2_sing_136 (fun I18 eI18 => ?_)
      have hf := z_l_el hf eI18
      refine y_iinc (fun t19 => [some (.ref a0), some (.ref a1), some (.ref a2), some (.int t19), some (.int y4)]) dX2_sing_139 rfl kc_1 (by decide) (fun _ => rfl) (fun t19 et19 => ?_)
      have hf := z_l_el hf et19
      refine z_goto (tgt := 2) dX2_sing_142 (by decide) ?_
      cases hf
      exact y_sub hk (z_le_c rfl (z_le_c rfl (z_le_c rfl (z_le_c rfl (z_le_n z_le_0)))))
  · have hf := z_if_f hf c13
    refine z_aload_n dX2_sing_112 rfl rfl (z_okl g_a1) ?_
    refine z_iconst dX2_sing_113 kc_0 ?_
    refine y_putI lfX2_127 rfl g_a1 rfl rfl rfl dX2_sing_114 (fun I20 eI20 => ?_)
    have hf := z_l_el hf eI20
    refine z_goto (tgt := 139) dX2_sing_117 (by decide) ?_
    refine y_iinc (fun t21 => [some (.ref a0), some (.ref a1), some (.ref a2), some (.int t21), some (.int y4)]) dX2_sing_139 rfl kc_1 (by decide) (fun _ => rfl) (fun t21 et21 => ?_)
    have hf := z_l_el hf et21
    refine z_goto (tgt := 2) dX2_sing_142 (by decide) ?_
    cases hf
    exact y_sub hk (z_le_c rfl (z_le_c rfl (z_le_c rfl (z_le_c rfl (z_le_n z_le_0)))))
def fX2_sing_j64_2 (a0 : Nat) (a1 : Nat) (a2 : Nat) (y3 : Int32) (y4 : Int32) (I : Nat → Nat → Int32) (R : Nat → Nat → Nat) : Option ((Int32 × (Nat → Nat → Int32)) ⊕ ((Nat → Nat → Int32))) :=
  z_l (z_u I a1 5 ((I a1 5) + (1 : Int32))) (fun I8 => z_l (z_u I8 a0 3 ((I8 a0 3) + (1 : Int32))) (fun I9 => z_b (fX5_hasBreath a2 y4 I9 R) (fun q10 => if q10 = 0 then (fX2_sing_j101_2 a0 a1 a2 y3 y4 I9 R) else (z_l (z_u I9 a1 7 (I9 a1 4)) (fun I22 => fX2_sing_j101_2 a0 a1 a2 y3 y4 I22 R)))))
theorem wX2_sing_j64_2 {G : z_G} {d : Nat} {Q : Option Value → z_S → z_H → Prop} {a0 : Nat} {a1 : Nat} {a2 : Nat} {y3 : Int32} {y4 : Int32} {I : Nat → Nat → Int32} {R : Nat → Nat → Nat} {o : (Int32 × (Nat → Nat → Int32)) ⊕ ((Nat → Nat → Int32))} (hd : 4 ≤ d) (g_a0 : z_ob a0 2) (g_a1 : z_ob a1 8) (g_a2 : z_ob a2 5) (hf : fX2_sing_j64_2 a0 a1 a2 y3 y4 I R = some o) (hk : z_or (fun s : Int32 × (Nat → Nat → Int32) => z_W G eX2_sing d 0 0 2 [some (.ref a0), some (.ref a1), some (.ref a2), some (.int s.1), none] [] z_SH (s.2, R) Q) (fun x : (Nat → Nat → Int32) => z_W G eX2_sing d 0 0 145 [none, none, none, none, none] [] z_SH (x, R) Q) o) : z_W G eX2_sing d 0 0 64 [some (.ref a0), some (.ref a1), some (.ref a2), some (.int y3), some (.int y4)] [] z_SH (I, R) Q := by
  unfold fX2_sing_j64_2 at hf
  refine z_aload_n dX2_sing_64 rfl rfl (z_okl g_a1) ?_
  refine z_dup dX2_sing_65 rfl ?_
  refine y_getI lfX2_44 rfl g_a1 dX2_sing_66 ?_
  refine z_iconst dX2_sing_69 kc_1 ?_
  refine z_iadd dX2_sing_70 ?_
  refine y_putI lfX2_44 rfl g_a1 rfl rfl rfl dX2_sing_71 (fun I8 eI8 => ?_)
  have hf := z_l_el hf eI8
  refine z_aload_n dX2_sing_74 rfl rfl (z_okl g_a0) ?_
  refine z_dup dX2_sing_75 rfl ?_
  refine y_getI lfX2_24 rfl g_a0 dX2_sing_76 ?_
  refine z_iconst dX2_sing_79 kc_1 ?_
  refine z_iadd dX2_sing_80 ?_
  refine y_putI lfX2_24 rfl g_a0 rfl rfl rfl dX2_sing_81 (fun I9 eI9 => ?_)
  have hf := z_l_el hf eI9
  refine z_aload_n dX2_sing_84 rfl rfl (z_okl g_a2) ?_
  refine z_iload dX2_sing_85 rfl ?_
  obtain ⟨q10, hq10, hf⟩ := z_b_el hf
  refine y_cVi (av := [.int y4]) (Nat.le_trans (Nat.le_of_ble_eq_true rfl) hd) (wX5_hasBreath (z_dl rfl hd) hq10) oX5_hasBreath lmX2_153 iX5_hasBreath g_a2 rfl _ rfl rfl (Nat.le_of_ble_eq_true rfl) dX2_sing_87 ?_
  refine z_if_eq (tgt := 101) dX2_sing_90 (by decide) (fun c11 => ?_) (fun c11 => ?_)
  · have hf := z_if_t hf c11
    exact y_sub (wX2_sing_j101_2 hd g_a0 g_a1 g_a2 hf hk) (z_le_c rfl (z_le_c rfl (z_le_c rfl (z_le_c rfl (z_le_c rfl z_le_0)))))
  · have hf := z_if_f hf c11
    refine z_aload_n dX2_sing_93 rfl rfl (z_okl g_a1) ?_
    refine z_aload_n dX2_sing_94 rfl rfl (z_okl g_a1) ?_
    refine y_getI lfX2_156 rfl g_a1 dX2_sing_95 ?_
    refine y_putI lfX2_143 rfl g_a1 rfl rfl rfl dX2_sing_98 (fun I22 eI22 => ?_)
    have hf := z_l_el hf eI22
    exact y_sub (wX2_sing_j101_2 hd g_a0 g_a1 g_a2 hf hk) (z_le_c rfl (z_le_c rfl (z_le_c rfl (z_le_c rfl (z_le_c rfl z_le_0)))))
def fX2_sing_b2 (a0 : Nat) (a1 : Nat) (a2 : Nat) (R : Nat → Nat → Nat) : (Int32 × (Nat → Nat → Int32)) → Option ((Int32 × (Nat → Nat → Int32)) ⊕ ((Nat → Nat → Int32))) :=
  fun s => (fun (p3 : Int32) (I : Nat → Nat → Int32) => if (60 : Int32) ≤ p3 then (some (.inr I)) else (z_g (z_ob (R a0 0) 7) (if (I a1 6) < (I (R a0 0) 5) then (some (.inr I)) else (z_l (I a1 5) (fun t4 => z_l (z_u I a1 6 ((I a1 6) - (I (R a0 0) 5))) (fun I5 => z_b (fX5_noteAt a2 t4 I5 R) (fun q6 => if q6 = 0 then (fX2_sing_j64_2 a0 a1 a2 p3 t4 I5 R) else (z_b (fX5_noteAt a2 t4 I5 R) (fun q23 => z_b (fX2_spendBreath a0 a1 q23 I5 R) (fun q24 => fX2_sing_j64_2 a0 a1 a2 p3 t4 q24 R)))))))))) s.1 s.2
theorem wX2_sing_b2 {G : z_G} {d : Nat} {Q : Option Value → z_S → z_H → Prop} {a0 : Nat} {a1 : Nat} {a2 : Nat} {R : Nat → Nat → Nat} (hd : 4 ≤ d) (g_a0 : z_ob a0 2) (g_a1 : z_ob a1 8) (g_a2 : z_ob a2 5) : ∀ (s : Int32 × (Nat → Nat → Int32)) (o : (Int32 × (Nat → Nat → Int32)) ⊕ ((Nat → Nat → Int32))), fX2_sing_b2 a0 a1 a2 R s = some o → z_or (fun s : Int32 × (Nat → Nat → Int32) => z_W G eX2_sing d 0 0 2 [some (.ref a0), some (.ref a1), some (.ref a2), some (.int s.1), none] [] z_SH (s.2, R) Q) (fun x : (Nat → Nat → Int32) => z_W G eX2_sing d 0 0 145 [none, none, none, none, none] [] z_SH (x, R) Q) o → (fun s : Int32 × (Nat → Nat → Int32) => z_W G eX2_sing d 0 0 2 [some (.ref a0), some (.ref a1), some (.ref a2), some (.int s.1), none] [] z_SH (s.2, R) Q) s := by
  rintro ⟨p3, I⟩ o hf hk
  show z_W G eX2_sing d 0 0 2 [some (.ref a0), some (.ref a1), some (.ref a2), some (.int p3), none] [] z_SH (I, R) Q
  unfold fX2_sing_b2 at hf
  try dsimp only at hf
  refine z_iload_n dX2_sing_2 rfl rfl ?_
  refine z_bipush dX2_sing_3 kb_60 ?_
  refine z_icmp_ge (tgt := 145) dX2_sing_5 (by decide) (fun c1 => ?_) (fun c1 => ?_)
  · have hf := z_if_t hf c1
    cases hf
    exact y_sub hk (z_le_n (z_le_n (z_le_n (z_le_n (z_le_n z_le_0)))))
  · have hf := z_if_f hf c1
    refine z_aload_n dX2_sing_8 rfl rfl (z_okl g_a1) ?_
    refine y_getI lfX2_127 rfl g_a1 dX2_sing_9 ?_
    refine z_aload_n dX2_sing_12 rfl rfl (z_okl g_a0) ?_
    refine y_getR lfX2_9 rfl g_a0 dX2_sing_13 ?_
    obtain ⟨g2, hf⟩ := z_g_el hf
    refine y_getI lfX2_146 rfl g2 dX2_sing_16 ?_
    refine z_icmp_lt (tgt := 145) dX2_sing_19 (by decide) (fun c3 => ?_) (fun c3 => ?_)
    · have hf := z_if_t hf c3
      cases hf
      exact y_sub hk (z_le_n (z_le_n (z_le_n (z_le_n (z_le_n z_le_0)))))
    · have hf := z_if_f hf c3
      refine z_aload_n dX2_sing_22 rfl rfl (z_okl g_a1) ?_
      refine y_getI lfX2_44 rfl g_a1 dX2_sing_23 ?_
      refine y_istore (fun t4 => [some (.ref a0), some (.ref a1), some (.ref a2), some (.int p3), some (.int t4)]) dX2_sing_26 (by decide) (fun _ => rfl) (fun t4 et4 => ?_)
      have hf := z_l_el hf et4
      refine z_aload_n dX2_sing_28 rfl rfl (z_okl g_a1) ?_
      refine z_dup dX2_sing_29 rfl ?_
      refine y_getI lfX2_127 rfl g_a1 dX2_sing_30 ?_
      refine z_aload_n dX2_sing_33 rfl rfl (z_okl g_a0) ?_
      refine y_getR lfX2_9 rfl g_a0 dX2_sing_34 ?_
      refine y_getI lfX2_146 rfl g2 dX2_sing_37 ?_
      refine z_isub dX2_sing_40 ?_
      refine y_putI lfX2_127 rfl g_a1 rfl rfl rfl dX2_sing_41 (fun I5 eI5 => ?_)
      have hf := z_l_el hf eI5
      refine z_aload_n dX2_sing_44 rfl rfl (z_okl g_a2) ?_
      refine z_iload dX2_sing_45 rfl ?_
      obtain ⟨q6, hq6, hf⟩ := z_b_el hf
      refine y_cVi (av := [.int t4]) (Nat.le_trans (Nat.le_of_ble_eq_true rfl) hd) (wX5_noteAt (z_dl rfl hd) hq6) oX5_noteAt lmX2_75 iX5_noteAt g_a2 rfl _ rfl rfl (Nat.le_of_ble_eq_true rfl) dX2_sing_47 ?_
      refine z_if_eq (tgt := 64) dX2_sing_50 (by decide) (fun c7 => ?_) (fun c7 => ?_)
      · have hf := z_if_t hf c7
        exact y_sub (wX2_sing_j64_2 hd g_a0 g_a1 g_a2 hf hk) (z_le_c rfl (z_le_c rfl (z_le_c rfl (z_le_c rfl (z_le_c rfl z_le_0)))))
      · have hf := z_if_f hf c7
        refine z_aload_n dX2_sing_53 rfl rfl (z_okl g_a0) ?_
        refine z_aload_n dX2_sing_54 rfl rfl (z_okl g_a1) ?_
        refine z_aload_n dX2_sing_55 rfl rfl (z_okl g_a2) ?_
        refine z_iload dX2_sing_56 rfl ?_
        obtain ⟨q23, hq23, hf⟩ := z_b_el hf
        refine y_cVi (av := [.int t4]) (Nat.le_trans (Nat.le_of_ble_eq_true rfl) hd) (wX5_noteAt (z_dl rfl hd) hq23) oX5_noteAt lmX2_75 iX5_noteAt g_a2 rfl _ rfl rfl (Nat.le_of_ble_eq_true rfl) dX2_sing_58 ?_
        obtain ⟨q24, hq24, hf⟩ := z_b_el hf
        refine y_cVv (av := [.ref a1, .int q23]) (Nat.le_trans (Nat.le_of_ble_eq_true rfl) hd) (wX2_spendBreath (z_dl rfl hd) hq24) oX2_spendBreath lmX2_149 iX2_spendBreath g_a0 rfl _ rfl rfl (Nat.le_of_ble_eq_true rfl) dX2_sing_61 ?_
        exact y_sub (wX2_sing_j64_2 hd g_a0 g_a1 g_a2 hf hk) (z_le_c rfl (z_le_c rfl (z_le_c rfl (z_le_c rfl (z_le_c rfl z_le_0)))))
def fX2_sing (a0 : Nat) (a1 : Nat) (a2 : Nat) (I : Nat → Nat → Int32) (R : Nat → Nat → Nat) : Option ((Nat → Nat → Int32)) :=
  z_g (z_ob a0 2) (z_g (z_ob a1 8) (z_g (z_ob a2 5) (z_b (z_lp (fX2_sing_b2 a0 a1 a2 R) 300 ((0 : Int32), I)) (fun q25 => some q25))))
set_option maxRecDepth 20000 in
theorem vX2_sing {G : z_G} {d : Nat} {Q : Option Value → z_S → z_H → Prop} {a0 : Nat} {a1 : Nat} {a2 : Nat} {I : Nat → Nat → Int32} {R : Nat → Nat → Nat} {q : (Nat → Nat → Int32)} (hd : 4 ≤ d) (hf : fX2_sing a0 a1 a2 I R = some q) (hk : Q none z_SH (q, R)) : z_W G eX2_sing d 0 0 0 [some (.ref a0), some (.ref a1), some (.ref a2), none, none] [] z_SH (I, R) Q := by
  unfold fX2_sing at hf
  obtain ⟨g_a0, hf⟩ := z_g_el hf
  obtain ⟨g_a1, hf⟩ := z_g_el hf
  obtain ⟨g_a2, hf⟩ := z_g_el hf
  refine z_iconst dX2_sing_0 kc_0 ?_
  refine y_istore_n0 [some (.ref a0), some (.ref a1), some (.ref a2), some (.int (0 : Int32)), none] dX2_sing_1 rfl (by decide) rfl ?_
  obtain ⟨q25, hq25, hf⟩ := z_b_el hf
  refine y_sub (lv' := [some (.ref a0), some (.ref a1), some (.ref a2), some (.int (0 : Int32)), none]) ?_ (z_le_c rfl (z_le_c rfl (z_le_c rfl (z_le_c rfl (z_le_n z_le_0)))))
  refine z_lp_el (P := (fun s : Int32 × (Nat → Nat → Int32) => z_W G eX2_sing d 0 0 2 [some (.ref a0), some (.ref a1), some (.ref a2), some (.int s.1), none] [] z_SH (s.2, R) Q)) (E := (fun x : (Nat → Nat → Int32) => z_W G eX2_sing d 0 0 145 [none, none, none, none, none] [] z_SH (x, R) Q)) (wX2_sing_b2 hd g_a0 g_a1 g_a2) 300 ((0 : Int32), I) q25 hq25 ?_
  show z_W G eX2_sing d 0 0 145 [none, none, none, none, none] [] z_SH (q25, R) _
  cases hf
  exact z_vret hk rfl dX2_sing_145
theorem wX2_sing {G : z_G} {d : Nat} {a0 : Nat} {a1 : Nat} {a2 : Nat} {I : Nat → Nat → Int32} {R : Nat → Nat → Nat} {q : (Nat → Nat → Int32)} (hd : 4 ≤ d) (hf : fX2_sing a0 a1 a2 I R = some q) : z_M G d 0 0 eX2_sing [.ref a0, .ref a1, .ref a2] z_SH (I, R) (z_E none (q, R)) :=
  y_M_of _ (by decide +kernel) rfl rfl rfl (vX2_sing hd hf ⟨rfl, rfl, rfl⟩)
def fX2_step_b13 (a0 : Nat) (a1 : Nat) (R : Nat → Nat → Nat) : (Int32 × (Nat → Nat → Int32)) → Option ((Int32 × (Nat → Nat → Int32)) ⊕ ((Nat → Nat → Int32))) :=
  fun s => (fun (p2 : Int32) (I : Nat → Nat → Int32) => if (8 : Int32) ≤ p2 then (some (.inr I)) else (z_g (z_ok 4 (R a1 0) p2) (z_g (z_ob (R (R a1 0) p2.toNatClampNeg) 8) (z_g (z_ok 1 (R a0 1) p2) (z_l (z_u I (R a0 1) p2.toNatClampNeg (I (R (R a1 0) p2.toNatClampNeg) 5)) (fun I6 => z_l (p2 + (1 : Int32)) (fun t7 => some (.inl (t7, I6))))))))) s.1 s.2
theorem wX2_step_b13 {G : z_G} {d : Nat} {Q : Option Value → z_S → z_H → Prop} {a0 : Nat} {a1 : Nat} {R : Nat → Nat → Nat} (hd : 5 ≤ d) (g_a0 : z_ob a0 2) (g_a1 : z_ob a1 9) : ∀ (s : Int32 × (Nat → Nat → Int32)) (o : (Int32 × (Nat → Nat → Int32)) ⊕ ((Nat → Nat → Int32))), fX2_step_b13 a0 a1 R s = some o → z_or (fun s : Int32 × (Nat → Nat → Int32) => z_W G eX2_step d 0 0 13 [some (.ref a0), some (.ref a1), some (.int s.1)] [] z_SH (s.2, R) Q) (fun x : (Nat → Nat → Int32) => z_W G eX2_step d 0 0 40 [some (.ref a0), some (.ref a1), none] [] z_SH (x, R) Q) o → (fun s : Int32 × (Nat → Nat → Int32) => z_W G eX2_step d 0 0 13 [some (.ref a0), some (.ref a1), some (.int s.1)] [] z_SH (s.2, R) Q) s := by
  rintro ⟨p2, I⟩ o hf hk
  show z_W G eX2_step d 0 0 13 [some (.ref a0), some (.ref a1), some (.int p2)] [] z_SH (I, R) Q
  unfold fX2_step_b13 at hf
  try dsimp only at hf
  refine z_iload_n dX2_step_13 rfl rfl ?_
  refine z_bipush dX2_step_14 kb_8 ?_
  refine z_icmp_ge (tgt := 40) dX2_step_16 (by decide) (fun c2 => ?_) (fun c2 => ?_)
  · have hf := z_if_t hf c2
    cases hf
    exact y_sub hk (z_le_c rfl (z_le_c rfl (z_le_n z_le_0)))
  · have hf := z_if_f hf c2
    refine z_aload_n dX2_step_19 rfl rfl (z_okl g_a0) ?_
    refine y_getR lfX2_15 rfl g_a0 dX2_step_20 ?_
    refine z_iload_n dX2_step_23 rfl rfl ?_
    refine z_aload_n dX2_step_24 rfl rfl (z_okl g_a1) ?_
    refine y_getR lfX2_38 rfl g_a1 dX2_step_25 ?_
    refine z_iload_n dX2_step_28 rfl rfl ?_
    obtain ⟨g3, hf⟩ := z_g_el hf
    refine y_aald (t := 1) (Or.inr rfl) g3 dX2_step_29 ?_
    obtain ⟨g4, hf⟩ := z_g_el hf
    refine y_getI lfX2_44 rfl g4 dX2_step_30 ?_
    obtain ⟨g5, hf⟩ := z_g_el hf
    refine y_iast g5 dX2_step_33 (fun I6 eI6 => ?_)
    have hf := z_l_el hf eI6
    refine y_iinc (fun t7 => [some (.ref a0), some (.ref a1), some (.int t7)]) dX2_step_34 rfl kc_1 (by decide) (fun _ => rfl) (fun t7 et7 => ?_)
    have hf := z_l_el hf et7
    refine z_goto (tgt := 13) dX2_step_37 (by decide) ?_
    cases hf
    exact y_sub hk (z_le_c rfl (z_le_c rfl (z_le_c rfl z_le_0)))
def fX2_step_b42 (a0 : Nat) (a1 : Nat) (R : Nat → Nat → Nat) : (Int32 × (Nat → Nat → Int32)) → Option ((Int32 × (Nat → Nat → Int32)) ⊕ ((Nat → Nat → Int32))) :=
  fun s => (fun (p2 : Int32) (I : Nat → Nat → Int32) => if (8 : Int32) ≤ p2 then (some (.inr I)) else (z_g (z_ok 4 (R a1 0) p2) (z_g (z_ob (R (R a1 0) p2.toNatClampNeg) 8) (if (I (R (R a1 0) p2.toNatClampNeg) 0) = 0 then (z_l (p2 + (1 : Int32)) (fun t13 => some (.inl (t13, I)))) else (z_b (fX2_isDone a0 a1 p2 I R) (fun q14 => if q14 = 0 then (z_b (fX2_goesOn a0 a1 p2 I R) (fun q17 => if q17.1 = 0 then (z_l (p2 + (1 : Int32)) (fun t19 => some (.inl (t19, q17.2)))) else (z_g (z_ob (R a0 0) 7) (z_g (z_ok 3 (R (R a0 0) 0) p2) (z_b (fX2_sing a0 (R (R a1 0) p2.toNatClampNeg) (R (R (R a0 0) 0) p2.toNatClampNeg) q17.2 R) (fun q22 => z_l (p2 + (1 : Int32)) (fun t23 => some (.inl (t23, q22))))))))) else (z_l (p2 + (1 : Int32)) (fun t16 => some (.inl (t16, I)))))))))) s.1 s.2
theorem wX2_step_b42 {G : z_G} {d : Nat} {Q : Option Value → z_S → z_H → Prop} {a0 : Nat} {a1 : Nat} {R : Nat → Nat → Nat} (hd : 5 ≤ d) (g_a0 : z_ob a0 2) (g_a1 : z_ob a1 9) : ∀ (s : Int32 × (Nat → Nat → Int32)) (o : (Int32 × (Nat → Nat → Int32)) ⊕ ((Nat → Nat → Int32))), fX2_step_b42 a0 a1 R s = some o → z_or (fun s : Int32 × (Nat → Nat → Int32) => z_W G eX2_step d 0 0 42 [some (.ref a0), some (.ref a1), some (.int s.1)] [] z_SH (s.2, R) Q) (fun x : (Nat → Nat → Int32) => z_W G eX2_step d 0 0 103 [none, some (.ref a1), none] [] z_SH (x, R) Q) o → (fun s : Int32 × (Nat → Nat → Int32) => z_W G eX2_step d 0 0 42 [some (.ref a0), some (.ref a1), some (.int s.1)] [] z_SH (s.2, R) Q) s := by
  rintro ⟨p2, I⟩ o hf hk
  show z_W G eX2_step d 0 0 42 [some (.ref a0), some (.ref a1), some (.int p2)] [] z_SH (I, R) Q
  unfold fX2_step_b42 at hf
  try dsimp only at hf
  refine z_iload_n dX2_step_42 rfl rfl ?_
  refine z_bipush dX2_step_43 kb_8 ?_
  refine z_icmp_ge (tgt := 103) dX2_step_45 (by decide) (fun c9 => ?_) (fun c9 => ?_)
  · have hf := z_if_t hf c9
    cases hf
    exact y_sub hk (z_le_n (z_le_c rfl (z_le_n z_le_0)))
  · have hf := z_if_f hf c9
    refine z_aload_n dX2_step_48 rfl rfl (z_okl g_a1) ?_
    refine y_getR lfX2_38 rfl g_a1 dX2_step_49 ?_
    refine z_iload_n dX2_step_52 rfl rfl ?_
    obtain ⟨g10, hf⟩ := z_g_el hf
    refine y_aald (t := 1) (Or.inr rfl) g10 dX2_step_53 ?_
    obtain ⟨g11, hf⟩ := z_g_el hf
    refine y_getI lfX2_61 rfl g11 dX2_step_54 ?_
    refine z_if_eq (tgt := 97) dX2_step_57 (by decide) (fun c12 => ?_) (fun c12 => ?_)
    · have hf := z_if_t hf c12
      refine y_iinc (fun t13 => [some (.ref a0), some (.ref a1), some (.int t13)]) dX2_step_97 rfl kc_1 (by decide) (fun _ => rfl) (fun t13 et13 => ?_)
      have hf := z_l_el hf et13
      refine z_goto (tgt := 42) dX2_step_100 (by decide) ?_
      cases hf
      exact y_sub hk (z_le_c rfl (z_le_c rfl (z_le_c rfl z_le_0)))
    · have hf := z_if_f hf c12
      refine z_aload_n dX2_step_60 rfl rfl (z_okl g_a0) ?_
      refine z_aload_n dX2_step_61 rfl rfl (z_okl g_a1) ?_
      refine z_iload_n dX2_step_62 rfl rfl ?_
      obtain ⟨q14, hq14, hf⟩ := z_b_el hf
      refine y_cVi (av := [.ref a1, .int p2]) (Nat.le_trans (Nat.le_of_ble_eq_true rfl) hd) (wX2_isDone (z_dl rfl hd) hq14) oX2_isDone lmX2_65 iX2_isDone g_a0 rfl _ rfl rfl (Nat.le_of_ble_eq_true rfl) dX2_step_63 ?_
      refine z_if_ne (tgt := 97) dX2_step_66 (by decide) (fun c15 => ?_) (fun c15 => ?_)
      · have hf := z_if_f hf c15
        refine y_iinc (fun t16 => [some (.ref a0), some (.ref a1), some (.int t16)]) dX2_step_97 rfl kc_1 (by decide) (fun _ => rfl) (fun t16 et16 => ?_)
        have hf := z_l_el hf et16
        refine z_goto (tgt := 42) dX2_step_100 (by decide) ?_
        cases hf
        exact y_sub hk (z_le_c rfl (z_le_c rfl (z_le_c rfl z_le_0)))
      · have hf := z_if_t hf c15
        refine z_aload_n dX2_step_69 rfl rfl (z_okl g_a0) ?_
        refine z_aload_n dX2_step_70 rfl rfl (z_okl g_a1) ?_
        refine z_iload_n dX2_step_71 rfl rfl ?_
        obtain ⟨q17, hq17, hf⟩ := z_b_el hf
        refine y_cVi (av := [.ref a1, .int p2]) (Nat.le_trans (Nat.le_of_ble_eq_true rfl) hd) (wX2_goesOn (z_dl rfl hd) hq17) oX2_goesOn lmX2_92 iX2_goesOn g_a0 rfl _ rfl rfl (Nat.le_of_ble_eq_true rfl) dX2_step_72 ?_
        refine z_if_eq (tgt := 97) dX2_step_75 (by decide) (fun c18 => ?_) (fun c18 => ?_)
        · have hf := z_if_t hf c18
          refine y_iinc (fun t19 => [some (.ref a0), some (.ref a1), some (.int t19)]) dX2_step_97 rfl kc_1 (by decide) (fun _ => rfl) (fun t19 et19 => ?_)
          have hf := z_l_el hf et19
          refine z_goto (tgt := 42) dX2_step_100 (by decide) ?_
          cases hf
          exact y_sub hk (z_le_c rfl (z_le_c rfl (z_le_c rfl z_le_0)))
        · have hf := z_if_f hf c18
          refine z_aload_n dX2_step_78 rfl rfl (z_okl g_a0) ?_
          refine z_aload_n dX2_step_79 rfl rfl (z_okl g_a1) ?_
          refine y_getR lfX2_38 rfl g_a1 dX2_step_80 ?_
          refine z_iload_n dX2_step_83 rfl rfl ?_
          refine y_aald (t := 1) (Or.inr rfl) g10 dX2_step_84 ?_
          refine z_aload_n dX2_step_85 rfl rfl (z_okl g_a0) ?_
          refine y_getR lfX2_9 rfl g_a0 dX2_step_86 ?_
          obtain ⟨g20, hf⟩ := z_g_el hf
          refine y_getR lfX2_49 rfl g20 dX2_step_89 ?_
          refine z_iload_n dX2_step_92 rfl rfl ?_
          obtain ⟨g21, hf⟩ := z_g_el hf
          refine y_aald (t := 0) (Or.inl rfl) g21 dX2_step_93 ?_
          obtain ⟨q22, hq22, hf⟩ := z_b_el hf
          refine y_cVv (av := [.ref (R (R a1 0) p2.toNatClampNeg), .ref (R (R (R a0 0) 0) p2.toNatClampNeg)]) (Nat.le_trans (Nat.le_of_ble_eq_true rfl) hd) (wX2_sing (z_dl rfl hd) hq22) oX2_sing lmX2_95 iX2_sing g_a0 rfl _ rfl rfl (Nat.le_of_ble_eq_true rfl) dX2_step_94 ?_
          refine y_iinc (fun t23 => [some (.ref a0), some (.ref a1), some (.int t23)]) dX2_step_97 rfl kc_1 (by decide) (fun _ => rfl) (fun t23 et23 => ?_)
          have hf := z_l_el hf et23
          refine z_goto (tgt := 42) dX2_step_100 (by decide) ?_
          cases hf
          exact y_sub hk (z_le_c rfl (z_le_c rfl (z_le_c rfl z_le_0)))
def fX2_step (a0 : Nat) (a1 : Nat) (I : Nat → Nat → Int32) (R : Nat → Nat → Nat) : Option (Int32 × (Nat → Nat → Int32)) :=
  z_g (z_ob a0 2) (z_g (z_ob a1 9) (if (I a1 1) < (99999 : Int32) then (z_b (z_lp (fX2_step_b13 a0 a1 R) 300 ((0 : Int32), I)) (fun q8 => z_b (z_lp (fX2_step_b42 a0 a1 R) 300 ((0 : Int32), q8)) (fun q24 => z_l (z_u q24 a1 1 ((q24 a1 1) + (1 : Int32))) (fun I25 => some ((1 : Int32), I25))))) else (some ((0 : Int32), I))))
set_option maxRecDepth 20000 in
theorem vX2_step {G : z_G} {d : Nat} {Q : Option Value → z_S → z_H → Prop} {a0 : Nat} {a1 : Nat} {I : Nat → Nat → Int32} {R : Nat → Nat → Nat} {q : Int32 × (Nat → Nat → Int32)} (hd : 5 ≤ d) (hf : fX2_step a0 a1 I R = some q) (hk : Q (some (.int q.1)) z_SH (q.2, R)) : z_W G eX2_step d 0 0 0 [some (.ref a0), some (.ref a1), none] [] z_SH (I, R) Q := by
  unfold fX2_step at hf
  obtain ⟨g_a0, hf⟩ := z_g_el hf
  obtain ⟨g_a1, hf⟩ := z_g_el hf
  refine z_aload_n dX2_step_0 rfl rfl (z_okl g_a1) ?_
  refine y_getI lfX2_88 rfl g_a1 dX2_step_1 ?_
  refine z_ldc dX2_step_4 lkX2_91 ?_
  refine z_icmp_lt (tgt := 11) dX2_step_6 (by decide) (fun c1 => ?_) (fun c1 => ?_)
  · have hf := z_if_t hf c1
    refine z_iconst dX2_step_11 kc_0 ?_
    refine y_istore_n0 [some (.ref a0), some (.ref a1), some (.int (0 : Int32))] dX2_step_12 rfl (by decide) rfl ?_
    obtain ⟨q8, hq8, hf⟩ := z_b_el hf
    refine y_sub (lv' := [some (.ref a0), some (.ref a1), some (.int (0 : Int32))]) ?_ (z_le_c rfl (z_le_c rfl (z_le_c rfl z_le_0)))
    refine z_lp_el (P := (fun s : Int32 × (Nat → Nat → Int32) => z_W G eX2_step d 0 0 13 [some (.ref a0), some (.ref a1), some (.int s.1)] [] z_SH (s.2, R) Q)) (E := (fun x : (Nat → Nat → Int32) => z_W G eX2_step d 0 0 40 [some (.ref a0), some (.ref a1), none] [] z_SH (x, R) Q)) (wX2_step_b13 hd g_a0 g_a1) 300 ((0 : Int32), I) q8 hq8 ?_
    show z_W G eX2_step d 0 0 40 [some (.ref a0), some (.ref a1), none] [] z_SH (q8, R) _
    refine z_iconst dX2_step_40 kc_0 ?_
    refine y_istore_n0 [some (.ref a0), some (.ref a1), some (.int (0 : Int32))] dX2_step_41 rfl (by decide) rfl ?_
    obtain ⟨q24, hq24, hf⟩ := z_b_el hf
    refine y_sub (lv' := [some (.ref a0), some (.ref a1), some (.int (0 : Int32))]) ?_ (z_le_c rfl (z_le_c rfl (z_le_c rfl z_le_0)))
    refine z_lp_el (P := (fun s : Int32 × (Nat → Nat → Int32) => z_W G eX2_step d 0 0 42 [some (.ref a0), some (.ref a1), some (.int s.1)] [] z_SH (s.2, R) Q)) (E := (fun x : (Nat → Nat → Int32) => z_W G eX2_step d 0 0 103 [none, some (.ref a1), none] [] z_SH (x, R) Q)) (wX2_step_b42 hd g_a0 g_a1) 300 ((0 : Int32), q8) q24 hq24 ?_
    show z_W G eX2_step d 0 0 103 [none, some (.ref a1), none] [] z_SH (q24, R) _
    refine z_aload_n dX2_step_103 rfl rfl (z_okl g_a1) ?_
    refine z_dup dX2_step_104 rfl ?_
    refine y_getI lfX2_88 rfl g_a1 dX2_step_105 ?_
    refine z_iconst dX2_step_108 kc_1 ?_
    refine z_iadd dX2_step_109 ?_
    refine y_putI lfX2_88 rfl g_a1 rfl rfl rfl dX2_step_110 (fun I25 eI25 => ?_)
    have hf := z_l_el hf eI25
    refine z_iconst dX2_step_113 kc_1 ?_
    cases hf
    exact z_iret hk ⟨_, rfl, rfl⟩ dX2_step_114
  · have hf := z_if_f hf c1
    refine z_iconst dX2_step_9 kc_0 ?_
    cases hf
    exact z_iret hk ⟨_, rfl, rfl⟩ dX2_step_10
theorem wX2_step {G : z_G} {d : Nat} {a0 : Nat} {a1 : Nat} {I : Nat → Nat → Int32} {R : Nat → Nat → Nat} {q : Int32 × (Nat → Nat → Int32)} (hd : 5 ≤ d) (hf : fX2_step a0 a1 I R = some q) : z_M G d 0 0 eX2_step [.ref a0, .ref a1] z_SH (I, R) (z_E (some (.int q.1)) (q.2, R)) :=
  y_M_of _ (by decide +kernel) rfl rfl rfl (vX2_step hd hf ⟨rfl, rfl, rfl⟩)
def fX3_ruleCount (a0 : Nat) (I : Nat → Nat → Int32) : Option (Int32) :=
  z_g (z_ob a0 3) (some (I a0 7))
theorem vX3_ruleCount {G : z_G} {d : Nat} {Q : Option Value → z_S → z_H → Prop} {a0 : Nat} {I : Nat → Nat → Int32} {R : Nat → Nat → Nat} {q : Int32} (hd : 0 ≤ d) (hf : fX3_ruleCount a0 I = some q) (hk : Q (some (.int q)) z_SH (I, R)) : z_W G eX3_ruleCount d 0 0 0 [some (.ref a0)] [] z_SH (I, R) Q := by
  unfold fX3_ruleCount at hf
  obtain ⟨g_a0, hf⟩ := z_g_el hf
  refine z_aload_n dX3_ruleCount_0 rfl rfl (z_okl g_a0) ?_
  refine y_getI lfX3_31 rfl g_a0 dX3_ruleCount_1 ?_
  cases hf
  exact z_iret hk ⟨_, rfl, rfl⟩ dX3_ruleCount_4
theorem wX3_ruleCount {G : z_G} {d : Nat} {a0 : Nat} {I : Nat → Nat → Int32} {R : Nat → Nat → Nat} {q : Int32} (hd : 0 ≤ d) (hf : fX3_ruleCount a0 I = some q) : z_M G d 0 0 eX3_ruleCount [.ref a0] z_SH (I, R) (z_E (some (.int q)) (I, R)) :=
  y_M_of _ (by decide +kernel) rfl rfl rfl (vX3_ruleCount hd hf ⟨rfl, rfl, rfl⟩)
def fX3_stepCount (a0 : Nat) (I : Nat → Nat → Int32) : Option (Int32) :=
  z_g (z_ob a0 3) (some (I a0 2))
theorem vX3_stepCount {G : z_G} {d : Nat} {Q : Option Value → z_S → z_H → Prop} {a0 : Nat} {I : Nat → Nat → Int32} {R : Nat → Nat → Nat} {q : Int32} (hd : 0 ≤ d) (hf : fX3_stepCount a0 I = some q) (hk : Q (some (.int q)) z_SH (I, R)) : z_W G eX3_stepCount d 0 0 0 [some (.ref a0)] [] z_SH (I, R) Q := by
  unfold fX3_stepCount at hf
  obtain ⟨g_a0, hf⟩ := z_g_el hf
  refine z_aload_n dX3_stepCount_0 rfl rfl (z_okl g_a0) ?_
  refine y_getI lfX3_35 rfl g_a0 dX3_stepCount_1 ?_
  cases hf
  exact z_iret hk ⟨_, rfl, rfl⟩ dX3_stepCount_4
theorem wX3_stepCount {G : z_G} {d : Nat} {a0 : Nat} {I : Nat → Nat → Int32} {R : Nat → Nat → Nat} {q : Int32} (hd : 0 ≤ d) (hf : fX3_stepCount a0 I = some q) : z_M G d 0 0 eX3_stepCount [.ref a0] z_SH (I, R) (z_E (some (.int q)) (I, R)) :=
  y_M_of _ (by decide +kernel) rfl rfl rfl (vX3_stepCount hd hf ⟨rfl, rfl, rfl⟩)
def fX3_clear (a0 : Nat) (I : Nat → Nat → Int32) : Option ((Nat → Nat → Int32)) :=
  z_g (z_ob a0 3) (z_l (z_u I a0 2 (0 : Int32)) (fun I1 => z_l (z_u I1 a0 7 (0 : Int32)) (fun I2 => some I2)))
theorem vX3_clear {G : z_G} {d : Nat} {Q : Option Value → z_S → z_H → Prop} {a0 : Nat} {I : Nat → Nat → Int32} {R : Nat → Nat → Nat} {q : (Nat → Nat → Int32)} (hd : 0 ≤ d) (hf : fX3_clear a0 I = some q) (hk : Q none z_SH (q, R)) : z_W G eX3_clear d 0 0 0 [some (.ref a0)] [] z_SH (I, R) Q := by
  unfold fX3_clear at hf
  obtain ⟨g_a0, hf⟩ := z_g_el hf
  refine z_aload_n dX3_clear_0 rfl rfl (z_okl g_a0) ?_
  refine z_iconst dX3_clear_1 kc_0 ?_
  refine y_putI lfX3_35 rfl g_a0 rfl rfl rfl dX3_clear_2 (fun I1 eI1 => ?_)
  have hf := z_l_el hf eI1
  refine z_aload_n dX3_clear_5 rfl rfl (z_okl g_a0) ?_
  refine z_iconst dX3_clear_6 kc_0 ?_
  refine y_putI lfX3_31 rfl g_a0 rfl rfl rfl dX3_clear_7 (fun I2 eI2 => ?_)
  have hf := z_l_el hf eI2
  cases hf
  exact z_vret hk rfl dX3_clear_10
theorem wX3_clear {G : z_G} {d : Nat} {a0 : Nat} {I : Nat → Nat → Int32} {R : Nat → Nat → Nat} {q : (Nat → Nat → Int32)} (hd : 0 ≤ d) (hf : fX3_clear a0 I = some q) : z_M G d 0 0 eX3_clear [.ref a0] z_SH (I, R) (z_E none (q, R)) :=
  y_M_of _ (by decide +kernel) rfl rfl rfl (vX3_clear hd hf ⟨rfl, rfl, rfl⟩)
def fX3_addStep (a0 : Nat) (x1 : Int32) (x2 : Int32) (I : Nat → Nat → Int32) (R : Nat → Nat → Nat) : Option ((Nat → Nat → Int32)) :=
  z_g (z_ob a0 3) (if (240 : Int32) ≤ (I a0 2) then (some I) else (z_g (z_ok 1 (R a0 0) (I a0 2)) (z_l (z_u I (R a0 0) (I a0 2).toNatClampNeg x1) (fun I3 => z_g (z_ok 1 (R a0 1) (I3 a0 2)) (z_l (z_u I3 (R a0 1) (I3 a0 2).toNatClampNeg x2) (fun I5 => z_l (z_u I5 a0 2 ((I5 a0 2) + (1 : Int32))) (fun I6 => some I6)))))))
theorem vX3_addStep {G : z_G} {d : Nat} {Q : Option Value → z_S → z_H → Prop} {a0 : Nat} {x1 : Int32} {x2 : Int32} {I : Nat → Nat → Int32} {R : Nat → Nat → Nat} {q : (Nat → Nat → Int32)} (hd : 0 ≤ d) (hf : fX3_addStep a0 x1 x2 I R = some q) (hk : Q none z_SH (q, R)) : z_W G eX3_addStep d 0 0 0 [some (.ref a0), some (.int x1), some (.int x2)] [] z_SH (I, R) Q := by
  unfold fX3_addStep at hf
  obtain ⟨g_a0, hf⟩ := z_g_el hf
  refine z_aload_n dX3_addStep_0 rfl rfl (z_okl g_a0) ?_
  refine y_getI lfX3_35 rfl g_a0 dX3_addStep_1 ?_
  refine z_sipush dX3_addStep_4 ks_240 ?_
  refine z_icmp_ge (tgt := 40) dX3_addStep_7 (by decide) (fun c1 => ?_) (fun c1 => ?_)
  · have hf := z_if_t hf c1
    cases hf
    exact z_vret hk rfl dX3_addStep_40
  · have hf := z_if_f hf c1
    refine z_aload_n dX3_addStep_10 rfl rfl (z_okl g_a0) ?_
    refine y_getR lfX3_9 rfl g_a0 dX3_addStep_11 ?_
    refine z_aload_n dX3_addStep_14 rfl rfl (z_okl g_a0) ?_
    refine y_getI lfX3_35 rfl g_a0 dX3_addStep_15 ?_
    refine z_iload_n dX3_addStep_18 rfl rfl ?_
    obtain ⟨g2, hf⟩ := z_g_el hf
    refine y_iast g2 dX3_addStep_19 (fun I3 eI3 => ?_)
    have hf := z_l_el hf eI3
    refine z_aload_n dX3_addStep_20 rfl rfl (z_okl g_a0) ?_
    refine y_getR lfX3_13 rfl g_a0 dX3_addStep_21 ?_
    refine z_aload_n dX3_addStep_24 rfl rfl (z_okl g_a0) ?_
    refine y_getI lfX3_35 rfl g_a0 dX3_addStep_25 ?_
    refine z_iload_n dX3_addStep_28 rfl rfl ?_
    obtain ⟨g4, hf⟩ := z_g_el hf
    refine y_iast g4 dX3_addStep_29 (fun I5 eI5 => ?_)
    have hf := z_l_el hf eI5
    refine z_aload_n dX3_addStep_30 rfl rfl (z_okl g_a0) ?_
    refine z_dup dX3_addStep_31 rfl ?_
    refine y_getI lfX3_35 rfl g_a0 dX3_addStep_32 ?_
    refine z_iconst dX3_addStep_35 kc_1 ?_
    refine z_iadd dX3_addStep_36 ?_
    refine y_putI lfX3_35 rfl g_a0 rfl rfl rfl dX3_addStep_37 (fun I6 eI6 => ?_)
    have hf := z_l_el hf eI6
    cases hf
    exact z_vret hk rfl dX3_addStep_40
theorem wX3_addStep {G : z_G} {d : Nat} {a0 : Nat} {x1 : Int32} {x2 : Int32} {I : Nat → Nat → Int32} {R : Nat → Nat → Nat} {q : (Nat → Nat → Int32)} (hd : 0 ≤ d) (hf : fX3_addStep a0 x1 x2 I R = some q) : z_M G d 0 0 eX3_addStep [.ref a0, .int x1, .int x2] z_SH (I, R) (z_E none (q, R)) :=
  y_M_of _ (by decide +kernel) rfl rfl rfl (vX3_addStep hd hf ⟨rfl, rfl, rfl⟩)
def fX3_addSkip (a0 : Nat) (x1 : Int32) (x2 : Int32) (I : Nat → Nat → Int32) (R : Nat → Nat → Nat) : Option (Int32 × (Nat → Nat → Int32)) :=
  z_g (z_ob a0 3) (z_b (fX3_addStep a0 x1 x2 I R) (fun q1 => some ((q1 a0 2) - (1 : Int32), q1)))
theorem vX3_addSkip {G : z_G} {d : Nat} {Q : Option Value → z_S → z_H → Prop} {a0 : Nat} {x1 : Int32} {x2 : Int32} {I : Nat → Nat → Int32} {R : Nat → Nat → Nat} {q : Int32 × (Nat → Nat → Int32)} (hd : 1 ≤ d) (hf : fX3_addSkip a0 x1 x2 I R = some q) (hk : Q (some (.int q.1)) z_SH (q.2, R)) : z_W G eX3_addSkip d 0 0 0 [some (.ref a0), some (.int x1), some (.int x2)] [] z_SH (I, R) Q := by
  unfold fX3_addSkip at hf
  obtain ⟨g_a0, hf⟩ := z_g_el hf
  refine z_aload_n dX3_addSkip_0 rfl rfl (z_okl g_a0) ?_
  refine z_iload_n dX3_addSkip_1 rfl rfl ?_
  refine z_iload_n dX3_addSkip_2 rfl rfl ?_
  obtain ⟨q1, hq1, hf⟩ := z_b_el hf
  refine y_cVv (av := [.int x1, .int x2]) (Nat.le_trans (Nat.le_of_ble_eq_true rfl) hd) (wX3_addStep (z_dl rfl hd) hq1) oX3_addStep lmX3_38 iX3_addStep g_a0 rfl _ rfl rfl (Nat.le_of_ble_eq_true rfl) dX3_addSkip_3 ?_
  refine z_aload_n dX3_addSkip_6 rfl rfl (z_okl g_a0) ?_
  refine y_getI lfX3_35 rfl g_a0 dX3_addSkip_7 ?_
  refine z_iconst dX3_addSkip_10 kc_1 ?_
  refine z_isub dX3_addSkip_11 ?_
  cases hf
  exact z_iret hk ⟨_, rfl, rfl⟩ dX3_addSkip_12
theorem wX3_addSkip {G : z_G} {d : Nat} {a0 : Nat} {x1 : Int32} {x2 : Int32} {I : Nat → Nat → Int32} {R : Nat → Nat → Nat} {q : Int32 × (Nat → Nat → Int32)} (hd : 1 ≤ d) (hf : fX3_addSkip a0 x1 x2 I R = some q) : z_M G d 0 0 eX3_addSkip [.ref a0, .int x1, .int x2] z_SH (I, R) (z_E (some (.int q.1)) (q.2, R)) :=
  y_M_of _ (by decide +kernel) rfl rfl rfl (vX3_addSkip hd hf ⟨rfl, rfl, rfl⟩)
def fX3_landHere_b4 (a0 : Nat) (R : Nat → Nat → Nat) : (Int32 × Int32 × (Nat → Nat → Int32)) → Option ((Int32 × Int32 × (Nat → Nat → Int32)) ⊕ ((Nat → Nat → Int32))) :=
  fun s => (fun (p2 : Int32) (p3 : Int32) (I : Nat → Nat → Int32) => if (240 : Int32) ≤ p3 then (some (.inr I)) else (if p2 < 0 then (some (.inr I)) else (if (I a0 2) ≤ p2 then (some (.inr I)) else (z_g (z_ok 1 (R a0 1) p2) (z_l (I (R a0 1) p2.toNatClampNeg) (fun t5 => z_l (z_u I (R a0 1) p2.toNatClampNeg (I a0 2)) (fun I6 => z_l (p3 + (1 : Int32)) (fun t7 => some (.inl (t5, t7, I6)))))))))) s.1 s.2.1 s.2.2
theorem wX3_landHere_b4 {G : z_G} {d : Nat} {Q : Option Value → z_S → z_H → Prop} {a0 : Nat} {R : Nat → Nat → Nat} (hd : 0 ≤ d) (g_a0 : z_ob a0 3) : ∀ (s : Int32 × Int32 × (Nat → Nat → Int32)) (o : (Int32 × Int32 × (Nat → Nat → Int32)) ⊕ ((Nat → Nat → Int32))), fX3_landHere_b4 a0 R s = some o → z_or (fun s : Int32 × Int32 × (Nat → Nat → Int32) => z_W G eX3_landHere d 0 0 4 [some (.ref a0), none, some (.int s.1), some (.int s.2.1), none] [] z_SH (s.2.2, R) Q) (fun x : (Nat → Nat → Int32) => z_W G eX3_landHere d 0 0 50 [none, none, none, none, none] [] z_SH (x, R) Q) o → (fun s : Int32 × Int32 × (Nat → Nat → Int32) => z_W G eX3_landHere d 0 0 4 [some (.ref a0), none, some (.int s.1), some (.int s.2.1), none] [] z_SH (s.2.2, R) Q) s := by
  rintro ⟨p2, p3, I⟩ o hf hk
  show z_W G eX3_landHere d 0 0 4 [some (.ref a0), none, some (.int p2), some (.int p3), none] [] z_SH (I, R) Q
  unfold fX3_landHere_b4 at hf
  try dsimp only at hf
  refine z_iload_n dX3_landHere_4 rfl rfl ?_
  refine z_sipush dX3_landHere_5 ks_240 ?_
  refine z_icmp_ge (tgt := 50) dX3_landHere_8 (by decide) (fun c1 => ?_) (fun c1 => ?_)
  · have hf := z_if_t hf c1
    cases hf
    exact y_sub hk (z_le_n (z_le_n (z_le_n (z_le_n (z_le_n z_le_0)))))
  · have hf := z_if_f hf c1
    refine z_iload_n dX3_landHere_11 rfl rfl ?_
    refine z_if_lt (tgt := 50) dX3_landHere_12 (by decide) (fun c2 => ?_) (fun c2 => ?_)
    · have hf := z_if_t hf c2
      cases hf
      exact y_sub hk (z_le_n (z_le_n (z_le_n (z_le_n (z_le_n z_le_0)))))
    · have hf := z_if_f hf c2
      refine z_iload_n dX3_landHere_15 rfl rfl ?_
      refine z_aload_n dX3_landHere_16 rfl rfl (z_okl g_a0) ?_
      refine y_getI lfX3_35 rfl g_a0 dX3_landHere_17 ?_
      refine z_icmp_ge (tgt := 50) dX3_landHere_20 (by decide) (fun c3 => ?_) (fun c3 => ?_)
      · have hf := z_if_t hf c3
        cases hf
        exact y_sub hk (z_le_n (z_le_n (z_le_n (z_le_n (z_le_n z_le_0)))))
      · have hf := z_if_f hf c3
        refine z_aload_n dX3_landHere_23 rfl rfl (z_okl g_a0) ?_
        refine y_getR lfX3_13 rfl g_a0 dX3_landHere_24 ?_
        refine z_iload_n dX3_landHere_27 rfl rfl ?_
        obtain ⟨g4, hf⟩ := z_g_el hf
        refine y_iald g4 dX3_landHere_28 ?_
        refine y_istore (fun t5 => [some (.ref a0), none, some (.int p2), some (.int p3), some (.int t5)]) dX3_landHere_29 (by decide) (fun _ => rfl) (fun t5 et5 => ?_)
        have hf := z_l_el hf et5
        refine z_aload_n dX3_landHere_31 rfl rfl (z_okl g_a0) ?_
        refine y_getR lfX3_13 rfl g_a0 dX3_landHere_32 ?_
        refine z_iload_n dX3_landHere_35 rfl rfl ?_
        refine z_aload_n dX3_landHere_36 rfl rfl (z_okl g_a0) ?_
        refine y_getI lfX3_35 rfl g_a0 dX3_landHere_37 ?_
        refine y_iast g4 dX3_landHere_40 (fun I6 eI6 => ?_)
        have hf := z_l_el hf eI6
        refine z_iload dX3_landHere_41 rfl ?_
        refine y_istore_n0 [some (.ref a0), none, some (.int t5), some (.int p3), some (.int t5)] dX3_landHere_43 rfl (by decide) rfl ?_
        refine y_iinc (fun t7 => [some (.ref a0), none, some (.int t5), some (.int t7), some (.int t5)]) dX3_landHere_44 rfl kc_1 (by decide) (fun _ => rfl) (fun t7 et7 => ?_)
        have hf := z_l_el hf et7
        refine z_goto (tgt := 4) dX3_landHere_47 (by decide) ?_
        cases hf
        exact y_sub hk (z_le_c rfl (z_le_n (z_le_c rfl (z_le_c rfl (z_le_n z_le_0)))))
def fX3_landHere (a0 : Nat) (x1 : Int32) (I : Nat → Nat → Int32) (R : Nat → Nat → Nat) : Option ((Nat → Nat → Int32)) :=
  z_g (z_ob a0 3) (z_b (z_lp (fX3_landHere_b4 a0 R) 300 (x1, (0 : Int32), I)) (fun q8 => some q8))
theorem vX3_landHere {G : z_G} {d : Nat} {Q : Option Value → z_S → z_H → Prop} {a0 : Nat} {x1 : Int32} {I : Nat → Nat → Int32} {R : Nat → Nat → Nat} {q : (Nat → Nat → Int32)} (hd : 0 ≤ d) (hf : fX3_landHere a0 x1 I R = some q) (hk : Q none z_SH (q, R)) : z_W G eX3_landHere d 0 0 0 [some (.ref a0), some (.int x1), none, none, none] [] z_SH (I, R) Q := by
  unfold fX3_landHere at hf
  obtain ⟨g_a0, hf⟩ := z_g_el hf
  refine z_iload_n dX3_landHere_0 rfl rfl ?_
  refine y_istore_n0 [some (.ref a0), some (.int x1), some (.int x1), none, none] dX3_landHere_1 rfl (by decide) rfl ?_
  refine z_iconst dX3_landHere_2 kc_0 ?_
  refine y_istore_n0 [some (.ref a0), some (.int x1), some (.int x1), some (.int (0 : Int32)), none] dX3_landHere_3 rfl (by decide) rfl ?_
  obtain ⟨q8, hq8, hf⟩ := z_b_el hf
  refine y_sub (lv' := [some (.ref a0), none, some (.int x1), some (.int (0 : Int32)), none]) ?_ (z_le_c rfl (z_le_n (z_le_c rfl (z_le_c rfl (z_le_n z_le_0)))))
  refine z_lp_el (P := (fun s : Int32 × Int32 × (Nat → Nat → Int32) => z_W G eX3_landHere d 0 0 4 [some (.ref a0), none, some (.int s.1), some (.int s.2.1), none] [] z_SH (s.2.2, R) Q)) (E := (fun x : (Nat → Nat → Int32) => z_W G eX3_landHere d 0 0 50 [none, none, none, none, none] [] z_SH (x, R) Q)) (wX3_landHere_b4 hd g_a0) 300 (x1, (0 : Int32), I) q8 hq8 ?_
  show z_W G eX3_landHere d 0 0 50 [none, none, none, none, none] [] z_SH (q8, R) _
  cases hf
  exact z_vret hk rfl dX3_landHere_50
theorem wX3_landHere {G : z_G} {d : Nat} {a0 : Nat} {x1 : Int32} {I : Nat → Nat → Int32} {R : Nat → Nat → Nat} {q : (Nat → Nat → Int32)} (hd : 0 ≤ d) (hf : fX3_landHere a0 x1 I R = some q) : z_M G d 0 0 eX3_landHere [.ref a0, .int x1] z_SH (I, R) (z_E none (q, R)) :=
  y_M_of _ (by decide +kernel) rfl rfl rfl (vX3_landHere hd hf ⟨rfl, rfl, rfl⟩)
def fX3_addRule (a0 : Nat) (x1 : Int32) (x2 : Int32) (x3 : Int32) (I : Nat → Nat → Int32) (R : Nat → Nat → Nat) : Option ((Nat → Nat → Int32)) :=
  z_g (z_ob a0 3) (if (16 : Int32) ≤ (I a0 7) then (some I) else (z_g (z_ok 1 (R a0 3) (I a0 7)) (z_l (z_u I (R a0 3) (I a0 7).toNatClampNeg x1) (fun I3 => z_g (z_ok 1 (R a0 4) (I3 a0 7)) (z_l (z_u I3 (R a0 4) (I3 a0 7).toNatClampNeg x2) (fun I5 => z_g (z_ok 1 (R a0 5) (I5 a0 7)) (z_l (z_u I5 (R a0 5) (I5 a0 7).toNatClampNeg x3) (fun I7 => z_g (z_ok 1 (R a0 6) (I7 a0 7)) (z_l (z_u I7 (R a0 6) (I7 a0 7).toNatClampNeg (I7 a0 2)) (fun I9 => z_l (z_u I9 a0 7 ((I9 a0 7) + (1 : Int32))) (fun I10 => some I10)))))))))))
theorem vX3_addRule {G : z_G} {d : Nat} {Q : Option Value → z_S → z_H → Prop} {a0 : Nat} {x1 : Int32} {x2 : Int32} {x3 : Int32} {I : Nat → Nat → Int32} {R : Nat → Nat → Nat} {q : (Nat → Nat → Int32)} (hd : 0 ≤ d) (hf : fX3_addRule a0 x1 x2 x3 I R = some q) (hk : Q none z_SH (q, R)) : z_W G eX3_addRule d 0 0 0 [some (.ref a0), some (.int x1), some (.int x2), some (.int x3)] [] z_SH (I, R) Q := by
  unfold fX3_addRule at hf
  obtain ⟨g_a0, hf⟩ := z_g_el hf
  refine z_aload_n dX3_addRule_0 rfl rfl (z_okl g_a0) ?_
  refine y_getI lfX3_31 rfl g_a0 dX3_addRule_1 ?_
  refine z_bipush dX3_addRule_4 kb_16 ?_
  refine z_icmp_ge (tgt := 62) dX3_addRule_6 (by decide) (fun c1 => ?_) (fun c1 => ?_)
  · have hf := z_if_t hf c1
    cases hf
    exact z_vret hk rfl dX3_addRule_62
  · have hf := z_if_f hf c1
    refine z_aload_n dX3_addRule_9 rfl rfl (z_okl g_a0) ?_
    refine y_getR lfX3_16 rfl g_a0 dX3_addRule_10 ?_
    refine z_aload_n dX3_addRule_13 rfl rfl (z_okl g_a0) ?_
    refine y_getI lfX3_31 rfl g_a0 dX3_addRule_14 ?_
    refine z_iload_n dX3_addRule_17 rfl rfl ?_
    obtain ⟨g2, hf⟩ := z_g_el hf
    refine y_iast g2 dX3_addRule_18 (fun I3 eI3 => ?_)
    have hf := z_l_el hf eI3
    refine z_aload_n dX3_addRule_19 rfl rfl (z_okl g_a0) ?_
    refine y_getR lfX3_19 rfl g_a0 dX3_addRule_20 ?_
    refine z_aload_n dX3_addRule_23 rfl rfl (z_okl g_a0) ?_
    refine y_getI lfX3_31 rfl g_a0 dX3_addRule_24 ?_
    refine z_iload_n dX3_addRule_27 rfl rfl ?_
    obtain ⟨g4, hf⟩ := z_g_el hf
    refine y_iast g4 dX3_addRule_28 (fun I5 eI5 => ?_)
    have hf := z_l_el hf eI5
    refine z_aload_n dX3_addRule_29 rfl rfl (z_okl g_a0) ?_
    refine y_getR lfX3_22 rfl g_a0 dX3_addRule_30 ?_
    refine z_aload_n dX3_addRule_33 rfl rfl (z_okl g_a0) ?_
    refine y_getI lfX3_31 rfl g_a0 dX3_addRule_34 ?_
    refine z_iload_n dX3_addRule_37 rfl rfl ?_
    obtain ⟨g6, hf⟩ := z_g_el hf
    refine y_iast g6 dX3_addRule_38 (fun I7 eI7 => ?_)
    have hf := z_l_el hf eI7
    refine z_aload_n dX3_addRule_39 rfl rfl (z_okl g_a0) ?_
    refine y_getR lfX3_25 rfl g_a0 dX3_addRule_40 ?_
    refine z_aload_n dX3_addRule_43 rfl rfl (z_okl g_a0) ?_
    refine y_getI lfX3_31 rfl g_a0 dX3_addRule_44 ?_
    refine z_aload_n dX3_addRule_47 rfl rfl (z_okl g_a0) ?_
    refine y_getI lfX3_35 rfl g_a0 dX3_addRule_48 ?_
    obtain ⟨g8, hf⟩ := z_g_el hf
    refine y_iast g8 dX3_addRule_51 (fun I9 eI9 => ?_)
    have hf := z_l_el hf eI9
    refine z_aload_n dX3_addRule_52 rfl rfl (z_okl g_a0) ?_
    refine z_dup dX3_addRule_53 rfl ?_
    refine y_getI lfX3_31 rfl g_a0 dX3_addRule_54 ?_
    refine z_iconst dX3_addRule_57 kc_1 ?_
    refine z_iadd dX3_addRule_58 ?_
    refine y_putI lfX3_31 rfl g_a0 rfl rfl rfl dX3_addRule_59 (fun I10 eI10 => ?_)
    have hf := z_l_el hf eI10
    cases hf
    exact z_vret hk rfl dX3_addRule_62
theorem wX3_addRule {G : z_G} {d : Nat} {a0 : Nat} {x1 : Int32} {x2 : Int32} {x3 : Int32} {I : Nat → Nat → Int32} {R : Nat → Nat → Nat} {q : (Nat → Nat → Int32)} (hd : 0 ≤ d) (hf : fX3_addRule a0 x1 x2 x3 I R = some q) : z_M G d 0 0 eX3_addRule [.ref a0, .int x1, .int x2, .int x3] z_SH (I, R) (z_E none (q, R)) :=
  y_M_of _ (by decide +kernel) rfl rfl rfl (vX3_addRule hd hf ⟨rfl, rfl, rfl⟩)
def fX10_open (a0 : Nat) (x1 : Int32) (I : Nat → Nat → Int32) : Option ((Nat → Nat → Int32)) :=
  z_g (z_ob a0 10) (z_l (z_u I a0 2 (0 : Int32)) (fun I1 => z_l (z_u I1 a0 3 (z_min x1 (I1 a0 1))) (fun I2 => z_l (z_u I2 a0 4 (0 : Int32)) (fun I3 => some I3))))
theorem vX10_open {G : z_G} {d : Nat} {Q : Option Value → z_S → z_H → Prop} {a0 : Nat} {x1 : Int32} {I : Nat → Nat → Int32} {R : Nat → Nat → Nat} {q : (Nat → Nat → Int32)} (hd : 1 ≤ d) (hf : fX10_open a0 x1 I = some q) (hk : Q none z_SH (q, R)) : z_W G eX10_open d 0 0 0 [some (.ref a0), some (.int x1)] [] z_SH (I, R) Q := by
  unfold fX10_open at hf
  obtain ⟨g_a0, hf⟩ := z_g_el hf
  refine z_aload_n dX10_open_0 rfl rfl (z_okl g_a0) ?_
  refine z_iconst dX10_open_1 kc_0 ?_
  refine y_putI lfX10_21 rfl g_a0 rfl rfl rfl dX10_open_2 (fun I1 eI1 => ?_)
  have hf := z_l_el hf eI1
  refine z_aload_n dX10_open_5 rfl rfl (z_okl g_a0) ?_
  refine z_iload_n dX10_open_6 rfl rfl ?_
  refine z_aload_n dX10_open_7 rfl rfl (z_okl g_a0) ?_
  refine y_getI lfX10_13 rfl g_a0 dX10_open_8 ?_
  refine y_min (Nat.le_trans (Nat.le_of_ble_eq_true rfl) hd) lmX10_24 (Nat.le_of_ble_eq_true rfl) dX10_open_11 ?_
  refine y_putI lfX10_30 rfl g_a0 rfl rfl rfl dX10_open_14 (fun I2 eI2 => ?_)
  have hf := z_l_el hf eI2
  refine z_aload_n dX10_open_17 rfl rfl (z_okl g_a0) ?_
  refine z_iconst dX10_open_18 kc_0 ?_
  refine y_putI lfX10_33 rfl g_a0 rfl rfl rfl dX10_open_19 (fun I3 eI3 => ?_)
  have hf := z_l_el hf eI3
  cases hf
  exact z_vret hk rfl dX10_open_22
theorem wX10_open {G : z_G} {d : Nat} {a0 : Nat} {x1 : Int32} {I : Nat → Nat → Int32} {R : Nat → Nat → Nat} {q : (Nat → Nat → Int32)} (hd : 1 ≤ d) (hf : fX10_open a0 x1 I = some q) : z_M G d 0 0 eX10_open [.ref a0, .int x1] z_SH (I, R) (z_E none (q, R)) :=
  y_M_of _ (by decide +kernel) rfl rfl rfl (vX10_open hd hf ⟨rfl, rfl, rfl⟩)
def fX10_sign (a0 : Nat) (I : Nat → Nat → Int32) (R : Nat → Nat → Nat) : Option (Int32) :=
  z_g (z_ob a0 10) (if (I a0 2) < 0 then (some (-1 : Int32)) else (if (I a0 3) ≤ (I a0 2) then (some (-1 : Int32)) else (z_g (z_ok 1 (R a0 0) (I a0 2)) (some (I (R a0 0) (I a0 2).toNatClampNeg)))))
theorem vX10_sign {G : z_G} {d : Nat} {Q : Option Value → z_S → z_H → Prop} {a0 : Nat} {I : Nat → Nat → Int32} {R : Nat → Nat → Nat} {q : Int32} (hd : 0 ≤ d) (hf : fX10_sign a0 I R = some q) (hk : Q (some (.int q)) z_SH (I, R)) : z_W G eX10_sign d 0 0 0 [some (.ref a0)] [] z_SH (I, R) Q := by
  unfold fX10_sign at hf
  obtain ⟨g_a0, hf⟩ := z_g_el hf
  refine z_aload_n dX10_sign_0 rfl rfl (z_okl g_a0) ?_
  refine y_getI lfX10_21 rfl g_a0 dX10_sign_1 ?_
  refine z_if_lt (tgt := 30) dX10_sign_4 (by decide) (fun c1 => ?_) (fun c1 => ?_)
  · have hf := z_if_t hf c1
    refine z_iconst dX10_sign_30 kc_m1 ?_
    cases hf
    exact z_iret hk ⟨_, rfl, rfl⟩ dX10_sign_31
  · have hf := z_if_f hf c1
    refine z_aload_n dX10_sign_7 rfl rfl (z_okl g_a0) ?_
    refine y_getI lfX10_21 rfl g_a0 dX10_sign_8 ?_
    refine z_aload_n dX10_sign_11 rfl rfl (z_okl g_a0) ?_
    refine y_getI lfX10_30 rfl g_a0 dX10_sign_12 ?_
    refine z_icmp_ge (tgt := 30) dX10_sign_15 (by decide) (fun c2 => ?_) (fun c2 => ?_)
    · have hf := z_if_t hf c2
      refine z_iconst dX10_sign_30 kc_m1 ?_
      cases hf
      exact z_iret hk ⟨_, rfl, rfl⟩ dX10_sign_31
    · have hf := z_if_f hf c2
      refine z_aload_n dX10_sign_18 rfl rfl (z_okl g_a0) ?_
      refine y_getR lfX10_9 rfl g_a0 dX10_sign_19 ?_
      refine z_aload_n dX10_sign_22 rfl rfl (z_okl g_a0) ?_
      refine y_getI lfX10_21 rfl g_a0 dX10_sign_23 ?_
      obtain ⟨g3, hf⟩ := z_g_el hf
      refine y_iald g3 dX10_sign_26 ?_
      refine z_goto (tgt := 31) dX10_sign_27 (by decide) ?_
      cases hf
      exact z_iret hk ⟨_, rfl, rfl⟩ dX10_sign_31
theorem wX10_sign {G : z_G} {d : Nat} {a0 : Nat} {I : Nat → Nat → Int32} {R : Nat → Nat → Nat} {q : Int32} (hd : 0 ≤ d) (hf : fX10_sign a0 I R = some q) : z_M G d 0 0 eX10_sign [.ref a0] z_SH (I, R) (z_E (some (.int q)) (I, R)) :=
  y_M_of _ (by decide +kernel) rfl rfl rfl (vX10_sign hd hf ⟨rfl, rfl, rfl⟩)
def fX4_kindOf (x0 : Int32) : Option (Int32) :=
  if x0 = (98 : Int32) then (some (2 : Int32)) else (if x0 = (99 : Int32) then (some (3 : Int32)) else (if x0 = (117 : Int32) then (some (0 : Int32)) else (if x0 = (118 : Int32) then (some (1 : Int32)) else (if x0 = (120 : Int32) then (some (4 : Int32)) else (some (-1 : Int32))))))
theorem vX4_kindOf {G : z_G} {d : Nat} {Q : Option Value → z_S → z_H → Prop} {x0 : Int32} {I : Nat → Nat → Int32} {R : Nat → Nat → Nat} {q : Int32} (hd : 0 ≤ d) (hf : fX4_kindOf x0 = some q) (hk : Q (some (.int q)) z_SH (I, R)) : z_W G eX4_kindOf d 0 0 0 [some (.int x0)] [] z_SH (I, R) Q := by
  unfold fX4_kindOf at hf
  refine z_iload_n dX4_kindOf_0 rfl rfl ?_
  by_cases c1 : x0 = (98 : Int32)
  · have hf := z_if_t hf c1
    refine z_look (off := 55) (tgt := 56) dX4_kindOf_1 (by decide) (by rw [c1]; rfl) (by decide) ?_
    refine z_iconst dX4_kindOf_56 kc_2 ?_
    cases hf
    exact z_iret hk ⟨_, rfl, rfl⟩ dX4_kindOf_57
  · have hf := z_if_f hf c1
    by_cases c2 : x0 = (99 : Int32)
    · have hf := z_if_t hf c2
      refine z_look (off := 57) (tgt := 58) dX4_kindOf_1 (by decide) (by rw [c2]; rfl) (by decide) ?_
      refine z_iconst dX4_kindOf_58 kc_3 ?_
      cases hf
      exact z_iret hk ⟨_, rfl, rfl⟩ dX4_kindOf_59
    · have hf := z_if_f hf c2
      by_cases c3 : x0 = (117 : Int32)
      · have hf := z_if_t hf c3
        refine z_look (off := 51) (tgt := 52) dX4_kindOf_1 (by decide) (by rw [c3]; rfl) (by decide) ?_
        refine z_iconst dX4_kindOf_52 kc_0 ?_
        cases hf
        exact z_iret hk ⟨_, rfl, rfl⟩ dX4_kindOf_53
      · have hf := z_if_f hf c3
        by_cases c4 : x0 = (118 : Int32)
        · have hf := z_if_t hf c4
          refine z_look (off := 53) (tgt := 54) dX4_kindOf_1 (by decide) (by rw [c4]; rfl) (by decide) ?_
          refine z_iconst dX4_kindOf_54 kc_1 ?_
          cases hf
          exact z_iret hk ⟨_, rfl, rfl⟩ dX4_kindOf_55
        · have hf := z_if_f hf c4
          by_cases c5 : x0 = (120 : Int32)
          · have hf := z_if_t hf c5
            refine z_look (off := 59) (tgt := 60) dX4_kindOf_1 (by decide) (by rw [c5]; rfl) (by decide) ?_
            refine z_iconst dX4_kindOf_60 kc_4 ?_
            cases hf
            exact z_iret hk ⟨_, rfl, rfl⟩ dX4_kindOf_61
          · have hf := z_if_f hf c5
            have nc1 : ¬ (x0).toInt = 98 := z_toInt_ne c1
            have nc2 : ¬ (x0).toInt = 99 := z_toInt_ne c2
            have nc3 : ¬ (x0).toInt = 117 := z_toInt_ne c3
            have nc4 : ¬ (x0).toInt = 118 := z_toInt_ne c4
            have nc5 : ¬ (x0).toInt = 120 := z_toInt_ne c5
            refine z_look (off := 61) (tgt := 62) dX4_kindOf_1 (by decide) (by simp [Op.lookupswitch.offset, Ne.symm nc1, nc1, Ne.symm nc2, nc2, Ne.symm nc3, nc3, Ne.symm nc4, nc4, Ne.symm nc5, nc5]) (by decide) ?_
            refine z_iconst dX4_kindOf_62 kc_m1 ?_
            cases hf
            exact z_iret hk ⟨_, rfl, rfl⟩ dX4_kindOf_63
theorem wX4_kindOf {G : z_G} {d : Nat} {x0 : Int32} {I : Nat → Nat → Int32} {R : Nat → Nat → Nat} {q : Int32} (hd : 0 ≤ d) (hf : fX4_kindOf x0 = some q) : z_M G d 0 0 eX4_kindOf [.int x0] z_SH (I, R) (z_E (some (.int q)) (I, R)) :=
  y_M_of _ (by decide +kernel) rfl rfl rfl (vX4_kindOf hd hf ⟨rfl, rfl, rfl⟩)
def fX10_place (a0 : Nat) (I : Nat → Nat → Int32) : Option (Int32) :=
  z_g (z_ob a0 10) (some (I a0 2))
theorem vX10_place {G : z_G} {d : Nat} {Q : Option Value → z_S → z_H → Prop} {a0 : Nat} {I : Nat → Nat → Int32} {R : Nat → Nat → Nat} {q : Int32} (hd : 0 ≤ d) (hf : fX10_place a0 I = some q) (hk : Q (some (.int q)) z_SH (I, R)) : z_W G eX10_place d 0 0 0 [some (.ref a0)] [] z_SH (I, R) Q := by
  unfold fX10_place at hf
  obtain ⟨g_a0, hf⟩ := z_g_el hf
  refine z_aload_n dX10_place_0 rfl rfl (z_okl g_a0) ?_
  refine y_getI lfX10_21 rfl g_a0 dX10_place_1 ?_
  cases hf
  exact z_iret hk ⟨_, rfl, rfl⟩ dX10_place_4
theorem wX10_place {G : z_G} {d : Nat} {a0 : Nat} {I : Nat → Nat → Int32} {R : Nat → Nat → Nat} {q : Int32} (hd : 0 ≤ d) (hf : fX10_place a0 I = some q) : z_M G d 0 0 eX10_place [.ref a0] z_SH (I, R) (z_E (some (.int q)) (I, R)) :=
  y_M_of _ (by decide +kernel) rfl rfl rfl (vX10_place hd hf ⟨rfl, rfl, rfl⟩)
def fX10_fails (a0 : Nat) (x1 : Int32) (x2 : Int32) (I : Nat → Nat → Int32) : Option (Int32 × (Nat → Nat → Int32)) :=
  z_g (z_ob a0 10) (z_l (z_u I a0 4 (((-1000 : Int32) * x1) - x2)) (fun I1 => some ((0 : Int32), I1)))
theorem vX10_fails {G : z_G} {d : Nat} {Q : Option Value → z_S → z_H → Prop} {a0 : Nat} {x1 : Int32} {x2 : Int32} {I : Nat → Nat → Int32} {R : Nat → Nat → Nat} {q : Int32 × (Nat → Nat → Int32)} (hd : 0 ≤ d) (hf : fX10_fails a0 x1 x2 I = some q) (hk : Q (some (.int q.1)) z_SH (q.2, R)) : z_W G eX10_fails d 0 0 0 [some (.ref a0), some (.int x1), some (.int x2)] [] z_SH (I, R) Q := by
  unfold fX10_fails at hf
  obtain ⟨g_a0, hf⟩ := z_g_el hf
  refine z_aload_n dX10_fails_0 rfl rfl (z_okl g_a0) ?_
  refine z_sipush dX10_fails_1 ks_m1000 ?_
  refine z_iload_n dX10_fails_4 rfl rfl ?_
  refine z_imul dX10_fails_5 ?_
  refine z_iload_n dX10_fails_6 rfl rfl ?_
  refine z_isub dX10_fails_7 ?_
  refine y_putI lfX10_33 rfl g_a0 rfl rfl rfl dX10_fails_8 (fun I1 eI1 => ?_)
  have hf := z_l_el hf eI1
  refine z_iconst dX10_fails_11 kc_0 ?_
  cases hf
  exact z_iret hk ⟨_, rfl, rfl⟩ dX10_fails_12
theorem wX10_fails {G : z_G} {d : Nat} {a0 : Nat} {x1 : Int32} {x2 : Int32} {I : Nat → Nat → Int32} {R : Nat → Nat → Nat} {q : Int32 × (Nat → Nat → Int32)} (hd : 0 ≤ d) (hf : fX10_fails a0 x1 x2 I = some q) : z_M G d 0 0 eX10_fails [.ref a0, .int x1, .int x2] z_SH (I, R) (z_E (some (.int q.1)) (q.2, R)) :=
  y_M_of _ (by decide +kernel) rfl rfl rfl (vX10_fails hd hf ⟨rfl, rfl, rfl⟩)
def fX10_pass (a0 : Nat) (I : Nat → Nat → Int32) : Option ((Nat → Nat → Int32)) :=
  z_g (z_ob a0 10) (z_l (z_u I a0 2 ((I a0 2) + (1 : Int32))) (fun I1 => some I1))
theorem vX10_pass {G : z_G} {d : Nat} {Q : Option Value → z_S → z_H → Prop} {a0 : Nat} {I : Nat → Nat → Int32} {R : Nat → Nat → Nat} {q : (Nat → Nat → Int32)} (hd : 0 ≤ d) (hf : fX10_pass a0 I = some q) (hk : Q none z_SH (q, R)) : z_W G eX10_pass d 0 0 0 [some (.ref a0)] [] z_SH (I, R) Q := by
  unfold fX10_pass at hf
  obtain ⟨g_a0, hf⟩ := z_g_el hf
  refine z_aload_n dX10_pass_0 rfl rfl (z_okl g_a0) ?_
  refine z_dup dX10_pass_1 rfl ?_
  refine y_getI lfX10_21 rfl g_a0 dX10_pass_2 ?_
  refine z_iconst dX10_pass_5 kc_1 ?_
  refine z_iadd dX10_pass_6 ?_
  refine y_putI lfX10_21 rfl g_a0 rfl rfl rfl dX10_pass_7 (fun I1 eI1 => ?_)
  have hf := z_l_el hf eI1
  cases hf
  exact z_vret hk rfl dX10_pass_10
theorem wX10_pass {G : z_G} {d : Nat} {a0 : Nat} {I : Nat → Nat → Int32} {R : Nat → Nat → Nat} {q : (Nat → Nat → Int32)} (hd : 0 ≤ d) (hf : fX10_pass a0 I = some q) : z_M G d 0 0 eX10_pass [.ref a0] z_SH (I, R) (z_E none (q, R)) :=
  y_M_of _ (by decide +kernel) rfl rfl rfl (vX10_pass hd hf ⟨rfl, rfl, rfl⟩)
def fX10_passes (a0 : Nat) (x1 : Int32) (I : Nat → Nat → Int32) (R : Nat → Nat → Nat) : Option (Int32 × (Nat → Nat → Int32)) :=
  z_g (z_ob a0 10) (z_b (fX10_sign a0 I R) (fun q1 => if q1 = x1 then (z_l (z_u I a0 2 ((I a0 2) + (1 : Int32))) (fun I3 => some ((1 : Int32), I3))) else (z_b (fX10_fails a0 (1 : Int32) (I a0 2) I) (fun q4 => z_g (q4.1 = 0 ∨ q4.1 = 1) (some (q4.1, q4.2))))))
theorem vX10_passes {G : z_G} {d : Nat} {Q : Option Value → z_S → z_H → Prop} {a0 : Nat} {x1 : Int32} {I : Nat → Nat → Int32} {R : Nat → Nat → Nat} {q : Int32 × (Nat → Nat → Int32)} (hd : 1 ≤ d) (hf : fX10_passes a0 x1 I R = some q) (hk : Q (some (.int q.1)) z_SH (q.2, R)) : z_W G eX10_passes d 0 0 0 [some (.ref a0), some (.int x1)] [] z_SH (I, R) Q := by
  unfold fX10_passes at hf
  obtain ⟨g_a0, hf⟩ := z_g_el hf
  refine z_aload_n dX10_passes_0 rfl rfl (z_okl g_a0) ?_
  obtain ⟨q1, hq1, hf⟩ := z_b_el hf
  refine y_cVi (av := []) (Nat.le_trans (Nat.le_of_ble_eq_true rfl) hd) (wX10_sign (z_dl rfl hd) hq1) oX10_sign lmX10_36 iX10_sign g_a0 rfl _ rfl rfl (Nat.le_of_ble_eq_true rfl) dX10_passes_1 ?_
  refine z_iload_n dX10_passes_4 rfl rfl ?_
  refine z_icmp_eq (tgt := 18) dX10_passes_5 (by decide) (fun c2 => ?_) (fun c2 => ?_)
  · have hf := z_if_t hf c2
    refine z_aload_n dX10_passes_18 rfl rfl (z_okl g_a0) ?_
    refine z_dup dX10_passes_19 rfl ?_
    refine y_getI lfX10_21 rfl g_a0 dX10_passes_20 ?_
    refine z_iconst dX10_passes_23 kc_1 ?_
    refine z_iadd dX10_passes_24 ?_
    refine y_putI lfX10_21 rfl g_a0 rfl rfl rfl dX10_passes_25 (fun I3 eI3 => ?_)
    have hf := z_l_el hf eI3
    refine z_iconst dX10_passes_28 kc_1 ?_
    cases hf
    exact z_iret hk ⟨_, rfl, rfl⟩ dX10_passes_29
  · have hf := z_if_f hf c2
    refine z_aload_n dX10_passes_8 rfl rfl (z_okl g_a0) ?_
    refine z_iconst dX10_passes_9 kc_1 ?_
    refine z_aload_n dX10_passes_10 rfl rfl (z_okl g_a0) ?_
    refine y_getI lfX10_21 rfl g_a0 dX10_passes_11 ?_
    obtain ⟨q4, hq4, hf⟩ := z_b_el hf
    refine y_cVi (av := [.int (1 : Int32), .int (I a0 2)]) (Nat.le_trans (Nat.le_of_ble_eq_true rfl) hd) (wX10_fails (z_dl rfl hd) hq4) oX10_fails lmX10_40 iX10_fails g_a0 rfl _ rfl rfl (Nat.le_of_ble_eq_true rfl) dX10_passes_14 ?_
    obtain ⟨g5, hf⟩ := z_g_el hf
    cases hf
    exact z_iret hk ⟨_, rfl, z_bn g5⟩ dX10_passes_17
theorem wX10_passes {G : z_G} {d : Nat} {a0 : Nat} {x1 : Int32} {I : Nat → Nat → Int32} {R : Nat → Nat → Nat} {q : Int32 × (Nat → Nat → Int32)} (hd : 1 ≤ d) (hf : fX10_passes a0 x1 I R = some q) : z_M G d 0 0 eX10_passes [.ref a0, .int x1] z_SH (I, R) (z_E (some (.int q.1)) (q.2, R)) :=
  y_M_of _ (by decide +kernel) rfl rfl rfl (vX10_passes hd hf ⟨rfl, rfl, rfl⟩)
def fX4_isDigit (x0 : Int32) : Option (Int32) :=
  if x0 < (48 : Int32) then (some (0 : Int32)) else (if (57 : Int32) < x0 then (some (0 : Int32)) else (some (1 : Int32)))
theorem vX4_isDigit {G : z_G} {d : Nat} {Q : Option Value → z_S → z_H → Prop} {x0 : Int32} {I : Nat → Nat → Int32} {R : Nat → Nat → Nat} {q : Int32} (hd : 0 ≤ d) (hf : fX4_isDigit x0 = some q) (hk : Q (some (.int q)) z_SH (I, R)) : z_W G eX4_isDigit d 0 0 0 [some (.int x0)] [] z_SH (I, R) Q := by
  unfold fX4_isDigit at hf
  refine z_iload_n dX4_isDigit_0 rfl rfl ?_
  refine z_bipush dX4_isDigit_1 kb_48 ?_
  refine z_icmp_lt (tgt := 16) dX4_isDigit_3 (by decide) (fun c1 => ?_) (fun c1 => ?_)
  · have hf := z_if_t hf c1
    refine z_iconst dX4_isDigit_16 kc_0 ?_
    cases hf
    exact z_iret hk ⟨_, rfl, rfl⟩ dX4_isDigit_17
  · have hf := z_if_f hf c1
    refine z_iload_n dX4_isDigit_6 rfl rfl ?_
    refine z_bipush dX4_isDigit_7 kb_57 ?_
    refine z_icmp_gt (tgt := 16) dX4_isDigit_9 (by decide) (fun c2 => ?_) (fun c2 => ?_)
    · have hf := z_if_t hf c2
      refine z_iconst dX4_isDigit_16 kc_0 ?_
      cases hf
      exact z_iret hk ⟨_, rfl, rfl⟩ dX4_isDigit_17
    · have hf := z_if_f hf c2
      refine z_iconst dX4_isDigit_12 kc_1 ?_
      refine z_goto (tgt := 17) dX4_isDigit_13 (by decide) ?_
      cases hf
      exact z_iret hk ⟨_, rfl, rfl⟩ dX4_isDigit_17
theorem wX4_isDigit {G : z_G} {d : Nat} {x0 : Int32} {I : Nat → Nat → Int32} {R : Nat → Nat → Nat} {q : Int32} (hd : 0 ≤ d) (hf : fX4_isDigit x0 = some q) : z_M G d 0 0 eX4_isDigit [.int x0] z_SH (I, R) (z_E (some (.int q)) (I, R)) :=
  y_M_of _ (by decide +kernel) rfl rfl rfl (vX4_isDigit hd hf ⟨rfl, rfl, rfl⟩)
def fX4_readNumber_b4 (a0 : Nat) (R : Nat → Nat → Nat) : (Int32 × Int32 × (Nat → Nat → Int32)) → Option ((Int32 × Int32 × (Nat → Nat → Int32)) ⊕ (Int32 × (Nat → Nat → Int32))) :=
  fun s => (fun (p1 : Int32) (p2 : Int32) (I : Nat → Nat → Int32) => if (5 : Int32) ≤ p2 then (some (.inr (p1, I))) else (z_g (z_ob (R a0 0) 10) (z_b (fX10_sign (R a0 0) I R) (fun q2 => z_b (fX4_isDigit q2) (fun q4 => if q4 = 0 then (some (.inr (p1, I))) else (z_b (fX10_sign (R a0 0) I R) (fun q6 => z_l (((p1 * (10 : Int32)) + q6) - (48 : Int32)) (fun t7 => z_b (fX10_pass (R a0 0) I) (fun q8 => z_l (p2 + (1 : Int32)) (fun t9 => some (.inl (t7, t9, q8)))))))))))) s.1 s.2.1 s.2.2
theorem wX4_readNumber_b4 {G : z_G} {d : Nat} {Q : Option Value → z_S → z_H → Prop} {a0 : Nat} {R : Nat → Nat → Nat} (hd : 1 ≤ d) (g_a0 : z_ob a0 4) : ∀ (s : Int32 × Int32 × (Nat → Nat → Int32)) (o : (Int32 × Int32 × (Nat → Nat → Int32)) ⊕ (Int32 × (Nat → Nat → Int32))), fX4_readNumber_b4 a0 R s = some o → z_or (fun s : Int32 × Int32 × (Nat → Nat → Int32) => z_W G eX4_readNumber d 0 0 4 [some (.ref a0), some (.int s.1), some (.int s.2.1)] [] z_SH (s.2.2, R) Q) (fun x : Int32 × (Nat → Nat → Int32) => z_W G eX4_readNumber d 0 0 51 [some (.ref a0), some (.int x.1), none] [] z_SH (x.2, R) Q) o → (fun s : Int32 × Int32 × (Nat → Nat → Int32) => z_W G eX4_readNumber d 0 0 4 [some (.ref a0), some (.int s.1), some (.int s.2.1)] [] z_SH (s.2.2, R) Q) s := by
  rintro ⟨p1, p2, I⟩ o hf hk
  show z_W G eX4_readNumber d 0 0 4 [some (.ref a0), some (.int p1), some (.int p2)] [] z_SH (I, R) Q
  unfold fX4_readNumber_b4 at hf
  try dsimp only at hf
  refine z_iload_n dX4_readNumber_4 rfl rfl ?_
  refine z_iconst dX4_readNumber_5 kc_5 ?_
  refine z_icmp_ge (tgt := 51) dX4_readNumber_6 (by decide) (fun c1 => ?_) (fun c1 => ?_)
  · have hf := z_if_t hf c1
    cases hf
    exact y_sub hk (z_le_c rfl (z_le_c rfl (z_le_n z_le_0)))
  · have hf := z_if_f hf c1
    refine z_aload_n dX4_readNumber_9 rfl rfl (z_okl g_a0) ?_
    refine y_getR lfX4_9 rfl g_a0 dX4_readNumber_10 ?_
    obtain ⟨g3, hf⟩ := z_g_el hf
    obtain ⟨q2, hq2, hf⟩ := z_b_el hf
    refine y_cVi (av := []) (Nat.le_trans (Nat.le_of_ble_eq_true rfl) hd) (wX10_sign (z_dl rfl hd) hq2) oX10_sign lmX4_34 iX10_sign g3 rfl _ rfl rfl (Nat.le_of_ble_eq_true rfl) dX4_readNumber_13 ?_
    obtain ⟨q4, hq4, hf⟩ := z_b_el hf
    refine y_cSi (Nat.le_trans (Nat.le_of_ble_eq_true rfl) hd) (wX4_isDigit (z_dl rfl hd) hq4) oX4_isDigit lmX4_101 sX4_isDigit _ rfl rfl (Nat.le_of_ble_eq_true rfl) dX4_readNumber_16 ?_
    refine z_if_eq (tgt := 51) dX4_readNumber_19 (by decide) (fun c5 => ?_) (fun c5 => ?_)
    · have hf := z_if_t hf c5
      cases hf
      exact y_sub hk (z_le_c rfl (z_le_c rfl (z_le_n z_le_0)))
    · have hf := z_if_f hf c5
      refine z_iload_n dX4_readNumber_22 rfl rfl ?_
      refine z_bipush dX4_readNumber_23 kb_10 ?_
      refine z_imul dX4_readNumber_25 ?_
      refine z_aload_n dX4_readNumber_26 rfl rfl (z_okl g_a0) ?_
      refine y_getR lfX4_9 rfl g_a0 dX4_readNumber_27 ?_
      obtain ⟨q6, hq6, hf⟩ := z_b_el hf
      refine y_cVi (av := []) (Nat.le_trans (Nat.le_of_ble_eq_true rfl) hd) (wX10_sign (z_dl rfl hd) hq6) oX10_sign lmX4_34 iX10_sign g3 rfl _ rfl rfl (Nat.le_of_ble_eq_true rfl) dX4_readNumber_30 ?_
      refine z_iadd dX4_readNumber_33 ?_
      refine z_bipush dX4_readNumber_34 kb_48 ?_
      refine z_isub dX4_readNumber_36 ?_
      refine y_istore_n (fun t7 => [some (.ref a0), some (.int t7), some (.int p2)]) dX4_readNumber_37 rfl (by decide) (fun _ => rfl) (fun t7 et7 => ?_)
      have hf := z_l_el hf et7
      refine z_aload_n dX4_readNumber_38 rfl rfl (z_okl g_a0) ?_
      refine y_getR lfX4_9 rfl g_a0 dX4_readNumber_39 ?_
      obtain ⟨q8, hq8, hf⟩ := z_b_el hf
      refine y_cVv (av := []) (Nat.le_trans (Nat.le_of_ble_eq_true rfl) hd) (wX10_pass (z_dl rfl hd) hq8) oX10_pass lmX4_38 iX10_pass g3 rfl _ rfl rfl (Nat.le_of_ble_eq_true rfl) dX4_readNumber_42 ?_
      refine y_iinc (fun t9 => [some (.ref a0), some (.int t7), some (.int t9)]) dX4_readNumber_45 rfl kc_1 (by decide) (fun _ => rfl) (fun t9 et9 => ?_)
      have hf := z_l_el hf et9
      refine z_goto (tgt := 4) dX4_readNumber_48 (by decide) ?_
      cases hf
      exact y_sub hk (z_le_c rfl (z_le_c rfl (z_le_c rfl z_le_0)))
def fX4_readNumber_j51 (a0 : Nat) (y1 : Int32) (I : Nat → Nat → Int32) (R : Nat → Nat → Nat) : Option (Int32 × (Nat → Nat → Int32)) :=
  z_g (z_ob (R a0 0) 10) (z_b (fX10_sign (R a0 0) I R) (fun q11 => z_b (fX4_isDigit q11) (fun q13 => if q13 = 0 then (z_g (z_ob (R a0 1) 3) (z_b (fX3_addStep (R a0 1) (0 : Int32) y1 I R) (fun q15 => some ((1 : Int32), q15)))) else (z_b (fX10_place (R a0 0) I) (fun q17 => z_b (fX10_fails (R a0 0) (2 : Int32) q17 I) (fun q18 => z_g (q18.1 = 0 ∨ q18.1 = 1) (some (q18.1, q18.2))))))))
theorem wX4_readNumber_j51 {G : z_G} {d : Nat} {Q : Option Value → z_S → z_H → Prop} {a0 : Nat} {y1 : Int32} {I : Nat → Nat → Int32} {R : Nat → Nat → Nat} {o : Int32 × (Nat → Nat → Int32)} (hd : 1 ≤ d) (g_a0 : z_ob a0 4) (hf : fX4_readNumber_j51 a0 y1 I R = some o) (hk : Q (some (.int o.1)) z_SH (o.2, R)) : z_W G eX4_readNumber d 0 0 51 [some (.ref a0), some (.int y1), none] [] z_SH (I, R) Q := by
  unfold fX4_readNumber_j51 at hf
  refine z_aload_n dX4_readNumber_51 rfl rfl (z_okl g_a0) ?_
  refine y_getR lfX4_9 rfl g_a0 dX4_readNumber_52 ?_
  obtain ⟨g12, hf⟩ := z_g_el hf
  obtain ⟨q11, hq11, hf⟩ := z_b_el hf
  refine y_cVi (av := []) (Nat.le_trans (Nat.le_of_ble_eq_true rfl) hd) (wX10_sign (z_dl rfl hd) hq11) oX10_sign lmX4_34 iX10_sign g12 rfl _ rfl rfl (Nat.le_of_ble_eq_true rfl) dX4_readNumber_55 ?_
  obtain ⟨q13, hq13, hf⟩ := z_b_el hf
  refine y_cSi (Nat.le_trans (Nat.le_of_ble_eq_true rfl) hd) (wX4_isDigit (z_dl rfl hd) hq13) oX4_isDigit lmX4_101 sX4_isDigit _ rfl rfl (Nat.le_of_ble_eq_true rfl) dX4_readNumber_58 ?_
  refine z_if_eq (tgt := 80) dX4_readNumber_61 (by decide) (fun c14 => ?_) (fun c14 => ?_)
  · have hf := z_if_t hf c14
    refine z_aload_n dX4_readNumber_80 rfl rfl (z_okl g_a0) ?_
    refine y_getR lfX4_15 rfl g_a0 dX4_readNumber_81 ?_
    refine z_iconst dX4_readNumber_84 kc_0 ?_
    refine z_iload_n dX4_readNumber_85 rfl rfl ?_
    obtain ⟨g16, hf⟩ := z_g_el hf
    obtain ⟨q15, hq15, hf⟩ := z_b_el hf
    refine y_cVv (av := [.int (0 : Int32), .int y1]) (Nat.le_trans (Nat.le_of_ble_eq_true rfl) hd) (wX3_addStep (z_dl rfl hd) hq15) oX3_addStep lmX4_91 iX3_addStep g16 rfl _ rfl rfl (Nat.le_of_ble_eq_true rfl) dX4_readNumber_86 ?_
    refine z_iconst dX4_readNumber_89 kc_1 ?_
    cases hf
    exact z_iret hk ⟨_, rfl, rfl⟩ dX4_readNumber_90
  · have hf := z_if_f hf c14
    refine z_aload_n dX4_readNumber_64 rfl rfl (z_okl g_a0) ?_
    refine y_getR lfX4_9 rfl g_a0 dX4_readNumber_65 ?_
    refine z_iconst dX4_readNumber_68 kc_2 ?_
    refine z_aload_n dX4_readNumber_69 rfl rfl (z_okl g_a0) ?_
    refine y_getR lfX4_9 rfl g_a0 dX4_readNumber_70 ?_
    obtain ⟨q17, hq17, hf⟩ := z_b_el hf
    refine y_cVi (av := []) (Nat.le_trans (Nat.le_of_ble_eq_true rfl) hd) (wX10_place (z_dl rfl hd) hq17) oX10_place lmX4_55 iX10_place g12 rfl _ rfl rfl (Nat.le_of_ble_eq_true rfl) dX4_readNumber_73 ?_
    obtain ⟨q18, hq18, hf⟩ := z_b_el hf
    refine y_cVi (av := [.int (2 : Int32), .int q17]) (Nat.le_trans (Nat.le_of_ble_eq_true rfl) hd) (wX10_fails (z_dl rfl hd) hq18) oX10_fails lmX4_58 iX10_fails g12 rfl _ rfl rfl (Nat.le_of_ble_eq_true rfl) dX4_readNumber_76 ?_
    obtain ⟨g19, hf⟩ := z_g_el hf
    cases hf
    exact z_iret hk ⟨_, rfl, z_bn g19⟩ dX4_readNumber_79
def fX4_readNumber (a0 : Nat) (I : Nat → Nat → Int32) (R : Nat → Nat → Nat) : Option (Int32 × (Nat → Nat → Int32)) :=
  z_g (z_ob a0 4) (z_b (z_lp (fX4_readNumber_b4 a0 R) 300 ((0 : Int32), (0 : Int32), I)) (fun q10 => fX4_readNumber_j51 a0 q10.1 q10.2 R))
theorem vX4_readNumber {G : z_G} {d : Nat} {Q : Option Value → z_S → z_H → Prop} {a0 : Nat} {I : Nat → Nat → Int32} {R : Nat → Nat → Nat} {q : Int32 × (Nat → Nat → Int32)} (hd : 1 ≤ d) (hf : fX4_readNumber a0 I R = some q) (hk : Q (some (.int q.1)) z_SH (q.2, R)) : z_W G eX4_readNumber d 0 0 0 [some (.ref a0), none, none] [] z_SH (I, R) Q := by
  unfold fX4_readNumber at hf
  obtain ⟨g_a0, hf⟩ := z_g_el hf
  refine z_iconst dX4_readNumber_0 kc_0 ?_
  refine y_istore_n0 [some (.ref a0), some (.int (0 : Int32)), none] dX4_readNumber_1 rfl (by decide) rfl ?_
  refine z_iconst dX4_readNumber_2 kc_0 ?_
  refine y_istore_n0 [some (.ref a0), some (.int (0 : Int32)), some (.int (0 : Int32))] dX4_readNumber_3 rfl (by decide) rfl ?_
  obtain ⟨q10, hq10, hf⟩ := z_b_el hf
  refine y_sub (lv' := [some (.ref a0), some (.int (0 : Int32)), some (.int (0 : Int32))]) ?_ (z_le_c rfl (z_le_c rfl (z_le_c rfl z_le_0)))
  refine z_lp_el (P := (fun s : Int32 × Int32 × (Nat → Nat → Int32) => z_W G eX4_readNumber d 0 0 4 [some (.ref a0), some (.int s.1), some (.int s.2.1)] [] z_SH (s.2.2, R) Q)) (E := (fun x : Int32 × (Nat → Nat → Int32) => z_W G eX4_readNumber d 0 0 51 [some (.ref a0), some (.int x.1), none] [] z_SH (x.2, R) Q)) (wX4_readNumber_b4 hd g_a0) 300 ((0 : Int32), (0 : Int32), I) q10 hq10 ?_
  show z_W G eX4_readNumber d 0 0 51 [some (.ref a0), some (.int q10.1), none] [] z_SH (q10.2, R) _
  exact y_sub (wX4_readNumber_j51 hd g_a0 hf hk) (z_le_c rfl (z_le_c rfl (z_le_n z_le_0)))
theorem wX4_readNumber {G : z_G} {d : Nat} {a0 : Nat} {I : Nat → Nat → Int32} {R : Nat → Nat → Nat} {q : Int32 × (Nat → Nat → Int32)} (hd : 1 ≤ d) (hf : fX4_readNumber a0 I R = some q) : z_M G d 0 0 eX4_readNumber [.ref a0] z_SH (I, R) (z_E (some (.int q.1)) (q.2, R)) :=
  y_M_of _ (by decide +kernel) rfl rfl rfl (vX4_readNumber hd hf ⟨rfl, rfl, rfl⟩)
def fX4_letterOf (x0 : Int32) : Option (Int32) :=
  if x0 = (97 : Int32) then (some (3 : Int32)) else (if x0 = (98 : Int32) then (some (-1 : Int32)) else (if x0 = (99 : Int32) then (some (-1 : Int32)) else (if x0 = (100 : Int32) then (some (1 : Int32)) else (if x0 = (101 : Int32) then (some (-1 : Int32)) else (if x0 = (102 : Int32) then (some (-1 : Int32)) else (if x0 = (103 : Int32) then (some (-1 : Int32)) else (if x0 = (104 : Int32) then (some (-1 : Int32)) else (if x0 = (105 : Int32) then (some (-1 : Int32)) else (if x0 = (106 : Int32) then (some (-1 : Int32)) else (if x0 = (107 : Int32) then (some (6 : Int32)) else (if x0 = (108 : Int32) then (some (5 : Int32)) else (if x0 = (109 : Int32) then (some (-1 : Int32)) else (if x0 = (110 : Int32) then (some (4 : Int32)) else (if x0 = (111 : Int32) then (some (-1 : Int32)) else (if x0 = (112 : Int32) then (some (2 : Int32)) else (if x0 = (113 : Int32) then (some (-1 : Int32)) else (if x0 = (114 : Int32) then (some (-1 : Int32)) else (if x0 = (115 : Int32) then (some (0 : Int32)) else (if x0 = (116 : Int32) then (some (7 : Int32)) else (some (-1 : Int32)))))))))))))))))))))
theorem vX4_letterOf {G : z_G} {d : Nat} {Q : Option Value → z_S → z_H → Prop} {x0 : Int32} {I : Nat → Nat → Int32} {R : Nat → Nat → Nat} {q : Int32} (hd : 0 ≤ d) (hf : fX4_letterOf x0 = some q) (hk : Q (some (.int q)) z_SH (I, R)) : z_W G eX4_letterOf d 0 0 0 [some (.int x0)] [] z_SH (I, R) Q := by
  unfold fX4_letterOf at hf
  refine z_iload_n dX4_letterOf_0 rfl rfl ?_
  by_cases c1 : x0 = (97 : Int32)
  · have hf := z_if_t hf c1
    refine z_tabIn (off := 101) (tgt := 102) dX4_letterOf_1 (by rw [c1]; decide) (by rw [c1]; decide) (by rw [c1]; rfl) (by decide) ?_
    refine z_iconst dX4_letterOf_102 kc_3 ?_
    cases hf
    exact z_iret hk ⟨_, rfl, rfl⟩ dX4_letterOf_103
  · have hf := z_if_f hf c1
    by_cases c2 : x0 = (98 : Int32)
    · have hf := z_if_t hf c2
      refine z_tabIn (off := 113) (tgt := 114) dX4_letterOf_1 (by rw [c2]; decide) (by rw [c2]; decide) (by rw [c2]; rfl) (by decide) ?_
      refine z_iconst dX4_letterOf_114 kc_m1 ?_
      cases hf
      exact z_iret hk ⟨_, rfl, rfl⟩ dX4_letterOf_115
    · have hf := z_if_f hf c2
      by_cases c3 : x0 = (99 : Int32)
      · have hf := z_if_t hf c3
        refine z_tabIn (off := 113) (tgt := 114) dX4_letterOf_1 (by rw [c3]; decide) (by rw [c3]; decide) (by rw [c3]; rfl) (by decide) ?_
        refine z_iconst dX4_letterOf_114 kc_m1 ?_
        cases hf
        exact z_iret hk ⟨_, rfl, rfl⟩ dX4_letterOf_115
      · have hf := z_if_f hf c3
        by_cases c4 : x0 = (100 : Int32)
        · have hf := z_if_t hf c4
          refine z_tabIn (off := 97) (tgt := 98) dX4_letterOf_1 (by rw [c4]; decide) (by rw [c4]; decide) (by rw [c4]; rfl) (by decide) ?_
          refine z_iconst dX4_letterOf_98 kc_1 ?_
          cases hf
          exact z_iret hk ⟨_, rfl, rfl⟩ dX4_letterOf_99
        · have hf := z_if_f hf c4
          by_cases c5 : x0 = (101 : Int32)
          · have hf := z_if_t hf c5
            refine z_tabIn (off := 113) (tgt := 114) dX4_letterOf_1 (by rw [c5]; decide) (by rw [c5]; decide) (by rw [c5]; rfl) (by decide) ?_
            refine z_iconst dX4_letterOf_114 kc_m1 ?_
            cases hf
            exact z_iret hk ⟨_, rfl, rfl⟩ dX4_letterOf_115
          · have hf := z_if_f hf c5
            by_cases c6 : x0 = (102 : Int32)
            · have hf := z_if_t hf c6
              refine z_tabIn (off := 113) (tgt := 114) dX4_letterOf_1 (by rw [c6]; decide) (by rw [c6]; decide) (by rw [c6]; rfl) (by decide) ?_
              refine z_iconst dX4_letterOf_114 kc_m1 ?_
              cases hf
              exact z_iret hk ⟨_, rfl, rfl⟩ dX4_letterOf_115
            · have hf := z_if_f hf c6
              by_cases c7 : x0 = (103 : Int32)
              · have hf := z_if_t hf c7
                refine z_tabIn (off := 113) (tgt := 114) dX4_letterOf_1 (by rw [c7]; decide) (by rw [c7]; decide) (by rw [c7]; rfl) (by decide) ?_
                refine z_iconst dX4_letterOf_114 kc_m1 ?_
                cases hf
                exact z_iret hk ⟨_, rfl, rfl⟩ dX4_letterOf_115
              · have hf := z_if_f hf c7
                by_cases c8 : x0 = (104 : Int32)
                · have hf := z_if_t hf c8
                  refine z_tabIn (off := 113) (tgt := 114) dX4_letterOf_1 (by rw [c8]; decide) (by rw [c8]; decide) (by rw [c8]; rfl) (by decide) ?_
                  refine z_iconst dX4_letterOf_114 kc_m1 ?_
                  cases hf
                  exact z_iret hk ⟨_, rfl, rfl⟩ dX4_letterOf_115
                · have hf := z_if_f hf c8
                  by_cases c9 : x0 = (105 : Int32)
                  · have hf := z_if_t hf c9
                    refine z_tabIn (off := 113) (tgt := 114) dX4_letterOf_1 (by rw [c9]; decide) (by rw [c9]; decide) (by rw [c9]; rfl) (by decide) ?_
                    refine z_iconst dX4_letterOf_114 kc_m1 ?_
                    cases hf
                    exact z_iret hk ⟨_, rfl, rfl⟩ dX4_letterOf_115
                  · have hf := z_if_f hf c9
                    by_cases c10 : x0 = (106 : Int32)
                    · have hf := z_if_t hf c10
                      refine z_tabIn (off := 113) (tgt := 114) dX4_letterOf_1 (by rw [c10]; decide) (by rw [c10]; decide) (by rw [c10]; rfl) (by decide) ?_
                      refine z_iconst dX4_letterOf_114 kc_m1 ?_
                      cases hf
                      exact z_iret hk ⟨_, rfl, rfl⟩ dX4_letterOf_115
                    · have hf := z_if_f hf c10
                      by_cases c11 : x0 = (107 : Int32)
                      · have hf := z_if_t hf c11
                        refine z_tabIn (off := 107) (tgt := 108) dX4_letterOf_1 (by rw [c11]; decide) (by rw [c11]; decide) (by rw [c11]; rfl) (by decide) ?_
                        refine z_bipush dX4_letterOf_108 kb_6 ?_
                        cases hf
                        exact z_iret hk ⟨_, rfl, rfl⟩ dX4_letterOf_110
                      · have hf := z_if_f hf c11
                        by_cases c12 : x0 = (108 : Int32)
                        · have hf := z_if_t hf c12
                          refine z_tabIn (off := 105) (tgt := 106) dX4_letterOf_1 (by rw [c12]; decide) (by rw [c12]; decide) (by rw [c12]; rfl) (by decide) ?_
                          refine z_iconst dX4_letterOf_106 kc_5 ?_
                          cases hf
                          exact z_iret hk ⟨_, rfl, rfl⟩ dX4_letterOf_107
                        · have hf := z_if_f hf c12
                          by_cases c13 : x0 = (109 : Int32)
                          · have hf := z_if_t hf c13
                            refine z_tabIn (off := 113) (tgt := 114) dX4_letterOf_1 (by rw [c13]; decide) (by rw [c13]; decide) (by rw [c13]; rfl) (by decide) ?_
                            refine z_iconst dX4_letterOf_114 kc_m1 ?_
                            cases hf
                            exact z_iret hk ⟨_, rfl, rfl⟩ dX4_letterOf_115
                          · have hf := z_if_f hf c13
                            by_cases c14 : x0 = (110 : Int32)
                            · have hf := z_if_t hf c14
                              refine z_tabIn (off := 103) (tgt := 104) dX4_letterOf_1 (by rw [c14]; decide) (by rw [c14]; decide) (by rw [c14]; rfl) (by decide) ?_
                              refine z_iconst dX4_letterOf_104 kc_4 ?_
                              cases hf
                              exact z_iret hk ⟨_, rfl, rfl⟩ dX4_letterOf_105
                            · have hf := z_if_f hf c14
                              by_cases c15 : x0 = (111 : Int32)
                              · have hf := z_if_t hf c15
                                refine z_tabIn (off := 113) (tgt := 114) dX4_letterOf_1 (by rw [c15]; decide) (by rw [c15]; decide) (by rw [c15]; rfl) (by decide) ?_
                                refine z_iconst dX4_letterOf_114 kc_m1 ?_
                                cases hf
                                exact z_iret hk ⟨_, rfl, rfl⟩ dX4_letterOf_115
                              · have hf := z_if_f hf c15
                                by_cases c16 : x0 = (112 : Int32)
                                · have hf := z_if_t hf c16
                                  refine z_tabIn (off := 99) (tgt := 100) dX4_letterOf_1 (by rw [c16]; decide) (by rw [c16]; decide) (by rw [c16]; rfl) (by decide) ?_
                                  refine z_iconst dX4_letterOf_100 kc_2 ?_
                                  cases hf
                                  exact z_iret hk ⟨_, rfl, rfl⟩ dX4_letterOf_101
                                · have hf := z_if_f hf c16
                                  by_cases c17 : x0 = (113 : Int32)
                                  · have hf := z_if_t hf c17
                                    refine z_tabIn (off := 113) (tgt := 114) dX4_letterOf_1 (by rw [c17]; decide) (by rw [c17]; decide) (by rw [c17]; rfl) (by decide) ?_
                                    refine z_iconst dX4_letterOf_114 kc_m1 ?_
                                    cases hf
                                    exact z_iret hk ⟨_, rfl, rfl⟩ dX4_letterOf_115
                                  · have hf := z_if_f hf c17
                                    by_cases c18 : x0 = (114 : Int32)
                                    · have hf := z_if_t hf c18
                                      refine z_tabIn (off := 113) (tgt := 114) dX4_letterOf_1 (by rw [c18]; decide) (by rw [c18]; decide) (by rw [c18]; rfl) (by decide) ?_
                                      refine z_iconst dX4_letterOf_114 kc_m1 ?_
                                      cases hf
                                      exact z_iret hk ⟨_, rfl, rfl⟩ dX4_letterOf_115
                                    · have hf := z_if_f hf c18
                                      by_cases c19 : x0 = (115 : Int32)
                                      · have hf := z_if_t hf c19
                                        refine z_tabIn (off := 95) (tgt := 96) dX4_letterOf_1 (by rw [c19]; decide) (by rw [c19]; decide) (by rw [c19]; rfl) (by decide) ?_
                                        refine z_iconst dX4_letterOf_96 kc_0 ?_
                                        cases hf
                                        exact z_iret hk ⟨_, rfl, rfl⟩ dX4_letterOf_97
                                      · have hf := z_if_f hf c19
                                        by_cases c20 : x0 = (116 : Int32)
                                        · have hf := z_if_t hf c20
                                          refine z_tabIn (off := 110) (tgt := 111) dX4_letterOf_1 (by rw [c20]; decide) (by rw [c20]; decide) (by rw [c20]; rfl) (by decide) ?_
                                          refine z_bipush dX4_letterOf_111 kb_7 ?_
                                          cases hf
                                          exact z_iret hk ⟨_, rfl, rfl⟩ dX4_letterOf_113
                                        · have hf := z_if_f hf c20
                                          have nc1 : ¬ (x0).toInt = 97 := z_toInt_ne c1
                                          have nc2 : ¬ (x0).toInt = 98 := z_toInt_ne c2
                                          have nc3 : ¬ (x0).toInt = 99 := z_toInt_ne c3
                                          have nc4 : ¬ (x0).toInt = 100 := z_toInt_ne c4
                                          have nc5 : ¬ (x0).toInt = 101 := z_toInt_ne c5
                                          have nc6 : ¬ (x0).toInt = 102 := z_toInt_ne c6
                                          have nc7 : ¬ (x0).toInt = 103 := z_toInt_ne c7
                                          have nc8 : ¬ (x0).toInt = 104 := z_toInt_ne c8
                                          have nc9 : ¬ (x0).toInt = 105 := z_toInt_ne c9
                                          have nc10 : ¬ (x0).toInt = 106 := z_toInt_ne c10
                                          have nc11 : ¬ (x0).toInt = 107 := z_toInt_ne c11
                                          have nc12 : ¬ (x0).toInt = 108 := z_toInt_ne c12
                                          have nc13 : ¬ (x0).toInt = 109 := z_toInt_ne c13
                                          have nc14 : ¬ (x0).toInt = 110 := z_toInt_ne c14
                                          have nc15 : ¬ (x0).toInt = 111 := z_toInt_ne c15
                                          have nc16 : ¬ (x0).toInt = 112 := z_toInt_ne c16
                                          have nc17 : ¬ (x0).toInt = 113 := z_toInt_ne c17
                                          have nc18 : ¬ (x0).toInt = 114 := z_toInt_ne c18
                                          have nc19 : ¬ (x0).toInt = 115 := z_toInt_ne c19
                                          have nc20 : ¬ (x0).toInt = 116 := z_toInt_ne c20
                                          refine z_tabOut (tgt := 114) dX4_letterOf_1 (by omega) (by decide) ?_
                                          refine z_iconst dX4_letterOf_114 kc_m1 ?_
                                          cases hf
                                          exact z_iret hk ⟨_, rfl, rfl⟩ dX4_letterOf_115
theorem wX4_letterOf {G : z_G} {d : Nat} {x0 : Int32} {I : Nat → Nat → Int32} {R : Nat → Nat → Nat} {q : Int32} (hd : 0 ≤ d) (hf : fX4_letterOf x0 = some q) : z_M G d 0 0 eX4_letterOf [.int x0] z_SH (I, R) (z_E (some (.int q)) (I, R)) :=
  y_M_of _ (by decide +kernel) rfl rfl rfl (vX4_letterOf hd hf ⟨rfl, rfl, rfl⟩)
def z_selA (k : Nat) : z_Me := if k = 0 then eX4_readSum else if k = 1 then eX4_readTerm else eX4_readFactor
def fX4_readSum_j41_17 (rec : z_RT) (a0 : Nat) (z1 : Int32) (y3 : Int32) (y4 : Int32) (I : Nat → Nat → Int32) (R : Nat → Nat → Nat) : Option ((Int32 × Int32 × Int32 × (Nat → Nat → Int32)) ⊕ (Int32 × (Nat → Nat → Int32))) :=
  z_g (z_ob (R a0 0) 10) (z_b (fX10_pass (R a0 0) I) (fun q7 => z_b (rec 1 a0 z1 q7 R) (fun q9 => z_g (z_ob (R a0 1) 3) (z_b (fX3_addStep (R a0 1) y3 (0 : Int32) q9.2 R) (fun q10 => z_b (fX10_sign (R a0 0) q10 R) (fun q12 => z_l (y4 + (1 : Int32)) (fun t13 => some (.inl (q9.1, q12, t13, q10)))))))))
theorem wX4_readSum_j41_17 {G : z_G} {d : Nat} {Q : Option Value → z_S → z_H → Prop} {a0 : Nat} {z1 : Int32} {y3 : Int32} {y4 : Int32} {I : Nat → Nat → Int32} {R : Nat → Nat → Nat} {o : (Int32 × Int32 × Int32 × (Nat → Nat → Int32)) ⊕ (Int32 × (Nat → Nat → Int32))} (hd : 2 ≤ d) {rec : z_RT} (hrec : z_RC G d z_selA rec) (g_a0 : z_ob a0 4) (hf : fX4_readSum_j41_17 rec a0 z1 y3 y4 I R = some o) (hk : z_or (fun s : Int32 × Int32 × Int32 × (Nat → Nat → Int32) => z_W G eX4_readSum d 0 0 17 [some (.ref a0), some (.int z1), some (.int s.1), some (.int s.2.1), some (.int s.2.2.1)] [] z_SH (s.2.2.2, R) Q) (fun x : Int32 × (Nat → Nat → Int32) => z_W G eX4_readSum d 0 0 77 [none, none, some (.int x.1), none, none] [] z_SH (x.2, R) Q) o) : z_W G eX4_readSum d 0 0 41 [some (.ref a0), some (.int z1), none, some (.int y3), some (.int y4)] [] z_SH (I, R) Q := by
  unfold fX4_readSum_j41_17 at hf
  refine z_aload_n dX4_readSum_41 rfl rfl (z_okl g_a0) ?_
  refine y_getR lfX4_9 rfl g_a0 dX4_readSum_42 ?_
  obtain ⟨g8, hf⟩ := z_g_el hf
  obtain ⟨q7, hq7, hf⟩ := z_b_el hf
  refine y_cVv (av := []) (Nat.le_trans (Nat.le_of_ble_eq_true rfl) hd) (wX10_pass (z_dl rfl hd) hq7) oX10_pass lmX4_38 iX10_pass g8 rfl _ rfl rfl (Nat.le_of_ble_eq_true rfl) dX4_readSum_45 ?_
  refine z_aload_n dX4_readSum_48 rfl rfl (z_okl g_a0) ?_
  refine z_iload_n dX4_readSum_49 rfl rfl ?_
  obtain ⟨q9, hq9, hf⟩ := z_b_el hf
  refine y_cVi (av := [.int z1]) (Nat.le_trans (Nat.le_of_ble_eq_true rfl) hd) (hrec 1 _ _ _ _ _ hq9) oX4_readTerm lmX4_95 iX4_readTerm g_a0 rfl _ rfl rfl (Nat.le_of_ble_eq_true rfl) dX4_readSum_50 ?_
  refine y_istore_n0 [some (.ref a0), some (.int z1), some (.int q9.1), some (.int y3), some (.int y4)] dX4_readSum_53 rfl (by decide) rfl ?_
  refine z_aload_n dX4_readSum_54 rfl rfl (z_okl g_a0) ?_
  refine y_getR lfX4_15 rfl g_a0 dX4_readSum_55 ?_
  refine z_iload_n dX4_readSum_58 rfl rfl ?_
  refine z_iconst dX4_readSum_59 kc_0 ?_
  obtain ⟨g11, hf⟩ := z_g_el hf
  obtain ⟨q10, hq10, hf⟩ := z_b_el hf
  refine y_cVv (av := [.int y3, .int (0 : Int32)]) (Nat.le_trans (Nat.le_of_ble_eq_true rfl) hd) (wX3_addStep (z_dl rfl hd) hq10) oX3_addStep lmX4_91 iX3_addStep g11 rfl _ rfl rfl (Nat.le_of_ble_eq_true rfl) dX4_readSum_60 ?_
  refine z_aload_n dX4_readSum_63 rfl rfl (z_okl g_a0) ?_
  refine y_getR lfX4_9 rfl g_a0 dX4_readSum_64 ?_
  obtain ⟨q12, hq12, hf⟩ := z_b_el hf
  refine y_cVi (av := []) (Nat.le_trans (Nat.le_of_ble_eq_true rfl) hd) (wX10_sign (z_dl rfl hd) hq12) oX10_sign lmX4_34 iX10_sign g8 rfl _ rfl rfl (Nat.le_of_ble_eq_true rfl) dX4_readSum_67 ?_
  refine y_istore_n0 [some (.ref a0), some (.int z1), some (.int q9.1), some (.int q12), some (.int y4)] dX4_readSum_70 rfl (by decide) rfl ?_
  refine y_iinc (fun t13 => [some (.ref a0), some (.int z1), some (.int q9.1), some (.int q12), some (.int t13)]) dX4_readSum_71 rfl kc_1 (by decide) (fun _ => rfl) (fun t13 et13 => ?_)
  have hf := z_l_el hf et13
  refine z_goto (tgt := 17) dX4_readSum_74 (by decide) ?_
  cases hf
  exact y_sub hk (z_le_c rfl (z_le_c rfl (z_le_c rfl (z_le_c rfl (z_le_c rfl z_le_0)))))
def fX4_readSum_b17 (rec : z_RT) (a0 : Nat) (z1 : Int32) (R : Nat → Nat → Nat) : (Int32 × Int32 × Int32 × (Nat → Nat → Int32)) → Option ((Int32 × Int32 × Int32 × (Nat → Nat → Int32)) ⊕ (Int32 × (Nat → Nat → Int32))) :=
  fun s => (fun (p2 : Int32) (p3 : Int32) (p4 : Int32) (I : Nat → Nat → Int32) => if (240 : Int32) ≤ p4 then (some (.inr (p2, I))) else (if p2 = 0 then (some (.inr (p2, I))) else (if p3 = (43 : Int32) then (fX4_readSum_j41_17 rec a0 z1 p3 p4 I R) else (if p3 = (45 : Int32) then (fX4_readSum_j41_17 rec a0 z1 p3 p4 I R) else (some (.inr (p2, I))))))) s.1 s.2.1 s.2.2.1 s.2.2.2
theorem wX4_readSum_b17 {G : z_G} {d : Nat} {Q : Option Value → z_S → z_H → Prop} {a0 : Nat} {z1 : Int32} {R : Nat → Nat → Nat} (hd : 2 ≤ d) {rec : z_RT} (hrec : z_RC G d z_selA rec) (g_a0 : z_ob a0 4) : ∀ (s : Int32 × Int32 × Int32 × (Nat → Nat → Int32)) (o : (Int32 × Int32 × Int32 × (Nat → Nat → Int32)) ⊕ (Int32 × (Nat → Nat → Int32))), fX4_readSum_b17 rec a0 z1 R s = some o → z_or (fun s : Int32 × Int32 × Int32 × (Nat → Nat → Int32) => z_W G eX4_readSum d 0 0 17 [some (.ref a0), some (.int z1), some (.int s.1), some (.int s.2.1), some (.int s.2.2.1)] [] z_SH (s.2.2.2, R) Q) (fun x : Int32 × (Nat → Nat → Int32) => z_W G eX4_readSum d 0 0 77 [none, none, some (.int x.1), none, none] [] z_SH (x.2, R) Q) o → (fun s : Int32 × Int32 × Int32 × (Nat → Nat → Int32) => z_W G eX4_readSum d 0 0 17 [some (.ref a0), some (.int z1), some (.int s.1), some (.int s.2.1), some (.int s.2.2.1)] [] z_SH (s.2.2.2, R) Q) s := by
  rintro ⟨p2, p3, p4, I⟩ o hf hk
  show z_W G eX4_readSum d 0 0 17 [some (.ref a0), some (.int z1), some (.int p2), some (.int p3), some (.int p4)] [] z_SH (I, R) Q
  unfold fX4_readSum_b17 at hf
  try dsimp only at hf
  refine z_iload dX4_readSum_17 rfl ?_
  refine z_sipush dX4_readSum_19 ks_240 ?_
  refine z_icmp_ge (tgt := 77) dX4_readSum_22 (by decide) (fun c4 => ?_) (fun c4 => ?_)
  · have hf := z_if_t hf c4
    cases hf
    exact y_sub hk (z_le_n (z_le_n (z_le_c rfl (z_le_n (z_le_n z_le_0)))))
  · have hf := z_if_f hf c4
    refine z_iload_n dX4_readSum_25 rfl rfl ?_
    refine z_if_eq (tgt := 77) dX4_readSum_26 (by decide) (fun c5 => ?_) (fun c5 => ?_)
    · have hf := z_if_t hf c5
      cases hf
      exact y_sub hk (z_le_n (z_le_n (z_le_c rfl (z_le_n (z_le_n z_le_0)))))
    · have hf := z_if_f hf c5
      refine z_iload_n dX4_readSum_29 rfl rfl ?_
      refine z_bipush dX4_readSum_30 kb_43 ?_
      refine z_icmp_eq (tgt := 41) dX4_readSum_32 (by decide) (fun c6 => ?_) (fun c6 => ?_)
      · have hf := z_if_t hf c6
        exact y_sub (wX4_readSum_j41_17 hd hrec g_a0 hf hk) (z_le_c rfl (z_le_c rfl (z_le_n (z_le_c rfl (z_le_c rfl z_le_0)))))
      · have hf := z_if_f hf c6
        refine z_iload_n dX4_readSum_35 rfl rfl ?_
        refine z_bipush dX4_readSum_36 kb_45 ?_
        refine z_icmp_ne (tgt := 77) dX4_readSum_38 (by decide) (fun c14 => ?_) (fun c14 => ?_)
        · have hf := z_if_f hf c14
          cases hf
          exact y_sub hk (z_le_n (z_le_n (z_le_c rfl (z_le_n (z_le_n z_le_0)))))
        · have hf := z_if_t hf c14
          exact y_sub (wX4_readSum_j41_17 hd hrec g_a0 hf hk) (z_le_c rfl (z_le_c rfl (z_le_n (z_le_c rfl (z_le_c rfl z_le_0)))))
def fX4_readSum (rec : z_RT) (a0 : Nat) (x1 : Int32) (I : Nat → Nat → Int32) (R : Nat → Nat → Nat) : Option (Int32 × (Nat → Nat → Int32)) :=
  z_g (z_ob a0 4) (z_b (rec 1 a0 x1 I R) (fun q1 => z_g (z_ob (R a0 0) 10) (z_b (fX10_sign (R a0 0) q1.2 R) (fun q2 => z_b (z_lp (fX4_readSum_b17 rec a0 x1 R) 300 (q1.1, q2, (0 : Int32), q1.2)) (fun q15 => z_g (q15.1 = 0 ∨ q15.1 = 1) (some (q15.1, q15.2)))))))
theorem vX4_readSum {G : z_G} {d : Nat} {Q : Option Value → z_S → z_H → Prop} {a0 : Nat} {x1 : Int32} {I : Nat → Nat → Int32} {R : Nat → Nat → Nat} {q : Int32 × (Nat → Nat → Int32)} (hd : 2 ≤ d) {rec : z_RT} (hrec : z_RC G d z_selA rec) (hf : fX4_readSum rec a0 x1 I R = some q) (hk : Q (some (.int q.1)) z_SH (q.2, R)) : z_W G eX4_readSum d 0 0 0 [some (.ref a0), some (.int x1), none, none, none] [] z_SH (I, R) Q := by
  unfold fX4_readSum at hf
  obtain ⟨g_a0, hf⟩ := z_g_el hf
  refine z_aload_n dX4_readSum_0 rfl rfl (z_okl g_a0) ?_
  refine z_iload_n dX4_readSum_1 rfl rfl ?_
  obtain ⟨q1, hq1, hf⟩ := z_b_el hf
  refine y_cVi (av := [.int x1]) (Nat.le_trans (Nat.le_of_ble_eq_true rfl) hd) (hrec 1 _ _ _ _ _ hq1) oX4_readTerm lmX4_95 iX4_readTerm g_a0 rfl _ rfl rfl (Nat.le_of_ble_eq_true rfl) dX4_readSum_2 ?_
  refine y_istore_n0 [some (.ref a0), some (.int x1), some (.int q1.1), none, none] dX4_readSum_5 rfl (by decide) rfl ?_
  refine z_aload_n dX4_readSum_6 rfl rfl (z_okl g_a0) ?_
  refine y_getR lfX4_9 rfl g_a0 dX4_readSum_7 ?_
  obtain ⟨g3, hf⟩ := z_g_el hf
  obtain ⟨q2, hq2, hf⟩ := z_b_el hf
  refine y_cVi (av := []) (Nat.le_trans (Nat.le_of_ble_eq_true rfl) hd) (wX10_sign (z_dl rfl hd) hq2) oX10_sign lmX4_34 iX10_sign g3 rfl _ rfl rfl (Nat.le_of_ble_eq_true rfl) dX4_readSum_10 ?_
  refine y_istore_n0 [some (.ref a0), some (.int x1), some (.int q1.1), some (.int q2), none] dX4_readSum_13 rfl (by decide) rfl ?_
  refine z_iconst dX4_readSum_14 kc_0 ?_
  refine y_istore0 [some (.ref a0), some (.int x1), some (.int q1.1), some (.int q2), some (.int (0 : Int32))] dX4_readSum_15 (by decide) rfl ?_
  obtain ⟨q15, hq15, hf⟩ := z_b_el hf
  refine y_sub (lv' := [some (.ref a0), some (.int x1), some (.int q1.1), some (.int q2), some (.int (0 : Int32))]) ?_ (z_le_c rfl (z_le_c rfl (z_le_c rfl (z_le_c rfl (z_le_c rfl z_le_0)))))
  refine z_lp_el (P := (fun s : Int32 × Int32 × Int32 × (Nat → Nat → Int32) => z_W G eX4_readSum d 0 0 17 [some (.ref a0), some (.int x1), some (.int s.1), some (.int s.2.1), some (.int s.2.2.1)] [] z_SH (s.2.2.2, R) Q)) (E := (fun x : Int32 × (Nat → Nat → Int32) => z_W G eX4_readSum d 0 0 77 [none, none, some (.int x.1), none, none] [] z_SH (x.2, R) Q)) (wX4_readSum_b17 hd hrec g_a0) 300 (q1.1, q2, (0 : Int32), q1.2) q15 hq15 ?_
  show z_W G eX4_readSum d 0 0 77 [none, none, some (.int q15.1), none, none] [] z_SH (q15.2, R) _
  refine z_iload_n dX4_readSum_77 rfl rfl ?_
  obtain ⟨g16, hf⟩ := z_g_el hf
  cases hf
  exact z_iret hk ⟨_, rfl, z_bn g16⟩ dX4_readSum_78
theorem wX4_readSum {G : z_G} {d : Nat} {a0 : Nat} {x1 : Int32} {I : Nat → Nat → Int32} {R : Nat → Nat → Nat} {q : Int32 × (Nat → Nat → Int32)} (hd : 2 ≤ d) {rec : z_RT} (hrec : z_RC G d z_selA rec) (hf : fX4_readSum rec a0 x1 I R = some q) : z_M G d 0 0 eX4_readSum [.ref a0, .int x1] z_SH (I, R) (z_E (some (.int q.1)) (q.2, R)) :=
  y_M_of _ (by decide +kernel) rfl rfl rfl (vX4_readSum hd hrec hf ⟨rfl, rfl, rfl⟩)
def fX4_readTerm_j47_17 (rec : z_RT) (a0 : Nat) (z1 : Int32) (y3 : Int32) (y4 : Int32) (I : Nat → Nat → Int32) (R : Nat → Nat → Nat) : Option ((Int32 × Int32 × Int32 × (Nat → Nat → Int32)) ⊕ (Int32 × (Nat → Nat → Int32))) :=
  z_g (z_ob (R a0 0) 10) (z_b (fX10_pass (R a0 0) I) (fun q7 => z_b (rec 2 a0 z1 q7 R) (fun q9 => z_g (z_ob (R a0 1) 3) (z_b (fX3_addStep (R a0 1) y3 (0 : Int32) q9.2 R) (fun q10 => z_b (fX10_sign (R a0 0) q10 R) (fun q12 => z_l (y4 + (1 : Int32)) (fun t13 => some (.inl (q9.1, q12, t13, q10)))))))))
theorem wX4_readTerm_j47_17 {G : z_G} {d : Nat} {Q : Option Value → z_S → z_H → Prop} {a0 : Nat} {z1 : Int32} {y3 : Int32} {y4 : Int32} {I : Nat → Nat → Int32} {R : Nat → Nat → Nat} {o : (Int32 × Int32 × Int32 × (Nat → Nat → Int32)) ⊕ (Int32 × (Nat → Nat → Int32))} (hd : 2 ≤ d) {rec : z_RT} (hrec : z_RC G d z_selA rec) (g_a0 : z_ob a0 4) (hf : fX4_readTerm_j47_17 rec a0 z1 y3 y4 I R = some o) (hk : z_or (fun s : Int32 × Int32 × Int32 × (Nat → Nat → Int32) => z_W G eX4_readTerm d 0 0 17 [some (.ref a0), some (.int z1), some (.int s.1), some (.int s.2.1), some (.int s.2.2.1)] [] z_SH (s.2.2.2, R) Q) (fun x : Int32 × (Nat → Nat → Int32) => z_W G eX4_readTerm d 0 0 83 [none, none, some (.int x.1), none, none] [] z_SH (x.2, R) Q) o) : z_W G eX4_readTerm d 0 0 47 [some (.ref a0), some (.int z1), none, some (.int y3), some (.int y4)] [] z_SH (I, R) Q := by
  unfold fX4_readTerm_j47_17 at hf
  refine z_aload_n dX4_readTerm_47 rfl rfl (z_okl g_a0) ?_
  refine y_getR lfX4_9 rfl g_a0 dX4_readTerm_48 ?_
  obtain ⟨g8, hf⟩ := z_g_el hf
  obtain ⟨q7, hq7, hf⟩ := z_b_el hf
  refine y_cVv (av := []) (Nat.le_trans (Nat.le_of_ble_eq_true rfl) hd) (wX10_pass (z_dl rfl hd) hq7) oX10_pass lmX4_38 iX10_pass g8 rfl _ rfl rfl (Nat.le_of_ble_eq_true rfl) dX4_readTerm_51 ?_
  refine z_aload_n dX4_readTerm_54 rfl rfl (z_okl g_a0) ?_
  refine z_iload_n dX4_readTerm_55 rfl rfl ?_
  obtain ⟨q9, hq9, hf⟩ := z_b_el hf
  refine y_cVi (av := [.int z1]) (Nat.le_trans (Nat.le_of_ble_eq_true rfl) hd) (hrec 2 _ _ _ _ _ hq9) oX4_readFactor lmX4_98 iX4_readFactor g_a0 rfl _ rfl rfl (Nat.le_of_ble_eq_true rfl) dX4_readTerm_56 ?_
  refine y_istore_n0 [some (.ref a0), some (.int z1), some (.int q9.1), some (.int y3), some (.int y4)] dX4_readTerm_59 rfl (by decide) rfl ?_
  refine z_aload_n dX4_readTerm_60 rfl rfl (z_okl g_a0) ?_
  refine y_getR lfX4_15 rfl g_a0 dX4_readTerm_61 ?_
  refine z_iload_n dX4_readTerm_64 rfl rfl ?_
  refine z_iconst dX4_readTerm_65 kc_0 ?_
  obtain ⟨g11, hf⟩ := z_g_el hf
  obtain ⟨q10, hq10, hf⟩ := z_b_el hf
  refine y_cVv (av := [.int y3, .int (0 : Int32)]) (Nat.le_trans (Nat.le_of_ble_eq_true rfl) hd) (wX3_addStep (z_dl rfl hd) hq10) oX3_addStep lmX4_91 iX3_addStep g11 rfl _ rfl rfl (Nat.le_of_ble_eq_true rfl) dX4_readTerm_66 ?_
  refine z_aload_n dX4_readTerm_69 rfl rfl (z_okl g_a0) ?_
  refine y_getR lfX4_9 rfl g_a0 dX4_readTerm_70 ?_
  obtain ⟨q12, hq12, hf⟩ := z_b_el hf
  refine y_cVi (av := []) (Nat.le_trans (Nat.le_of_ble_eq_true rfl) hd) (wX10_sign (z_dl rfl hd) hq12) oX10_sign lmX4_34 iX10_sign g8 rfl _ rfl rfl (Nat.le_of_ble_eq_true rfl) dX4_readTerm_73 ?_
  refine y_istore_n0 [some (.ref a0), some (.int z1), some (.int q9.1), some (.int q12), some (.int y4)] dX4_readTerm_76 rfl (by decide) rfl ?_
  refine y_iinc (fun t13 => [some (.ref a0), some (.int z1), some (.int q9.1), some (.int q12), some (.int t13)]) dX4_readTerm_77 rfl kc_1 (by decide) (fun _ => rfl) (fun t13 et13 => ?_)
  have hf := z_l_el hf et13
  refine z_goto (tgt := 17) dX4_readTerm_80 (by decide) ?_
  cases hf
  exact y_sub hk (z_le_c rfl (z_le_c rfl (z_le_c rfl (z_le_c rfl (z_le_c rfl z_le_0)))))
def fX4_readTerm_b17 (rec : z_RT) (a0 : Nat) (z1 : Int32) (R : Nat → Nat → Nat) : (Int32 × Int32 × Int32 × (Nat → Nat → Int32)) → Option ((Int32 × Int32 × Int32 × (Nat → Nat → Int32)) ⊕ (Int32 × (Nat → Nat → Int32))) :=
  fun s => (fun (p2 : Int32) (p3 : Int32) (p4 : Int32) (I : Nat → Nat → Int32) => if (240 : Int32) ≤ p4 then (some (.inr (p2, I))) else (if p2 = 0 then (some (.inr (p2, I))) else (if p3 = (42 : Int32) then (fX4_readTerm_j47_17 rec a0 z1 p3 p4 I R) else (if p3 = (47 : Int32) then (fX4_readTerm_j47_17 rec a0 z1 p3 p4 I R) else (if p3 = (37 : Int32) then (fX4_readTerm_j47_17 rec a0 z1 p3 p4 I R) else (some (.inr (p2, I)))))))) s.1 s.2.1 s.2.2.1 s.2.2.2
theorem wX4_readTerm_b17 {G : z_G} {d : Nat} {Q : Option Value → z_S → z_H → Prop} {a0 : Nat} {z1 : Int32} {R : Nat → Nat → Nat} (hd : 2 ≤ d) {rec : z_RT} (hrec : z_RC G d z_selA rec) (g_a0 : z_ob a0 4) : ∀ (s : Int32 × Int32 × Int32 × (Nat → Nat → Int32)) (o : (Int32 × Int32 × Int32 × (Nat → Nat → Int32)) ⊕ (Int32 × (Nat → Nat → Int32))), fX4_readTerm_b17 rec a0 z1 R s = some o → z_or (fun s : Int32 × Int32 × Int32 × (Nat → Nat → Int32) => z_W G eX4_readTerm d 0 0 17 [some (.ref a0), some (.int z1), some (.int s.1), some (.int s.2.1), some (.int s.2.2.1)] [] z_SH (s.2.2.2, R) Q) (fun x : Int32 × (Nat → Nat → Int32) => z_W G eX4_readTerm d 0 0 83 [none, none, some (.int x.1), none, none] [] z_SH (x.2, R) Q) o → (fun s : Int32 × Int32 × Int32 × (Nat → Nat → Int32) => z_W G eX4_readTerm d 0 0 17 [some (.ref a0), some (.int z1), some (.int s.1), some (.int s.2.1), some (.int s.2.2.1)] [] z_SH (s.2.2.2, R) Q) s := by
  rintro ⟨p2, p3, p4, I⟩ o hf hk
  show z_W G eX4_readTerm d 0 0 17 [some (.ref a0), some (.int z1), some (.int p2), some (.int p3), some (.int p4)] [] z_SH (I, R) Q
  unfold fX4_readTerm_b17 at hf
  try dsimp only at hf
  refine z_iload dX4_readTerm_17 rfl ?_
  refine z_sipush dX4_readTerm_19 ks_240 ?_
  refine z_icmp_ge (tgt := 83) dX4_readTerm_22 (by decide) (fun c4 => ?_) (fun c4 => ?_)
  · have hf := z_if_t hf c4
    cases hf
    exact y_sub hk (z_le_n (z_le_n (z_le_c rfl (z_le_n (z_le_n z_le_0)))))
  · have hf := z_if_f hf c4
    refine z_iload_n dX4_readTerm_25 rfl rfl ?_
    refine z_if_eq (tgt := 83) dX4_readTerm_26 (by decide) (fun c5 => ?_) (fun c5 => ?_)
    · have hf := z_if_t hf c5
      cases hf
      exact y_sub hk (z_le_n (z_le_n (z_le_c rfl (z_le_n (z_le_n z_le_0)))))
    · have hf := z_if_f hf c5
      refine z_iload_n dX4_readTerm_29 rfl rfl ?_
      refine z_bipush dX4_readTerm_30 kb_42 ?_
      refine z_icmp_eq (tgt := 47) dX4_readTerm_32 (by decide) (fun c6 => ?_) (fun c6 => ?_)
      · have hf := z_if_t hf c6
        exact y_sub (wX4_readTerm_j47_17 hd hrec g_a0 hf hk) (z_le_c rfl (z_le_c rfl (z_le_n (z_le_c rfl (z_le_c rfl z_le_0)))))
      · have hf := z_if_f hf c6
        refine z_iload_n dX4_readTerm_35 rfl rfl ?_
        refine z_bipush dX4_readTerm_36 kb_47 ?_
        refine z_icmp_eq (tgt := 47) dX4_readTerm_38 (by decide) (fun c14 => ?_) (fun c14 => ?_)
        · have hf := z_if_t hf c14
          exact y_sub (wX4_readTerm_j47_17 hd hrec g_a0 hf hk) (z_le_c rfl (z_le_c rfl (z_le_n (z_le_c rfl (z_le_c rfl z_le_0)))))
        · have hf := z_if_f hf c14
          refine z_iload_n dX4_readTerm_41 rfl rfl ?_
          refine z_bipush dX4_readTerm_42 kb_37 ?_
          refine z_icmp_ne (tgt := 83) dX4_readTerm_44 (by decide) (fun c15 => ?_) (fun c15 => ?_)
          · have hf := z_if_f hf c15
            cases hf
            exact y_sub hk (z_le_n (z_le_n (z_le_c rfl (z_le_n (z_le_n z_le_0)))))
          · have hf := z_if_t hf c15
            exact y_sub (wX4_readTerm_j47_17 hd hrec g_a0 hf hk) (z_le_c rfl (z_le_c rfl (z_le_n (z_le_c rfl (z_le_c rfl z_le_0)))))
def fX4_readTerm (rec : z_RT) (a0 : Nat) (x1 : Int32) (I : Nat → Nat → Int32) (R : Nat → Nat → Nat) : Option (Int32 × (Nat → Nat → Int32)) :=
  z_g (z_ob a0 4) (z_b (rec 2 a0 x1 I R) (fun q1 => z_g (z_ob (R a0 0) 10) (z_b (fX10_sign (R a0 0) q1.2 R) (fun q2 => z_b (z_lp (fX4_readTerm_b17 rec a0 x1 R) 300 (q1.1, q2, (0 : Int32), q1.2)) (fun q16 => z_g (q16.1 = 0 ∨ q16.1 = 1) (some (q16.1, q16.2)))))))
theorem vX4_readTerm {G : z_G} {d : Nat} {Q : Option Value → z_S → z_H → Prop} {a0 : Nat} {x1 : Int32} {I : Nat → Nat → Int32} {R : Nat → Nat → Nat} {q : Int32 × (Nat → Nat → Int32)} (hd : 2 ≤ d) {rec : z_RT} (hrec : z_RC G d z_selA rec) (hf : fX4_readTerm rec a0 x1 I R = some q) (hk : Q (some (.int q.1)) z_SH (q.2, R)) : z_W G eX4_readTerm d 0 0 0 [some (.ref a0), some (.int x1), none, none, none] [] z_SH (I, R) Q := by
  unfold fX4_readTerm at hf
  obtain ⟨g_a0, hf⟩ := z_g_el hf
  refine z_aload_n dX4_readTerm_0 rfl rfl (z_okl g_a0) ?_
  refine z_iload_n dX4_readTerm_1 rfl rfl ?_
  obtain ⟨q1, hq1, hf⟩ := z_b_el hf
  refine y_cVi (av := [.int x1]) (Nat.le_trans (Nat.le_of_ble_eq_true rfl) hd) (hrec 2 _ _ _ _ _ hq1) oX4_readFactor lmX4_98 iX4_readFactor g_a0 rfl _ rfl rfl (Nat.le_of_ble_eq_true rfl) dX4_readTerm_2 ?_
  refine y_istore_n0 [some (.ref a0), some (.int x1), some (.int q1.1), none, none] dX4_readTerm_5 rfl (by decide) rfl ?_
  refine z_aload_n dX4_readTerm_6 rfl rfl (z_okl g_a0) ?_
  refine y_getR lfX4_9 rfl g_a0 dX4_readTerm_7 ?_
  obtain ⟨g3, hf⟩ := z_g_el hf
  obtain ⟨q2, hq2, hf⟩ := z_b_el hf
  refine y_cVi (av := []) (Nat.le_trans (Nat.le_of_ble_eq_true rfl) hd) (wX10_sign (z_dl rfl hd) hq2) oX10_sign lmX4_34 iX10_sign g3 rfl _ rfl rfl (Nat.le_of_ble_eq_true rfl) dX4_readTerm_10 ?_
  refine y_istore_n0 [some (.ref a0), some (.int x1), some (.int q1.1), some (.int q2), none] dX4_readTerm_13 rfl (by decide) rfl ?_
  refine z_iconst dX4_readTerm_14 kc_0 ?_
  refine y_istore0 [some (.ref a0), some (.int x1), some (.int q1.1), some (.int q2), some (.int (0 : Int32))] dX4_readTerm_15 (by decide) rfl ?_
  obtain ⟨q16, hq16, hf⟩ := z_b_el hf
  refine y_sub (lv' := [some (.ref a0), some (.int x1), some (.int q1.1), some (.int q2), some (.int (0 : Int32))]) ?_ (z_le_c rfl (z_le_c rfl (z_le_c rfl (z_le_c rfl (z_le_c rfl z_le_0)))))
  refine z_lp_el (P := (fun s : Int32 × Int32 × Int32 × (Nat → Nat → Int32) => z_W G eX4_readTerm d 0 0 17 [some (.ref a0), some (.int x1), some (.int s.1), some (.int s.2.1), some (.int s.2.2.1)] [] z_SH (s.2.2.2, R) Q)) (E := (fun x : Int32 × (Nat → Nat → Int32) => z_W G eX4_readTerm d 0 0 83 [none, none, some (.int x.1), none, none] [] z_SH (x.2, R) Q)) (wX4_readTerm_b17 hd hrec g_a0) 300 (q1.1, q2, (0 : Int32), q1.2) q16 hq16 ?_
  show z_W G eX4_readTerm d 0 0 83 [none, none, some (.int q16.1), none, none] [] z_SH (q16.2, R) _
  refine z_iload_n dX4_readTerm_83 rfl rfl ?_
  obtain ⟨g17, hf⟩ := z_g_el hf
  cases hf
  exact z_iret hk ⟨_, rfl, z_bn g17⟩ dX4_readTerm_84
theorem wX4_readTerm {G : z_G} {d : Nat} {a0 : Nat} {x1 : Int32} {I : Nat → Nat → Int32} {R : Nat → Nat → Nat} {q : Int32 × (Nat → Nat → Int32)} (hd : 2 ≤ d) {rec : z_RT} (hrec : z_RC G d z_selA rec) (hf : fX4_readTerm rec a0 x1 I R = some q) : z_M G d 0 0 eX4_readTerm [.ref a0, .int x1] z_SH (I, R) (z_E (some (.int q.1)) (q.2, R)) :=
  y_M_of _ (by decide +kernel) rfl rfl rfl (vX4_readTerm hd hrec hf ⟨rfl, rfl, rfl⟩)
def fX4_readFactor (rec : z_RT) (a0 : Nat) (x1 : Int32) (I : Nat → Nat → Int32) (R : Nat → Nat → Nat) : Option (Int32 × (Nat → Nat → Int32)) :=
  z_g (z_ob a0 4) (z_g (z_ob (R a0 0) 10) (z_b (fX10_sign (R a0 0) I R) (fun q1 => if q1 = (91 : Int32) then (if x1 < (6 : Int32) then (z_b (fX10_pass (R a0 0) I) (fun q17 => z_b (rec 0 a0 (x1 + (1 : Int32)) q17 R) (fun q18 => if q18.1 = 0 then (some ((0 : Int32), q18.2)) else (z_b (fX10_passes (R a0 0) (93 : Int32) q18.2 R) (fun q20 => if q20.1 = 0 then (some ((0 : Int32), q20.2)) else (some ((1 : Int32), q20.2))))))) else (z_b (fX10_place (R a0 0) I) (fun q22 => z_b (fX10_fails (R a0 0) (5 : Int32) q22 I) (fun q23 => z_g (q23.1 = 0 ∨ q23.1 = 1) (some (q23.1, q23.2)))))) else (z_b (fX4_isDigit q1) (fun q4 => if q4 = 0 then (z_b (fX4_letterOf q1) (fun q6 => if q6 = (-1 : Int32) then (z_b (fX10_place (R a0 0) I) (fun q11 => z_b (fX10_fails (R a0 0) (1 : Int32) q11 I) (fun q12 => z_g (q12.1 = 0 ∨ q12.1 = 1) (some (q12.1, q12.2))))) else (z_b (fX10_pass (R a0 0) I) (fun q8 => z_g (z_ob (R a0 1) 3) (z_b (fX3_addStep (R a0 1) (1 : Int32) q6 q8 R) (fun q9 => some ((1 : Int32), q9))))))) else (z_b (fX4_readNumber a0 I R) (fun q14 => z_g (q14.1 = 0 ∨ q14.1 = 1) (some (q14.1, q14.2)))))))))
set_option maxRecDepth 20000 in
theorem vX4_readFactor {G : z_G} {d : Nat} {Q : Option Value → z_S → z_H → Prop} {a0 : Nat} {x1 : Int32} {I : Nat → Nat → Int32} {R : Nat → Nat → Nat} {q : Int32 × (Nat → Nat → Int32)} (hd : 2 ≤ d) {rec : z_RT} (hrec : z_RC G d z_selA rec) (hf : fX4_readFactor rec a0 x1 I R = some q) (hk : Q (some (.int q.1)) z_SH (q.2, R)) : z_W G eX4_readFactor d 0 0 0 [some (.ref a0), some (.int x1), none, none] [] z_SH (I, R) Q := by
  unfold fX4_readFactor at hf
  obtain ⟨g_a0, hf⟩ := z_g_el hf
  refine z_aload_n dX4_readFactor_0 rfl rfl (z_okl g_a0) ?_
  refine y_getR lfX4_9 rfl g_a0 dX4_readFactor_1 ?_
  obtain ⟨g2, hf⟩ := z_g_el hf
  obtain ⟨q1, hq1, hf⟩ := z_b_el hf
  refine y_cVi (av := []) (Nat.le_trans (Nat.le_of_ble_eq_true rfl) hd) (wX10_sign (z_dl rfl hd) hq1) oX10_sign lmX4_34 iX10_sign g2 rfl _ rfl rfl (Nat.le_of_ble_eq_true rfl) dX4_readFactor_4 ?_
  refine y_istore_n0 [some (.ref a0), some (.int x1), some (.int q1), none] dX4_readFactor_7 rfl (by decide) rfl ?_
  refine z_iload_n dX4_readFactor_8 rfl rfl ?_
  refine z_bipush dX4_readFactor_9 kb_91 ?_
  refine z_icmp_ne (tgt := 71) dX4_readFactor_11 (by decide) (fun c3 => ?_) (fun c3 => ?_)
  · have hf := z_if_f hf c3
    refine z_iload_n dX4_readFactor_71 rfl rfl ?_
    obtain ⟨q4, hq4, hf⟩ := z_b_el hf
    refine y_cSi (Nat.le_trans (Nat.le_of_ble_eq_true rfl) hd) (wX4_isDigit (z_dl rfl hd) hq4) oX4_isDigit lmX4_101 sX4_isDigit _ rfl rfl (Nat.le_of_ble_eq_true rfl) dX4_readFactor_72 ?_
    refine z_if_eq (tgt := 83) dX4_readFactor_75 (by decide) (fun c5 => ?_) (fun c5 => ?_)
    · have hf := z_if_t hf c5
      refine z_iload_n dX4_readFactor_83 rfl rfl ?_
      obtain ⟨q6, hq6, hf⟩ := z_b_el hf
      refine y_cSi (Nat.le_trans (Nat.le_of_ble_eq_true rfl) hd) (wX4_letterOf (z_dl rfl hd) hq6) oX4_letterOf lmX4_107 sX4_letterOf _ rfl rfl (Nat.le_of_ble_eq_true rfl) dX4_readFactor_84 ?_
      refine y_istore_n0 [some (.ref a0), some (.int x1), some (.int q1), some (.int q6)] dX4_readFactor_87 rfl (by decide) rfl ?_
      refine z_iload_n dX4_readFactor_88 rfl rfl ?_
      refine z_iconst dX4_readFactor_89 kc_m1 ?_
      refine z_icmp_ne (tgt := 109) dX4_readFactor_90 (by decide) (fun c7 => ?_) (fun c7 => ?_)
      · have hf := z_if_f hf c7
        refine z_aload_n dX4_readFactor_109 rfl rfl (z_okl g_a0) ?_
        refine y_getR lfX4_9 rfl g_a0 dX4_readFactor_110 ?_
        obtain ⟨q8, hq8, hf⟩ := z_b_el hf
        refine y_cVv (av := []) (Nat.le_trans (Nat.le_of_ble_eq_true rfl) hd) (wX10_pass (z_dl rfl hd) hq8) oX10_pass lmX4_38 iX10_pass g2 rfl _ rfl rfl (Nat.le_of_ble_eq_true rfl) dX4_readFactor_113 ?_
        refine z_aload_n dX4_readFactor_116 rfl rfl (z_okl g_a0) ?_
        refine y_getR lfX4_15 rfl g_a0 dX4_readFactor_117 ?_
        refine z_iconst dX4_readFactor_120 kc_1 ?_
        refine z_iload_n dX4_readFactor_121 rfl rfl ?_
        obtain ⟨g10, hf⟩ := z_g_el hf
        obtain ⟨q9, hq9, hf⟩ := z_b_el hf
        refine y_cVv (av := [.int (1 : Int32), .int q6]) (Nat.le_trans (Nat.le_of_ble_eq_true rfl) hd) (wX3_addStep (z_dl rfl hd) hq9) oX3_addStep lmX4_91 iX3_addStep g10 rfl _ rfl rfl (Nat.le_of_ble_eq_true rfl) dX4_readFactor_122 ?_
        refine z_iconst dX4_readFactor_125 kc_1 ?_
        cases hf
        exact z_iret hk ⟨_, rfl, rfl⟩ dX4_readFactor_126
      · have hf := z_if_t hf c7
        refine z_aload_n dX4_readFactor_93 rfl rfl (z_okl g_a0) ?_
        refine y_getR lfX4_9 rfl g_a0 dX4_readFactor_94 ?_
        refine z_iconst dX4_readFactor_97 kc_1 ?_
        refine z_aload_n dX4_readFactor_98 rfl rfl (z_okl g_a0) ?_
        refine y_getR lfX4_9 rfl g_a0 dX4_readFactor_99 ?_
        obtain ⟨q11, hq11, hf⟩ := z_b_el hf
        refine y_cVi (av := []) (Nat.le_trans (Nat.le_of_ble_eq_true rfl) hd) (wX10_place (z_dl rfl hd) hq11) oX10_place lmX4_55 iX10_place g2 rfl _ rfl rfl (Nat.le_of_ble_eq_true rfl) dX4_readFactor_102 ?_
        obtain ⟨q12, hq12, hf⟩ := z_b_el hf
        refine y_cVi (av := [.int (1 : Int32), .int q11]) (Nat.le_trans (Nat.le_of_ble_eq_true rfl) hd) (wX10_fails (z_dl rfl hd) hq12) oX10_fails lmX4_58 iX10_fails g2 rfl _ rfl rfl (Nat.le_of_ble_eq_true rfl) dX4_readFactor_105 ?_
        obtain ⟨g13, hf⟩ := z_g_el hf
        cases hf
        exact z_iret hk ⟨_, rfl, z_bn g13⟩ dX4_readFactor_108
    · have hf := z_if_f hf c5
      refine z_aload_n dX4_readFactor_78 rfl rfl (z_okl g_a0) ?_
      obtain ⟨q14, hq14, hf⟩ := z_b_el hf
      refine y_cVi (av := []) (Nat.le_trans (Nat.le_of_ble_eq_true rfl) hd) (wX4_readNumber (z_dl rfl hd) hq14) oX4_readNumber lmX4_104 iX4_readNumber g_a0 rfl _ rfl rfl (Nat.le_of_ble_eq_true rfl) dX4_readFactor_79 ?_
      obtain ⟨g15, hf⟩ := z_g_el hf
      cases hf
      exact z_iret hk ⟨_, rfl, z_bn g15⟩ dX4_readFactor_82
  · have hf := z_if_t hf c3
    refine z_iload_n dX4_readFactor_14 rfl rfl ?_
    refine z_bipush dX4_readFactor_15 kb_6 ?_
    refine z_icmp_lt (tgt := 36) dX4_readFactor_17 (by decide) (fun c16 => ?_) (fun c16 => ?_)
    · have hf := z_if_t hf c16
      refine z_aload_n dX4_readFactor_36 rfl rfl (z_okl g_a0) ?_
      refine y_getR lfX4_9 rfl g_a0 dX4_readFactor_37 ?_
      obtain ⟨q17, hq17, hf⟩ := z_b_el hf
      refine y_cVv (av := []) (Nat.le_trans (Nat.le_of_ble_eq_true rfl) hd) (wX10_pass (z_dl rfl hd) hq17) oX10_pass lmX4_38 iX10_pass g2 rfl _ rfl rfl (Nat.le_of_ble_eq_true rfl) dX4_readFactor_40 ?_
      refine z_aload_n dX4_readFactor_43 rfl rfl (z_okl g_a0) ?_
      refine z_iload_n dX4_readFactor_44 rfl rfl ?_
      refine z_iconst dX4_readFactor_45 kc_1 ?_
      refine z_iadd dX4_readFactor_46 ?_
      obtain ⟨q18, hq18, hf⟩ := z_b_el hf
      refine y_cVi (av := [.int (x1 + (1 : Int32))]) (Nat.le_trans (Nat.le_of_ble_eq_true rfl) hd) (hrec 0 _ _ _ _ _ hq18) oX4_readSum lmX4_65 iX4_readSum g_a0 rfl _ rfl rfl (Nat.le_of_ble_eq_true rfl) dX4_readFactor_47 ?_
      refine z_if_eq (tgt := 69) dX4_readFactor_50 (by decide) (fun c19 => ?_) (fun c19 => ?_)
      · have hf := z_if_t hf c19
        refine z_iconst dX4_readFactor_69 kc_0 ?_
        cases hf
        exact z_iret hk ⟨_, rfl, rfl⟩ dX4_readFactor_70
      · have hf := z_if_f hf c19
        refine z_aload_n dX4_readFactor_53 rfl rfl (z_okl g_a0) ?_
        refine y_getR lfX4_9 rfl g_a0 dX4_readFactor_54 ?_
        refine z_bipush dX4_readFactor_57 kb_93 ?_
        obtain ⟨q20, hq20, hf⟩ := z_b_el hf
        refine y_cVi (av := [.int (93 : Int32)]) (Nat.le_trans (Nat.le_of_ble_eq_true rfl) hd) (wX10_passes (z_dl rfl hd) hq20) oX10_passes lmX4_41 iX10_passes g2 rfl _ rfl rfl (Nat.le_of_ble_eq_true rfl) dX4_readFactor_59 ?_
        refine z_if_eq (tgt := 69) dX4_readFactor_62 (by decide) (fun c21 => ?_) (fun c21 => ?_)
        · have hf := z_if_t hf c21
          refine z_iconst dX4_readFactor_69 kc_0 ?_
          cases hf
          exact z_iret hk ⟨_, rfl, rfl⟩ dX4_readFactor_70
        · have hf := z_if_f hf c21
          refine z_iconst dX4_readFactor_65 kc_1 ?_
          refine z_goto (tgt := 70) dX4_readFactor_66 (by decide) ?_
          cases hf
          exact z_iret hk ⟨_, rfl, rfl⟩ dX4_readFactor_70
    · have hf := z_if_f hf c16
      refine z_aload_n dX4_readFactor_20 rfl rfl (z_okl g_a0) ?_
      refine y_getR lfX4_9 rfl g_a0 dX4_readFactor_21 ?_
      refine z_iconst dX4_readFactor_24 kc_5 ?_
      refine z_aload_n dX4_readFactor_25 rfl rfl (z_okl g_a0) ?_
      refine y_getR lfX4_9 rfl g_a0 dX4_readFactor_26 ?_
      obtain ⟨q22, hq22, hf⟩ := z_b_el hf
      refine y_cVi (av := []) (Nat.le_trans (Nat.le_of_ble_eq_true rfl) hd) (wX10_place (z_dl rfl hd) hq22) oX10_place lmX4_55 iX10_place g2 rfl _ rfl rfl (Nat.le_of_ble_eq_true rfl) dX4_readFactor_29 ?_
      obtain ⟨q23, hq23, hf⟩ := z_b_el hf
      refine y_cVi (av := [.int (5 : Int32), .int q22]) (Nat.le_trans (Nat.le_of_ble_eq_true rfl) hd) (wX10_fails (z_dl rfl hd) hq23) oX10_fails lmX4_58 iX10_fails g2 rfl _ rfl rfl (Nat.le_of_ble_eq_true rfl) dX4_readFactor_32 ?_
      obtain ⟨g24, hf⟩ := z_g_el hf
      cases hf
      exact z_iret hk ⟨_, rfl, z_bn g24⟩ dX4_readFactor_35
theorem wX4_readFactor {G : z_G} {d : Nat} {a0 : Nat} {x1 : Int32} {I : Nat → Nat → Int32} {R : Nat → Nat → Nat} {q : Int32 × (Nat → Nat → Int32)} (hd : 2 ≤ d) {rec : z_RT} (hrec : z_RC G d z_selA rec) (hf : fX4_readFactor rec a0 x1 I R = some q) : z_M G d 0 0 eX4_readFactor [.ref a0, .int x1] z_SH (I, R) (z_E (some (.int q.1)) (q.2, R)) :=
  y_M_of _ (by decide +kernel) rfl rfl rfl (vX4_readFactor hd hrec hf ⟨rfl, rfl, rfl⟩)
def z_fxA : Nat → z_RT
  | 0 => fun _ _ _ _ _ => none
  | n + 1 => fun k a x I R => if k = 0 then fX4_readSum (z_fxA n) a x I R else if k = 1 then fX4_readTerm (z_fxA n) a x I R else fX4_readFactor (z_fxA n) a x I R
theorem wz_fxA {G : z_G} : ∀ (n d : Nat), n + 2 ≤ d → ∀ (k a : Nat) (x : Int32) (I : Nat → Nat → Int32) (R : Nat → Nat → Nat) (q : Int32 × (Nat → Nat → Int32)), z_fxA n k a x I R = some q → z_M G d 0 0 (z_selA k) [.ref a, .int x] z_SH (I, R) (z_E (some (.int q.1)) (q.2, R)) := by
  intro n
  induction n with
  | zero => intro d _ k a x I R q h; cases h
  | succ n ih =>
    intro d hd k a x I R q h
    have hrec : z_RC G d z_selA (z_fxA n) := fun k a x I R q h => ih (d - 1) (by omega) k a x I R q h
    unfold z_fxA at h
    unfold z_selA
    by_cases h0 : k = 0
    · rw [if_pos h0]
      exact wX4_readSum (by omega) hrec (z_if_t h h0)
    · rw [if_neg h0]
      have h := z_if_f h h0
      by_cases h1 : k = 1
      · rw [if_pos h1]
        exact wX4_readTerm (by omega) hrec (z_if_t h h1)
      · rw [if_neg h1]
        exact wX4_readFactor (by omega) hrec (z_if_f h h1)
theorem wX4_readSum_x {G : z_G} {d a : Nat} {x : Int32} {I : Nat → Nat → Int32} {R : Nat → Nat → Nat} {q : Int32 × (Nat → Nat → Int32)} (hd : 32 ≤ d) (hf : z_fxA 30 0 a x I R = some q) : z_M G d 0 0 eX4_readSum [.ref a, .int x] z_SH (I, R) (z_E (some (.int q.1)) (q.2, R)) := wz_fxA 30 d hd 0 a x I R q hf
theorem wX4_readTerm_x {G : z_G} {d a : Nat} {x : Int32} {I : Nat → Nat → Int32} {R : Nat → Nat → Nat} {q : Int32 × (Nat → Nat → Int32)} (hd : 32 ≤ d) (hf : z_fxA 30 1 a x I R = some q) : z_M G d 0 0 eX4_readTerm [.ref a, .int x] z_SH (I, R) (z_E (some (.int q.1)) (q.2, R)) := wz_fxA 30 d hd 1 a x I R q hf
theorem wX4_readFactor_x {G : z_G} {d a : Nat} {x : Int32} {I : Nat → Nat → Int32} {R : Nat → Nat → Nat} {q : Int32 × (Nat → Nat → Int32)} (hd : 32 ≤ d) (hf : z_fxA 30 2 a x I R = some q) : z_M G d 0 0 eX4_readFactor [.ref a, .int x] z_SH (I, R) (z_E (some (.int q.1)) (q.2, R)) := wz_fxA 30 d hd 2 a x I R q hf
def fX4_readComparison_j52 (a0 : Nat) (y1 : Int32) (y2 : Int32) (I : Nat → Nat → Int32) (R : Nat → Nat → Nat) : Option (Int32 × (Nat → Nat → Int32)) :=
  z_g (z_ob (R a0 0) 10) (z_b (fX10_pass (R a0 0) I) (fun q6 => z_b (z_fxA 30 0 a0 y1 q6 R) (fun q8 => if q8.1 = 0 then (some ((0 : Int32), q8.2)) else (z_g (z_ob (R a0 1) 3) (z_b (fX3_addStep (R a0 1) y2 (0 : Int32) q8.2 R) (fun q10 => some ((1 : Int32), q10)))))))
theorem wX4_readComparison_j52 {G : z_G} {d : Nat} {Q : Option Value → z_S → z_H → Prop} {a0 : Nat} {y1 : Int32} {y2 : Int32} {I : Nat → Nat → Int32} {R : Nat → Nat → Nat} {o : Int32 × (Nat → Nat → Int32)} (hd : 33 ≤ d) (g_a0 : z_ob a0 4) (hf : fX4_readComparison_j52 a0 y1 y2 I R = some o) (hk : Q (some (.int o.1)) z_SH (o.2, R)) : z_W G eX4_readComparison d 0 0 52 [some (.ref a0), some (.int y1), some (.int y2)] [] z_SH (I, R) Q := by
  unfold fX4_readComparison_j52 at hf
  refine z_aload_n dX4_readComparison_52 rfl rfl (z_okl g_a0) ?_
  refine y_getR lfX4_9 rfl g_a0 dX4_readComparison_53 ?_
  obtain ⟨g7, hf⟩ := z_g_el hf
  obtain ⟨q6, hq6, hf⟩ := z_b_el hf
  refine y_cVv (av := []) (Nat.le_trans (Nat.le_of_ble_eq_true rfl) hd) (wX10_pass (z_dl rfl hd) hq6) oX10_pass lmX4_38 iX10_pass g7 rfl _ rfl rfl (Nat.le_of_ble_eq_true rfl) dX4_readComparison_56 ?_
  refine z_aload_n dX4_readComparison_59 rfl rfl (z_okl g_a0) ?_
  refine z_iload_n dX4_readComparison_60 rfl rfl ?_
  obtain ⟨q8, hq8, hf⟩ := z_b_el hf
  refine y_cVi (av := [.int y1]) (Nat.le_trans (Nat.le_of_ble_eq_true rfl) hd) (wX4_readSum_x (z_dl rfl hd) hq8) oX4_readSum lmX4_65 iX4_readSum g_a0 rfl _ rfl rfl (Nat.le_of_ble_eq_true rfl) dX4_readComparison_61 ?_
  refine z_if_ne (tgt := 69) dX4_readComparison_64 (by decide) (fun c9 => ?_) (fun c9 => ?_)
  · have hf := z_if_f hf c9
    refine z_aload_n dX4_readComparison_69 rfl rfl (z_okl g_a0) ?_
    refine y_getR lfX4_15 rfl g_a0 dX4_readComparison_70 ?_
    refine z_iload_n dX4_readComparison_73 rfl rfl ?_
    refine z_iconst dX4_readComparison_74 kc_0 ?_
    obtain ⟨g11, hf⟩ := z_g_el hf
    obtain ⟨q10, hq10, hf⟩ := z_b_el hf
    refine y_cVv (av := [.int y2, .int (0 : Int32)]) (Nat.le_trans (Nat.le_of_ble_eq_true rfl) hd) (wX3_addStep (z_dl rfl hd) hq10) oX3_addStep lmX4_91 iX3_addStep g11 rfl _ rfl rfl (Nat.le_of_ble_eq_true rfl) dX4_readComparison_75 ?_
    refine z_iconst dX4_readComparison_78 kc_1 ?_
    cases hf
    exact z_iret hk ⟨_, rfl, rfl⟩ dX4_readComparison_79
  · have hf := z_if_t hf c9
    refine z_iconst dX4_readComparison_67 kc_0 ?_
    cases hf
    exact z_iret hk ⟨_, rfl, rfl⟩ dX4_readComparison_68
def fX4_readComparison (a0 : Nat) (x1 : Int32) (I : Nat → Nat → Int32) (R : Nat → Nat → Nat) : Option (Int32 × (Nat → Nat → Int32)) :=
  z_g (z_ob a0 4) (z_b (z_fxA 30 0 a0 x1 I R) (fun q1 => if q1.1 = 0 then (some ((0 : Int32), q1.2)) else (z_g (z_ob (R a0 0) 10) (z_b (fX10_sign (R a0 0) q1.2 R) (fun q3 => if q3 = (60 : Int32) then (fX4_readComparison_j52 a0 x1 q3 q1.2 R) else (if q3 = (62 : Int32) then (fX4_readComparison_j52 a0 x1 q3 q1.2 R) else (if q3 = (61 : Int32) then (fX4_readComparison_j52 a0 x1 q3 q1.2 R) else (z_b (fX10_place (R a0 0) q1.2) (fun q14 => z_b (fX10_fails (R a0 0) (1 : Int32) q14 q1.2) (fun q15 => z_g (q15.1 = 0 ∨ q15.1 = 1) (some (q15.1, q15.2))))))))))))
theorem vX4_readComparison {G : z_G} {d : Nat} {Q : Option Value → z_S → z_H → Prop} {a0 : Nat} {x1 : Int32} {I : Nat → Nat → Int32} {R : Nat → Nat → Nat} {q : Int32 × (Nat → Nat → Int32)} (hd : 33 ≤ d) (hf : fX4_readComparison a0 x1 I R = some q) (hk : Q (some (.int q.1)) z_SH (q.2, R)) : z_W G eX4_readComparison d 0 0 0 [some (.ref a0), some (.int x1), none] [] z_SH (I, R) Q := by
  unfold fX4_readComparison at hf
  obtain ⟨g_a0, hf⟩ := z_g_el hf
  refine z_aload_n dX4_readComparison_0 rfl rfl (z_okl g_a0) ?_
  refine z_iload_n dX4_readComparison_1 rfl rfl ?_
  obtain ⟨q1, hq1, hf⟩ := z_b_el hf
  refine y_cVi (av := [.int x1]) (Nat.le_trans (Nat.le_of_ble_eq_true rfl) hd) (wX4_readSum_x (z_dl rfl hd) hq1) oX4_readSum lmX4_65 iX4_readSum g_a0 rfl _ rfl rfl (Nat.le_of_ble_eq_true rfl) dX4_readComparison_2 ?_
  refine z_if_ne (tgt := 10) dX4_readComparison_5 (by decide) (fun c2 => ?_) (fun c2 => ?_)
  · have hf := z_if_f hf c2
    refine z_aload_n dX4_readComparison_10 rfl rfl (z_okl g_a0) ?_
    refine y_getR lfX4_9 rfl g_a0 dX4_readComparison_11 ?_
    obtain ⟨g4, hf⟩ := z_g_el hf
    obtain ⟨q3, hq3, hf⟩ := z_b_el hf
    refine y_cVi (av := []) (Nat.le_trans (Nat.le_of_ble_eq_true rfl) hd) (wX10_sign (z_dl rfl hd) hq3) oX10_sign lmX4_34 iX10_sign g4 rfl _ rfl rfl (Nat.le_of_ble_eq_true rfl) dX4_readComparison_14 ?_
    refine y_istore_n0 [some (.ref a0), some (.int x1), some (.int q3)] dX4_readComparison_17 rfl (by decide) rfl ?_
    refine z_iload_n dX4_readComparison_18 rfl rfl ?_
    refine z_bipush dX4_readComparison_19 kb_60 ?_
    refine z_icmp_eq (tgt := 52) dX4_readComparison_21 (by decide) (fun c5 => ?_) (fun c5 => ?_)
    · have hf := z_if_t hf c5
      exact y_sub (wX4_readComparison_j52 hd g_a0 hf hk) (z_le_c rfl (z_le_c rfl (z_le_c rfl z_le_0)))
    · have hf := z_if_f hf c5
      refine z_iload_n dX4_readComparison_24 rfl rfl ?_
      refine z_bipush dX4_readComparison_25 kb_62 ?_
      refine z_icmp_eq (tgt := 52) dX4_readComparison_27 (by decide) (fun c12 => ?_) (fun c12 => ?_)
      · have hf := z_if_t hf c12
        exact y_sub (wX4_readComparison_j52 hd g_a0 hf hk) (z_le_c rfl (z_le_c rfl (z_le_c rfl z_le_0)))
      · have hf := z_if_f hf c12
        refine z_iload_n dX4_readComparison_30 rfl rfl ?_
        refine z_bipush dX4_readComparison_31 kb_61 ?_
        refine z_icmp_eq (tgt := 52) dX4_readComparison_33 (by decide) (fun c13 => ?_) (fun c13 => ?_)
        · have hf := z_if_t hf c13
          exact y_sub (wX4_readComparison_j52 hd g_a0 hf hk) (z_le_c rfl (z_le_c rfl (z_le_c rfl z_le_0)))
        · have hf := z_if_f hf c13
          refine z_aload_n dX4_readComparison_36 rfl rfl (z_okl g_a0) ?_
          refine y_getR lfX4_9 rfl g_a0 dX4_readComparison_37 ?_
          refine z_iconst dX4_readComparison_40 kc_1 ?_
          refine z_aload_n dX4_readComparison_41 rfl rfl (z_okl g_a0) ?_
          refine y_getR lfX4_9 rfl g_a0 dX4_readComparison_42 ?_
          obtain ⟨q14, hq14, hf⟩ := z_b_el hf
          refine y_cVi (av := []) (Nat.le_trans (Nat.le_of_ble_eq_true rfl) hd) (wX10_place (z_dl rfl hd) hq14) oX10_place lmX4_55 iX10_place g4 rfl _ rfl rfl (Nat.le_of_ble_eq_true rfl) dX4_readComparison_45 ?_
          obtain ⟨q15, hq15, hf⟩ := z_b_el hf
          refine y_cVi (av := [.int (1 : Int32), .int q14]) (Nat.le_trans (Nat.le_of_ble_eq_true rfl) hd) (wX10_fails (z_dl rfl hd) hq15) oX10_fails lmX4_58 iX10_fails g4 rfl _ rfl rfl (Nat.le_of_ble_eq_true rfl) dX4_readComparison_48 ?_
          obtain ⟨g16, hf⟩ := z_g_el hf
          cases hf
          exact z_iret hk ⟨_, rfl, z_bn g16⟩ dX4_readComparison_51
  · have hf := z_if_t hf c2
    refine z_iconst dX4_readComparison_8 kc_0 ?_
    cases hf
    exact z_iret hk ⟨_, rfl, rfl⟩ dX4_readComparison_9
theorem wX4_readComparison {G : z_G} {d : Nat} {a0 : Nat} {x1 : Int32} {I : Nat → Nat → Int32} {R : Nat → Nat → Nat} {q : Int32 × (Nat → Nat → Int32)} (hd : 33 ≤ d) (hf : fX4_readComparison a0 x1 I R = some q) : z_M G d 0 0 eX4_readComparison [.ref a0, .int x1] z_SH (I, R) (z_E (some (.int q.1)) (q.2, R)) :=
  y_M_of _ (by decide +kernel) rfl rfl rfl (vX4_readComparison hd hf ⟨rfl, rfl, rfl⟩)
def z_selB (k : Nat) : z_Me := if k = 0 then eX4_readChoice else if k = 1 then eX4_readPart else eX4_readTest
def fX4_readChoice_b11 (rec : z_RT) (a0 : Nat) (z1 : Int32) (R : Nat → Nat → Nat) : (Int32 × Int32 × Int32 × (Nat → Nat → Int32)) → Option ((Int32 × Int32 × Int32 × (Nat → Nat → Int32)) ⊕ (Int32 × Int32 × (Nat → Nat → Int32))) :=
  fun s => (fun (p2 : Int32) (p3 : Int32) (p4 : Int32) (I : Nat → Nat → Int32) => if (240 : Int32) ≤ p4 then (some (.inr (p2, p3, I))) else (if p2 = 0 then (some (.inr (p2, p3, I))) else (z_g (z_ob (R a0 0) 10) (z_b (fX10_sign (R a0 0) I R) (fun q4 => if q4 = (124 : Int32) then (z_b (fX10_pass (R a0 0) I) (fun q7 => z_g (z_ob (R a0 1) 3) (z_b (fX3_addSkip (R a0 1) (3 : Int32) p3 q7 R) (fun q8 => z_b (rec 1 a0 z1 q8.2 R) (fun q10 => z_l (p4 + (1 : Int32)) (fun t11 => some (.inl (q10.1, q8.1, t11, q10.2)))))))) else (some (.inr (p2, p3, I)))))))) s.1 s.2.1 s.2.2.1 s.2.2.2
theorem wX4_readChoice_b11 {G : z_G} {d : Nat} {Q : Option Value → z_S → z_H → Prop} {a0 : Nat} {z1 : Int32} {R : Nat → Nat → Nat} (hd : 34 ≤ d) {rec : z_RT} (hrec : z_RC G d z_selB rec) (g_a0 : z_ob a0 4) : ∀ (s : Int32 × Int32 × Int32 × (Nat → Nat → Int32)) (o : (Int32 × Int32 × Int32 × (Nat → Nat → Int32)) ⊕ (Int32 × Int32 × (Nat → Nat → Int32))), fX4_readChoice_b11 rec a0 z1 R s = some o → z_or (fun s : Int32 × Int32 × Int32 × (Nat → Nat → Int32) => z_W G eX4_readChoice d 0 0 11 [some (.ref a0), some (.int z1), some (.int s.1), some (.int s.2.1), some (.int s.2.2.1)] [] z_SH (s.2.2.2, R) Q) (fun x : Int32 × Int32 × (Nat → Nat → Int32) => z_W G eX4_readChoice d 0 0 64 [some (.ref a0), none, some (.int x.1), some (.int x.2.1), none] [] z_SH (x.2.2, R) Q) o → (fun s : Int32 × Int32 × Int32 × (Nat → Nat → Int32) => z_W G eX4_readChoice d 0 0 11 [some (.ref a0), some (.int z1), some (.int s.1), some (.int s.2.1), some (.int s.2.2.1)] [] z_SH (s.2.2.2, R) Q) s := by
  rintro ⟨p2, p3, p4, I⟩ o hf hk
  show z_W G eX4_readChoice d 0 0 11 [some (.ref a0), some (.int z1), some (.int p2), some (.int p3), some (.int p4)] [] z_SH (I, R) Q
  unfold fX4_readChoice_b11 at hf
  try dsimp only at hf
  refine z_iload dX4_readChoice_11 rfl ?_
  refine z_sipush dX4_readChoice_13 ks_240 ?_
  refine z_icmp_ge (tgt := 64) dX4_readChoice_16 (by decide) (fun c2 => ?_) (fun c2 => ?_)
  · have hf := z_if_t hf c2
    cases hf
    exact y_sub hk (z_le_c rfl (z_le_n (z_le_c rfl (z_le_c rfl (z_le_n z_le_0)))))
  · have hf := z_if_f hf c2
    refine z_iload_n dX4_readChoice_19 rfl rfl ?_
    refine z_if_eq (tgt := 64) dX4_readChoice_20 (by decide) (fun c3 => ?_) (fun c3 => ?_)
    · have hf := z_if_t hf c3
      cases hf
      exact y_sub hk (z_le_c rfl (z_le_n (z_le_c rfl (z_le_c rfl (z_le_n z_le_0)))))
    · have hf := z_if_f hf c3
      refine z_aload_n dX4_readChoice_23 rfl rfl (z_okl g_a0) ?_
      refine y_getR lfX4_9 rfl g_a0 dX4_readChoice_24 ?_
      obtain ⟨g5, hf⟩ := z_g_el hf
      obtain ⟨q4, hq4, hf⟩ := z_b_el hf
      refine y_cVi (av := []) (Nat.le_trans (Nat.le_of_ble_eq_true rfl) hd) (wX10_sign (z_dl rfl hd) hq4) oX10_sign lmX4_34 iX10_sign g5 rfl _ rfl rfl (Nat.le_of_ble_eq_true rfl) dX4_readChoice_27 ?_
      refine z_bipush dX4_readChoice_30 kb_124 ?_
      refine z_icmp_ne (tgt := 64) dX4_readChoice_32 (by decide) (fun c6 => ?_) (fun c6 => ?_)
      · have hf := z_if_f hf c6
        cases hf
        exact y_sub hk (z_le_c rfl (z_le_n (z_le_c rfl (z_le_c rfl (z_le_n z_le_0)))))
      · have hf := z_if_t hf c6
        refine z_aload_n dX4_readChoice_35 rfl rfl (z_okl g_a0) ?_
        refine y_getR lfX4_9 rfl g_a0 dX4_readChoice_36 ?_
        obtain ⟨q7, hq7, hf⟩ := z_b_el hf
        refine y_cVv (av := []) (Nat.le_trans (Nat.le_of_ble_eq_true rfl) hd) (wX10_pass (z_dl rfl hd) hq7) oX10_pass lmX4_38 iX10_pass g5 rfl _ rfl rfl (Nat.le_of_ble_eq_true rfl) dX4_readChoice_39 ?_
        refine z_aload_n dX4_readChoice_42 rfl rfl (z_okl g_a0) ?_
        refine y_getR lfX4_15 rfl g_a0 dX4_readChoice_43 ?_
        refine z_iconst dX4_readChoice_46 kc_3 ?_
        refine z_iload_n dX4_readChoice_47 rfl rfl ?_
        obtain ⟨g9, hf⟩ := z_g_el hf
        obtain ⟨q8, hq8, hf⟩ := z_b_el hf
        refine y_cVi (av := [.int (3 : Int32), .int p3]) (Nat.le_trans (Nat.le_of_ble_eq_true rfl) hd) (wX3_addSkip (z_dl rfl hd) hq8) oX3_addSkip lmX4_78 iX3_addSkip g9 rfl _ rfl rfl (Nat.le_of_ble_eq_true rfl) dX4_readChoice_48 ?_
        refine y_istore_n0 [some (.ref a0), some (.int z1), some (.int p2), some (.int q8.1), some (.int p4)] dX4_readChoice_51 rfl (by decide) rfl ?_
        refine z_aload_n dX4_readChoice_52 rfl rfl (z_okl g_a0) ?_
        refine z_iload_n dX4_readChoice_53 rfl rfl ?_
        obtain ⟨q10, hq10, hf⟩ := z_b_el hf
        refine y_cVi (av := [.int z1]) (Nat.le_trans (Nat.le_of_ble_eq_true rfl) hd) (hrec 1 _ _ _ _ _ hq10) oX4_readPart lmX4_75 iX4_readPart g_a0 rfl _ rfl rfl (Nat.le_of_ble_eq_true rfl) dX4_readChoice_54 ?_
        refine y_istore_n0 [some (.ref a0), some (.int z1), some (.int q10.1), some (.int q8.1), some (.int p4)] dX4_readChoice_57 rfl (by decide) rfl ?_
        refine y_iinc (fun t11 => [some (.ref a0), some (.int z1), some (.int q10.1), some (.int q8.1), some (.int t11)]) dX4_readChoice_58 rfl kc_1 (by decide) (fun _ => rfl) (fun t11 et11 => ?_)
        have hf := z_l_el hf et11
        refine z_goto (tgt := 11) dX4_readChoice_61 (by decide) ?_
        cases hf
        exact y_sub hk (z_le_c rfl (z_le_c rfl (z_le_c rfl (z_le_c rfl (z_le_c rfl z_le_0)))))
def fX4_readChoice_j64 (rec : z_RT) (a0 : Nat) (y2 : Int32) (y3 : Int32) (I : Nat → Nat → Int32) (R : Nat → Nat → Nat) : Option (Int32 × (Nat → Nat → Int32)) :=
  z_g (z_ob (R a0 1) 3) (z_b (fX3_landHere (R a0 1) y3 I R) (fun q13 => z_g (y2 = 0 ∨ y2 = 1) (some (y2, q13))))
theorem wX4_readChoice_j64 {G : z_G} {d : Nat} {Q : Option Value → z_S → z_H → Prop} {a0 : Nat} {y2 : Int32} {y3 : Int32} {I : Nat → Nat → Int32} {R : Nat → Nat → Nat} {o : Int32 × (Nat → Nat → Int32)} (hd : 34 ≤ d) {rec : z_RT} (hrec : z_RC G d z_selB rec) (g_a0 : z_ob a0 4) (hf : fX4_readChoice_j64 rec a0 y2 y3 I R = some o) (hk : Q (some (.int o.1)) z_SH (o.2, R)) : z_W G eX4_readChoice d 0 0 64 [some (.ref a0), none, some (.int y2), some (.int y3), none] [] z_SH (I, R) Q := by
  unfold fX4_readChoice_j64 at hf
  refine z_aload_n dX4_readChoice_64 rfl rfl (z_okl g_a0) ?_
  refine y_getR lfX4_15 rfl g_a0 dX4_readChoice_65 ?_
  refine z_iload_n dX4_readChoice_68 rfl rfl ?_
  obtain ⟨g14, hf⟩ := z_g_el hf
  obtain ⟨q13, hq13, hf⟩ := z_b_el hf
  refine y_cVv (av := [.int y3]) (Nat.le_trans (Nat.le_of_ble_eq_true rfl) hd) (wX3_landHere (z_dl rfl hd) hq13) oX3_landHere lmX4_82 iX3_landHere g14 rfl _ rfl rfl (Nat.le_of_ble_eq_true rfl) dX4_readChoice_69 ?_
  refine z_iload_n dX4_readChoice_72 rfl rfl ?_
  obtain ⟨g15, hf⟩ := z_g_el hf
  cases hf
  exact z_iret hk ⟨_, rfl, z_bn g15⟩ dX4_readChoice_73
def fX4_readChoice (rec : z_RT) (a0 : Nat) (x1 : Int32) (I : Nat → Nat → Int32) (R : Nat → Nat → Nat) : Option (Int32 × (Nat → Nat → Int32)) :=
  z_g (z_ob a0 4) (z_b (rec 1 a0 x1 I R) (fun q1 => z_b (z_lp (fX4_readChoice_b11 rec a0 x1 R) 300 (q1.1, (-1 : Int32), (0 : Int32), q1.2)) (fun q12 => fX4_readChoice_j64 rec a0 q12.1 q12.2.1 q12.2.2 R)))
theorem vX4_readChoice {G : z_G} {d : Nat} {Q : Option Value → z_S → z_H → Prop} {a0 : Nat} {x1 : Int32} {I : Nat → Nat → Int32} {R : Nat → Nat → Nat} {q : Int32 × (Nat → Nat → Int32)} (hd : 34 ≤ d) {rec : z_RT} (hrec : z_RC G d z_selB rec) (hf : fX4_readChoice rec a0 x1 I R = some q) (hk : Q (some (.int q.1)) z_SH (q.2, R)) : z_W G eX4_readChoice d 0 0 0 [some (.ref a0), some (.int x1), none, none, none] [] z_SH (I, R) Q := by
  unfold fX4_readChoice at hf
  obtain ⟨g_a0, hf⟩ := z_g_el hf
  refine z_aload_n dX4_readChoice_0 rfl rfl (z_okl g_a0) ?_
  refine z_iload_n dX4_readChoice_1 rfl rfl ?_
  obtain ⟨q1, hq1, hf⟩ := z_b_el hf
  refine y_cVi (av := [.int x1]) (Nat.le_trans (Nat.le_of_ble_eq_true rfl) hd) (hrec 1 _ _ _ _ _ hq1) oX4_readPart lmX4_75 iX4_readPart g_a0 rfl _ rfl rfl (Nat.le_of_ble_eq_true rfl) dX4_readChoice_2 ?_
  refine y_istore_n0 [some (.ref a0), some (.int x1), some (.int q1.1), none, none] dX4_readChoice_5 rfl (by decide) rfl ?_
  refine z_iconst dX4_readChoice_6 kc_m1 ?_
  refine y_istore_n0 [some (.ref a0), some (.int x1), some (.int q1.1), some (.int (-1 : Int32)), none] dX4_readChoice_7 rfl (by decide) rfl ?_
  refine z_iconst dX4_readChoice_8 kc_0 ?_
  refine y_istore0 [some (.ref a0), some (.int x1), some (.int q1.1), some (.int (-1 : Int32)), some (.int (0 : Int32))] dX4_readChoice_9 (by decide) rfl ?_
  obtain ⟨q12, hq12, hf⟩ := z_b_el hf
  refine y_sub (lv' := [some (.ref a0), some (.int x1), some (.int q1.1), some (.int (-1 : Int32)), some (.int (0 : Int32))]) ?_ (z_le_c rfl (z_le_c rfl (z_le_c rfl (z_le_c rfl (z_le_c rfl z_le_0)))))
  refine z_lp_el (P := (fun s : Int32 × Int32 × Int32 × (Nat → Nat → Int32) => z_W G eX4_readChoice d 0 0 11 [some (.ref a0), some (.int x1), some (.int s.1), some (.int s.2.1), some (.int s.2.2.1)] [] z_SH (s.2.2.2, R) Q)) (E := (fun x : Int32 × Int32 × (Nat → Nat → Int32) => z_W G eX4_readChoice d 0 0 64 [some (.ref a0), none, some (.int x.1), some (.int x.2.1), none] [] z_SH (x.2.2, R) Q)) (wX4_readChoice_b11 hd hrec g_a0) 300 (q1.1, (-1 : Int32), (0 : Int32), q1.2) q12 hq12 ?_
  show z_W G eX4_readChoice d 0 0 64 [some (.ref a0), none, some (.int q12.1), some (.int q12.2.1), none] [] z_SH (q12.2.2, R) _
  exact y_sub (wX4_readChoice_j64 hd hrec g_a0 hf hk) (z_le_c rfl (z_le_n (z_le_c rfl (z_le_c rfl (z_le_n z_le_0)))))
theorem wX4_readChoice {G : z_G} {d : Nat} {a0 : Nat} {x1 : Int32} {I : Nat → Nat → Int32} {R : Nat → Nat → Nat} {q : Int32 × (Nat → Nat → Int32)} (hd : 34 ≤ d) {rec : z_RT} (hrec : z_RC G d z_selB rec) (hf : fX4_readChoice rec a0 x1 I R = some q) : z_M G d 0 0 eX4_readChoice [.ref a0, .int x1] z_SH (I, R) (z_E (some (.int q.1)) (q.2, R)) :=
  y_M_of _ (by decide +kernel) rfl rfl rfl (vX4_readChoice hd hrec hf ⟨rfl, rfl, rfl⟩)
def fX4_readPart_b11 (rec : z_RT) (a0 : Nat) (z1 : Int32) (R : Nat → Nat → Nat) : (Int32 × Int32 × Int32 × (Nat → Nat → Int32)) → Option ((Int32 × Int32 × Int32 × (Nat → Nat → Int32)) ⊕ (Int32 × Int32 × (Nat → Nat → Int32))) :=
  fun s => (fun (p2 : Int32) (p3 : Int32) (p4 : Int32) (I : Nat → Nat → Int32) => if (240 : Int32) ≤ p4 then (some (.inr (p2, p3, I))) else (if p2 = 0 then (some (.inr (p2, p3, I))) else (z_g (z_ob (R a0 0) 10) (z_b (fX10_sign (R a0 0) I R) (fun q4 => if q4 = (38 : Int32) then (z_b (fX10_pass (R a0 0) I) (fun q7 => z_g (z_ob (R a0 1) 3) (z_b (fX3_addSkip (R a0 1) (4 : Int32) p3 q7 R) (fun q8 => z_b (rec 2 a0 z1 q8.2 R) (fun q10 => z_l (p4 + (1 : Int32)) (fun t11 => some (.inl (q10.1, q8.1, t11, q10.2)))))))) else (some (.inr (p2, p3, I)))))))) s.1 s.2.1 s.2.2.1 s.2.2.2
theorem wX4_readPart_b11 {G : z_G} {d : Nat} {Q : Option Value → z_S → z_H → Prop} {a0 : Nat} {z1 : Int32} {R : Nat → Nat → Nat} (hd : 34 ≤ d) {rec : z_RT} (hrec : z_RC G d z_selB rec) (g_a0 : z_ob a0 4) : ∀ (s : Int32 × Int32 × Int32 × (Nat → Nat → Int32)) (o : (Int32 × Int32 × Int32 × (Nat → Nat → Int32)) ⊕ (Int32 × Int32 × (Nat → Nat → Int32))), fX4_readPart_b11 rec a0 z1 R s = some o → z_or (fun s : Int32 × Int32 × Int32 × (Nat → Nat → Int32) => z_W G eX4_readPart d 0 0 11 [some (.ref a0), some (.int z1), some (.int s.1), some (.int s.2.1), some (.int s.2.2.1)] [] z_SH (s.2.2.2, R) Q) (fun x : Int32 × Int32 × (Nat → Nat → Int32) => z_W G eX4_readPart d 0 0 64 [some (.ref a0), none, some (.int x.1), some (.int x.2.1), none] [] z_SH (x.2.2, R) Q) o → (fun s : Int32 × Int32 × Int32 × (Nat → Nat → Int32) => z_W G eX4_readPart d 0 0 11 [some (.ref a0), some (.int z1), some (.int s.1), some (.int s.2.1), some (.int s.2.2.1)] [] z_SH (s.2.2.2, R) Q) s := by
  rintro ⟨p2, p3, p4, I⟩ o hf hk
  show z_W G eX4_readPart d 0 0 11 [some (.ref a0), some (.int z1), some (.int p2), some (.int p3), some (.int p4)] [] z_SH (I, R) Q
  unfold fX4_readPart_b11 at hf
  try dsimp only at hf
  refine z_iload dX4_readPart_11 rfl ?_
  refine z_sipush dX4_readPart_13 ks_240 ?_
  refine z_icmp_ge (tgt := 64) dX4_readPart_16 (by decide) (fun c2 => ?_) (fun c2 => ?_)
  · have hf := z_if_t hf c2
    cases hf
    exact y_sub hk (z_le_c rfl (z_le_n (z_le_c rfl (z_le_c rfl (z_le_n z_le_0)))))
  · have hf := z_if_f hf c2
    refine z_iload_n dX4_readPart_19 rfl rfl ?_
    refine z_if_eq (tgt := 64) dX4_readPart_20 (by decide) (fun c3 => ?_) (fun c3 => ?_)
    · have hf := z_if_t hf c3
      cases hf
      exact y_sub hk (z_le_c rfl (z_le_n (z_le_c rfl (z_le_c rfl (z_le_n z_le_0)))))
    · have hf := z_if_f hf c3
      refine z_aload_n dX4_readPart_23 rfl rfl (z_okl g_a0) ?_
      refine y_getR lfX4_9 rfl g_a0 dX4_readPart_24 ?_
      obtain ⟨g5, hf⟩ := z_g_el hf
      obtain ⟨q4, hq4, hf⟩ := z_b_el hf
      refine y_cVi (av := []) (Nat.le_trans (Nat.le_of_ble_eq_true rfl) hd) (wX10_sign (z_dl rfl hd) hq4) oX10_sign lmX4_34 iX10_sign g5 rfl _ rfl rfl (Nat.le_of_ble_eq_true rfl) dX4_readPart_27 ?_
      refine z_bipush dX4_readPart_30 kb_38 ?_
      refine z_icmp_ne (tgt := 64) dX4_readPart_32 (by decide) (fun c6 => ?_) (fun c6 => ?_)
      · have hf := z_if_f hf c6
        cases hf
        exact y_sub hk (z_le_c rfl (z_le_n (z_le_c rfl (z_le_c rfl (z_le_n z_le_0)))))
      · have hf := z_if_t hf c6
        refine z_aload_n dX4_readPart_35 rfl rfl (z_okl g_a0) ?_
        refine y_getR lfX4_9 rfl g_a0 dX4_readPart_36 ?_
        obtain ⟨q7, hq7, hf⟩ := z_b_el hf
        refine y_cVv (av := []) (Nat.le_trans (Nat.le_of_ble_eq_true rfl) hd) (wX10_pass (z_dl rfl hd) hq7) oX10_pass lmX4_38 iX10_pass g5 rfl _ rfl rfl (Nat.le_of_ble_eq_true rfl) dX4_readPart_39 ?_
        refine z_aload_n dX4_readPart_42 rfl rfl (z_okl g_a0) ?_
        refine y_getR lfX4_15 rfl g_a0 dX4_readPart_43 ?_
        refine z_iconst dX4_readPart_46 kc_4 ?_
        refine z_iload_n dX4_readPart_47 rfl rfl ?_
        obtain ⟨g9, hf⟩ := z_g_el hf
        obtain ⟨q8, hq8, hf⟩ := z_b_el hf
        refine y_cVi (av := [.int (4 : Int32), .int p3]) (Nat.le_trans (Nat.le_of_ble_eq_true rfl) hd) (wX3_addSkip (z_dl rfl hd) hq8) oX3_addSkip lmX4_78 iX3_addSkip g9 rfl _ rfl rfl (Nat.le_of_ble_eq_true rfl) dX4_readPart_48 ?_
        refine y_istore_n0 [some (.ref a0), some (.int z1), some (.int p2), some (.int q8.1), some (.int p4)] dX4_readPart_51 rfl (by decide) rfl ?_
        refine z_aload_n dX4_readPart_52 rfl rfl (z_okl g_a0) ?_
        refine z_iload_n dX4_readPart_53 rfl rfl ?_
        obtain ⟨q10, hq10, hf⟩ := z_b_el hf
        refine y_cVi (av := [.int z1]) (Nat.le_trans (Nat.le_of_ble_eq_true rfl) hd) (hrec 2 _ _ _ _ _ hq10) oX4_readTest lmX4_85 iX4_readTest g_a0 rfl _ rfl rfl (Nat.le_of_ble_eq_true rfl) dX4_readPart_54 ?_
        refine y_istore_n0 [some (.ref a0), some (.int z1), some (.int q10.1), some (.int q8.1), some (.int p4)] dX4_readPart_57 rfl (by decide) rfl ?_
        refine y_iinc (fun t11 => [some (.ref a0), some (.int z1), some (.int q10.1), some (.int q8.1), some (.int t11)]) dX4_readPart_58 rfl kc_1 (by decide) (fun _ => rfl) (fun t11 et11 => ?_)
        have hf := z_l_el hf et11
        refine z_goto (tgt := 11) dX4_readPart_61 (by decide) ?_
        cases hf
        exact y_sub hk (z_le_c rfl (z_le_c rfl (z_le_c rfl (z_le_c rfl (z_le_c rfl z_le_0)))))
def fX4_readPart_j64 (rec : z_RT) (a0 : Nat) (y2 : Int32) (y3 : Int32) (I : Nat → Nat → Int32) (R : Nat → Nat → Nat) : Option (Int32 × (Nat → Nat → Int32)) :=
  z_g (z_ob (R a0 1) 3) (z_b (fX3_landHere (R a0 1) y3 I R) (fun q13 => z_g (y2 = 0 ∨ y2 = 1) (some (y2, q13))))
theorem wX4_readPart_j64 {G : z_G} {d : Nat} {Q : Option Value → z_S → z_H → Prop} {a0 : Nat} {y2 : Int32} {y3 : Int32} {I : Nat → Nat → Int32} {R : Nat → Nat → Nat} {o : Int32 × (Nat → Nat → Int32)} (hd : 34 ≤ d) {rec : z_RT} (hrec : z_RC G d z_selB rec) (g_a0 : z_ob a0 4) (hf : fX4_readPart_j64 rec a0 y2 y3 I R = some o) (hk : Q (some (.int o.1)) z_SH (o.2, R)) : z_W G eX4_readPart d 0 0 64 [some (.ref a0), none, some (.int y2), some (.int y3), none] [] z_SH (I, R) Q := by
  unfold fX4_readPart_j64 at hf
  refine z_aload_n dX4_readPart_64 rfl rfl (z_okl g_a0) ?_
  refine y_getR lfX4_15 rfl g_a0 dX4_readPart_65 ?_
  refine z_iload_n dX4_readPart_68 rfl rfl ?_
  obtain ⟨g14, hf⟩ := z_g_el hf
  obtain ⟨q13, hq13, hf⟩ := z_b_el hf
  refine y_cVv (av := [.int y3]) (Nat.le_trans (Nat.le_of_ble_eq_true rfl) hd) (wX3_landHere (z_dl rfl hd) hq13) oX3_landHere lmX4_82 iX3_landHere g14 rfl _ rfl rfl (Nat.le_of_ble_eq_true rfl) dX4_readPart_69 ?_
  refine z_iload_n dX4_readPart_72 rfl rfl ?_
  obtain ⟨g15, hf⟩ := z_g_el hf
  cases hf
  exact z_iret hk ⟨_, rfl, z_bn g15⟩ dX4_readPart_73
def fX4_readPart (rec : z_RT) (a0 : Nat) (x1 : Int32) (I : Nat → Nat → Int32) (R : Nat → Nat → Nat) : Option (Int32 × (Nat → Nat → Int32)) :=
  z_g (z_ob a0 4) (z_b (rec 2 a0 x1 I R) (fun q1 => z_b (z_lp (fX4_readPart_b11 rec a0 x1 R) 300 (q1.1, (-1 : Int32), (0 : Int32), q1.2)) (fun q12 => fX4_readPart_j64 rec a0 q12.1 q12.2.1 q12.2.2 R)))
theorem vX4_readPart {G : z_G} {d : Nat} {Q : Option Value → z_S → z_H → Prop} {a0 : Nat} {x1 : Int32} {I : Nat → Nat → Int32} {R : Nat → Nat → Nat} {q : Int32 × (Nat → Nat → Int32)} (hd : 34 ≤ d) {rec : z_RT} (hrec : z_RC G d z_selB rec) (hf : fX4_readPart rec a0 x1 I R = some q) (hk : Q (some (.int q.1)) z_SH (q.2, R)) : z_W G eX4_readPart d 0 0 0 [some (.ref a0), some (.int x1), none, none, none] [] z_SH (I, R) Q := by
  unfold fX4_readPart at hf
  obtain ⟨g_a0, hf⟩ := z_g_el hf
  refine z_aload_n dX4_readPart_0 rfl rfl (z_okl g_a0) ?_
  refine z_iload_n dX4_readPart_1 rfl rfl ?_
  obtain ⟨q1, hq1, hf⟩ := z_b_el hf
  refine y_cVi (av := [.int x1]) (Nat.le_trans (Nat.le_of_ble_eq_true rfl) hd) (hrec 2 _ _ _ _ _ hq1) oX4_readTest lmX4_85 iX4_readTest g_a0 rfl _ rfl rfl (Nat.le_of_ble_eq_true rfl) dX4_readPart_2 ?_
  refine y_istore_n0 [some (.ref a0), some (.int x1), some (.int q1.1), none, none] dX4_readPart_5 rfl (by decide) rfl ?_
  refine z_iconst dX4_readPart_6 kc_m1 ?_
  refine y_istore_n0 [some (.ref a0), some (.int x1), some (.int q1.1), some (.int (-1 : Int32)), none] dX4_readPart_7 rfl (by decide) rfl ?_
  refine z_iconst dX4_readPart_8 kc_0 ?_
  refine y_istore0 [some (.ref a0), some (.int x1), some (.int q1.1), some (.int (-1 : Int32)), some (.int (0 : Int32))] dX4_readPart_9 (by decide) rfl ?_
  obtain ⟨q12, hq12, hf⟩ := z_b_el hf
  refine y_sub (lv' := [some (.ref a0), some (.int x1), some (.int q1.1), some (.int (-1 : Int32)), some (.int (0 : Int32))]) ?_ (z_le_c rfl (z_le_c rfl (z_le_c rfl (z_le_c rfl (z_le_c rfl z_le_0)))))
  refine z_lp_el (P := (fun s : Int32 × Int32 × Int32 × (Nat → Nat → Int32) => z_W G eX4_readPart d 0 0 11 [some (.ref a0), some (.int x1), some (.int s.1), some (.int s.2.1), some (.int s.2.2.1)] [] z_SH (s.2.2.2, R) Q)) (E := (fun x : Int32 × Int32 × (Nat → Nat → Int32) => z_W G eX4_readPart d 0 0 64 [some (.ref a0), none, some (.int x.1), some (.int x.2.1), none] [] z_SH (x.2.2, R) Q)) (wX4_readPart_b11 hd hrec g_a0) 300 (q1.1, (-1 : Int32), (0 : Int32), q1.2) q12 hq12 ?_
  show z_W G eX4_readPart d 0 0 64 [some (.ref a0), none, some (.int q12.1), some (.int q12.2.1), none] [] z_SH (q12.2.2, R) _
  exact y_sub (wX4_readPart_j64 hd hrec g_a0 hf hk) (z_le_c rfl (z_le_n (z_le_c rfl (z_le_c rfl (z_le_n z_le_0)))))
theorem wX4_readPart {G : z_G} {d : Nat} {a0 : Nat} {x1 : Int32} {I : Nat → Nat → Int32} {R : Nat → Nat → Nat} {q : Int32 × (Nat → Nat → Int32)} (hd : 34 ≤ d) {rec : z_RT} (hrec : z_RC G d z_selB rec) (hf : fX4_readPart rec a0 x1 I R = some q) : z_M G d 0 0 eX4_readPart [.ref a0, .int x1] z_SH (I, R) (z_E (some (.int q.1)) (q.2, R)) :=
  y_M_of _ (by decide +kernel) rfl rfl rfl (vX4_readPart hd hrec hf ⟨rfl, rfl, rfl⟩)
def fX4_readTest_j26 (rec : z_RT) (a0 : Nat) (y1 : Int32) (y2 : Int32) (I : Nat → Nat → Int32) (R : Nat → Nat → Nat) : Option (Int32 × (Nat → Nat → Int32)) :=
  if y1 < (6 : Int32) then (z_g (z_ob (R a0 0) 10) (z_b (fX10_pass (R a0 0) I) (fun q5 => if y2 = (40 : Int32) then (z_b (rec 0 a0 (y1 + (1 : Int32)) q5 R) (fun q12 => if q12.1 = 0 then (some ((0 : Int32), q12.2)) else (z_b (fX10_passes (R a0 0) (41 : Int32) q12.2 R) (fun q14 => if q14.1 = 0 then (some ((0 : Int32), q14.2)) else (some ((1 : Int32), q14.2)))))) else (z_b (rec 2 a0 (y1 + (1 : Int32)) q5 R) (fun q8 => if q8.1 = 0 then (some ((0 : Int32), q8.2)) else (z_g (z_ob (R a0 1) 3) (z_b (fX3_addStep (R a0 1) (2 : Int32) (0 : Int32) q8.2 R) (fun q10 => some ((1 : Int32), q10))))))))) else (z_g (z_ob (R a0 0) 10) (z_b (fX10_place (R a0 0) I) (fun q16 => z_b (fX10_fails (R a0 0) (5 : Int32) q16 I) (fun q18 => z_g (q18.1 = 0 ∨ q18.1 = 1) (some (q18.1, q18.2))))))
theorem wX4_readTest_j26 {G : z_G} {d : Nat} {Q : Option Value → z_S → z_H → Prop} {a0 : Nat} {y1 : Int32} {y2 : Int32} {I : Nat → Nat → Int32} {R : Nat → Nat → Nat} {o : Int32 × (Nat → Nat → Int32)} (hd : 34 ≤ d) {rec : z_RT} (hrec : z_RC G d z_selB rec) (g_a0 : z_ob a0 4) (hf : fX4_readTest_j26 rec a0 y1 y2 I R = some o) (hk : Q (some (.int o.1)) z_SH (o.2, R)) : z_W G eX4_readTest d 0 0 26 [some (.ref a0), some (.int y1), some (.int y2)] [] z_SH (I, R) Q := by
  unfold fX4_readTest_j26 at hf
  refine z_iload_n dX4_readTest_26 rfl rfl ?_
  refine z_bipush dX4_readTest_27 kb_6 ?_
  refine z_icmp_lt (tgt := 48) dX4_readTest_29 (by decide) (fun c4 => ?_) (fun c4 => ?_)
  · have hf := z_if_t hf c4
    refine z_aload_n dX4_readTest_48 rfl rfl (z_okl g_a0) ?_
    refine y_getR lfX4_9 rfl g_a0 dX4_readTest_49 ?_
    obtain ⟨g6, hf⟩ := z_g_el hf
    obtain ⟨q5, hq5, hf⟩ := z_b_el hf
    refine y_cVv (av := []) (Nat.le_trans (Nat.le_of_ble_eq_true rfl) hd) (wX10_pass (z_dl rfl hd) hq5) oX10_pass lmX4_38 iX10_pass g6 rfl _ rfl rfl (Nat.le_of_ble_eq_true rfl) dX4_readTest_52 ?_
    refine z_iload_n dX4_readTest_55 rfl rfl ?_
    refine z_bipush dX4_readTest_56 kb_40 ?_
    refine z_icmp_ne (tgt := 89) dX4_readTest_58 (by decide) (fun c7 => ?_) (fun c7 => ?_)
    · have hf := z_if_f hf c7
      refine z_aload_n dX4_readTest_89 rfl rfl (z_okl g_a0) ?_
      refine z_iload_n dX4_readTest_90 rfl rfl ?_
      refine z_iconst dX4_readTest_91 kc_1 ?_
      refine z_iadd dX4_readTest_92 ?_
      obtain ⟨q8, hq8, hf⟩ := z_b_el hf
      refine y_cVi (av := [.int (y1 + (1 : Int32))]) (Nat.le_trans (Nat.le_of_ble_eq_true rfl) hd) (hrec 2 _ _ _ _ _ hq8) oX4_readTest lmX4_85 iX4_readTest g_a0 rfl _ rfl rfl (Nat.le_of_ble_eq_true rfl) dX4_readTest_93 ?_
      refine z_if_ne (tgt := 101) dX4_readTest_96 (by decide) (fun c9 => ?_) (fun c9 => ?_)
      · have hf := z_if_f hf c9
        refine z_aload_n dX4_readTest_101 rfl rfl (z_okl g_a0) ?_
        refine y_getR lfX4_15 rfl g_a0 dX4_readTest_102 ?_
        refine z_iconst dX4_readTest_105 kc_2 ?_
        refine z_iconst dX4_readTest_106 kc_0 ?_
        obtain ⟨g11, hf⟩ := z_g_el hf
        obtain ⟨q10, hq10, hf⟩ := z_b_el hf
        refine y_cVv (av := [.int (2 : Int32), .int (0 : Int32)]) (Nat.le_trans (Nat.le_of_ble_eq_true rfl) hd) (wX3_addStep (z_dl rfl hd) hq10) oX3_addStep lmX4_91 iX3_addStep g11 rfl _ rfl rfl (Nat.le_of_ble_eq_true rfl) dX4_readTest_107 ?_
        refine z_iconst dX4_readTest_110 kc_1 ?_
        cases hf
        exact z_iret hk ⟨_, rfl, rfl⟩ dX4_readTest_111
      · have hf := z_if_t hf c9
        refine z_iconst dX4_readTest_99 kc_0 ?_
        cases hf
        exact z_iret hk ⟨_, rfl, rfl⟩ dX4_readTest_100
    · have hf := z_if_t hf c7
      refine z_aload_n dX4_readTest_61 rfl rfl (z_okl g_a0) ?_
      refine z_iload_n dX4_readTest_62 rfl rfl ?_
      refine z_iconst dX4_readTest_63 kc_1 ?_
      refine z_iadd dX4_readTest_64 ?_
      obtain ⟨q12, hq12, hf⟩ := z_b_el hf
      refine y_cVi (av := [.int (y1 + (1 : Int32))]) (Nat.le_trans (Nat.le_of_ble_eq_true rfl) hd) (hrec 0 _ _ _ _ _ hq12) oX4_readChoice lmX4_68 iX4_readChoice g_a0 rfl _ rfl rfl (Nat.le_of_ble_eq_true rfl) dX4_readTest_65 ?_
      refine z_if_eq (tgt := 87) dX4_readTest_68 (by decide) (fun c13 => ?_) (fun c13 => ?_)
      · have hf := z_if_t hf c13
        refine z_iconst dX4_readTest_87 kc_0 ?_
        cases hf
        exact z_iret hk ⟨_, rfl, rfl⟩ dX4_readTest_88
      · have hf := z_if_f hf c13
        refine z_aload_n dX4_readTest_71 rfl rfl (z_okl g_a0) ?_
        refine y_getR lfX4_9 rfl g_a0 dX4_readTest_72 ?_
        refine z_bipush dX4_readTest_75 kb_41 ?_
        obtain ⟨q14, hq14, hf⟩ := z_b_el hf
        refine y_cVi (av := [.int (41 : Int32)]) (Nat.le_trans (Nat.le_of_ble_eq_true rfl) hd) (wX10_passes (z_dl rfl hd) hq14) oX10_passes lmX4_41 iX10_passes g6 rfl _ rfl rfl (Nat.le_of_ble_eq_true rfl) dX4_readTest_77 ?_
        refine z_if_eq (tgt := 87) dX4_readTest_80 (by decide) (fun c15 => ?_) (fun c15 => ?_)
        · have hf := z_if_t hf c15
          refine z_iconst dX4_readTest_87 kc_0 ?_
          cases hf
          exact z_iret hk ⟨_, rfl, rfl⟩ dX4_readTest_88
        · have hf := z_if_f hf c15
          refine z_iconst dX4_readTest_83 kc_1 ?_
          refine z_goto (tgt := 88) dX4_readTest_84 (by decide) ?_
          cases hf
          exact z_iret hk ⟨_, rfl, rfl⟩ dX4_readTest_88
  · have hf := z_if_f hf c4
    refine z_aload_n dX4_readTest_32 rfl rfl (z_okl g_a0) ?_
    refine y_getR lfX4_9 rfl g_a0 dX4_readTest_33 ?_
    refine z_iconst dX4_readTest_36 kc_5 ?_
    refine z_aload_n dX4_readTest_37 rfl rfl (z_okl g_a0) ?_
    refine y_getR lfX4_9 rfl g_a0 dX4_readTest_38 ?_
    obtain ⟨g17, hf⟩ := z_g_el hf
    obtain ⟨q16, hq16, hf⟩ := z_b_el hf
    refine y_cVi (av := []) (Nat.le_trans (Nat.le_of_ble_eq_true rfl) hd) (wX10_place (z_dl rfl hd) hq16) oX10_place lmX4_55 iX10_place g17 rfl _ rfl rfl (Nat.le_of_ble_eq_true rfl) dX4_readTest_41 ?_
    obtain ⟨q18, hq18, hf⟩ := z_b_el hf
    refine y_cVi (av := [.int (5 : Int32), .int q16]) (Nat.le_trans (Nat.le_of_ble_eq_true rfl) hd) (wX10_fails (z_dl rfl hd) hq18) oX10_fails lmX4_58 iX10_fails g17 rfl _ rfl rfl (Nat.le_of_ble_eq_true rfl) dX4_readTest_44 ?_
    obtain ⟨g19, hf⟩ := z_g_el hf
    cases hf
    exact z_iret hk ⟨_, rfl, z_bn g19⟩ dX4_readTest_47
def fX4_readTest (rec : z_RT) (a0 : Nat) (x1 : Int32) (I : Nat → Nat → Int32) (R : Nat → Nat → Nat) : Option (Int32 × (Nat → Nat → Int32)) :=
  z_g (z_ob a0 4) (z_g (z_ob (R a0 0) 10) (z_b (fX10_sign (R a0 0) I R) (fun q1 => if q1 = (33 : Int32) then (fX4_readTest_j26 rec a0 x1 q1 I R) else (if q1 = (40 : Int32) then (fX4_readTest_j26 rec a0 x1 q1 I R) else (z_b (fX4_readComparison a0 x1 I R) (fun q21 => z_g (q21.1 = 0 ∨ q21.1 = 1) (some (q21.1, q21.2))))))))
set_option maxRecDepth 20000 in
theorem vX4_readTest {G : z_G} {d : Nat} {Q : Option Value → z_S → z_H → Prop} {a0 : Nat} {x1 : Int32} {I : Nat → Nat → Int32} {R : Nat → Nat → Nat} {q : Int32 × (Nat → Nat → Int32)} (hd : 34 ≤ d) {rec : z_RT} (hrec : z_RC G d z_selB rec) (hf : fX4_readTest rec a0 x1 I R = some q) (hk : Q (some (.int q.1)) z_SH (q.2, R)) : z_W G eX4_readTest d 0 0 0 [some (.ref a0), some (.int x1), none] [] z_SH (I, R) Q := by
  unfold fX4_readTest at hf
  obtain ⟨g_a0, hf⟩ := z_g_el hf
  refine z_aload_n dX4_readTest_0 rfl rfl (z_okl g_a0) ?_
  refine y_getR lfX4_9 rfl g_a0 dX4_readTest_1 ?_
  obtain ⟨g2, hf⟩ := z_g_el hf
  obtain ⟨q1, hq1, hf⟩ := z_b_el hf
  refine y_cVi (av := []) (Nat.le_trans (Nat.le_of_ble_eq_true rfl) hd) (wX10_sign (z_dl rfl hd) hq1) oX10_sign lmX4_34 iX10_sign g2 rfl _ rfl rfl (Nat.le_of_ble_eq_true rfl) dX4_readTest_4 ?_
  refine y_istore_n0 [some (.ref a0), some (.int x1), some (.int q1)] dX4_readTest_7 rfl (by decide) rfl ?_
  refine z_iload_n dX4_readTest_8 rfl rfl ?_
  refine z_bipush dX4_readTest_9 kb_33 ?_
  refine z_icmp_eq (tgt := 26) dX4_readTest_11 (by decide) (fun c3 => ?_) (fun c3 => ?_)
  · have hf := z_if_t hf c3
    exact y_sub (wX4_readTest_j26 hd hrec g_a0 hf hk) (z_le_c rfl (z_le_c rfl (z_le_c rfl z_le_0)))
  · have hf := z_if_f hf c3
    refine z_iload_n dX4_readTest_14 rfl rfl ?_
    refine z_bipush dX4_readTest_15 kb_40 ?_
    refine z_icmp_eq (tgt := 26) dX4_readTest_17 (by decide) (fun c20 => ?_) (fun c20 => ?_)
    · have hf := z_if_t hf c20
      exact y_sub (wX4_readTest_j26 hd hrec g_a0 hf hk) (z_le_c rfl (z_le_c rfl (z_le_c rfl z_le_0)))
    · have hf := z_if_f hf c20
      refine z_aload_n dX4_readTest_20 rfl rfl (z_okl g_a0) ?_
      refine z_iload_n dX4_readTest_21 rfl rfl ?_
      obtain ⟨q21, hq21, hf⟩ := z_b_el hf
      refine y_cVi (av := [.int x1]) (Nat.le_trans (Nat.le_of_ble_eq_true rfl) hd) (wX4_readComparison (z_dl rfl hd) hq21) oX4_readComparison lmX4_88 iX4_readComparison g_a0 rfl _ rfl rfl (Nat.le_of_ble_eq_true rfl) dX4_readTest_22 ?_
      obtain ⟨g22, hf⟩ := z_g_el hf
      cases hf
      exact z_iret hk ⟨_, rfl, z_bn g22⟩ dX4_readTest_25
theorem wX4_readTest {G : z_G} {d : Nat} {a0 : Nat} {x1 : Int32} {I : Nat → Nat → Int32} {R : Nat → Nat → Nat} {q : Int32 × (Nat → Nat → Int32)} (hd : 34 ≤ d) {rec : z_RT} (hrec : z_RC G d z_selB rec) (hf : fX4_readTest rec a0 x1 I R = some q) : z_M G d 0 0 eX4_readTest [.ref a0, .int x1] z_SH (I, R) (z_E (some (.int q.1)) (q.2, R)) :=
  y_M_of _ (by decide +kernel) rfl rfl rfl (vX4_readTest hd hrec hf ⟨rfl, rfl, rfl⟩)
def z_fxB : Nat → z_RT
  | 0 => fun _ _ _ _ _ => none
  | n + 1 => fun k a x I R => if k = 0 then fX4_readChoice (z_fxB n) a x I R else if k = 1 then fX4_readPart (z_fxB n) a x I R else fX4_readTest (z_fxB n) a x I R
theorem wz_fxB {G : z_G} : ∀ (n d : Nat), n + 34 ≤ d → ∀ (k a : Nat) (x : Int32) (I : Nat → Nat → Int32) (R : Nat → Nat → Nat) (q : Int32 × (Nat → Nat → Int32)), z_fxB n k a x I R = some q → z_M G d 0 0 (z_selB k) [.ref a, .int x] z_SH (I, R) (z_E (some (.int q.1)) (q.2, R)) := by
  intro n
  induction n with
  | zero => intro d _ k a x I R q h; cases h
  | succ n ih =>
    intro d hd k a x I R q h
    have hrec : z_RC G d z_selB (z_fxB n) := fun k a x I R q h => ih (d - 1) (by omega) k a x I R q h
    unfold z_fxB at h
    unfold z_selB
    by_cases h0 : k = 0
    · rw [if_pos h0]
      exact wX4_readChoice (by omega) hrec (z_if_t h h0)
    · rw [if_neg h0]
      have h := z_if_f h h0
      by_cases h1 : k = 1
      · rw [if_pos h1]
        exact wX4_readPart (by omega) hrec (z_if_t h h1)
      · rw [if_neg h1]
        exact wX4_readTest (by omega) hrec (z_if_f h h1)
theorem wX4_readChoice_x {G : z_G} {d a : Nat} {x : Int32} {I : Nat → Nat → Int32} {R : Nat → Nat → Nat} {q : Int32 × (Nat → Nat → Int32)} (hd : 64 ≤ d) (hf : z_fxB 30 0 a x I R = some q) : z_M G d 0 0 eX4_readChoice [.ref a, .int x] z_SH (I, R) (z_E (some (.int q.1)) (q.2, R)) := wz_fxB 30 d hd 0 a x I R q hf
theorem wX4_readPart_x {G : z_G} {d a : Nat} {x : Int32} {I : Nat → Nat → Int32} {R : Nat → Nat → Nat} {q : Int32 × (Nat → Nat → Int32)} (hd : 64 ≤ d) (hf : z_fxB 30 1 a x I R = some q) : z_M G d 0 0 eX4_readPart [.ref a, .int x] z_SH (I, R) (z_E (some (.int q.1)) (q.2, R)) := wz_fxB 30 d hd 1 a x I R q hf
theorem wX4_readTest_x {G : z_G} {d a : Nat} {x : Int32} {I : Nat → Nat → Int32} {R : Nat → Nat → Nat} {q : Int32 × (Nat → Nat → Int32)} (hd : 64 ≤ d) (hf : z_fxB 30 2 a x I R = some q) : z_M G d 0 0 eX4_readTest [.ref a, .int x] z_SH (I, R) (z_E (some (.int q.1)) (q.2, R)) := wz_fxB 30 d hd 2 a x I R q hf
def fX4_readRule_j90 (a0 : Nat) (y1 : Int32) (y2 : Int32) (I : Nat → Nat → Int32) (R : Nat → Nat → Nat) : Option (Int32 × (Nat → Nat → Int32)) :=
  z_g (z_ob (R a0 1) 3) (z_b (fX3_stepCount (R a0 1) I) (fun q11 => z_g (z_ob (R a0 0) 10) (z_b (fX10_passes (R a0 0) (40 : Int32) I R) (fun q13 => if q13.1 = 0 then (some ((0 : Int32), q13.2)) else (z_b (z_fxB 30 0 a0 (1 : Int32) q13.2 R) (fun q16 => if q16.1 = 0 then (some ((0 : Int32), q16.2)) else (z_b (fX10_passes (R a0 0) (41 : Int32) q16.2 R) (fun q18 => if q18.1 = 0 then (some ((0 : Int32), q18.2)) else (z_b (fX3_addRule (R a0 1) y1 y2 q11 q18.2 R) (fun q20 => some ((1 : Int32), q20)))))))))))
theorem wX4_readRule_j90 {G : z_G} {d : Nat} {Q : Option Value → z_S → z_H → Prop} {a0 : Nat} {y1 : Int32} {y2 : Int32} {I : Nat → Nat → Int32} {R : Nat → Nat → Nat} {o : Int32 × (Nat → Nat → Int32)} (hd : 65 ≤ d) (g_a0 : z_ob a0 4) (hf : fX4_readRule_j90 a0 y1 y2 I R = some o) (hk : Q (some (.int o.1)) z_SH (o.2, R)) : z_W G eX4_readRule d 0 0 90 [some (.ref a0), some (.int y1), some (.int y2), none] [] z_SH (I, R) Q := by
  unfold fX4_readRule_j90 at hf
  refine z_aload_n dX4_readRule_90 rfl rfl (z_okl g_a0) ?_
  refine y_getR lfX4_15 rfl g_a0 dX4_readRule_91 ?_
  obtain ⟨g12, hf⟩ := z_g_el hf
  obtain ⟨q11, hq11, hf⟩ := z_b_el hf
  refine y_cVi (av := []) (Nat.le_trans (Nat.le_of_ble_eq_true rfl) hd) (wX3_stepCount (z_dl rfl hd) hq11) oX3_stepCount lmX4_62 iX3_stepCount g12 rfl _ rfl rfl (Nat.le_of_ble_eq_true rfl) dX4_readRule_94 ?_
  refine y_istore_n0 [some (.ref a0), some (.int y1), some (.int y2), some (.int q11)] dX4_readRule_97 rfl (by decide) rfl ?_
  refine z_aload_n dX4_readRule_98 rfl rfl (z_okl g_a0) ?_
  refine y_getR lfX4_9 rfl g_a0 dX4_readRule_99 ?_
  refine z_bipush dX4_readRule_102 kb_40 ?_
  obtain ⟨g14, hf⟩ := z_g_el hf
  obtain ⟨q13, hq13, hf⟩ := z_b_el hf
  refine y_cVi (av := [.int (40 : Int32)]) (Nat.le_trans (Nat.le_of_ble_eq_true rfl) hd) (wX10_passes (z_dl rfl hd) hq13) oX10_passes lmX4_41 iX10_passes g14 rfl _ rfl rfl (Nat.le_of_ble_eq_true rfl) dX4_readRule_104 ?_
  refine z_if_eq (tgt := 130) dX4_readRule_107 (by decide) (fun c15 => ?_) (fun c15 => ?_)
  · have hf := z_if_t hf c15
    refine z_iconst dX4_readRule_130 kc_0 ?_
    cases hf
    exact z_iret hk ⟨_, rfl, rfl⟩ dX4_readRule_131
  · have hf := z_if_f hf c15
    refine z_aload_n dX4_readRule_110 rfl rfl (z_okl g_a0) ?_
    refine z_iconst dX4_readRule_111 kc_1 ?_
    obtain ⟨q16, hq16, hf⟩ := z_b_el hf
    refine y_cVi (av := [.int (1 : Int32)]) (Nat.le_trans (Nat.le_of_ble_eq_true rfl) hd) (wX4_readChoice_x (z_dl rfl hd) hq16) oX4_readChoice lmX4_68 iX4_readChoice g_a0 rfl _ rfl rfl (Nat.le_of_ble_eq_true rfl) dX4_readRule_112 ?_
    refine z_if_eq (tgt := 130) dX4_readRule_115 (by decide) (fun c17 => ?_) (fun c17 => ?_)
    · have hf := z_if_t hf c17
      refine z_iconst dX4_readRule_130 kc_0 ?_
      cases hf
      exact z_iret hk ⟨_, rfl, rfl⟩ dX4_readRule_131
    · have hf := z_if_f hf c17
      refine z_aload_n dX4_readRule_118 rfl rfl (z_okl g_a0) ?_
      refine y_getR lfX4_9 rfl g_a0 dX4_readRule_119 ?_
      refine z_bipush dX4_readRule_122 kb_41 ?_
      obtain ⟨q18, hq18, hf⟩ := z_b_el hf
      refine y_cVi (av := [.int (41 : Int32)]) (Nat.le_trans (Nat.le_of_ble_eq_true rfl) hd) (wX10_passes (z_dl rfl hd) hq18) oX10_passes lmX4_41 iX10_passes g14 rfl _ rfl rfl (Nat.le_of_ble_eq_true rfl) dX4_readRule_124 ?_
      refine z_if_ne (tgt := 132) dX4_readRule_127 (by decide) (fun c19 => ?_) (fun c19 => ?_)
      · have hf := z_if_f hf c19
        refine z_aload_n dX4_readRule_132 rfl rfl (z_okl g_a0) ?_
        refine y_getR lfX4_15 rfl g_a0 dX4_readRule_133 ?_
        refine z_iload_n dX4_readRule_136 rfl rfl ?_
        refine z_iload_n dX4_readRule_137 rfl rfl ?_
        refine z_iload_n dX4_readRule_138 rfl rfl ?_
        obtain ⟨q20, hq20, hf⟩ := z_b_el hf
        refine y_cVv (av := [.int y1, .int y2, .int q11]) (Nat.le_trans (Nat.le_of_ble_eq_true rfl) hd) (wX3_addRule (z_dl rfl hd) hq20) oX3_addRule lmX4_71 iX3_addRule g12 rfl _ rfl rfl (Nat.le_of_ble_eq_true rfl) dX4_readRule_139 ?_
        refine z_iconst dX4_readRule_142 kc_1 ?_
        cases hf
        exact z_iret hk ⟨_, rfl, rfl⟩ dX4_readRule_143
      · have hf := z_if_t hf c19
        refine z_iconst dX4_readRule_130 kc_0 ?_
        cases hf
        exact z_iret hk ⟨_, rfl, rfl⟩ dX4_readRule_131
def fX4_readRule (a0 : Nat) (I : Nat → Nat → Int32) (R : Nat → Nat → Nat) : Option (Int32 × (Nat → Nat → Int32)) :=
  z_g (z_ob a0 4) (z_g (z_ob (R a0 0) 10) (z_b (fX10_sign (R a0 0) I R) (fun q1 => z_b (fX4_kindOf q1) (fun q3 => if q3 = (-1 : Int32) then (z_b (fX10_place (R a0 0) I) (fun q26 => z_b (fX10_fails (R a0 0) (1 : Int32) q26 I) (fun q27 => z_g (q27.1 = 0 ∨ q27.1 = 1) (some (q27.1, q27.2))))) else (z_g (z_ob (R a0 1) 3) (z_b (fX3_ruleCount (R a0 1) I) (fun q5 => if q5 < (16 : Int32) then (z_b (fX10_pass (R a0 0) I) (fun q8 => z_b (fX3_stepCount (R a0 1) q8) (fun q9 => if q3 = (4 : Int32) then (fX4_readRule_j90 a0 q3 q9 q8 R) else (z_b (z_fxA 30 0 a0 (0 : Int32) q8 R) (fun q21 => if q21.1 = 0 then (some ((0 : Int32), q21.2)) else (fX4_readRule_j90 a0 q3 q9 q21.2 R)))))) else (z_b (fX10_place (R a0 0) I) (fun q23 => z_b (fX10_fails (R a0 0) (4 : Int32) q23 I) (fun q24 => z_g (q24.1 = 0 ∨ q24.1 = 1) (some (q24.1, q24.2))))))))))))
set_option maxRecDepth 20000 in
theorem vX4_readRule {G : z_G} {d : Nat} {Q : Option Value → z_S → z_H → Prop} {a0 : Nat} {I : Nat → Nat → Int32} {R : Nat → Nat → Nat} {q : Int32 × (Nat → Nat → Int32)} (hd : 65 ≤ d) (hf : fX4_readRule a0 I R = some q) (hk : Q (some (.int q.1)) z_SH (q.2, R)) : z_W G eX4_readRule d 0 0 0 [some (.ref a0), none, none, none] [] z_SH (I, R) Q := by
  unfold fX4_readRule at hf
  obtain ⟨g_a0, hf⟩ := z_g_el hf
  refine z_aload_n dX4_readRule_0 rfl rfl (z_okl g_a0) ?_
  refine y_getR lfX4_9 rfl g_a0 dX4_readRule_1 ?_
  obtain ⟨g2, hf⟩ := z_g_el hf
  obtain ⟨q1, hq1, hf⟩ := z_b_el hf
  refine y_cVi (av := []) (Nat.le_trans (Nat.le_of_ble_eq_true rfl) hd) (wX10_sign (z_dl rfl hd) hq1) oX10_sign lmX4_34 iX10_sign g2 rfl _ rfl rfl (Nat.le_of_ble_eq_true rfl) dX4_readRule_4 ?_
  obtain ⟨q3, hq3, hf⟩ := z_b_el hf
  refine y_cSi (Nat.le_trans (Nat.le_of_ble_eq_true rfl) hd) (wX4_kindOf (z_dl rfl hd) hq3) oX4_kindOf lmX4_52 sX4_kindOf _ rfl rfl (Nat.le_of_ble_eq_true rfl) dX4_readRule_7 ?_
  refine y_istore_n0 [some (.ref a0), some (.int q3), none, none] dX4_readRule_10 rfl (by decide) rfl ?_
  refine z_iload_n dX4_readRule_11 rfl rfl ?_
  refine z_iconst dX4_readRule_12 kc_m1 ?_
  refine z_icmp_ne (tgt := 32) dX4_readRule_13 (by decide) (fun c4 => ?_) (fun c4 => ?_)
  · have hf := z_if_f hf c4
    refine z_aload_n dX4_readRule_32 rfl rfl (z_okl g_a0) ?_
    refine y_getR lfX4_15 rfl g_a0 dX4_readRule_33 ?_
    obtain ⟨g6, hf⟩ := z_g_el hf
    obtain ⟨q5, hq5, hf⟩ := z_b_el hf
    refine y_cVi (av := []) (Nat.le_trans (Nat.le_of_ble_eq_true rfl) hd) (wX3_ruleCount (z_dl rfl hd) hq5) oX3_ruleCount lmX4_45 iX3_ruleCount g6 rfl _ rfl rfl (Nat.le_of_ble_eq_true rfl) dX4_readRule_36 ?_
    refine z_bipush dX4_readRule_39 kb_16 ?_
    refine z_icmp_lt (tgt := 60) dX4_readRule_41 (by decide) (fun c7 => ?_) (fun c7 => ?_)
    · have hf := z_if_t hf c7
      refine z_aload_n dX4_readRule_60 rfl rfl (z_okl g_a0) ?_
      refine y_getR lfX4_9 rfl g_a0 dX4_readRule_61 ?_
      obtain ⟨q8, hq8, hf⟩ := z_b_el hf
      refine y_cVv (av := []) (Nat.le_trans (Nat.le_of_ble_eq_true rfl) hd) (wX10_pass (z_dl rfl hd) hq8) oX10_pass lmX4_38 iX10_pass g2 rfl _ rfl rfl (Nat.le_of_ble_eq_true rfl) dX4_readRule_64 ?_
      refine z_aload_n dX4_readRule_67 rfl rfl (z_okl g_a0) ?_
      refine y_getR lfX4_15 rfl g_a0 dX4_readRule_68 ?_
      obtain ⟨q9, hq9, hf⟩ := z_b_el hf
      refine y_cVi (av := []) (Nat.le_trans (Nat.le_of_ble_eq_true rfl) hd) (wX3_stepCount (z_dl rfl hd) hq9) oX3_stepCount lmX4_62 iX3_stepCount g6 rfl _ rfl rfl (Nat.le_of_ble_eq_true rfl) dX4_readRule_71 ?_
      refine y_istore_n0 [some (.ref a0), some (.int q3), some (.int q9), none] dX4_readRule_74 rfl (by decide) rfl ?_
      refine z_iload_n dX4_readRule_75 rfl rfl ?_
      refine z_iconst dX4_readRule_76 kc_4 ?_
      refine z_icmp_eq (tgt := 90) dX4_readRule_77 (by decide) (fun c10 => ?_) (fun c10 => ?_)
      · have hf := z_if_t hf c10
        exact y_sub (wX4_readRule_j90 hd g_a0 hf hk) (z_le_c rfl (z_le_c rfl (z_le_c rfl (z_le_n z_le_0))))
      · have hf := z_if_f hf c10
        refine z_aload_n dX4_readRule_80 rfl rfl (z_okl g_a0) ?_
        refine z_iconst dX4_readRule_81 kc_0 ?_
        obtain ⟨q21, hq21, hf⟩ := z_b_el hf
        refine y_cVi (av := [.int (0 : Int32)]) (Nat.le_trans (Nat.le_of_ble_eq_true rfl) hd) (wX4_readSum_x (z_dl rfl hd) hq21) oX4_readSum lmX4_65 iX4_readSum g_a0 rfl _ rfl rfl (Nat.le_of_ble_eq_true rfl) dX4_readRule_82 ?_
        refine z_if_ne (tgt := 90) dX4_readRule_85 (by decide) (fun c22 => ?_) (fun c22 => ?_)
        · have hf := z_if_f hf c22
          exact y_sub (wX4_readRule_j90 hd g_a0 hf hk) (z_le_c rfl (z_le_c rfl (z_le_c rfl (z_le_n z_le_0))))
        · have hf := z_if_t hf c22
          refine z_iconst dX4_readRule_88 kc_0 ?_
          cases hf
          exact z_iret hk ⟨_, rfl, rfl⟩ dX4_readRule_89
    · have hf := z_if_f hf c7
      refine z_aload_n dX4_readRule_44 rfl rfl (z_okl g_a0) ?_
      refine y_getR lfX4_9 rfl g_a0 dX4_readRule_45 ?_
      refine z_iconst dX4_readRule_48 kc_4 ?_
      refine z_aload_n dX4_readRule_49 rfl rfl (z_okl g_a0) ?_
      refine y_getR lfX4_9 rfl g_a0 dX4_readRule_50 ?_
      obtain ⟨q23, hq23, hf⟩ := z_b_el hf
      refine y_cVi (av := []) (Nat.le_trans (Nat.le_of_ble_eq_true rfl) hd) (wX10_place (z_dl rfl hd) hq23) oX10_place lmX4_55 iX10_place g2 rfl _ rfl rfl (Nat.le_of_ble_eq_true rfl) dX4_readRule_53 ?_
      obtain ⟨q24, hq24, hf⟩ := z_b_el hf
      refine y_cVi (av := [.int (4 : Int32), .int q23]) (Nat.le_trans (Nat.le_of_ble_eq_true rfl) hd) (wX10_fails (z_dl rfl hd) hq24) oX10_fails lmX4_58 iX10_fails g2 rfl _ rfl rfl (Nat.le_of_ble_eq_true rfl) dX4_readRule_56 ?_
      obtain ⟨g25, hf⟩ := z_g_el hf
      cases hf
      exact z_iret hk ⟨_, rfl, z_bn g25⟩ dX4_readRule_59
  · have hf := z_if_t hf c4
    refine z_aload_n dX4_readRule_16 rfl rfl (z_okl g_a0) ?_
    refine y_getR lfX4_9 rfl g_a0 dX4_readRule_17 ?_
    refine z_iconst dX4_readRule_20 kc_1 ?_
    refine z_aload_n dX4_readRule_21 rfl rfl (z_okl g_a0) ?_
    refine y_getR lfX4_9 rfl g_a0 dX4_readRule_22 ?_
    obtain ⟨q26, hq26, hf⟩ := z_b_el hf
    refine y_cVi (av := []) (Nat.le_trans (Nat.le_of_ble_eq_true rfl) hd) (wX10_place (z_dl rfl hd) hq26) oX10_place lmX4_55 iX10_place g2 rfl _ rfl rfl (Nat.le_of_ble_eq_true rfl) dX4_readRule_25 ?_
    obtain ⟨q27, hq27, hf⟩ := z_b_el hf
    refine y_cVi (av := [.int (1 : Int32), .int q26]) (Nat.le_trans (Nat.le_of_ble_eq_true rfl) hd) (wX10_fails (z_dl rfl hd) hq27) oX10_fails lmX4_58 iX10_fails g2 rfl _ rfl rfl (Nat.le_of_ble_eq_true rfl) dX4_readRule_28 ?_
    obtain ⟨g28, hf⟩ := z_g_el hf
    cases hf
    exact z_iret hk ⟨_, rfl, z_bn g28⟩ dX4_readRule_31
theorem wX4_readRule {G : z_G} {d : Nat} {a0 : Nat} {I : Nat → Nat → Int32} {R : Nat → Nat → Nat} {q : Int32 × (Nat → Nat → Int32)} (hd : 65 ≤ d) (hf : fX4_readRule a0 I R = some q) : z_M G d 0 0 eX4_readRule [.ref a0] z_SH (I, R) (z_E (some (.int q.1)) (q.2, R)) :=
  y_M_of _ (by decide +kernel) rfl rfl rfl (vX4_readRule hd hf ⟨rfl, rfl, rfl⟩)
def fX10_answer (a0 : Nat) (x1 : Int32) (I : Nat → Nat → Int32) : Option (Int32) :=
  z_g (z_ob a0 10) (if (I a0 4) = 0 then (some x1) else (some (I a0 4)))
theorem vX10_answer {G : z_G} {d : Nat} {Q : Option Value → z_S → z_H → Prop} {a0 : Nat} {x1 : Int32} {I : Nat → Nat → Int32} {R : Nat → Nat → Nat} {q : Int32} (hd : 0 ≤ d) (hf : fX10_answer a0 x1 I = some q) (hk : Q (some (.int q)) z_SH (I, R)) : z_W G eX10_answer d 0 0 0 [some (.ref a0), some (.int x1)] [] z_SH (I, R) Q := by
  unfold fX10_answer at hf
  obtain ⟨g_a0, hf⟩ := z_g_el hf
  refine z_aload_n dX10_answer_0 rfl rfl (z_okl g_a0) ?_
  refine y_getI lfX10_33 rfl g_a0 dX10_answer_1 ?_
  refine z_if_eq (tgt := 14) dX10_answer_4 (by decide) (fun c1 => ?_) (fun c1 => ?_)
  · have hf := z_if_t hf c1
    refine z_iload_n dX10_answer_14 rfl rfl ?_
    cases hf
    exact z_iret hk ⟨_, rfl, rfl⟩ dX10_answer_15
  · have hf := z_if_f hf c1
    refine z_aload_n dX10_answer_7 rfl rfl (z_okl g_a0) ?_
    refine y_getI lfX10_33 rfl g_a0 dX10_answer_8 ?_
    refine z_goto (tgt := 15) dX10_answer_11 (by decide) ?_
    cases hf
    exact z_iret hk ⟨_, rfl, rfl⟩ dX10_answer_15
theorem wX10_answer {G : z_G} {d : Nat} {a0 : Nat} {x1 : Int32} {I : Nat → Nat → Int32} {R : Nat → Nat → Nat} {q : Int32} (hd : 0 ≤ d) (hf : fX10_answer a0 x1 I = some q) : z_M G d 0 0 eX10_answer [.ref a0, .int x1] z_SH (I, R) (z_E (some (.int q)) (I, R)) :=
  y_M_of _ (by decide +kernel) rfl rfl rfl (vX10_answer hd hf ⟨rfl, rfl, rfl⟩)
def fX4_readLaw_b28 (a0 : Nat) (a2 : Nat) (R : Nat → Nat → Nat) : (Int32 × Int32 × (Nat → Nat → Int32)) → Option ((Int32 × Int32 × (Nat → Nat → Int32)) ⊕ (Int32 × (Nat → Nat → Int32))) :=
  fun s => (fun (p3 : Int32) (p4 : Int32) (I : Nat → Nat → Int32) => if (16 : Int32) ≤ p4 then (some (.inr (p3, I))) else (if p3 = 0 then (some (.inr (p3, I))) else (z_g (z_ob (R a0 0) 10) (z_b (fX10_sign (R a0 0) I R) (fun q9 => if q9 = (59 : Int32) then (z_b (fX10_pass (R a0 0) I) (fun q12 => z_b (fX4_readRule a0 q12 R) (fun q13 => z_l (p4 + (1 : Int32)) (fun t14 => some (.inl (q13.1, t14, q13.2)))))) else (some (.inr (p3, I)))))))) s.1 s.2.1 s.2.2
theorem wX4_readLaw_b28 {G : z_G} {d : Nat} {Q : Option Value → z_S → z_H → Prop} {a0 : Nat} {a2 : Nat} {R : Nat → Nat → Nat} (hd : 66 ≤ d) (g_a0 : z_ob a0 4) (g_a2 : z_ob a2 3) : ∀ (s : Int32 × Int32 × (Nat → Nat → Int32)) (o : (Int32 × Int32 × (Nat → Nat → Int32)) ⊕ (Int32 × (Nat → Nat → Int32))), fX4_readLaw_b28 a0 a2 R s = some o → z_or (fun s : Int32 × Int32 × (Nat → Nat → Int32) => z_W G eX4_readLaw d 0 0 28 [some (.ref a0), none, none, some (.int s.1), some (.int s.2.1)] [] z_SH (s.2.2, R) Q) (fun x : Int32 × (Nat → Nat → Int32) => z_W G eX4_readLaw d 0 0 69 [some (.ref a0), none, none, some (.int x.1), none] [] z_SH (x.2, R) Q) o → (fun s : Int32 × Int32 × (Nat → Nat → Int32) => z_W G eX4_readLaw d 0 0 28 [some (.ref a0), none, none, some (.int s.1), some (.int s.2.1)] [] z_SH (s.2.2, R) Q) s := by
  rintro ⟨p3, p4, I⟩ o hf hk
  show z_W G eX4_readLaw d 0 0 28 [some (.ref a0), none, none, some (.int p3), some (.int p4)] [] z_SH (I, R) Q
  unfold fX4_readLaw_b28 at hf
  try dsimp only at hf
  refine z_iload dX4_readLaw_28 rfl ?_
  refine z_bipush dX4_readLaw_30 kb_16 ?_
  refine z_icmp_ge (tgt := 69) dX4_readLaw_32 (by decide) (fun c7 => ?_) (fun c7 => ?_)
  · have hf := z_if_t hf c7
    cases hf
    exact y_sub hk (z_le_c rfl (z_le_n (z_le_n (z_le_c rfl (z_le_n z_le_0)))))
  · have hf := z_if_f hf c7
    refine z_iload_n dX4_readLaw_35 rfl rfl ?_
    refine z_if_eq (tgt := 69) dX4_readLaw_36 (by decide) (fun c8 => ?_) (fun c8 => ?_)
    · have hf := z_if_t hf c8
      cases hf
      exact y_sub hk (z_le_c rfl (z_le_n (z_le_n (z_le_c rfl (z_le_n z_le_0)))))
    · have hf := z_if_f hf c8
      refine z_aload_n dX4_readLaw_39 rfl rfl (z_okl g_a0) ?_
      refine y_getR lfX4_9 rfl g_a0 dX4_readLaw_40 ?_
      obtain ⟨g10, hf⟩ := z_g_el hf
      obtain ⟨q9, hq9, hf⟩ := z_b_el hf
      refine y_cVi (av := []) (Nat.le_trans (Nat.le_of_ble_eq_true rfl) hd) (wX10_sign (z_dl rfl hd) hq9) oX10_sign lmX4_34 iX10_sign g10 rfl _ rfl rfl (Nat.le_of_ble_eq_true rfl) dX4_readLaw_43 ?_
      refine z_bipush dX4_readLaw_46 kb_59 ?_
      refine z_icmp_ne (tgt := 69) dX4_readLaw_48 (by decide) (fun c11 => ?_) (fun c11 => ?_)
      · have hf := z_if_f hf c11
        cases hf
        exact y_sub hk (z_le_c rfl (z_le_n (z_le_n (z_le_c rfl (z_le_n z_le_0)))))
      · have hf := z_if_t hf c11
        refine z_aload_n dX4_readLaw_51 rfl rfl (z_okl g_a0) ?_
        refine y_getR lfX4_9 rfl g_a0 dX4_readLaw_52 ?_
        obtain ⟨q12, hq12, hf⟩ := z_b_el hf
        refine y_cVv (av := []) (Nat.le_trans (Nat.le_of_ble_eq_true rfl) hd) (wX10_pass (z_dl rfl hd) hq12) oX10_pass lmX4_38 iX10_pass g10 rfl _ rfl rfl (Nat.le_of_ble_eq_true rfl) dX4_readLaw_55 ?_
        refine z_aload_n dX4_readLaw_58 rfl rfl (z_okl g_a0) ?_
        obtain ⟨q13, hq13, hf⟩ := z_b_el hf
        refine y_cVi (av := []) (Nat.le_trans (Nat.le_of_ble_eq_true rfl) hd) (wX4_readRule (z_dl rfl hd) hq13) oX4_readRule lmX4_30 iX4_readRule g_a0 rfl _ rfl rfl (Nat.le_of_ble_eq_true rfl) dX4_readLaw_59 ?_
        refine y_istore_n0 [some (.ref a0), none, none, some (.int q13.1), some (.int p4)] dX4_readLaw_62 rfl (by decide) rfl ?_
        refine y_iinc (fun t14 => [some (.ref a0), none, none, some (.int q13.1), some (.int t14)]) dX4_readLaw_63 rfl kc_1 (by decide) (fun _ => rfl) (fun t14 et14 => ?_)
        have hf := z_l_el hf et14
        refine z_goto (tgt := 28) dX4_readLaw_66 (by decide) ?_
        cases hf
        exact y_sub hk (z_le_c rfl (z_le_n (z_le_n (z_le_c rfl (z_le_c rfl z_le_0)))))
def fX4_readLaw_j82 (a0 : Nat) (a2 : Nat) (I : Nat → Nat → Int32) (R : Nat → Nat → Nat) : Option (Int32 × (Nat → Nat → Int32) × (Nat → Nat → Nat)) :=
  z_g (z_ob (R a0 1) 3) (z_b (fX3_ruleCount (R a0 1) I) (fun q17 => z_g (z_ob (R a0 0) 10) (z_b (fX10_answer (R a0 0) q17 I) (fun q19 => some (q19, I, R)))))
theorem wX4_readLaw_j82 {G : z_G} {d : Nat} {Q : Option Value → z_S → z_H → Prop} {a0 : Nat} {a2 : Nat} {I : Nat → Nat → Int32} {R : Nat → Nat → Nat} {o : Int32 × (Nat → Nat → Int32) × (Nat → Nat → Nat)} (hd : 66 ≤ d) (g_a0 : z_ob a0 4) (g_a2 : z_ob a2 3) (hf : fX4_readLaw_j82 a0 a2 I R = some o) (hk : Q (some (.int o.1)) z_SH (o.2.1, o.2.2)) : z_W G eX4_readLaw d 0 0 82 [some (.ref a0), none, none, none, none] [] z_SH (I, R) Q := by
  unfold fX4_readLaw_j82 at hf
  refine z_aload_n dX4_readLaw_82 rfl rfl (z_okl g_a0) ?_
  refine y_getR lfX4_9 rfl g_a0 dX4_readLaw_83 ?_
  refine z_aload_n dX4_readLaw_86 rfl rfl (z_okl g_a0) ?_
  refine y_getR lfX4_15 rfl g_a0 dX4_readLaw_87 ?_
  obtain ⟨g18, hf⟩ := z_g_el hf
  obtain ⟨q17, hq17, hf⟩ := z_b_el hf
  refine y_cVi (av := []) (Nat.le_trans (Nat.le_of_ble_eq_true rfl) hd) (wX3_ruleCount (z_dl rfl hd) hq17) oX3_ruleCount lmX4_45 iX3_ruleCount g18 rfl _ rfl rfl (Nat.le_of_ble_eq_true rfl) dX4_readLaw_90 ?_
  obtain ⟨g20, hf⟩ := z_g_el hf
  obtain ⟨q19, hq19, hf⟩ := z_b_el hf
  refine y_cVi (av := [.int q17]) (Nat.le_trans (Nat.le_of_ble_eq_true rfl) hd) (wX10_answer (z_dl rfl hd) hq19) oX10_answer lmX4_48 iX10_answer g20 rfl _ rfl rfl (Nat.le_of_ble_eq_true rfl) dX4_readLaw_93 ?_
  cases hf
  exact z_iret hk ⟨_, rfl, rfl⟩ dX4_readLaw_96
def fX4_readLaw_j69 (a0 : Nat) (a2 : Nat) (y3 : Int32) (I : Nat → Nat → Int32) (R : Nat → Nat → Nat) : Option (Int32 × (Nat → Nat → Int32) × (Nat → Nat → Nat)) :=
  if y3 = 0 then (fX4_readLaw_j82 a0 a2 I R) else (z_g (z_ob (R a0 0) 10) (z_b (fX10_passes (R a0 0) (-1 : Int32) I R) (fun q21 => fX4_readLaw_j82 a0 a2 q21.2 R)))
theorem wX4_readLaw_j69 {G : z_G} {d : Nat} {Q : Option Value → z_S → z_H → Prop} {a0 : Nat} {a2 : Nat} {y3 : Int32} {I : Nat → Nat → Int32} {R : Nat → Nat → Nat} {o : Int32 × (Nat → Nat → Int32) × (Nat → Nat → Nat)} (hd : 66 ≤ d) (g_a0 : z_ob a0 4) (g_a2 : z_ob a2 3) (hf : fX4_readLaw_j69 a0 a2 y3 I R = some o) (hk : Q (some (.int o.1)) z_SH (o.2.1, o.2.2)) : z_W G eX4_readLaw d 0 0 69 [some (.ref a0), none, none, some (.int y3), none] [] z_SH (I, R) Q := by
  unfold fX4_readLaw_j69 at hf
  refine z_iload_n dX4_readLaw_69 rfl rfl ?_
  refine z_if_eq (tgt := 82) dX4_readLaw_70 (by decide) (fun c16 => ?_) (fun c16 => ?_)
  · have hf := z_if_t hf c16
    exact y_sub (wX4_readLaw_j82 hd g_a0 g_a2 hf hk) (z_le_c rfl (z_le_n (z_le_n (z_le_n (z_le_n z_le_0)))))
  · have hf := z_if_f hf c16
    refine z_aload_n dX4_readLaw_73 rfl rfl (z_okl g_a0) ?_
    refine y_getR lfX4_9 rfl g_a0 dX4_readLaw_74 ?_
    refine z_iconst dX4_readLaw_77 kc_m1 ?_
    obtain ⟨g22, hf⟩ := z_g_el hf
    obtain ⟨q21, hq21, hf⟩ := z_b_el hf
    refine y_cVi (av := [.int (-1 : Int32)]) (Nat.le_trans (Nat.le_of_ble_eq_true rfl) hd) (wX10_passes (z_dl rfl hd) hq21) oX10_passes lmX4_41 iX10_passes g22 rfl _ rfl rfl (Nat.le_of_ble_eq_true rfl) dX4_readLaw_78 ?_
    refine z_pop dX4_readLaw_81 rfl ?_
    exact y_sub (wX4_readLaw_j82 hd g_a0 g_a2 hf hk) (z_le_c rfl (z_le_n (z_le_n (z_le_n (z_le_n z_le_0)))))
def fX4_readLaw (a0 : Nat) (x1 : Int32) (a2 : Nat) (I : Nat → Nat → Int32) (R : Nat → Nat → Nat) : Option (Int32 × (Nat → Nat → Int32) × (Nat → Nat → Nat)) :=
  z_g (z_ob a0 4) (z_g (z_ob a2 3) (z_l (z_v R a0 1 a2) (fun R1 => z_g (z_ob (R1 a0 1) 3) (z_b (fX3_clear (R1 a0 1) I) (fun q2 => z_g (z_ob (R1 a0 0) 10) (z_b (fX10_open (R1 a0 0) x1 q2) (fun q4 => z_b (fX4_readRule a0 q4 R1) (fun q6 => z_b (z_lp (fX4_readLaw_b28 a0 a2 R1) 300 (q6.1, (0 : Int32), q6.2)) (fun q15 => fX4_readLaw_j69 a0 a2 q15.1 q15.2 R1)))))))))
theorem vX4_readLaw {G : z_G} {d : Nat} {Q : Option Value → z_S → z_H → Prop} {a0 : Nat} {x1 : Int32} {a2 : Nat} {I : Nat → Nat → Int32} {R : Nat → Nat → Nat} {q : Int32 × (Nat → Nat → Int32) × (Nat → Nat → Nat)} (hd : 66 ≤ d) (hf : fX4_readLaw a0 x1 a2 I R = some q) (hk : Q (some (.int q.1)) z_SH (q.2.1, q.2.2)) : z_W G eX4_readLaw d 0 0 0 [some (.ref a0), some (.int x1), some (.ref a2), none, none] [] z_SH (I, R) Q := by
  unfold fX4_readLaw at hf
  obtain ⟨g_a0, hf⟩ := z_g_el hf
  obtain ⟨g_a2, hf⟩ := z_g_el hf
  refine z_aload_n dX4_readLaw_0 rfl rfl (z_okl g_a0) ?_
  refine z_aload_n dX4_readLaw_1 rfl rfl (z_okl g_a2) ?_
  refine y_putR lfX4_15 rfl g_a0 rfl dX4_readLaw_2 (fun R1 eR1 => ?_)
  have hf := z_l_el hf eR1
  refine z_aload_n dX4_readLaw_5 rfl rfl (z_okl g_a0) ?_
  refine y_getR lfX4_15 rfl g_a0 dX4_readLaw_6 ?_
  obtain ⟨g3, hf⟩ := z_g_el hf
  obtain ⟨q2, hq2, hf⟩ := z_b_el hf
  refine y_cVv (av := []) (Nat.le_trans (Nat.le_of_ble_eq_true rfl) hd) (wX3_clear (z_dl rfl hd) hq2) oX3_clear lmX4_19 iX3_clear g3 rfl _ rfl rfl (Nat.le_of_ble_eq_true rfl) dX4_readLaw_9 ?_
  refine z_aload_n dX4_readLaw_12 rfl rfl (z_okl g_a0) ?_
  refine y_getR lfX4_9 rfl g_a0 dX4_readLaw_13 ?_
  refine z_iload_n dX4_readLaw_16 rfl rfl ?_
  obtain ⟨g5, hf⟩ := z_g_el hf
  obtain ⟨q4, hq4, hf⟩ := z_b_el hf
  refine y_cVv (av := [.int x1]) (Nat.le_trans (Nat.le_of_ble_eq_true rfl) hd) (wX10_open (z_dl rfl hd) hq4) oX10_open lmX4_24 iX10_open g5 rfl _ rfl rfl (Nat.le_of_ble_eq_true rfl) dX4_readLaw_17 ?_
  refine z_aload_n dX4_readLaw_20 rfl rfl (z_okl g_a0) ?_
  obtain ⟨q6, hq6, hf⟩ := z_b_el hf
  refine y_cVi (av := []) (Nat.le_trans (Nat.le_of_ble_eq_true rfl) hd) (wX4_readRule (z_dl rfl hd) hq6) oX4_readRule lmX4_30 iX4_readRule g_a0 rfl _ rfl rfl (Nat.le_of_ble_eq_true rfl) dX4_readLaw_21 ?_
  refine y_istore_n0 [some (.ref a0), some (.int x1), some (.ref a2), some (.int q6.1), none] dX4_readLaw_24 rfl (by decide) rfl ?_
  refine z_iconst dX4_readLaw_25 kc_0 ?_
  refine y_istore0 [some (.ref a0), some (.int x1), some (.ref a2), some (.int q6.1), some (.int (0 : Int32))] dX4_readLaw_26 (by decide) rfl ?_
  obtain ⟨q15, hq15, hf⟩ := z_b_el hf
  refine y_sub (lv' := [some (.ref a0), none, none, some (.int q6.1), some (.int (0 : Int32))]) ?_ (z_le_c rfl (z_le_n (z_le_n (z_le_c rfl (z_le_c rfl z_le_0)))))
  refine z_lp_el (P := (fun s : Int32 × Int32 × (Nat → Nat → Int32) => z_W G eX4_readLaw d 0 0 28 [some (.ref a0), none, none, some (.int s.1), some (.int s.2.1)] [] z_SH (s.2.2, R1) Q)) (E := (fun x : Int32 × (Nat → Nat → Int32) => z_W G eX4_readLaw d 0 0 69 [some (.ref a0), none, none, some (.int x.1), none] [] z_SH (x.2, R1) Q)) (wX4_readLaw_b28 hd g_a0 g_a2) 300 (q6.1, (0 : Int32), q6.2) q15 hq15 ?_
  show z_W G eX4_readLaw d 0 0 69 [some (.ref a0), none, none, some (.int q15.1), none] [] z_SH (q15.2, R1) _
  exact y_sub (wX4_readLaw_j69 hd g_a0 g_a2 hf hk) (z_le_c rfl (z_le_n (z_le_n (z_le_c rfl (z_le_n z_le_0)))))
theorem wX4_readLaw {G : z_G} {d : Nat} {a0 : Nat} {x1 : Int32} {a2 : Nat} {I : Nat → Nat → Int32} {R : Nat → Nat → Nat} {q : Int32 × (Nat → Nat → Int32) × (Nat → Nat → Nat)} (hd : 66 ≤ d) (hf : fX4_readLaw a0 x1 a2 I R = some q) : z_M G d 0 0 eX4_readLaw [.ref a0, .int x1, .ref a2] z_SH (I, R) (z_E (some (.int q.1)) (q.2.1, q.2.2)) :=
  y_M_of _ (by decide +kernel) rfl rfl rfl (vX4_readLaw hd hf ⟨rfl, rfl, rfl⟩)
def fX5_beatsOf_b4 (a0 : Nat) (z1 : Int32) (I : Nat → Nat → Int32) (R : Nat → Nat → Nat) : (Int32 × Int32) → Option ((Int32 × Int32) ⊕ (Int32)) :=
  fun s => (fun (p2 : Int32) (p3 : Int32) => if (I a0 3) ≤ p3 then (some (.inr p2)) else (z_g (z_ok 1 (R a0 0) p3) (if (I (R a0 0) p3.toNatClampNeg) = z1 then (z_l (p2 + (1 : Int32)) (fun t5 => z_l (p3 + (1 : Int32)) (fun t6 => some (.inl (t5, t6))))) else (z_l (p3 + (1 : Int32)) (fun t4 => some (.inl (p2, t4))))))) s.1 s.2
theorem wX5_beatsOf_b4 {G : z_G} {d : Nat} {Q : Option Value → z_S → z_H → Prop} {a0 : Nat} {z1 : Int32} {I : Nat → Nat → Int32} {R : Nat → Nat → Nat} (hd : 0 ≤ d) (g_a0 : z_ob a0 5) : ∀ (s : Int32 × Int32) (o : (Int32 × Int32) ⊕ (Int32)), fX5_beatsOf_b4 a0 z1 I R s = some o → z_or (fun s : Int32 × Int32 => z_W G eX5_beatsOf d 0 0 4 [some (.ref a0), some (.int z1), some (.int s.1), some (.int s.2)] [] z_SH (I, R) Q) (fun x : Int32 => z_W G eX5_beatsOf d 0 0 31 [none, none, some (.int x), none] [] z_SH (I, R) Q) o → (fun s : Int32 × Int32 => z_W G eX5_beatsOf d 0 0 4 [some (.ref a0), some (.int z1), some (.int s.1), some (.int s.2)] [] z_SH (I, R) Q) s := by
  rintro ⟨p2, p3⟩ o hf hk
  show z_W G eX5_beatsOf d 0 0 4 [some (.ref a0), some (.int z1), some (.int p2), some (.int p3)] [] z_SH (I, R) Q
  unfold fX5_beatsOf_b4 at hf
  try dsimp only at hf
  refine z_iload_n dX5_beatsOf_4 rfl rfl ?_
  refine z_aload_n dX5_beatsOf_5 rfl rfl (z_okl g_a0) ?_
  refine y_getI lfX5_19 rfl g_a0 dX5_beatsOf_6 ?_
  refine z_icmp_ge (tgt := 31) dX5_beatsOf_9 (by decide) (fun c1 => ?_) (fun c1 => ?_)
  · have hf := z_if_t hf c1
    cases hf
    exact y_sub hk (z_le_n (z_le_n (z_le_c rfl (z_le_n z_le_0))))
  · have hf := z_if_f hf c1
    refine z_aload_n dX5_beatsOf_12 rfl rfl (z_okl g_a0) ?_
    refine y_getR lfX5_9 rfl g_a0 dX5_beatsOf_13 ?_
    refine z_iload_n dX5_beatsOf_16 rfl rfl ?_
    obtain ⟨g2, hf⟩ := z_g_el hf
    refine y_iald g2 dX5_beatsOf_17 ?_
    refine z_iload_n dX5_beatsOf_18 rfl rfl ?_
    refine z_icmp_ne (tgt := 25) dX5_beatsOf_19 (by decide) (fun c3 => ?_) (fun c3 => ?_)
    · have hf := z_if_f hf c3
      refine y_iinc (fun t4 => [some (.ref a0), some (.int z1), some (.int p2), some (.int t4)]) dX5_beatsOf_25 rfl kc_1 (by decide) (fun _ => rfl) (fun t4 et4 => ?_)
      have hf := z_l_el hf et4
      refine z_goto (tgt := 4) dX5_beatsOf_28 (by decide) ?_
      cases hf
      exact y_sub hk (z_le_c rfl (z_le_c rfl (z_le_c rfl (z_le_c rfl z_le_0))))
    · have hf := z_if_t hf c3
      refine y_iinc (fun t5 => [some (.ref a0), some (.int z1), some (.int t5), some (.int p3)]) dX5_beatsOf_22 rfl kc_1 (by decide) (fun _ => rfl) (fun t5 et5 => ?_)
      have hf := z_l_el hf et5
      refine y_iinc (fun t6 => [some (.ref a0), some (.int z1), some (.int t5), some (.int t6)]) dX5_beatsOf_25 rfl kc_1 (by decide) (fun _ => rfl) (fun t6 et6 => ?_)
      have hf := z_l_el hf et6
      refine z_goto (tgt := 4) dX5_beatsOf_28 (by decide) ?_
      cases hf
      exact y_sub hk (z_le_c rfl (z_le_c rfl (z_le_c rfl (z_le_c rfl z_le_0))))
def fX5_beatsOf (a0 : Nat) (x1 : Int32) (I : Nat → Nat → Int32) (R : Nat → Nat → Nat) : Option (Int32) :=
  z_g (z_ob a0 5) (z_b (z_lp (fX5_beatsOf_b4 a0 x1 I R) 300 ((0 : Int32), (0 : Int32))) (fun q7 => some q7))
theorem vX5_beatsOf {G : z_G} {d : Nat} {Q : Option Value → z_S → z_H → Prop} {a0 : Nat} {x1 : Int32} {I : Nat → Nat → Int32} {R : Nat → Nat → Nat} {q : Int32} (hd : 0 ≤ d) (hf : fX5_beatsOf a0 x1 I R = some q) (hk : Q (some (.int q)) z_SH (I, R)) : z_W G eX5_beatsOf d 0 0 0 [some (.ref a0), some (.int x1), none, none] [] z_SH (I, R) Q := by
  unfold fX5_beatsOf at hf
  obtain ⟨g_a0, hf⟩ := z_g_el hf
  refine z_iconst dX5_beatsOf_0 kc_0 ?_
  refine y_istore_n0 [some (.ref a0), some (.int x1), some (.int (0 : Int32)), none] dX5_beatsOf_1 rfl (by decide) rfl ?_
  refine z_iconst dX5_beatsOf_2 kc_0 ?_
  refine y_istore_n0 [some (.ref a0), some (.int x1), some (.int (0 : Int32)), some (.int (0 : Int32))] dX5_beatsOf_3 rfl (by decide) rfl ?_
  obtain ⟨q7, hq7, hf⟩ := z_b_el hf
  refine y_sub (lv' := [some (.ref a0), some (.int x1), some (.int (0 : Int32)), some (.int (0 : Int32))]) ?_ (z_le_c rfl (z_le_c rfl (z_le_c rfl (z_le_c rfl z_le_0))))
  refine z_lp_el (P := (fun s : Int32 × Int32 => z_W G eX5_beatsOf d 0 0 4 [some (.ref a0), some (.int x1), some (.int s.1), some (.int s.2)] [] z_SH (I, R) Q)) (E := (fun x : Int32 => z_W G eX5_beatsOf d 0 0 31 [none, none, some (.int x), none] [] z_SH (I, R) Q)) (wX5_beatsOf_b4 hd g_a0) 300 ((0 : Int32), (0 : Int32)) q7 hq7 ?_
  show z_W G eX5_beatsOf d 0 0 31 [none, none, some (.int q7), none] [] z_SH (I, R) _
  refine z_iload_n dX5_beatsOf_31 rfl rfl ?_
  cases hf
  exact z_iret hk ⟨_, rfl, rfl⟩ dX5_beatsOf_32
theorem wX5_beatsOf {G : z_G} {d : Nat} {a0 : Nat} {x1 : Int32} {I : Nat → Nat → Int32} {R : Nat → Nat → Nat} {q : Int32} (hd : 0 ≤ d) (hf : fX5_beatsOf a0 x1 I R = some q) : z_M G d 0 0 eX5_beatsOf [.ref a0, .int x1] z_SH (I, R) (z_E (some (.int q)) (I, R)) :=
  y_M_of _ (by decide +kernel) rfl rfl rfl (vX5_beatsOf hd hf ⟨rfl, rfl, rfl⟩)
def fX5_clear (a0 : Nat) (I : Nat → Nat → Int32) : Option ((Nat → Nat → Int32)) :=
  z_g (z_ob a0 5) (z_l (z_u I a0 3 (0 : Int32)) (fun I1 => some I1))
theorem vX5_clear {G : z_G} {d : Nat} {Q : Option Value → z_S → z_H → Prop} {a0 : Nat} {I : Nat → Nat → Int32} {R : Nat → Nat → Nat} {q : (Nat → Nat → Int32)} (hd : 0 ≤ d) (hf : fX5_clear a0 I = some q) (hk : Q none z_SH (q, R)) : z_W G eX5_clear d 0 0 0 [some (.ref a0)] [] z_SH (I, R) Q := by
  unfold fX5_clear at hf
  obtain ⟨g_a0, hf⟩ := z_g_el hf
  refine z_aload_n dX5_clear_0 rfl rfl (z_okl g_a0) ?_
  refine z_iconst dX5_clear_1 kc_0 ?_
  refine y_putI lfX5_19 rfl g_a0 rfl rfl rfl dX5_clear_2 (fun I1 eI1 => ?_)
  have hf := z_l_el hf eI1
  cases hf
  exact z_vret hk rfl dX5_clear_5
theorem wX5_clear {G : z_G} {d : Nat} {a0 : Nat} {I : Nat → Nat → Int32} {R : Nat → Nat → Nat} {q : (Nat → Nat → Int32)} (hd : 0 ≤ d) (hf : fX5_clear a0 I = some q) : z_M G d 0 0 eX5_clear [.ref a0] z_SH (I, R) (z_E none (q, R)) :=
  y_M_of _ (by decide +kernel) rfl rfl rfl (vX5_clear hd hf ⟨rfl, rfl, rfl⟩)
def fX5_add (a0 : Nat) (x1 : Int32) (x2 : Int32) (I : Nat → Nat → Int32) (R : Nat → Nat → Nat) : Option ((Nat → Nat → Int32)) :=
  z_g (z_ob a0 5) (if (I a0 3) < (60 : Int32) then (z_g (z_ok 1 (R a0 0) (I a0 3)) (z_l (z_u I (R a0 0) (I a0 3).toNatClampNeg x1) (fun I3 => z_g (z_ok 1 (R a0 1) (I3 a0 3)) (z_l (z_u I3 (R a0 1) (I3 a0 3).toNatClampNeg x2) (fun I5 => z_g (z_ok 1 (R a0 2) (I5 a0 3)) (z_g (z_ok 1 (R a0 2) ((I5 a0 3) + (1 : Int32))) (z_l (z_u I5 (R a0 2) ((I5 a0 3) + (1 : Int32)).toNatClampNeg ((I5 (R a0 2) (I5 a0 3).toNatClampNeg) + (x2 &&& (1 : Int32)))) (fun I8 => z_l (z_u I8 a0 3 ((I8 a0 3) + (1 : Int32))) (fun I9 => some I9))))))))) else (some I))
theorem vX5_add {G : z_G} {d : Nat} {Q : Option Value → z_S → z_H → Prop} {a0 : Nat} {x1 : Int32} {x2 : Int32} {I : Nat → Nat → Int32} {R : Nat → Nat → Nat} {q : (Nat → Nat → Int32)} (hd : 0 ≤ d) (hf : fX5_add a0 x1 x2 I R = some q) (hk : Q none z_SH (q, R)) : z_W G eX5_add d 0 0 0 [some (.ref a0), some (.int x1), some (.int x2)] [] z_SH (I, R) Q := by
  unfold fX5_add at hf
  obtain ⟨g_a0, hf⟩ := z_g_el hf
  refine z_aload_n dX5_add_0 rfl rfl (z_okl g_a0) ?_
  refine y_getI lfX5_19 rfl g_a0 dX5_add_1 ?_
  refine z_bipush dX5_add_4 kb_60 ?_
  refine z_icmp_lt (tgt := 10) dX5_add_6 (by decide) (fun c1 => ?_) (fun c1 => ?_)
  · have hf := z_if_t hf c1
    refine z_aload_n dX5_add_10 rfl rfl (z_okl g_a0) ?_
    refine y_getR lfX5_9 rfl g_a0 dX5_add_11 ?_
    refine z_aload_n dX5_add_14 rfl rfl (z_okl g_a0) ?_
    refine y_getI lfX5_19 rfl g_a0 dX5_add_15 ?_
    refine z_iload_n dX5_add_18 rfl rfl ?_
    obtain ⟨g2, hf⟩ := z_g_el hf
    refine y_iast g2 dX5_add_19 (fun I3 eI3 => ?_)
    have hf := z_l_el hf eI3
    refine z_aload_n dX5_add_20 rfl rfl (z_okl g_a0) ?_
    refine y_getR lfX5_13 rfl g_a0 dX5_add_21 ?_
    refine z_aload_n dX5_add_24 rfl rfl (z_okl g_a0) ?_
    refine y_getI lfX5_19 rfl g_a0 dX5_add_25 ?_
    refine z_iload_n dX5_add_28 rfl rfl ?_
    obtain ⟨g4, hf⟩ := z_g_el hf
    refine y_iast g4 dX5_add_29 (fun I5 eI5 => ?_)
    have hf := z_l_el hf eI5
    refine z_aload_n dX5_add_30 rfl rfl (z_okl g_a0) ?_
    refine y_getR lfX5_16 rfl g_a0 dX5_add_31 ?_
    refine z_aload_n dX5_add_34 rfl rfl (z_okl g_a0) ?_
    refine y_getI lfX5_19 rfl g_a0 dX5_add_35 ?_
    refine z_iconst dX5_add_38 kc_1 ?_
    refine z_iadd dX5_add_39 ?_
    refine z_aload_n dX5_add_40 rfl rfl (z_okl g_a0) ?_
    refine y_getR lfX5_16 rfl g_a0 dX5_add_41 ?_
    refine z_aload_n dX5_add_44 rfl rfl (z_okl g_a0) ?_
    refine y_getI lfX5_19 rfl g_a0 dX5_add_45 ?_
    obtain ⟨g6, hf⟩ := z_g_el hf
    refine y_iald g6 dX5_add_48 ?_
    refine z_iload_n dX5_add_49 rfl rfl ?_
    refine z_iconst dX5_add_50 kc_1 ?_
    refine z_iand dX5_add_51 ?_
    refine z_iadd dX5_add_52 ?_
    obtain ⟨g7, hf⟩ := z_g_el hf
    refine y_iast g7 dX5_add_53 (fun I8 eI8 => ?_)
    have hf := z_l_el hf eI8
    refine z_aload_n dX5_add_54 rfl rfl (z_okl g_a0) ?_
    refine z_dup dX5_add_55 rfl ?_
    refine y_getI lfX5_19 rfl g_a0 dX5_add_56 ?_
    refine z_iconst dX5_add_59 kc_1 ?_
    refine z_iadd dX5_add_60 ?_
    refine y_putI lfX5_19 rfl g_a0 rfl rfl rfl dX5_add_61 (fun I9 eI9 => ?_)
    have hf := z_l_el hf eI9
    cases hf
    exact z_vret hk rfl dX5_add_64
  · have hf := z_if_f hf c1
    cases hf
    exact z_vret hk rfl dX5_add_9
theorem wX5_add {G : z_G} {d : Nat} {a0 : Nat} {x1 : Int32} {x2 : Int32} {I : Nat → Nat → Int32} {R : Nat → Nat → Nat} {q : (Nat → Nat → Int32)} (hd : 0 ≤ d) (hf : fX5_add a0 x1 x2 I R = some q) : z_M G d 0 0 eX5_add [.ref a0, .int x1, .int x2] z_SH (I, R) (z_E none (q, R)) :=
  y_M_of _ (by decide +kernel) rfl rfl rfl (vX5_add hd hf ⟨rfl, rfl, rfl⟩)
def fX5_addSound_j18_2 (a0 : Nat) (z1 : Int32) (z2 : Int32) (y3 : Int32) (v0 : Nat) (v1 : Int32) (v2 : Int32) (I : Nat → Nat → Int32) (R : Nat → Nat → Nat) : Option ((Int32 × (Nat → Nat → Int32)) ⊕ ((Nat → Nat → Int32))) :=
  z_g (z_ob v0 5) (z_b (fX5_add v0 v1 v2 I R) (fun q3 => z_l (y3 + (1 : Int32)) (fun t5 => some (.inl (t5, q3)))))
theorem wX5_addSound_j18_2 {G : z_G} {d : Nat} {Q : Option Value → z_S → z_H → Prop} {a0 : Nat} {z1 : Int32} {z2 : Int32} {y3 : Int32} {v0 : Nat} {v1 : Int32} {v2 : Int32} {I : Nat → Nat → Int32} {R : Nat → Nat → Nat} {o : (Int32 × (Nat → Nat → Int32)) ⊕ ((Nat → Nat → Int32))} (hd : 1 ≤ d) (g_a0 : z_ob a0 5) (hf : fX5_addSound_j18_2 a0 z1 z2 y3 v0 v1 v2 I R = some o) (hk : z_or (fun s : Int32 × (Nat → Nat → Int32) => z_W G eX5_addSound d 0 0 2 [some (.ref a0), some (.int z1), some (.int z2), some (.int s.1)] [] z_SH (s.2, R) Q) (fun x : (Nat → Nat → Int32) => z_W G eX5_addSound d 0 0 27 [none, none, none, none] [] z_SH (x, R) Q) o) : z_W G eX5_addSound d 0 0 18 [some (.ref a0), some (.int z1), some (.int z2), some (.int y3)] [.int v2, .int v1, .ref v0] z_SH (I, R) Q := by
  unfold fX5_addSound_j18_2 at hf
  obtain ⟨g4, hf⟩ := z_g_el hf
  obtain ⟨q3, hq3, hf⟩ := z_b_el hf
  refine y_cVv (av := [.int v1, .int v2]) (Nat.le_trans (Nat.le_of_ble_eq_true rfl) hd) (wX5_add (z_dl rfl hd) hq3) oX5_add lmX5_34 iX5_add g4 rfl _ rfl rfl (Nat.le_of_ble_eq_true rfl) dX5_addSound_18 ?_
  refine y_iinc (fun t5 => [some (.ref a0), some (.int z1), some (.int z2), some (.int t5)]) dX5_addSound_21 rfl kc_1 (by decide) (fun _ => rfl) (fun t5 et5 => ?_)
  have hf := z_l_el hf et5
  refine z_goto (tgt := 2) dX5_addSound_24 (by decide) ?_
  cases hf
  exact y_sub hk (z_le_c rfl (z_le_c rfl (z_le_c rfl (z_le_c rfl z_le_0))))
def fX5_addSound_b2 (a0 : Nat) (z1 : Int32) (z2 : Int32) (R : Nat → Nat → Nat) : (Int32 × (Nat → Nat → Int32)) → Option ((Int32 × (Nat → Nat → Int32)) ⊕ ((Nat → Nat → Int32))) :=
  fun s => (fun (p3 : Int32) (I : Nat → Nat → Int32) => if z2 ≤ p3 then (some (.inr I)) else (if p3 = 0 then (fX5_addSound_j18_2 a0 z1 z2 p3 a0 z1 (4 : Int32) I R) else (fX5_addSound_j18_2 a0 z1 z2 p3 a0 z1 (0 : Int32) I R))) s.1 s.2
theorem wX5_addSound_b2 {G : z_G} {d : Nat} {Q : Option Value → z_S → z_H → Prop} {a0 : Nat} {z1 : Int32} {z2 : Int32} {R : Nat → Nat → Nat} (hd : 1 ≤ d) (g_a0 : z_ob a0 5) : ∀ (s : Int32 × (Nat → Nat → Int32)) (o : (Int32 × (Nat → Nat → Int32)) ⊕ ((Nat → Nat → Int32))), fX5_addSound_b2 a0 z1 z2 R s = some o → z_or (fun s : Int32 × (Nat → Nat → Int32) => z_W G eX5_addSound d 0 0 2 [some (.ref a0), some (.int z1), some (.int z2), some (.int s.1)] [] z_SH (s.2, R) Q) (fun x : (Nat → Nat → Int32) => z_W G eX5_addSound d 0 0 27 [none, none, none, none] [] z_SH (x, R) Q) o → (fun s : Int32 × (Nat → Nat → Int32) => z_W G eX5_addSound d 0 0 2 [some (.ref a0), some (.int z1), some (.int z2), some (.int s.1)] [] z_SH (s.2, R) Q) s := by
  rintro ⟨p3, I⟩ o hf hk
  show z_W G eX5_addSound d 0 0 2 [some (.ref a0), some (.int z1), some (.int z2), some (.int p3)] [] z_SH (I, R) Q
  unfold fX5_addSound_b2 at hf
  try dsimp only at hf
  refine z_iload_n dX5_addSound_2 rfl rfl ?_
  refine z_iload_n dX5_addSound_3 rfl rfl ?_
  refine z_icmp_ge (tgt := 27) dX5_addSound_4 (by decide) (fun c1 => ?_) (fun c1 => ?_)
  · have hf := z_if_t hf c1
    cases hf
    exact y_sub hk (z_le_n (z_le_n (z_le_n (z_le_n z_le_0))))
  · have hf := z_if_f hf c1
    refine z_aload_n dX5_addSound_7 rfl rfl (z_okl g_a0) ?_
    refine z_iload_n dX5_addSound_8 rfl rfl ?_
    refine z_iload_n dX5_addSound_9 rfl rfl ?_
    refine z_if_ne (tgt := 17) dX5_addSound_10 (by decide) (fun c2 => ?_) (fun c2 => ?_)
    · have hf := z_if_f hf c2
      refine z_iconst dX5_addSound_17 kc_0 ?_
      exact y_sub (wX5_addSound_j18_2 hd g_a0 hf hk) (z_le_c rfl (z_le_c rfl (z_le_c rfl (z_le_c rfl z_le_0))))
    · have hf := z_if_t hf c2
      refine z_iconst dX5_addSound_13 kc_4 ?_
      refine z_goto (tgt := 18) dX5_addSound_14 (by decide) ?_
      exact y_sub (wX5_addSound_j18_2 hd g_a0 hf hk) (z_le_c rfl (z_le_c rfl (z_le_c rfl (z_le_c rfl z_le_0))))
def fX5_addSound (a0 : Nat) (x1 : Int32) (x2 : Int32) (I : Nat → Nat → Int32) (R : Nat → Nat → Nat) : Option ((Nat → Nat → Int32)) :=
  z_g (z_ob a0 5) (z_b (z_lp (fX5_addSound_b2 a0 x1 x2 R) 300 ((0 : Int32), I)) (fun q6 => some q6))
theorem vX5_addSound {G : z_G} {d : Nat} {Q : Option Value → z_S → z_H → Prop} {a0 : Nat} {x1 : Int32} {x2 : Int32} {I : Nat → Nat → Int32} {R : Nat → Nat → Nat} {q : (Nat → Nat → Int32)} (hd : 1 ≤ d) (hf : fX5_addSound a0 x1 x2 I R = some q) (hk : Q none z_SH (q, R)) : z_W G eX5_addSound d 0 0 0 [some (.ref a0), some (.int x1), some (.int x2), none] [] z_SH (I, R) Q := by
  unfold fX5_addSound at hf
  obtain ⟨g_a0, hf⟩ := z_g_el hf
  refine z_iconst dX5_addSound_0 kc_0 ?_
  refine y_istore_n0 [some (.ref a0), some (.int x1), some (.int x2), some (.int (0 : Int32))] dX5_addSound_1 rfl (by decide) rfl ?_
  obtain ⟨q6, hq6, hf⟩ := z_b_el hf
  refine y_sub (lv' := [some (.ref a0), some (.int x1), some (.int x2), some (.int (0 : Int32))]) ?_ (z_le_c rfl (z_le_c rfl (z_le_c rfl (z_le_c rfl z_le_0))))
  refine z_lp_el (P := (fun s : Int32 × (Nat → Nat → Int32) => z_W G eX5_addSound d 0 0 2 [some (.ref a0), some (.int x1), some (.int x2), some (.int s.1)] [] z_SH (s.2, R) Q)) (E := (fun x : (Nat → Nat → Int32) => z_W G eX5_addSound d 0 0 27 [none, none, none, none] [] z_SH (x, R) Q)) (wX5_addSound_b2 hd g_a0) 300 ((0 : Int32), I) q6 hq6 ?_
  show z_W G eX5_addSound d 0 0 27 [none, none, none, none] [] z_SH (q6, R) _
  cases hf
  exact z_vret hk rfl dX5_addSound_27
theorem wX5_addSound {G : z_G} {d : Nat} {a0 : Nat} {x1 : Int32} {x2 : Int32} {I : Nat → Nat → Int32} {R : Nat → Nat → Nat} {q : (Nat → Nat → Int32)} (hd : 1 ≤ d) (hf : fX5_addSound a0 x1 x2 I R = some q) : z_M G d 0 0 eX5_addSound [.ref a0, .int x1, .int x2] z_SH (I, R) (z_E none (q, R)) :=
  y_M_of _ (by decide +kernel) rfl rfl rfl (vX5_addSound hd hf ⟨rfl, rfl, rfl⟩)
def fX5_markLast (a0 : Nat) (x1 : Int32) (I : Nat → Nat → Int32) (R : Nat → Nat → Nat) : Option ((Nat → Nat → Int32)) :=
  z_g (z_ob a0 5) (if (I a0 3) ≤ 0 then (some I) else (z_g (z_ok 1 (R a0 1) ((I a0 3) - (1 : Int32))) (z_l (z_u I (R a0 1) ((I a0 3) - (1 : Int32)).toNatClampNeg ((I (R a0 1) ((I a0 3) - (1 : Int32)).toNatClampNeg) ||| x1)) (fun I3 => z_g (z_ok 1 (R a0 2) ((I3 a0 3) - (1 : Int32))) (z_g (z_ok 1 (R a0 1) ((I3 a0 3) - (1 : Int32))) (z_g (z_ok 1 (R a0 2) (I3 a0 3)) (z_l (z_u I3 (R a0 2) (I3 a0 3).toNatClampNeg ((I3 (R a0 2) ((I3 a0 3) - (1 : Int32)).toNatClampNeg) + ((I3 (R a0 1) ((I3 a0 3) - (1 : Int32)).toNatClampNeg) &&& (1 : Int32)))) (fun I7 => some I7))))))))
theorem vX5_markLast {G : z_G} {d : Nat} {Q : Option Value → z_S → z_H → Prop} {a0 : Nat} {x1 : Int32} {I : Nat → Nat → Int32} {R : Nat → Nat → Nat} {q : (Nat → Nat → Int32)} (hd : 0 ≤ d) (hf : fX5_markLast a0 x1 I R = some q) (hk : Q none z_SH (q, R)) : z_W G eX5_markLast d 0 0 0 [some (.ref a0), some (.int x1)] [] z_SH (I, R) Q := by
  unfold fX5_markLast at hf
  obtain ⟨g_a0, hf⟩ := z_g_el hf
  refine z_aload_n dX5_markLast_0 rfl rfl (z_okl g_a0) ?_
  refine y_getI lfX5_19 rfl g_a0 dX5_markLast_1 ?_
  refine z_if_le (tgt := 56) dX5_markLast_4 (by decide) (fun c1 => ?_) (fun c1 => ?_)
  · have hf := z_if_t hf c1
    cases hf
    exact z_vret hk rfl dX5_markLast_56
  · have hf := z_if_f hf c1
    refine z_aload_n dX5_markLast_7 rfl rfl (z_okl g_a0) ?_
    refine y_getR lfX5_13 rfl g_a0 dX5_markLast_8 ?_
    refine z_aload_n dX5_markLast_11 rfl rfl (z_okl g_a0) ?_
    refine y_getI lfX5_19 rfl g_a0 dX5_markLast_12 ?_
    refine z_iconst dX5_markLast_15 kc_1 ?_
    refine z_isub dX5_markLast_16 ?_
    refine z_dup2 dX5_markLast_17 rfl rfl ?_
    obtain ⟨g2, hf⟩ := z_g_el hf
    refine y_iald g2 dX5_markLast_18 ?_
    refine z_iload_n dX5_markLast_19 rfl rfl ?_
    refine z_ior dX5_markLast_20 ?_
    refine y_iast g2 dX5_markLast_21 (fun I3 eI3 => ?_)
    have hf := z_l_el hf eI3
    refine z_aload_n dX5_markLast_22 rfl rfl (z_okl g_a0) ?_
    refine y_getR lfX5_16 rfl g_a0 dX5_markLast_23 ?_
    refine z_aload_n dX5_markLast_26 rfl rfl (z_okl g_a0) ?_
    refine y_getI lfX5_19 rfl g_a0 dX5_markLast_27 ?_
    refine z_aload_n dX5_markLast_30 rfl rfl (z_okl g_a0) ?_
    refine y_getR lfX5_16 rfl g_a0 dX5_markLast_31 ?_
    refine z_aload_n dX5_markLast_34 rfl rfl (z_okl g_a0) ?_
    refine y_getI lfX5_19 rfl g_a0 dX5_markLast_35 ?_
    refine z_iconst dX5_markLast_38 kc_1 ?_
    refine z_isub dX5_markLast_39 ?_
    obtain ⟨g4, hf⟩ := z_g_el hf
    refine y_iald g4 dX5_markLast_40 ?_
    refine z_aload_n dX5_markLast_41 rfl rfl (z_okl g_a0) ?_
    refine y_getR lfX5_13 rfl g_a0 dX5_markLast_42 ?_
    refine z_aload_n dX5_markLast_45 rfl rfl (z_okl g_a0) ?_
    refine y_getI lfX5_19 rfl g_a0 dX5_markLast_46 ?_
    refine z_iconst dX5_markLast_49 kc_1 ?_
    refine z_isub dX5_markLast_50 ?_
    obtain ⟨g5, hf⟩ := z_g_el hf
    refine y_iald g5 dX5_markLast_51 ?_
    refine z_iconst dX5_markLast_52 kc_1 ?_
    refine z_iand dX5_markLast_53 ?_
    refine z_iadd dX5_markLast_54 ?_
    obtain ⟨g6, hf⟩ := z_g_el hf
    refine y_iast g6 dX5_markLast_55 (fun I7 eI7 => ?_)
    have hf := z_l_el hf eI7
    cases hf
    exact z_vret hk rfl dX5_markLast_56
theorem wX5_markLast {G : z_G} {d : Nat} {a0 : Nat} {x1 : Int32} {I : Nat → Nat → Int32} {R : Nat → Nat → Nat} {q : (Nat → Nat → Int32)} (hd : 0 ≤ d) (hf : fX5_markLast a0 x1 I R = some q) : z_M G d 0 0 eX5_markLast [.ref a0, .int x1] z_SH (I, R) (z_E none (q, R)) :=
  y_M_of _ (by decide +kernel) rfl rfl rfl (vX5_markLast hd hf ⟨rfl, rfl, rfl⟩)
def fX5_repeat_b10 (a0 : Nat) (z1 : Int32) (z2 : Int32) (z3 : Int32) (R : Nat → Nat → Nat) : (Int32 × (Nat → Nat → Int32)) → Option ((Int32 × (Nat → Nat → Int32)) ⊕ ((Nat → Nat → Int32))) :=
  fun s => (fun (p4 : Int32) (I : Nat → Nat → Int32) => if (z3 * (z2 - (1 : Int32))) ≤ p4 then (some (.inr I)) else (z_b (fX5_has a0 (z1 + p4) I) (fun q3 => if q3 = 0 then (z_l (p4 + (1 : Int32)) (fun t5 => some (.inl (t5, I)))) else (z_g (z_ok 1 (R a0 0) (z1 + p4)) (z_g (z_ok 1 (R a0 1) (z1 + p4)) (z_b (fX5_add a0 (I (R a0 0) (z1 + p4).toNatClampNeg) (I (R a0 1) (z1 + p4).toNatClampNeg) I R) (fun q8 => z_l (p4 + (1 : Int32)) (fun t9 => some (.inl (t9, q8)))))))))) s.1 s.2
theorem wX5_repeat_b10 {G : z_G} {d : Nat} {Q : Option Value → z_S → z_H → Prop} {a0 : Nat} {z1 : Int32} {z2 : Int32} {z3 : Int32} {R : Nat → Nat → Nat} (hd : 1 ≤ d) (g_a0 : z_ob a0 5) : ∀ (s : Int32 × (Nat → Nat → Int32)) (o : (Int32 × (Nat → Nat → Int32)) ⊕ ((Nat → Nat → Int32))), fX5_repeat_b10 a0 z1 z2 z3 R s = some o → z_or (fun s : Int32 × (Nat → Nat → Int32) => z_W G eX5_repeat d 0 0 10 [some (.ref a0), some (.int z1), some (.int z2), some (.int z3), some (.int s.1)] [] z_SH (s.2, R) Q) (fun x : (Nat → Nat → Int32) => z_W G eX5_repeat d 0 0 59 [none, none, none, none, none] [] z_SH (x, R) Q) o → (fun s : Int32 × (Nat → Nat → Int32) => z_W G eX5_repeat d 0 0 10 [some (.ref a0), some (.int z1), some (.int z2), some (.int z3), some (.int s.1)] [] z_SH (s.2, R) Q) s := by
  rintro ⟨p4, I⟩ o hf hk
  show z_W G eX5_repeat d 0 0 10 [some (.ref a0), some (.int z1), some (.int z2), some (.int z3), some (.int p4)] [] z_SH (I, R) Q
  unfold fX5_repeat_b10 at hf
  try dsimp only at hf
  refine z_iload dX5_repeat_10 rfl ?_
  refine z_iload_n dX5_repeat_12 rfl rfl ?_
  refine z_iload_n dX5_repeat_13 rfl rfl ?_
  refine z_iconst dX5_repeat_14 kc_1 ?_
  refine z_isub dX5_repeat_15 ?_
  refine z_imul dX5_repeat_16 ?_
  refine z_icmp_ge (tgt := 59) dX5_repeat_17 (by decide) (fun c2 => ?_) (fun c2 => ?_)
  · have hf := z_if_t hf c2
    cases hf
    exact y_sub hk (z_le_n (z_le_n (z_le_n (z_le_n (z_le_n z_le_0)))))
  · have hf := z_if_f hf c2
    refine z_aload_n dX5_repeat_20 rfl rfl (z_okl g_a0) ?_
    refine z_iload_n dX5_repeat_21 rfl rfl ?_
    refine z_iload dX5_repeat_22 rfl ?_
    refine z_iadd dX5_repeat_24 ?_
    obtain ⟨q3, hq3, hf⟩ := z_b_el hf
    refine y_cVi (av := [.int (z1 + p4)]) (Nat.le_trans (Nat.le_of_ble_eq_true rfl) hd) (wX5_has (z_dl rfl hd) hq3) oX5_has lmX5_23 iX5_has g_a0 rfl _ rfl rfl (Nat.le_of_ble_eq_true rfl) dX5_repeat_25 ?_
    refine z_if_eq (tgt := 53) dX5_repeat_28 (by decide) (fun c4 => ?_) (fun c4 => ?_)
    · have hf := z_if_t hf c4
      refine y_iinc (fun t5 => [some (.ref a0), some (.int z1), some (.int z2), some (.int z3), some (.int t5)]) dX5_repeat_53 rfl kc_1 (by decide) (fun _ => rfl) (fun t5 et5 => ?_)
      have hf := z_l_el hf et5
      refine z_goto (tgt := 10) dX5_repeat_56 (by decide) ?_
      cases hf
      exact y_sub hk (z_le_c rfl (z_le_c rfl (z_le_c rfl (z_le_c rfl (z_le_c rfl z_le_0)))))
    · have hf := z_if_f hf c4
      refine z_aload_n dX5_repeat_31 rfl rfl (z_okl g_a0) ?_
      refine z_aload_n dX5_repeat_32 rfl rfl (z_okl g_a0) ?_
      refine y_getR lfX5_9 rfl g_a0 dX5_repeat_33 ?_
      refine z_iload_n dX5_repeat_36 rfl rfl ?_
      refine z_iload dX5_repeat_37 rfl ?_
      refine z_iadd dX5_repeat_39 ?_
      obtain ⟨g6, hf⟩ := z_g_el hf
      refine y_iald g6 dX5_repeat_40 ?_
      refine z_aload_n dX5_repeat_41 rfl rfl (z_okl g_a0) ?_
      refine y_getR lfX5_13 rfl g_a0 dX5_repeat_42 ?_
      refine z_iload_n dX5_repeat_45 rfl rfl ?_
      refine z_iload dX5_repeat_46 rfl ?_
      refine z_iadd dX5_repeat_48 ?_
      obtain ⟨g7, hf⟩ := z_g_el hf
      refine y_iald g7 dX5_repeat_49 ?_
      obtain ⟨q8, hq8, hf⟩ := z_b_el hf
      refine y_cVv (av := [.int (I (R a0 0) (z1 + p4).toNatClampNeg), .int (I (R a0 1) (z1 + p4).toNatClampNeg)]) (Nat.le_trans (Nat.le_of_ble_eq_true rfl) hd) (wX5_add (z_dl rfl hd) hq8) oX5_add lmX5_34 iX5_add g_a0 rfl _ rfl rfl (Nat.le_of_ble_eq_true rfl) dX5_repeat_50 ?_
      refine y_iinc (fun t9 => [some (.ref a0), some (.int z1), some (.int z2), some (.int z3), some (.int t9)]) dX5_repeat_53 rfl kc_1 (by decide) (fun _ => rfl) (fun t9 et9 => ?_)
      have hf := z_l_el hf et9
      refine z_goto (tgt := 10) dX5_repeat_56 (by decide) ?_
      cases hf
      exact y_sub hk (z_le_c rfl (z_le_c rfl (z_le_c rfl (z_le_c rfl (z_le_c rfl z_le_0)))))
def fX5_repeat (a0 : Nat) (x1 : Int32) (x2 : Int32) (I : Nat → Nat → Int32) (R : Nat → Nat → Nat) : Option ((Nat → Nat → Int32)) :=
  z_g (z_ob a0 5) (z_l ((I a0 3) - x1) (fun t1 => z_b (z_lp (fX5_repeat_b10 a0 x1 x2 t1 R) 300 ((0 : Int32), I)) (fun q10 => some q10)))
theorem vX5_repeat {G : z_G} {d : Nat} {Q : Option Value → z_S → z_H → Prop} {a0 : Nat} {x1 : Int32} {x2 : Int32} {I : Nat → Nat → Int32} {R : Nat → Nat → Nat} {q : (Nat → Nat → Int32)} (hd : 1 ≤ d) (hf : fX5_repeat a0 x1 x2 I R = some q) (hk : Q none z_SH (q, R)) : z_W G eX5_repeat d 0 0 0 [some (.ref a0), some (.int x1), some (.int x2), none, none] [] z_SH (I, R) Q := by
  unfold fX5_repeat at hf
  obtain ⟨g_a0, hf⟩ := z_g_el hf
  refine z_aload_n dX5_repeat_0 rfl rfl (z_okl g_a0) ?_
  refine y_getI lfX5_19 rfl g_a0 dX5_repeat_1 ?_
  refine z_iload_n dX5_repeat_4 rfl rfl ?_
  refine z_isub dX5_repeat_5 ?_
  refine y_istore_n (fun t1 => [some (.ref a0), some (.int x1), some (.int x2), some (.int t1), none]) dX5_repeat_6 rfl (by decide) (fun _ => rfl) (fun t1 et1 => ?_)
  have hf := z_l_el hf et1
  refine z_iconst dX5_repeat_7 kc_0 ?_
  refine y_istore0 [some (.ref a0), some (.int x1), some (.int x2), some (.int t1), some (.int (0 : Int32))] dX5_repeat_8 (by decide) rfl ?_
  obtain ⟨q10, hq10, hf⟩ := z_b_el hf
  refine y_sub (lv' := [some (.ref a0), some (.int x1), some (.int x2), some (.int t1), some (.int (0 : Int32))]) ?_ (z_le_c rfl (z_le_c rfl (z_le_c rfl (z_le_c rfl (z_le_c rfl z_le_0)))))
  refine z_lp_el (P := (fun s : Int32 × (Nat → Nat → Int32) => z_W G eX5_repeat d 0 0 10 [some (.ref a0), some (.int x1), some (.int x2), some (.int t1), some (.int s.1)] [] z_SH (s.2, R) Q)) (E := (fun x : (Nat → Nat → Int32) => z_W G eX5_repeat d 0 0 59 [none, none, none, none, none] [] z_SH (x, R) Q)) (wX5_repeat_b10 hd g_a0) 300 ((0 : Int32), I) q10 hq10 ?_
  show z_W G eX5_repeat d 0 0 59 [none, none, none, none, none] [] z_SH (q10, R) _
  cases hf
  exact z_vret hk rfl dX5_repeat_59
theorem wX5_repeat {G : z_G} {d : Nat} {a0 : Nat} {x1 : Int32} {x2 : Int32} {I : Nat → Nat → Int32} {R : Nat → Nat → Nat} {q : (Nat → Nat → Int32)} (hd : 1 ≤ d) (hf : fX5_repeat a0 x1 x2 I R = some q) : z_M G d 0 0 eX5_repeat [.ref a0, .int x1, .int x2] z_SH (I, R) (z_E none (q, R)) :=
  y_M_of _ (by decide +kernel) rfl rfl rfl (vX5_repeat hd hf ⟨rfl, rfl, rfl⟩)
def fX6_noteOf (x0 : Int32) : Option (Int32) :=
  if x0 = (46 : Int32) then (some (0 : Int32)) else (if x0 < (97 : Int32) then (some (-1 : Int32)) else (if (103 : Int32) < x0 then (some (-1 : Int32)) else (some ((x0 - (97 : Int32)) + (1 : Int32)))))
theorem vX6_noteOf {G : z_G} {d : Nat} {Q : Option Value → z_S → z_H → Prop} {x0 : Int32} {I : Nat → Nat → Int32} {R : Nat → Nat → Nat} {q : Int32} (hd : 0 ≤ d) (hf : fX6_noteOf x0 = some q) (hk : Q (some (.int q)) z_SH (I, R)) : z_W G eX6_noteOf d 0 0 0 [some (.int x0)] [] z_SH (I, R) Q := by
  unfold fX6_noteOf at hf
  refine z_iload_n dX6_noteOf_0 rfl rfl ?_
  refine z_bipush dX6_noteOf_1 kb_46 ?_
  refine z_icmp_ne (tgt := 8) dX6_noteOf_3 (by decide) (fun c1 => ?_) (fun c1 => ?_)
  · have hf := z_if_f hf c1
    refine z_iload_n dX6_noteOf_8 rfl rfl ?_
    refine z_bipush dX6_noteOf_9 kb_97 ?_
    refine z_icmp_lt (tgt := 29) dX6_noteOf_11 (by decide) (fun c2 => ?_) (fun c2 => ?_)
    · have hf := z_if_t hf c2
      refine z_iconst dX6_noteOf_29 kc_m1 ?_
      cases hf
      exact z_iret hk ⟨_, rfl, rfl⟩ dX6_noteOf_30
    · have hf := z_if_f hf c2
      refine z_iload_n dX6_noteOf_14 rfl rfl ?_
      refine z_bipush dX6_noteOf_15 kb_103 ?_
      refine z_icmp_gt (tgt := 29) dX6_noteOf_17 (by decide) (fun c3 => ?_) (fun c3 => ?_)
      · have hf := z_if_t hf c3
        refine z_iconst dX6_noteOf_29 kc_m1 ?_
        cases hf
        exact z_iret hk ⟨_, rfl, rfl⟩ dX6_noteOf_30
      · have hf := z_if_f hf c3
        refine z_iload_n dX6_noteOf_20 rfl rfl ?_
        refine z_bipush dX6_noteOf_21 kb_97 ?_
        refine z_isub dX6_noteOf_23 ?_
        refine z_iconst dX6_noteOf_24 kc_1 ?_
        refine z_iadd dX6_noteOf_25 ?_
        refine z_goto (tgt := 30) dX6_noteOf_26 (by decide) ?_
        cases hf
        exact z_iret hk ⟨_, rfl, rfl⟩ dX6_noteOf_30
  · have hf := z_if_t hf c1
    refine z_iconst dX6_noteOf_6 kc_0 ?_
    cases hf
    exact z_iret hk ⟨_, rfl, rfl⟩ dX6_noteOf_7
theorem wX6_noteOf {G : z_G} {d : Nat} {x0 : Int32} {I : Nat → Nat → Int32} {R : Nat → Nat → Nat} {q : Int32} (hd : 0 ≤ d) (hf : fX6_noteOf x0 = some q) : z_M G d 0 0 eX6_noteOf [.int x0] z_SH (I, R) (z_E (some (.int q)) (I, R)) :=
  y_M_of _ (by decide +kernel) rfl rfl rfl (vX6_noteOf hd hf ⟨rfl, rfl, rfl⟩)
def fX6_startsItem (x0 : Int32) : Option (Int32) :=
  if x0 = (40 : Int32) then (some (1 : Int32)) else (z_b (fX6_noteOf x0) (fun q2 => if q2 = (-1 : Int32) then (some (0 : Int32)) else (some (1 : Int32))))
theorem vX6_startsItem {G : z_G} {d : Nat} {Q : Option Value → z_S → z_H → Prop} {x0 : Int32} {I : Nat → Nat → Int32} {R : Nat → Nat → Nat} {q : Int32} (hd : 1 ≤ d) (hf : fX6_startsItem x0 = some q) (hk : Q (some (.int q)) z_SH (I, R)) : z_W G eX6_startsItem d 0 0 0 [some (.int x0)] [] z_SH (I, R) Q := by
  unfold fX6_startsItem at hf
  refine z_iload_n dX6_startsItem_0 rfl rfl ?_
  refine z_bipush dX6_startsItem_1 kb_40 ?_
  refine z_icmp_eq (tgt := 14) dX6_startsItem_3 (by decide) (fun c1 => ?_) (fun c1 => ?_)
  · have hf := z_if_t hf c1
    refine z_iconst dX6_startsItem_14 kc_1 ?_
    refine z_goto (tgt := 19) dX6_startsItem_15 (by decide) ?_
    cases hf
    exact z_iret hk ⟨_, rfl, rfl⟩ dX6_startsItem_19
  · have hf := z_if_f hf c1
    refine z_iload_n dX6_startsItem_6 rfl rfl ?_
    obtain ⟨q2, hq2, hf⟩ := z_b_el hf
    refine y_cSi (Nat.le_trans (Nat.le_of_ble_eq_true rfl) hd) (wX6_noteOf (z_dl rfl hd) hq2) oX6_noteOf lmX6_64 sX6_noteOf _ rfl rfl (Nat.le_of_ble_eq_true rfl) dX6_startsItem_7 ?_
    refine z_iconst dX6_startsItem_10 kc_m1 ?_
    refine z_icmp_eq (tgt := 18) dX6_startsItem_11 (by decide) (fun c3 => ?_) (fun c3 => ?_)
    · have hf := z_if_t hf c3
      refine z_iconst dX6_startsItem_18 kc_0 ?_
      cases hf
      exact z_iret hk ⟨_, rfl, rfl⟩ dX6_startsItem_19
    · have hf := z_if_f hf c3
      refine z_iconst dX6_startsItem_14 kc_1 ?_
      refine z_goto (tgt := 19) dX6_startsItem_15 (by decide) ?_
      cases hf
      exact z_iret hk ⟨_, rfl, rfl⟩ dX6_startsItem_19
theorem wX6_startsItem {G : z_G} {d : Nat} {x0 : Int32} {I : Nat → Nat → Int32} {R : Nat → Nat → Nat} {q : Int32} (hd : 1 ≤ d) (hf : fX6_startsItem x0 = some q) : z_M G d 0 0 eX6_startsItem [.int x0] z_SH (I, R) (z_E (some (.int q)) (I, R)) :=
  y_M_of _ (by decide +kernel) rfl rfl rfl (vX6_startsItem hd hf ⟨rfl, rfl, rfl⟩)
def fX6_isTimes (x0 : Int32) : Option (Int32) :=
  if x0 < (50 : Int32) then (some (0 : Int32)) else (if (57 : Int32) < x0 then (some (0 : Int32)) else (some (1 : Int32)))
theorem vX6_isTimes {G : z_G} {d : Nat} {Q : Option Value → z_S → z_H → Prop} {x0 : Int32} {I : Nat → Nat → Int32} {R : Nat → Nat → Nat} {q : Int32} (hd : 0 ≤ d) (hf : fX6_isTimes x0 = some q) (hk : Q (some (.int q)) z_SH (I, R)) : z_W G eX6_isTimes d 0 0 0 [some (.int x0)] [] z_SH (I, R) Q := by
  unfold fX6_isTimes at hf
  refine z_iload_n dX6_isTimes_0 rfl rfl ?_
  refine z_bipush dX6_isTimes_1 kb_50 ?_
  refine z_icmp_lt (tgt := 16) dX6_isTimes_3 (by decide) (fun c1 => ?_) (fun c1 => ?_)
  · have hf := z_if_t hf c1
    refine z_iconst dX6_isTimes_16 kc_0 ?_
    cases hf
    exact z_iret hk ⟨_, rfl, rfl⟩ dX6_isTimes_17
  · have hf := z_if_f hf c1
    refine z_iload_n dX6_isTimes_6 rfl rfl ?_
    refine z_bipush dX6_isTimes_7 kb_57 ?_
    refine z_icmp_gt (tgt := 16) dX6_isTimes_9 (by decide) (fun c2 => ?_) (fun c2 => ?_)
    · have hf := z_if_t hf c2
      refine z_iconst dX6_isTimes_16 kc_0 ?_
      cases hf
      exact z_iret hk ⟨_, rfl, rfl⟩ dX6_isTimes_17
    · have hf := z_if_f hf c2
      refine z_iconst dX6_isTimes_12 kc_1 ?_
      refine z_goto (tgt := 17) dX6_isTimes_13 (by decide) ?_
      cases hf
      exact z_iret hk ⟨_, rfl, rfl⟩ dX6_isTimes_17
theorem wX6_isTimes {G : z_G} {d : Nat} {x0 : Int32} {I : Nat → Nat → Int32} {R : Nat → Nat → Nat} {q : Int32} (hd : 0 ≤ d) (hf : fX6_isTimes x0 = some q) : z_M G d 0 0 eX6_isTimes [.int x0] z_SH (I, R) (z_E (some (.int q)) (I, R)) :=
  y_M_of _ (by decide +kernel) rfl rfl rfl (vX6_isTimes hd hf ⟨rfl, rfl, rfl⟩)
def fX6_readSound_j109 (a0 : Nat) (I : Nat → Nat → Int32) (R : Nat → Nat → Nat) : Option (Int32 × (Nat → Nat → Int32)) :=
  z_g (z_ob (R a0 0) 10) (z_b (fX10_sign (R a0 0) I R) (fun q14 => if q14 = (44 : Int32) then (z_b (fX10_pass (R a0 0) I) (fun q17 => z_g (z_ob (R a0 1) 5) (z_b (fX5_markLast (R a0 1) (2 : Int32) q17 R) (fun q18 => some ((1 : Int32), q18))))) else (some ((1 : Int32), I))))
theorem wX6_readSound_j109 {G : z_G} {d : Nat} {Q : Option Value → z_S → z_H → Prop} {a0 : Nat} {I : Nat → Nat → Int32} {R : Nat → Nat → Nat} {o : Int32 × (Nat → Nat → Int32)} (hd : 2 ≤ d) (g_a0 : z_ob a0 6) (hf : fX6_readSound_j109 a0 I R = some o) (hk : Q (some (.int o.1)) z_SH (o.2, R)) : z_W G eX6_readSound d 0 0 109 [some (.ref a0), none, none, none] [] z_SH (I, R) Q := by
  unfold fX6_readSound_j109 at hf
  refine z_aload_n dX6_readSound_109 rfl rfl (z_okl g_a0) ?_
  refine y_getR lfX6_9 rfl g_a0 dX6_readSound_110 ?_
  obtain ⟨g15, hf⟩ := z_g_el hf
  obtain ⟨q14, hq14, hf⟩ := z_b_el hf
  refine y_cVi (av := []) (Nat.le_trans (Nat.le_of_ble_eq_true rfl) hd) (wX10_sign (z_dl rfl hd) hq14) oX10_sign lmX6_48 iX10_sign g15 rfl _ rfl rfl (Nat.le_of_ble_eq_true rfl) dX6_readSound_113 ?_
  refine z_bipush dX6_readSound_116 kb_44 ?_
  refine z_icmp_ne (tgt := 136) dX6_readSound_118 (by decide) (fun c16 => ?_) (fun c16 => ?_)
  · have hf := z_if_f hf c16
    refine z_iconst dX6_readSound_136 kc_1 ?_
    cases hf
    exact z_iret hk ⟨_, rfl, rfl⟩ dX6_readSound_137
  · have hf := z_if_t hf c16
    refine z_aload_n dX6_readSound_121 rfl rfl (z_okl g_a0) ?_
    refine y_getR lfX6_9 rfl g_a0 dX6_readSound_122 ?_
    obtain ⟨q17, hq17, hf⟩ := z_b_el hf
    refine y_cVv (av := []) (Nat.le_trans (Nat.le_of_ble_eq_true rfl) hd) (wX10_pass (z_dl rfl hd) hq17) oX10_pass lmX6_70 iX10_pass g15 rfl _ rfl rfl (Nat.le_of_ble_eq_true rfl) dX6_readSound_125 ?_
    refine z_aload_n dX6_readSound_128 rfl rfl (z_okl g_a0) ?_
    refine y_getR lfX6_15 rfl g_a0 dX6_readSound_129 ?_
    refine z_iconst dX6_readSound_132 kc_2 ?_
    obtain ⟨g19, hf⟩ := z_g_el hf
    obtain ⟨q18, hq18, hf⟩ := z_b_el hf
    refine y_cVv (av := [.int (2 : Int32)]) (Nat.le_trans (Nat.le_of_ble_eq_true rfl) hd) (wX5_markLast (z_dl rfl hd) hq18) oX5_markLast lmX6_80 iX5_markLast g19 rfl _ rfl rfl (Nat.le_of_ble_eq_true rfl) dX6_readSound_133 ?_
    refine z_iconst dX6_readSound_136 kc_1 ?_
    cases hf
    exact z_iret hk ⟨_, rfl, rfl⟩ dX6_readSound_137
def fX6_readSound_j48 (a0 : Nat) (y1 : Int32) (y2 : Int32) (y3 : Int32) (I : Nat → Nat → Int32) (R : Nat → Nat → Nat) : Option (Int32 × (Nat → Nat → Int32)) :=
  z_g (z_ob (R a0 1) 5) (z_b (fX5_length (R a0 1) I) (fun q7 => if (q7 + y3) ≤ (60 : Int32) then (z_b (fX5_addSound (R a0 1) y1 y3 I R) (fun q10 => z_g (z_ob (R a0 0) 10) (z_b (fX10_sign (R a0 0) q10 R) (fun q11 => if q11 = (94 : Int32) then (z_b (fX10_pass (R a0 0) q10) (fun q20 => z_b (fX5_markLast (R a0 1) (1 : Int32) q20 R) (fun q21 => fX6_readSound_j109 a0 q21 R))) else (fX6_readSound_j109 a0 q10 R))))) else (z_g (z_ob (R a0 0) 10) (z_b (fX10_fails (R a0 0) (6 : Int32) y2 I) (fun q22 => z_g (q22.1 = 0 ∨ q22.1 = 1) (some (q22.1, q22.2)))))))
theorem wX6_readSound_j48 {G : z_G} {d : Nat} {Q : Option Value → z_S → z_H → Prop} {a0 : Nat} {y1 : Int32} {y2 : Int32} {y3 : Int32} {I : Nat → Nat → Int32} {R : Nat → Nat → Nat} {o : Int32 × (Nat → Nat → Int32)} (hd : 2 ≤ d) (g_a0 : z_ob a0 6) (hf : fX6_readSound_j48 a0 y1 y2 y3 I R = some o) (hk : Q (some (.int o.1)) z_SH (o.2, R)) : z_W G eX6_readSound d 0 0 48 [some (.ref a0), some (.int y1), some (.int y2), some (.int y3)] [] z_SH (I, R) Q := by
  unfold fX6_readSound_j48 at hf
  refine z_aload_n dX6_readSound_48 rfl rfl (z_okl g_a0) ?_
  refine y_getR lfX6_15 rfl g_a0 dX6_readSound_49 ?_
  obtain ⟨g8, hf⟩ := z_g_el hf
  obtain ⟨q7, hq7, hf⟩ := z_b_el hf
  refine y_cVi (av := []) (Nat.le_trans (Nat.le_of_ble_eq_true rfl) hd) (wX5_length (z_dl rfl hd) hq7) oX5_length lmX6_37 iX5_length g8 rfl _ rfl rfl (Nat.le_of_ble_eq_true rfl) dX6_readSound_52 ?_
  refine z_iload_n dX6_readSound_55 rfl rfl ?_
  refine z_iadd dX6_readSound_56 ?_
  refine z_bipush dX6_readSound_57 kb_60 ?_
  refine z_icmp_le (tgt := 73) dX6_readSound_59 (by decide) (fun c9 => ?_) (fun c9 => ?_)
  · have hf := z_if_t hf c9
    refine z_aload_n dX6_readSound_73 rfl rfl (z_okl g_a0) ?_
    refine y_getR lfX6_15 rfl g_a0 dX6_readSound_74 ?_
    refine z_iload_n dX6_readSound_77 rfl rfl ?_
    refine z_iload_n dX6_readSound_78 rfl rfl ?_
    obtain ⟨q10, hq10, hf⟩ := z_b_el hf
    refine y_cVv (av := [.int y1, .int y3]) (Nat.le_trans (Nat.le_of_ble_eq_true rfl) hd) (wX5_addSound (z_dl rfl hd) hq10) oX5_addSound lmX6_76 iX5_addSound g8 rfl _ rfl rfl (Nat.le_of_ble_eq_true rfl) dX6_readSound_79 ?_
    refine z_aload_n dX6_readSound_82 rfl rfl (z_okl g_a0) ?_
    refine y_getR lfX6_9 rfl g_a0 dX6_readSound_83 ?_
    obtain ⟨g12, hf⟩ := z_g_el hf
    obtain ⟨q11, hq11, hf⟩ := z_b_el hf
    refine y_cVi (av := []) (Nat.le_trans (Nat.le_of_ble_eq_true rfl) hd) (wX10_sign (z_dl rfl hd) hq11) oX10_sign lmX6_48 iX10_sign g12 rfl _ rfl rfl (Nat.le_of_ble_eq_true rfl) dX6_readSound_86 ?_
    refine z_bipush dX6_readSound_89 kb_94 ?_
    refine z_icmp_ne (tgt := 109) dX6_readSound_91 (by decide) (fun c13 => ?_) (fun c13 => ?_)
    · have hf := z_if_f hf c13
      exact y_sub (wX6_readSound_j109 hd g_a0 hf hk) (z_le_c rfl (z_le_n (z_le_n (z_le_n z_le_0))))
    · have hf := z_if_t hf c13
      refine z_aload_n dX6_readSound_94 rfl rfl (z_okl g_a0) ?_
      refine y_getR lfX6_9 rfl g_a0 dX6_readSound_95 ?_
      obtain ⟨q20, hq20, hf⟩ := z_b_el hf
      refine y_cVv (av := []) (Nat.le_trans (Nat.le_of_ble_eq_true rfl) hd) (wX10_pass (z_dl rfl hd) hq20) oX10_pass lmX6_70 iX10_pass g12 rfl _ rfl rfl (Nat.le_of_ble_eq_true rfl) dX6_readSound_98 ?_
      refine z_aload_n dX6_readSound_101 rfl rfl (z_okl g_a0) ?_
      refine y_getR lfX6_15 rfl g_a0 dX6_readSound_102 ?_
      refine z_iconst dX6_readSound_105 kc_1 ?_
      obtain ⟨q21, hq21, hf⟩ := z_b_el hf
      refine y_cVv (av := [.int (1 : Int32)]) (Nat.le_trans (Nat.le_of_ble_eq_true rfl) hd) (wX5_markLast (z_dl rfl hd) hq21) oX5_markLast lmX6_80 iX5_markLast g8 rfl _ rfl rfl (Nat.le_of_ble_eq_true rfl) dX6_readSound_106 ?_
      exact y_sub (wX6_readSound_j109 hd g_a0 hf hk) (z_le_c rfl (z_le_n (z_le_n (z_le_n z_le_0))))
  · have hf := z_if_f hf c9
    refine z_aload_n dX6_readSound_62 rfl rfl (z_okl g_a0) ?_
    refine y_getR lfX6_9 rfl g_a0 dX6_readSound_63 ?_
    refine z_bipush dX6_readSound_66 kb_6 ?_
    refine z_iload_n dX6_readSound_68 rfl rfl ?_
    obtain ⟨g23, hf⟩ := z_g_el hf
    obtain ⟨q22, hq22, hf⟩ := z_b_el hf
    refine y_cVi (av := [.int (6 : Int32), .int y2]) (Nat.le_trans (Nat.le_of_ble_eq_true rfl) hd) (wX10_fails (z_dl rfl hd) hq22) oX10_fails lmX6_57 iX10_fails g23 rfl _ rfl rfl (Nat.le_of_ble_eq_true rfl) dX6_readSound_69 ?_
    obtain ⟨g24, hf⟩ := z_g_el hf
    cases hf
    exact z_iret hk ⟨_, rfl, z_bn g24⟩ dX6_readSound_72
def fX6_readSound (a0 : Nat) (x1 : Int32) (I : Nat → Nat → Int32) (R : Nat → Nat → Nat) : Option (Int32 × (Nat → Nat → Int32)) :=
  z_g (z_ob a0 6) (z_g (z_ob (R a0 0) 10) (z_b (fX10_place (R a0 0) I) (fun q1 => z_b (fX10_pass (R a0 0) I) (fun q3 => z_b (fX10_sign (R a0 0) q3 R) (fun q4 => z_b (fX6_isTimes q4) (fun q5 => if q5 = 0 then (fX6_readSound_j48 a0 x1 q1 (1 : Int32) q3 R) else (z_b (fX10_sign (R a0 0) q3 R) (fun q25 => z_l (q25 - (48 : Int32)) (fun t26 => z_b (fX10_pass (R a0 0) q3) (fun q27 => fX6_readSound_j48 a0 x1 q1 t26 q27 R))))))))))
set_option maxRecDepth 20000 in
theorem vX6_readSound {G : z_G} {d : Nat} {Q : Option Value → z_S → z_H → Prop} {a0 : Nat} {x1 : Int32} {I : Nat → Nat → Int32} {R : Nat → Nat → Nat} {q : Int32 × (Nat → Nat → Int32)} (hd : 2 ≤ d) (hf : fX6_readSound a0 x1 I R = some q) (hk : Q (some (.int q.1)) z_SH (q.2, R)) : z_W G eX6_readSound d 0 0 0 [some (.ref a0), some (.int x1), none, none] [] z_SH (I, R) Q := by
  unfold fX6_readSound at hf
  obtain ⟨g_a0, hf⟩ := z_g_el hf
  refine z_aload_n dX6_readSound_0 rfl rfl (z_okl g_a0) ?_
  refine y_getR lfX6_9 rfl g_a0 dX6_readSound_1 ?_
  obtain ⟨g2, hf⟩ := z_g_el hf
  obtain ⟨q1, hq1, hf⟩ := z_b_el hf
  refine y_cVi (av := []) (Nat.le_trans (Nat.le_of_ble_eq_true rfl) hd) (wX10_place (z_dl rfl hd) hq1) oX10_place lmX6_54 iX10_place g2 rfl _ rfl rfl (Nat.le_of_ble_eq_true rfl) dX6_readSound_4 ?_
  refine y_istore_n0 [some (.ref a0), some (.int x1), some (.int q1), none] dX6_readSound_7 rfl (by decide) rfl ?_
  refine z_aload_n dX6_readSound_8 rfl rfl (z_okl g_a0) ?_
  refine y_getR lfX6_9 rfl g_a0 dX6_readSound_9 ?_
  obtain ⟨q3, hq3, hf⟩ := z_b_el hf
  refine y_cVv (av := []) (Nat.le_trans (Nat.le_of_ble_eq_true rfl) hd) (wX10_pass (z_dl rfl hd) hq3) oX10_pass lmX6_70 iX10_pass g2 rfl _ rfl rfl (Nat.le_of_ble_eq_true rfl) dX6_readSound_12 ?_
  refine z_iconst dX6_readSound_15 kc_1 ?_
  refine y_istore_n0 [some (.ref a0), some (.int x1), some (.int q1), some (.int (1 : Int32))] dX6_readSound_16 rfl (by decide) rfl ?_
  refine z_aload_n dX6_readSound_17 rfl rfl (z_okl g_a0) ?_
  refine y_getR lfX6_9 rfl g_a0 dX6_readSound_18 ?_
  obtain ⟨q4, hq4, hf⟩ := z_b_el hf
  refine y_cVi (av := []) (Nat.le_trans (Nat.le_of_ble_eq_true rfl) hd) (wX10_sign (z_dl rfl hd) hq4) oX10_sign lmX6_48 iX10_sign g2 rfl _ rfl rfl (Nat.le_of_ble_eq_true rfl) dX6_readSound_21 ?_
  obtain ⟨q5, hq5, hf⟩ := z_b_el hf
  refine y_cSi (Nat.le_trans (Nat.le_of_ble_eq_true rfl) hd) (wX6_isTimes (z_dl rfl hd) hq5) oX6_isTimes lmX6_73 sX6_isTimes _ rfl rfl (Nat.le_of_ble_eq_true rfl) dX6_readSound_24 ?_
  refine z_if_eq (tgt := 48) dX6_readSound_27 (by decide) (fun c6 => ?_) (fun c6 => ?_)
  · have hf := z_if_t hf c6
    exact y_sub (wX6_readSound_j48 hd g_a0 hf hk) (z_le_c rfl (z_le_c rfl (z_le_c rfl (z_le_c rfl z_le_0))))
  · have hf := z_if_f hf c6
    refine z_aload_n dX6_readSound_30 rfl rfl (z_okl g_a0) ?_
    refine y_getR lfX6_9 rfl g_a0 dX6_readSound_31 ?_
    obtain ⟨q25, hq25, hf⟩ := z_b_el hf
    refine y_cVi (av := []) (Nat.le_trans (Nat.le_of_ble_eq_true rfl) hd) (wX10_sign (z_dl rfl hd) hq25) oX10_sign lmX6_48 iX10_sign g2 rfl _ rfl rfl (Nat.le_of_ble_eq_true rfl) dX6_readSound_34 ?_
    refine z_bipush dX6_readSound_37 kb_48 ?_
    refine z_isub dX6_readSound_39 ?_
    refine y_istore_n (fun t26 => [some (.ref a0), some (.int x1), some (.int q1), some (.int t26)]) dX6_readSound_40 rfl (by decide) (fun _ => rfl) (fun t26 et26 => ?_)
    have hf := z_l_el hf et26
    refine z_aload_n dX6_readSound_41 rfl rfl (z_okl g_a0) ?_
    refine y_getR lfX6_9 rfl g_a0 dX6_readSound_42 ?_
    obtain ⟨q27, hq27, hf⟩ := z_b_el hf
    refine y_cVv (av := []) (Nat.le_trans (Nat.le_of_ble_eq_true rfl) hd) (wX10_pass (z_dl rfl hd) hq27) oX10_pass lmX6_70 iX10_pass g2 rfl _ rfl rfl (Nat.le_of_ble_eq_true rfl) dX6_readSound_45 ?_
    exact y_sub (wX6_readSound_j48 hd g_a0 hf hk) (z_le_c rfl (z_le_c rfl (z_le_c rfl (z_le_c rfl z_le_0))))
theorem wX6_readSound {G : z_G} {d : Nat} {a0 : Nat} {x1 : Int32} {I : Nat → Nat → Int32} {R : Nat → Nat → Nat} {q : Int32 × (Nat → Nat → Int32)} (hd : 2 ≤ d) (hf : fX6_readSound a0 x1 I R = some q) : z_M G d 0 0 eX6_readSound [.ref a0, .int x1] z_SH (I, R) (z_E (some (.int q.1)) (q.2, R)) :=
  y_M_of _ (by decide +kernel) rfl rfl rfl (vX6_readSound hd hf ⟨rfl, rfl, rfl⟩)
def z_selC (k : Nat) : z_Me := if k = 0 then eX6_readItems else if k = 1 then eX6_readItem else eX6_readRound
def fX6_readItems_b8 (rec : z_RT) (a0 : Nat) (z1 : Int32) (R : Nat → Nat → Nat) : (Int32 × Int32 × (Nat → Nat → Int32)) → Option ((Int32 × Int32 × (Nat → Nat → Int32)) ⊕ (Int32 × (Nat → Nat → Int32))) :=
  fun s => (fun (p2 : Int32) (p3 : Int32) (I : Nat → Nat → Int32) => if (60 : Int32) ≤ p3 then (some (.inr (p2, I))) else (if p2 = 0 then (some (.inr (p2, I))) else (z_g (z_ob (R a0 0) 10) (z_b (fX10_sign (R a0 0) I R) (fun q4 => z_b (fX6_startsItem q4) (fun q6 => if q6 = 0 then (some (.inr (p2, I))) else (z_b (rec 1 a0 z1 I R) (fun q8 => z_l (p3 + (1 : Int32)) (fun t9 => some (.inl (q8.1, t9, q8.2))))))))))) s.1 s.2.1 s.2.2
theorem wX6_readItems_b8 {G : z_G} {d : Nat} {Q : Option Value → z_S → z_H → Prop} {a0 : Nat} {z1 : Int32} {R : Nat → Nat → Nat} (hd : 3 ≤ d) {rec : z_RT} (hrec : z_RC G d z_selC rec) (g_a0 : z_ob a0 6) : ∀ (s : Int32 × Int32 × (Nat → Nat → Int32)) (o : (Int32 × Int32 × (Nat → Nat → Int32)) ⊕ (Int32 × (Nat → Nat → Int32))), fX6_readItems_b8 rec a0 z1 R s = some o → z_or (fun s : Int32 × Int32 × (Nat → Nat → Int32) => z_W G eX6_readItems d 0 0 8 [some (.ref a0), some (.int z1), some (.int s.1), some (.int s.2.1)] [] z_SH (s.2.2, R) Q) (fun x : Int32 × (Nat → Nat → Int32) => z_W G eX6_readItems d 0 0 43 [none, none, some (.int x.1), none] [] z_SH (x.2, R) Q) o → (fun s : Int32 × Int32 × (Nat → Nat → Int32) => z_W G eX6_readItems d 0 0 8 [some (.ref a0), some (.int z1), some (.int s.1), some (.int s.2.1)] [] z_SH (s.2.2, R) Q) s := by
  rintro ⟨p2, p3, I⟩ o hf hk
  show z_W G eX6_readItems d 0 0 8 [some (.ref a0), some (.int z1), some (.int p2), some (.int p3)] [] z_SH (I, R) Q
  unfold fX6_readItems_b8 at hf
  try dsimp only at hf
  refine z_iload_n dX6_readItems_8 rfl rfl ?_
  refine z_bipush dX6_readItems_9 kb_60 ?_
  refine z_icmp_ge (tgt := 43) dX6_readItems_11 (by decide) (fun c2 => ?_) (fun c2 => ?_)
  · have hf := z_if_t hf c2
    cases hf
    exact y_sub hk (z_le_n (z_le_n (z_le_c rfl (z_le_n z_le_0))))
  · have hf := z_if_f hf c2
    refine z_iload_n dX6_readItems_14 rfl rfl ?_
    refine z_if_eq (tgt := 43) dX6_readItems_15 (by decide) (fun c3 => ?_) (fun c3 => ?_)
    · have hf := z_if_t hf c3
      cases hf
      exact y_sub hk (z_le_n (z_le_n (z_le_c rfl (z_le_n z_le_0))))
    · have hf := z_if_f hf c3
      refine z_aload_n dX6_readItems_18 rfl rfl (z_okl g_a0) ?_
      refine y_getR lfX6_9 rfl g_a0 dX6_readItems_19 ?_
      obtain ⟨g5, hf⟩ := z_g_el hf
      obtain ⟨q4, hq4, hf⟩ := z_b_el hf
      refine y_cVi (av := []) (Nat.le_trans (Nat.le_of_ble_eq_true rfl) hd) (wX10_sign (z_dl rfl hd) hq4) oX10_sign lmX6_48 iX10_sign g5 rfl _ rfl rfl (Nat.le_of_ble_eq_true rfl) dX6_readItems_22 ?_
      obtain ⟨q6, hq6, hf⟩ := z_b_el hf
      refine y_cSi (Nat.le_trans (Nat.le_of_ble_eq_true rfl) hd) (wX6_startsItem (z_dl rfl hd) hq6) oX6_startsItem lmX6_51 sX6_startsItem _ rfl rfl (Nat.le_of_ble_eq_true rfl) dX6_readItems_25 ?_
      refine z_if_eq (tgt := 43) dX6_readItems_28 (by decide) (fun c7 => ?_) (fun c7 => ?_)
      · have hf := z_if_t hf c7
        cases hf
        exact y_sub hk (z_le_n (z_le_n (z_le_c rfl (z_le_n z_le_0))))
      · have hf := z_if_f hf c7
        refine z_aload_n dX6_readItems_31 rfl rfl (z_okl g_a0) ?_
        refine z_iload_n dX6_readItems_32 rfl rfl ?_
        obtain ⟨q8, hq8, hf⟩ := z_b_el hf
        refine y_cVi (av := [.int z1]) (Nat.le_trans (Nat.le_of_ble_eq_true rfl) hd) (hrec 1 _ _ _ _ _ hq8) oX6_readItem lmX6_45 iX6_readItem g_a0 rfl _ rfl rfl (Nat.le_of_ble_eq_true rfl) dX6_readItems_33 ?_
        refine y_istore_n0 [some (.ref a0), some (.int z1), some (.int q8.1), some (.int p3)] dX6_readItems_36 rfl (by decide) rfl ?_
        refine y_iinc (fun t9 => [some (.ref a0), some (.int z1), some (.int q8.1), some (.int t9)]) dX6_readItems_37 rfl kc_1 (by decide) (fun _ => rfl) (fun t9 et9 => ?_)
        have hf := z_l_el hf et9
        refine z_goto (tgt := 8) dX6_readItems_40 (by decide) ?_
        cases hf
        exact y_sub hk (z_le_c rfl (z_le_c rfl (z_le_c rfl (z_le_c rfl z_le_0))))
def fX6_readItems (rec : z_RT) (a0 : Nat) (x1 : Int32) (I : Nat → Nat → Int32) (R : Nat → Nat → Nat) : Option (Int32 × (Nat → Nat → Int32)) :=
  z_g (z_ob a0 6) (z_b (rec 1 a0 x1 I R) (fun q1 => z_b (z_lp (fX6_readItems_b8 rec a0 x1 R) 300 (q1.1, (0 : Int32), q1.2)) (fun q10 => z_g (q10.1 = 0 ∨ q10.1 = 1) (some (q10.1, q10.2)))))
theorem vX6_readItems {G : z_G} {d : Nat} {Q : Option Value → z_S → z_H → Prop} {a0 : Nat} {x1 : Int32} {I : Nat → Nat → Int32} {R : Nat → Nat → Nat} {q : Int32 × (Nat → Nat → Int32)} (hd : 3 ≤ d) {rec : z_RT} (hrec : z_RC G d z_selC rec) (hf : fX6_readItems rec a0 x1 I R = some q) (hk : Q (some (.int q.1)) z_SH (q.2, R)) : z_W G eX6_readItems d 0 0 0 [some (.ref a0), some (.int x1), none, none] [] z_SH (I, R) Q := by
  unfold fX6_readItems at hf
  obtain ⟨g_a0, hf⟩ := z_g_el hf
  refine z_aload_n dX6_readItems_0 rfl rfl (z_okl g_a0) ?_
  refine z_iload_n dX6_readItems_1 rfl rfl ?_
  obtain ⟨q1, hq1, hf⟩ := z_b_el hf
  refine y_cVi (av := [.int x1]) (Nat.le_trans (Nat.le_of_ble_eq_true rfl) hd) (hrec 1 _ _ _ _ _ hq1) oX6_readItem lmX6_45 iX6_readItem g_a0 rfl _ rfl rfl (Nat.le_of_ble_eq_true rfl) dX6_readItems_2 ?_
  refine y_istore_n0 [some (.ref a0), some (.int x1), some (.int q1.1), none] dX6_readItems_5 rfl (by decide) rfl ?_
  refine z_iconst dX6_readItems_6 kc_0 ?_
  refine y_istore_n0 [some (.ref a0), some (.int x1), some (.int q1.1), some (.int (0 : Int32))] dX6_readItems_7 rfl (by decide) rfl ?_
  obtain ⟨q10, hq10, hf⟩ := z_b_el hf
  refine y_sub (lv' := [some (.ref a0), some (.int x1), some (.int q1.1), some (.int (0 : Int32))]) ?_ (z_le_c rfl (z_le_c rfl (z_le_c rfl (z_le_c rfl z_le_0))))
  refine z_lp_el (P := (fun s : Int32 × Int32 × (Nat → Nat → Int32) => z_W G eX6_readItems d 0 0 8 [some (.ref a0), some (.int x1), some (.int s.1), some (.int s.2.1)] [] z_SH (s.2.2, R) Q)) (E := (fun x : Int32 × (Nat → Nat → Int32) => z_W G eX6_readItems d 0 0 43 [none, none, some (.int x.1), none] [] z_SH (x.2, R) Q)) (wX6_readItems_b8 hd hrec g_a0) 300 (q1.1, (0 : Int32), q1.2) q10 hq10 ?_
  show z_W G eX6_readItems d 0 0 43 [none, none, some (.int q10.1), none] [] z_SH (q10.2, R) _
  refine z_iload_n dX6_readItems_43 rfl rfl ?_
  obtain ⟨g11, hf⟩ := z_g_el hf
  cases hf
  exact z_iret hk ⟨_, rfl, z_bn g11⟩ dX6_readItems_44
theorem wX6_readItems {G : z_G} {d : Nat} {a0 : Nat} {x1 : Int32} {I : Nat → Nat → Int32} {R : Nat → Nat → Nat} {q : Int32 × (Nat → Nat → Int32)} (hd : 3 ≤ d) {rec : z_RT} (hrec : z_RC G d z_selC rec) (hf : fX6_readItems rec a0 x1 I R = some q) : z_M G d 0 0 eX6_readItems [.ref a0, .int x1] z_SH (I, R) (z_E (some (.int q.1)) (q.2, R)) :=
  y_M_of _ (by decide +kernel) rfl rfl rfl (vX6_readItems hd hrec hf ⟨rfl, rfl, rfl⟩)
def fX6_readItem (rec : z_RT) (a0 : Nat) (x1 : Int32) (I : Nat → Nat → Int32) (R : Nat → Nat → Nat) : Option (Int32 × (Nat → Nat → Int32)) :=
  z_g (z_ob a0 6) (z_g (z_ob (R a0 0) 10) (z_b (fX10_sign (R a0 0) I R) (fun q1 => z_b (fX6_startsItem q1) (fun q3 => if q3 = 0 then (z_b (fX10_place (R a0 0) I) (fun q11 => z_b (fX10_fails (R a0 0) (1 : Int32) q11 I) (fun q12 => z_g (q12.1 = 0 ∨ q12.1 = 1) (some (q12.1, q12.2))))) else (if q1 = (40 : Int32) then (z_b (rec 2 a0 x1 I R) (fun q9 => z_g (q9.1 = 0 ∨ q9.1 = 1) (some (q9.1, q9.2)))) else (z_b (fX6_noteOf q1) (fun q6 => z_b (fX6_readSound a0 q6 I R) (fun q7 => z_g (q7.1 = 0 ∨ q7.1 = 1) (some (q7.1, q7.2))))))))))
theorem vX6_readItem {G : z_G} {d : Nat} {Q : Option Value → z_S → z_H → Prop} {a0 : Nat} {x1 : Int32} {I : Nat → Nat → Int32} {R : Nat → Nat → Nat} {q : Int32 × (Nat → Nat → Int32)} (hd : 3 ≤ d) {rec : z_RT} (hrec : z_RC G d z_selC rec) (hf : fX6_readItem rec a0 x1 I R = some q) (hk : Q (some (.int q.1)) z_SH (q.2, R)) : z_W G eX6_readItem d 0 0 0 [some (.ref a0), some (.int x1), none] [] z_SH (I, R) Q := by
  unfold fX6_readItem at hf
  obtain ⟨g_a0, hf⟩ := z_g_el hf
  refine z_aload_n dX6_readItem_0 rfl rfl (z_okl g_a0) ?_
  refine y_getR lfX6_9 rfl g_a0 dX6_readItem_1 ?_
  obtain ⟨g2, hf⟩ := z_g_el hf
  obtain ⟨q1, hq1, hf⟩ := z_b_el hf
  refine y_cVi (av := []) (Nat.le_trans (Nat.le_of_ble_eq_true rfl) hd) (wX10_sign (z_dl rfl hd) hq1) oX10_sign lmX6_48 iX10_sign g2 rfl _ rfl rfl (Nat.le_of_ble_eq_true rfl) dX6_readItem_4 ?_
  refine y_istore_n0 [some (.ref a0), some (.int x1), some (.int q1)] dX6_readItem_7 rfl (by decide) rfl ?_
  refine z_iload_n dX6_readItem_8 rfl rfl ?_
  obtain ⟨q3, hq3, hf⟩ := z_b_el hf
  refine y_cSi (Nat.le_trans (Nat.le_of_ble_eq_true rfl) hd) (wX6_startsItem (z_dl rfl hd) hq3) oX6_startsItem lmX6_51 sX6_startsItem _ rfl rfl (Nat.le_of_ble_eq_true rfl) dX6_readItem_9 ?_
  refine z_if_ne (tgt := 31) dX6_readItem_12 (by decide) (fun c4 => ?_) (fun c4 => ?_)
  · have hf := z_if_f hf c4
    refine z_iload_n dX6_readItem_31 rfl rfl ?_
    refine z_bipush dX6_readItem_32 kb_40 ?_
    refine z_icmp_ne (tgt := 45) dX6_readItem_34 (by decide) (fun c5 => ?_) (fun c5 => ?_)
    · have hf := z_if_f hf c5
      refine z_aload_n dX6_readItem_45 rfl rfl (z_okl g_a0) ?_
      refine z_iload_n dX6_readItem_46 rfl rfl ?_
      obtain ⟨q6, hq6, hf⟩ := z_b_el hf
      refine y_cSi (Nat.le_trans (Nat.le_of_ble_eq_true rfl) hd) (wX6_noteOf (z_dl rfl hd) hq6) oX6_noteOf lmX6_64 sX6_noteOf _ rfl rfl (Nat.le_of_ble_eq_true rfl) dX6_readItem_47 ?_
      obtain ⟨q7, hq7, hf⟩ := z_b_el hf
      refine y_cVi (av := [.int q6]) (Nat.le_trans (Nat.le_of_ble_eq_true rfl) hd) (wX6_readSound (z_dl rfl hd) hq7) oX6_readSound lmX6_67 iX6_readSound g_a0 rfl _ rfl rfl (Nat.le_of_ble_eq_true rfl) dX6_readItem_50 ?_
      obtain ⟨g8, hf⟩ := z_g_el hf
      cases hf
      exact z_iret hk ⟨_, rfl, z_bn g8⟩ dX6_readItem_53
    · have hf := z_if_t hf c5
      refine z_aload_n dX6_readItem_37 rfl rfl (z_okl g_a0) ?_
      refine z_iload_n dX6_readItem_38 rfl rfl ?_
      obtain ⟨q9, hq9, hf⟩ := z_b_el hf
      refine y_cVi (av := [.int x1]) (Nat.le_trans (Nat.le_of_ble_eq_true rfl) hd) (hrec 2 _ _ _ _ _ hq9) oX6_readRound lmX6_61 iX6_readRound g_a0 rfl _ rfl rfl (Nat.le_of_ble_eq_true rfl) dX6_readItem_39 ?_
      refine z_goto (tgt := 53) dX6_readItem_42 (by decide) ?_
      obtain ⟨g10, hf⟩ := z_g_el hf
      cases hf
      exact z_iret hk ⟨_, rfl, z_bn g10⟩ dX6_readItem_53
  · have hf := z_if_t hf c4
    refine z_aload_n dX6_readItem_15 rfl rfl (z_okl g_a0) ?_
    refine y_getR lfX6_9 rfl g_a0 dX6_readItem_16 ?_
    refine z_iconst dX6_readItem_19 kc_1 ?_
    refine z_aload_n dX6_readItem_20 rfl rfl (z_okl g_a0) ?_
    refine y_getR lfX6_9 rfl g_a0 dX6_readItem_21 ?_
    obtain ⟨q11, hq11, hf⟩ := z_b_el hf
    refine y_cVi (av := []) (Nat.le_trans (Nat.le_of_ble_eq_true rfl) hd) (wX10_place (z_dl rfl hd) hq11) oX10_place lmX6_54 iX10_place g2 rfl _ rfl rfl (Nat.le_of_ble_eq_true rfl) dX6_readItem_24 ?_
    obtain ⟨q12, hq12, hf⟩ := z_b_el hf
    refine y_cVi (av := [.int (1 : Int32), .int q11]) (Nat.le_trans (Nat.le_of_ble_eq_true rfl) hd) (wX10_fails (z_dl rfl hd) hq12) oX10_fails lmX6_57 iX10_fails g2 rfl _ rfl rfl (Nat.le_of_ble_eq_true rfl) dX6_readItem_27 ?_
    obtain ⟨g13, hf⟩ := z_g_el hf
    cases hf
    exact z_iret hk ⟨_, rfl, z_bn g13⟩ dX6_readItem_30
theorem wX6_readItem {G : z_G} {d : Nat} {a0 : Nat} {x1 : Int32} {I : Nat → Nat → Int32} {R : Nat → Nat → Nat} {q : Int32 × (Nat → Nat → Int32)} (hd : 3 ≤ d) {rec : z_RT} (hrec : z_RC G d z_selC rec) (hf : fX6_readItem rec a0 x1 I R = some q) : z_M G d 0 0 eX6_readItem [.ref a0, .int x1] z_SH (I, R) (z_E (some (.int q.1)) (q.2, R)) :=
  y_M_of _ (by decide +kernel) rfl rfl rfl (vX6_readItem hd hrec hf ⟨rfl, rfl, rfl⟩)
def fX6_readRound (rec : z_RT) (a0 : Nat) (x1 : Int32) (I : Nat → Nat → Int32) (R : Nat → Nat → Nat) : Option (Int32 × (Nat → Nat → Int32)) :=
  z_g (z_ob a0 6) (z_g (z_ob (R a0 0) 10) (z_b (fX10_place (R a0 0) I) (fun q1 => z_g (z_ob (R a0 1) 5) (z_b (fX5_length (R a0 1) I) (fun q3 => if x1 < (2 : Int32) then (z_b (fX10_pass (R a0 0) I) (fun q6 => z_b (rec 0 a0 (x1 + (1 : Int32)) q6 R) (fun q7 => if q7.1 = 0 then (some ((0 : Int32), q7.2)) else (z_b (fX10_passes (R a0 0) (41 : Int32) q7.2 R) (fun q9 => if q9.1 = 0 then (some ((0 : Int32), q9.2)) else (z_b (fX10_sign (R a0 0) q9.2 R) (fun q11 => if q11 = (120 : Int32) then (z_b (fX10_pass (R a0 0) q9.2) (fun q13 => z_b (fX10_sign (R a0 0) q13 R) (fun q14 => z_l (q14 - (48 : Int32)) (fun t15 => z_b (fX10_sign (R a0 0) q13 R) (fun q16 => z_b (fX6_isTimes q16) (fun q17 => if q17 = 0 then (z_b (fX10_place (R a0 0) q13) (fun q25 => z_b (fX10_fails (R a0 0) (1 : Int32) q25 q13) (fun q26 => z_g (q26.1 = 0 ∨ q26.1 = 1) (some (q26.1, q26.2))))) else (z_b (fX10_pass (R a0 0) q13) (fun q19 => z_b (fX5_length (R a0 1) q19) (fun q20 => if (q3 + ((q20 - q3) * t15)) ≤ (60 : Int32) then (z_b (fX5_repeat (R a0 1) q3 t15 q19 R) (fun q22 => some ((1 : Int32), q22))) else (z_b (fX10_fails (R a0 0) (6 : Int32) q1 q19) (fun q23 => z_g (q23.1 = 0 ∨ q23.1 = 1) (some (q23.1, q23.2))))))))))))) else (some ((1 : Int32), q9.2))))))))) else (z_b (fX10_fails (R a0 0) (5 : Int32) q1 I) (fun q28 => z_g (q28.1 = 0 ∨ q28.1 = 1) (some (q28.1, q28.2)))))))))
set_option maxRecDepth 20000 in
theorem vX6_readRound {G : z_G} {d : Nat} {Q : Option Value → z_S → z_H → Prop} {a0 : Nat} {x1 : Int32} {I : Nat → Nat → Int32} {R : Nat → Nat → Nat} {q : Int32 × (Nat → Nat → Int32)} (hd : 3 ≤ d) {rec : z_RT} (hrec : z_RC G d z_selC rec) (hf : fX6_readRound rec a0 x1 I R = some q) (hk : Q (some (.int q.1)) z_SH (q.2, R)) : z_W G eX6_readRound d 0 0 0 [some (.ref a0), some (.int x1), none, none, none] [] z_SH (I, R) Q := by
  unfold fX6_readRound at hf
  obtain ⟨g_a0, hf⟩ := z_g_el hf
  refine z_aload_n dX6_readRound_0 rfl rfl (z_okl g_a0) ?_
  refine y_getR lfX6_9 rfl g_a0 dX6_readRound_1 ?_
  obtain ⟨g2, hf⟩ := z_g_el hf
  obtain ⟨q1, hq1, hf⟩ := z_b_el hf
  refine y_cVi (av := []) (Nat.le_trans (Nat.le_of_ble_eq_true rfl) hd) (wX10_place (z_dl rfl hd) hq1) oX10_place lmX6_54 iX10_place g2 rfl _ rfl rfl (Nat.le_of_ble_eq_true rfl) dX6_readRound_4 ?_
  refine y_istore_n0 [some (.ref a0), some (.int x1), some (.int q1), none, none] dX6_readRound_7 rfl (by decide) rfl ?_
  refine z_aload_n dX6_readRound_8 rfl rfl (z_okl g_a0) ?_
  refine y_getR lfX6_15 rfl g_a0 dX6_readRound_9 ?_
  obtain ⟨g4, hf⟩ := z_g_el hf
  obtain ⟨q3, hq3, hf⟩ := z_b_el hf
  refine y_cVi (av := []) (Nat.le_trans (Nat.le_of_ble_eq_true rfl) hd) (wX5_length (z_dl rfl hd) hq3) oX5_length lmX6_37 iX5_length g4 rfl _ rfl rfl (Nat.le_of_ble_eq_true rfl) dX6_readRound_12 ?_
  refine y_istore_n0 [some (.ref a0), some (.int x1), some (.int q1), some (.int q3), none] dX6_readRound_15 rfl (by decide) rfl ?_
  refine z_iload_n dX6_readRound_16 rfl rfl ?_
  refine z_iconst dX6_readRound_17 kc_2 ?_
  refine z_icmp_lt (tgt := 31) dX6_readRound_18 (by decide) (fun c5 => ?_) (fun c5 => ?_)
  · have hf := z_if_t hf c5
    refine z_aload_n dX6_readRound_31 rfl rfl (z_okl g_a0) ?_
    refine y_getR lfX6_9 rfl g_a0 dX6_readRound_32 ?_
    obtain ⟨q6, hq6, hf⟩ := z_b_el hf
    refine y_cVv (av := []) (Nat.le_trans (Nat.le_of_ble_eq_true rfl) hd) (wX10_pass (z_dl rfl hd) hq6) oX10_pass lmX6_70 iX10_pass g2 rfl _ rfl rfl (Nat.le_of_ble_eq_true rfl) dX6_readRound_35 ?_
    refine z_aload_n dX6_readRound_38 rfl rfl (z_okl g_a0) ?_
    refine z_iload_n dX6_readRound_39 rfl rfl ?_
    refine z_iconst dX6_readRound_40 kc_1 ?_
    refine z_iadd dX6_readRound_41 ?_
    obtain ⟨q7, hq7, hf⟩ := z_b_el hf
    refine y_cVi (av := [.int (x1 + (1 : Int32))]) (Nat.le_trans (Nat.le_of_ble_eq_true rfl) hd) (hrec 0 _ _ _ _ _ hq7) oX6_readItems lmX6_30 iX6_readItems g_a0 rfl _ rfl rfl (Nat.le_of_ble_eq_true rfl) dX6_readRound_42 ?_
    refine z_if_eq (tgt := 60) dX6_readRound_45 (by decide) (fun c8 => ?_) (fun c8 => ?_)
    · have hf := z_if_t hf c8
      refine z_iconst dX6_readRound_60 kc_0 ?_
      cases hf
      exact z_iret hk ⟨_, rfl, rfl⟩ dX6_readRound_61
    · have hf := z_if_f hf c8
      refine z_aload_n dX6_readRound_48 rfl rfl (z_okl g_a0) ?_
      refine y_getR lfX6_9 rfl g_a0 dX6_readRound_49 ?_
      refine z_bipush dX6_readRound_52 kb_41 ?_
      obtain ⟨q9, hq9, hf⟩ := z_b_el hf
      refine y_cVi (av := [.int (41 : Int32)]) (Nat.le_trans (Nat.le_of_ble_eq_true rfl) hd) (wX10_passes (z_dl rfl hd) hq9) oX10_passes lmX6_34 iX10_passes g2 rfl _ rfl rfl (Nat.le_of_ble_eq_true rfl) dX6_readRound_54 ?_
      refine z_if_ne (tgt := 62) dX6_readRound_57 (by decide) (fun c10 => ?_) (fun c10 => ?_)
      · have hf := z_if_f hf c10
        refine z_aload_n dX6_readRound_62 rfl rfl (z_okl g_a0) ?_
        refine y_getR lfX6_9 rfl g_a0 dX6_readRound_63 ?_
        obtain ⟨q11, hq11, hf⟩ := z_b_el hf
        refine y_cVi (av := []) (Nat.le_trans (Nat.le_of_ble_eq_true rfl) hd) (wX10_sign (z_dl rfl hd) hq11) oX10_sign lmX6_48 iX10_sign g2 rfl _ rfl rfl (Nat.le_of_ble_eq_true rfl) dX6_readRound_66 ?_
        refine z_bipush dX6_readRound_69 kb_120 ?_
        refine z_icmp_eq (tgt := 76) dX6_readRound_71 (by decide) (fun c12 => ?_) (fun c12 => ?_)
        · have hf := z_if_t hf c12
          refine z_aload_n dX6_readRound_76 rfl rfl (z_okl g_a0) ?_
          refine y_getR lfX6_9 rfl g_a0 dX6_readRound_77 ?_
          obtain ⟨q13, hq13, hf⟩ := z_b_el hf
          refine y_cVv (av := []) (Nat.le_trans (Nat.le_of_ble_eq_true rfl) hd) (wX10_pass (z_dl rfl hd) hq13) oX10_pass lmX6_70 iX10_pass g2 rfl _ rfl rfl (Nat.le_of_ble_eq_true rfl) dX6_readRound_80 ?_
          refine z_aload_n dX6_readRound_83 rfl rfl (z_okl g_a0) ?_
          refine y_getR lfX6_9 rfl g_a0 dX6_readRound_84 ?_
          obtain ⟨q14, hq14, hf⟩ := z_b_el hf
          refine y_cVi (av := []) (Nat.le_trans (Nat.le_of_ble_eq_true rfl) hd) (wX10_sign (z_dl rfl hd) hq14) oX10_sign lmX6_48 iX10_sign g2 rfl _ rfl rfl (Nat.le_of_ble_eq_true rfl) dX6_readRound_87 ?_
          refine z_bipush dX6_readRound_90 kb_48 ?_
          refine z_isub dX6_readRound_92 ?_
          refine y_istore (fun t15 => [some (.ref a0), some (.int x1), some (.int q1), some (.int q3), some (.int t15)]) dX6_readRound_93 (by decide) (fun _ => rfl) (fun t15 et15 => ?_)
          have hf := z_l_el hf et15
          refine z_aload_n dX6_readRound_95 rfl rfl (z_okl g_a0) ?_
          refine y_getR lfX6_9 rfl g_a0 dX6_readRound_96 ?_
          obtain ⟨q16, hq16, hf⟩ := z_b_el hf
          refine y_cVi (av := []) (Nat.le_trans (Nat.le_of_ble_eq_true rfl) hd) (wX10_sign (z_dl rfl hd) hq16) oX10_sign lmX6_48 iX10_sign g2 rfl _ rfl rfl (Nat.le_of_ble_eq_true rfl) dX6_readRound_99 ?_
          obtain ⟨q17, hq17, hf⟩ := z_b_el hf
          refine y_cSi (Nat.le_trans (Nat.le_of_ble_eq_true rfl) hd) (wX6_isTimes (z_dl rfl hd) hq17) oX6_isTimes lmX6_73 sX6_isTimes _ rfl rfl (Nat.le_of_ble_eq_true rfl) dX6_readRound_102 ?_
          refine z_if_ne (tgt := 124) dX6_readRound_105 (by decide) (fun c18 => ?_) (fun c18 => ?_)
          · have hf := z_if_f hf c18
            refine z_aload_n dX6_readRound_124 rfl rfl (z_okl g_a0) ?_
            refine y_getR lfX6_9 rfl g_a0 dX6_readRound_125 ?_
            obtain ⟨q19, hq19, hf⟩ := z_b_el hf
            refine y_cVv (av := []) (Nat.le_trans (Nat.le_of_ble_eq_true rfl) hd) (wX10_pass (z_dl rfl hd) hq19) oX10_pass lmX6_70 iX10_pass g2 rfl _ rfl rfl (Nat.le_of_ble_eq_true rfl) dX6_readRound_128 ?_
            refine z_iload_n dX6_readRound_131 rfl rfl ?_
            refine z_aload_n dX6_readRound_132 rfl rfl (z_okl g_a0) ?_
            refine y_getR lfX6_15 rfl g_a0 dX6_readRound_133 ?_
            obtain ⟨q20, hq20, hf⟩ := z_b_el hf
            refine y_cVi (av := []) (Nat.le_trans (Nat.le_of_ble_eq_true rfl) hd) (wX5_length (z_dl rfl hd) hq20) oX5_length lmX6_37 iX5_length g4 rfl _ rfl rfl (Nat.le_of_ble_eq_true rfl) dX6_readRound_136 ?_
            refine z_iload_n dX6_readRound_139 rfl rfl ?_
            refine z_isub dX6_readRound_140 ?_
            refine z_iload dX6_readRound_141 rfl ?_
            refine z_imul dX6_readRound_143 ?_
            refine z_iadd dX6_readRound_144 ?_
            refine z_bipush dX6_readRound_145 kb_60 ?_
            refine z_icmp_le (tgt := 161) dX6_readRound_147 (by decide) (fun c21 => ?_) (fun c21 => ?_)
            · have hf := z_if_t hf c21
              refine z_aload_n dX6_readRound_161 rfl rfl (z_okl g_a0) ?_
              refine y_getR lfX6_15 rfl g_a0 dX6_readRound_162 ?_
              refine z_iload_n dX6_readRound_165 rfl rfl ?_
              refine z_iload dX6_readRound_166 rfl ?_
              obtain ⟨q22, hq22, hf⟩ := z_b_el hf
              refine y_cVv (av := [.int q3, .int t15]) (Nat.le_trans (Nat.le_of_ble_eq_true rfl) hd) (wX5_repeat (z_dl rfl hd) hq22) oX5_repeat lmX6_83 iX5_repeat g4 rfl _ rfl rfl (Nat.le_of_ble_eq_true rfl) dX6_readRound_168 ?_
              refine z_iconst dX6_readRound_171 kc_1 ?_
              cases hf
              exact z_iret hk ⟨_, rfl, rfl⟩ dX6_readRound_172
            · have hf := z_if_f hf c21
              refine z_aload_n dX6_readRound_150 rfl rfl (z_okl g_a0) ?_
              refine y_getR lfX6_9 rfl g_a0 dX6_readRound_151 ?_
              refine z_bipush dX6_readRound_154 kb_6 ?_
              refine z_iload_n dX6_readRound_156 rfl rfl ?_
              obtain ⟨q23, hq23, hf⟩ := z_b_el hf
              refine y_cVi (av := [.int (6 : Int32), .int q1]) (Nat.le_trans (Nat.le_of_ble_eq_true rfl) hd) (wX10_fails (z_dl rfl hd) hq23) oX10_fails lmX6_57 iX10_fails g2 rfl _ rfl rfl (Nat.le_of_ble_eq_true rfl) dX6_readRound_157 ?_
              obtain ⟨g24, hf⟩ := z_g_el hf
              cases hf
              exact z_iret hk ⟨_, rfl, z_bn g24⟩ dX6_readRound_160
          · have hf := z_if_t hf c18
            refine z_aload_n dX6_readRound_108 rfl rfl (z_okl g_a0) ?_
            refine y_getR lfX6_9 rfl g_a0 dX6_readRound_109 ?_
            refine z_iconst dX6_readRound_112 kc_1 ?_
            refine z_aload_n dX6_readRound_113 rfl rfl (z_okl g_a0) ?_
            refine y_getR lfX6_9 rfl g_a0 dX6_readRound_114 ?_
            obtain ⟨q25, hq25, hf⟩ := z_b_el hf
            refine y_cVi (av := []) (Nat.le_trans (Nat.le_of_ble_eq_true rfl) hd) (wX10_place (z_dl rfl hd) hq25) oX10_place lmX6_54 iX10_place g2 rfl _ rfl rfl (Nat.le_of_ble_eq_true rfl) dX6_readRound_117 ?_
            obtain ⟨q26, hq26, hf⟩ := z_b_el hf
            refine y_cVi (av := [.int (1 : Int32), .int q25]) (Nat.le_trans (Nat.le_of_ble_eq_true rfl) hd) (wX10_fails (z_dl rfl hd) hq26) oX10_fails lmX6_57 iX10_fails g2 rfl _ rfl rfl (Nat.le_of_ble_eq_true rfl) dX6_readRound_120 ?_
            obtain ⟨g27, hf⟩ := z_g_el hf
            cases hf
            exact z_iret hk ⟨_, rfl, z_bn g27⟩ dX6_readRound_123
        · have hf := z_if_f hf c12
          refine z_iconst dX6_readRound_74 kc_1 ?_
          cases hf
          exact z_iret hk ⟨_, rfl, rfl⟩ dX6_readRound_75
      · have hf := z_if_t hf c10
        refine z_iconst dX6_readRound_60 kc_0 ?_
        cases hf
        exact z_iret hk ⟨_, rfl, rfl⟩ dX6_readRound_61
  · have hf := z_if_f hf c5
    refine z_aload_n dX6_readRound_21 rfl rfl (z_okl g_a0) ?_
    refine y_getR lfX6_9 rfl g_a0 dX6_readRound_22 ?_
    refine z_iconst dX6_readRound_25 kc_5 ?_
    refine z_iload_n dX6_readRound_26 rfl rfl ?_
    obtain ⟨q28, hq28, hf⟩ := z_b_el hf
    refine y_cVi (av := [.int (5 : Int32), .int q1]) (Nat.le_trans (Nat.le_of_ble_eq_true rfl) hd) (wX10_fails (z_dl rfl hd) hq28) oX10_fails lmX6_57 iX10_fails g2 rfl _ rfl rfl (Nat.le_of_ble_eq_true rfl) dX6_readRound_27 ?_
    obtain ⟨g29, hf⟩ := z_g_el hf
    cases hf
    exact z_iret hk ⟨_, rfl, z_bn g29⟩ dX6_readRound_30
theorem wX6_readRound {G : z_G} {d : Nat} {a0 : Nat} {x1 : Int32} {I : Nat → Nat → Int32} {R : Nat → Nat → Nat} {q : Int32 × (Nat → Nat → Int32)} (hd : 3 ≤ d) {rec : z_RT} (hrec : z_RC G d z_selC rec) (hf : fX6_readRound rec a0 x1 I R = some q) : z_M G d 0 0 eX6_readRound [.ref a0, .int x1] z_SH (I, R) (z_E (some (.int q.1)) (q.2, R)) :=
  y_M_of _ (by decide +kernel) rfl rfl rfl (vX6_readRound hd hrec hf ⟨rfl, rfl, rfl⟩)
def z_fxC : Nat → z_RT
  | 0 => fun _ _ _ _ _ => none
  | n + 1 => fun k a x I R => if k = 0 then fX6_readItems (z_fxC n) a x I R else if k = 1 then fX6_readItem (z_fxC n) a x I R else fX6_readRound (z_fxC n) a x I R
theorem wz_fxC {G : z_G} : ∀ (n d : Nat), n + 3 ≤ d → ∀ (k a : Nat) (x : Int32) (I : Nat → Nat → Int32) (R : Nat → Nat → Nat) (q : Int32 × (Nat → Nat → Int32)), z_fxC n k a x I R = some q → z_M G d 0 0 (z_selC k) [.ref a, .int x] z_SH (I, R) (z_E (some (.int q.1)) (q.2, R)) := by
  intro n
  induction n with
  | zero => intro d _ k a x I R q h; cases h
  | succ n ih =>
    intro d hd k a x I R q h
    have hrec : z_RC G d z_selC (z_fxC n) := fun k a x I R q h => ih (d - 1) (by omega) k a x I R q h
    unfold z_fxC at h
    unfold z_selC
    by_cases h0 : k = 0
    · rw [if_pos h0]
      exact wX6_readItems (by omega) hrec (z_if_t h h0)
    · rw [if_neg h0]
      have h := z_if_f h h0
      by_cases h1 : k = 1
      · rw [if_pos h1]
        exact wX6_readItem (by omega) hrec (z_if_t h h1)
      · rw [if_neg h1]
        exact wX6_readRound (by omega) hrec (z_if_f h h1)
theorem wX6_readItems_x {G : z_G} {d a : Nat} {x : Int32} {I : Nat → Nat → Int32} {R : Nat → Nat → Nat} {q : Int32 × (Nat → Nat → Int32)} (hd : 15 ≤ d) (hf : z_fxC 12 0 a x I R = some q) : z_M G d 0 0 eX6_readItems [.ref a, .int x] z_SH (I, R) (z_E (some (.int q.1)) (q.2, R)) := wz_fxC 12 d hd 0 a x I R q hf
theorem wX6_readItem_x {G : z_G} {d a : Nat} {x : Int32} {I : Nat → Nat → Int32} {R : Nat → Nat → Nat} {q : Int32 × (Nat → Nat → Int32)} (hd : 15 ≤ d) (hf : z_fxC 12 1 a x I R = some q) : z_M G d 0 0 eX6_readItem [.ref a, .int x] z_SH (I, R) (z_E (some (.int q.1)) (q.2, R)) := wz_fxC 12 d hd 1 a x I R q hf
theorem wX6_readRound_x {G : z_G} {d a : Nat} {x : Int32} {I : Nat → Nat → Int32} {R : Nat → Nat → Nat} {q : Int32 × (Nat → Nat → Int32)} (hd : 15 ≤ d) (hf : z_fxC 12 2 a x I R = some q) : z_M G d 0 0 eX6_readRound [.ref a, .int x] z_SH (I, R) (z_E (some (.int q.1)) (q.2, R)) := wz_fxC 12 d hd 2 a x I R q hf
def fX6_readRoll_j37 (a0 : Nat) (a2 : Nat) (I : Nat → Nat → Int32) (R : Nat → Nat → Nat) : Option (Int32 × (Nat → Nat → Int32) × (Nat → Nat → Nat)) :=
  z_g (z_ob (R a0 1) 5) (z_b (fX5_length (R a0 1) I) (fun q8 => z_g (z_ob (R a0 0) 10) (z_b (fX10_answer (R a0 0) q8 I) (fun q10 => some (q10, I, R)))))
theorem wX6_readRoll_j37 {G : z_G} {d : Nat} {Q : Option Value → z_S → z_H → Prop} {a0 : Nat} {a2 : Nat} {I : Nat → Nat → Int32} {R : Nat → Nat → Nat} {o : Int32 × (Nat → Nat → Int32) × (Nat → Nat → Nat)} (hd : 16 ≤ d) (g_a0 : z_ob a0 6) (g_a2 : z_ob a2 5) (hf : fX6_readRoll_j37 a0 a2 I R = some o) (hk : Q (some (.int o.1)) z_SH (o.2.1, o.2.2)) : z_W G eX6_readRoll d 0 0 37 [some (.ref a0), none, none] [] z_SH (I, R) Q := by
  unfold fX6_readRoll_j37 at hf
  refine z_aload_n dX6_readRoll_37 rfl rfl (z_okl g_a0) ?_
  refine y_getR lfX6_9 rfl g_a0 dX6_readRoll_38 ?_
  refine z_aload_n dX6_readRoll_41 rfl rfl (z_okl g_a0) ?_
  refine y_getR lfX6_15 rfl g_a0 dX6_readRoll_42 ?_
  obtain ⟨g9, hf⟩ := z_g_el hf
  obtain ⟨q8, hq8, hf⟩ := z_b_el hf
  refine y_cVi (av := []) (Nat.le_trans (Nat.le_of_ble_eq_true rfl) hd) (wX5_length (z_dl rfl hd) hq8) oX5_length lmX6_37 iX5_length g9 rfl _ rfl rfl (Nat.le_of_ble_eq_true rfl) dX6_readRoll_45 ?_
  obtain ⟨g11, hf⟩ := z_g_el hf
  obtain ⟨q10, hq10, hf⟩ := z_b_el hf
  refine y_cVi (av := [.int q8]) (Nat.le_trans (Nat.le_of_ble_eq_true rfl) hd) (wX10_answer (z_dl rfl hd) hq10) oX10_answer lmX6_41 iX10_answer g11 rfl _ rfl rfl (Nat.le_of_ble_eq_true rfl) dX6_readRoll_48 ?_
  cases hf
  exact z_iret hk ⟨_, rfl, rfl⟩ dX6_readRoll_51
def fX6_readRoll (a0 : Nat) (x1 : Int32) (a2 : Nat) (I : Nat → Nat → Int32) (R : Nat → Nat → Nat) : Option (Int32 × (Nat → Nat → Int32) × (Nat → Nat → Nat)) :=
  z_g (z_ob a0 6) (z_g (z_ob a2 5) (z_l (z_v R a0 1 a2) (fun R1 => z_g (z_ob (R1 a0 1) 5) (z_b (fX5_clear (R1 a0 1) I) (fun q2 => z_g (z_ob (R1 a0 0) 10) (z_b (fX10_open (R1 a0 0) x1 q2) (fun q4 => z_b (z_fxC 12 0 a0 (0 : Int32) q4 R1) (fun q6 => if q6.1 = 0 then (fX6_readRoll_j37 a0 a2 q6.2 R1) else (z_b (fX10_passes (R1 a0 0) (-1 : Int32) q6.2 R1) (fun q12 => fX6_readRoll_j37 a0 a2 q12.2 R1))))))))))
theorem vX6_readRoll {G : z_G} {d : Nat} {Q : Option Value → z_S → z_H → Prop} {a0 : Nat} {x1 : Int32} {a2 : Nat} {I : Nat → Nat → Int32} {R : Nat → Nat → Nat} {q : Int32 × (Nat → Nat → Int32) × (Nat → Nat → Nat)} (hd : 16 ≤ d) (hf : fX6_readRoll a0 x1 a2 I R = some q) (hk : Q (some (.int q.1)) z_SH (q.2.1, q.2.2)) : z_W G eX6_readRoll d 0 0 0 [some (.ref a0), some (.int x1), some (.ref a2)] [] z_SH (I, R) Q := by
  unfold fX6_readRoll at hf
  obtain ⟨g_a0, hf⟩ := z_g_el hf
  obtain ⟨g_a2, hf⟩ := z_g_el hf
  refine z_aload_n dX6_readRoll_0 rfl rfl (z_okl g_a0) ?_
  refine z_aload_n dX6_readRoll_1 rfl rfl (z_okl g_a2) ?_
  refine y_putR lfX6_15 rfl g_a0 rfl dX6_readRoll_2 (fun R1 eR1 => ?_)
  have hf := z_l_el hf eR1
  refine z_aload_n dX6_readRoll_5 rfl rfl (z_okl g_a0) ?_
  refine y_getR lfX6_15 rfl g_a0 dX6_readRoll_6 ?_
  obtain ⟨g3, hf⟩ := z_g_el hf
  obtain ⟨q2, hq2, hf⟩ := z_b_el hf
  refine y_cVv (av := []) (Nat.le_trans (Nat.le_of_ble_eq_true rfl) hd) (wX5_clear (z_dl rfl hd) hq2) oX5_clear lmX6_19 iX5_clear g3 rfl _ rfl rfl (Nat.le_of_ble_eq_true rfl) dX6_readRoll_9 ?_
  refine z_aload_n dX6_readRoll_12 rfl rfl (z_okl g_a0) ?_
  refine y_getR lfX6_9 rfl g_a0 dX6_readRoll_13 ?_
  refine z_iload_n dX6_readRoll_16 rfl rfl ?_
  obtain ⟨g5, hf⟩ := z_g_el hf
  obtain ⟨q4, hq4, hf⟩ := z_b_el hf
  refine y_cVv (av := [.int x1]) (Nat.le_trans (Nat.le_of_ble_eq_true rfl) hd) (wX10_open (z_dl rfl hd) hq4) oX10_open lmX6_24 iX10_open g5 rfl _ rfl rfl (Nat.le_of_ble_eq_true rfl) dX6_readRoll_17 ?_
  refine z_aload_n dX6_readRoll_20 rfl rfl (z_okl g_a0) ?_
  refine z_iconst dX6_readRoll_21 kc_0 ?_
  obtain ⟨q6, hq6, hf⟩ := z_b_el hf
  refine y_cVi (av := [.int (0 : Int32)]) (Nat.le_trans (Nat.le_of_ble_eq_true rfl) hd) (wX6_readItems_x (z_dl rfl hd) hq6) oX6_readItems lmX6_30 iX6_readItems g_a0 rfl _ rfl rfl (Nat.le_of_ble_eq_true rfl) dX6_readRoll_22 ?_
  refine z_if_eq (tgt := 37) dX6_readRoll_25 (by decide) (fun c7 => ?_) (fun c7 => ?_)
  · have hf := z_if_t hf c7
    exact y_sub (wX6_readRoll_j37 hd g_a0 g_a2 hf hk) (z_le_c rfl (z_le_n (z_le_n z_le_0)))
  · have hf := z_if_f hf c7
    refine z_aload_n dX6_readRoll_28 rfl rfl (z_okl g_a0) ?_
    refine y_getR lfX6_9 rfl g_a0 dX6_readRoll_29 ?_
    refine z_iconst dX6_readRoll_32 kc_m1 ?_
    obtain ⟨q12, hq12, hf⟩ := z_b_el hf
    refine y_cVi (av := [.int (-1 : Int32)]) (Nat.le_trans (Nat.le_of_ble_eq_true rfl) hd) (wX10_passes (z_dl rfl hd) hq12) oX10_passes lmX6_34 iX10_passes g5 rfl _ rfl rfl (Nat.le_of_ble_eq_true rfl) dX6_readRoll_33 ?_
    refine z_pop dX6_readRoll_36 rfl ?_
    exact y_sub (wX6_readRoll_j37 hd g_a0 g_a2 hf hk) (z_le_c rfl (z_le_n (z_le_n z_le_0)))
theorem wX6_readRoll {G : z_G} {d : Nat} {a0 : Nat} {x1 : Int32} {a2 : Nat} {I : Nat → Nat → Int32} {R : Nat → Nat → Nat} {q : Int32 × (Nat → Nat → Int32) × (Nat → Nat → Nat)} (hd : 16 ≤ d) (hf : fX6_readRoll a0 x1 a2 I R = some q) : z_M G d 0 0 eX6_readRoll [.ref a0, .int x1, .ref a2] z_SH (I, R) (z_E (some (.int q.1)) (q.2.1, q.2.2)) :=
  y_M_of _ (by decide +kernel) rfl rfl rfl (vX6_readRoll hd hf ⟨rfl, rfl, rfl⟩)
