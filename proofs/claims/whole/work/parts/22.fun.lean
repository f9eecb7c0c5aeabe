def fX13_turnOf_b166 (a0 : Nat) (z1 : Int32) (R : Nat → Nat → Nat) : ((Nat → Nat → Int32)) → Option (((Nat → Nat → Int32)) ⊕ ((Nat → Nat → Int32))) :=
  fun s => (fun (I : Nat → Nat → Int32) => z_g (z_ok 1 (R a0 0) ((48 : Int32) + z1)) (if (I (R a0 0) ((48 : Int32) + z1).toNatClampNeg) < (I a0 4) then (some (.inr I)) else (z_l (z_u I (R a0 0) ((48 : Int32) + z1).toNatClampNeg ((I (R a0 0) ((48 : Int32) + z1).toNatClampNeg) - (I a0 4))) (fun I18 => z_b (fX13_sings a0 z1 I18 R) (fun q19 => some (.inl q19)))))) s
theorem wX13_turnOf_b166 {G : z_G} {d : Nat} {Q : Option Value → z_S → z_H → Prop} {a0 : Nat} {z1 : Int32} {R : Nat → Nat → Nat} (hd : 6 ≤ d) (g_a0 : z_ob a0 13) : ∀ (s : (Nat → Nat → Int32)) (o : ((Nat → Nat → Int32)) ⊕ ((Nat → Nat → Int32))), fX13_turnOf_b166 a0 z1 R s = some o → z_or (fun s : (Nat → Nat → Int32) => z_W G eX13_turnOf d 0 0 166 [some (.ref a0), some (.int z1), none, none, none] [] z_SH (s, R) Q) (fun x : (Nat → Nat → Int32) => z_W G eX13_turnOf d 0 0 213 [none, none, none, none, none] [] z_SH (x, R) Q) o → (fun s : (Nat → Nat → Int32) => z_W G eX13_turnOf d 0 0 166 [some (.ref a0), some (.int z1), none, none, none] [] z_SH (s, R) Q) s := by
  intro I o hf hk
  show z_W G eX13_turnOf d 0 0 166 [some (.ref a0), some (.int z1), none, none, none] [] z_SH (I, R) Q
  unfold fX13_turnOf_b166 at hf
  try dsimp only at hf
  refine z_aload_n dX13_turnOf_166 rfl rfl (z_okl g_a0) ?_
  refine y_getR lfX13_7 rfl g_a0 dX13_turnOf_167 ?_
  refine z_bipush dX13_turnOf_170 kb_48 ?_
  refine z_iload_n dX13_turnOf_172 rfl rfl ?_
  refine z_iadd dX13_turnOf_173 ?_
  obtain ⟨g16, hf⟩ := z_g_el hf
  refine y_iald g16 dX13_turnOf_174 ?_
  refine z_aload_n dX13_turnOf_175 rfl rfl (z_okl g_a0) ?_
  refine y_getI lfX13_111 rfl g_a0 dX13_turnOf_176 ?_
  refine z_icmp_lt (tgt := 213) dX13_turnOf_179 (by decide) (fun c17 => ?_) (fun c17 => ?_)
  · have hf := z_if_t hf c17
    cases hf
    exact y_sub hk (z_le_n (z_le_n (z_le_n (z_le_n (z_le_n z_le_0)))))
  · have hf := z_if_f hf c17
    refine z_aload_n dX13_turnOf_182 rfl rfl (z_okl g_a0) ?_
    refine y_getR lfX13_7 rfl g_a0 dX13_turnOf_183 ?_
    refine z_bipush dX13_turnOf_186 kb_48 ?_
    refine z_iload_n dX13_turnOf_188 rfl rfl ?_
    refine z_iadd dX13_turnOf_189 ?_
    refine z_aload_n dX13_turnOf_190 rfl rfl (z_okl g_a0) ?_
    refine y_getR lfX13_7 rfl g_a0 dX13_turnOf_191 ?_
    refine z_bipush dX13_turnOf_194 kb_48 ?_
    refine z_iload_n dX13_turnOf_196 rfl rfl ?_
    refine z_iadd dX13_turnOf_197 ?_
    refine y_iald g16 dX13_turnOf_198 ?_
    refine z_aload_n dX13_turnOf_199 rfl rfl (z_okl g_a0) ?_
    refine y_getI lfX13_111 rfl g_a0 dX13_turnOf_200 ?_
    refine z_isub dX13_turnOf_203 ?_
    refine y_iast g16 dX13_turnOf_204 (fun I18 eI18 => ?_)
    have hf := z_l_el hf eI18
    refine z_aload_n dX13_turnOf_205 rfl rfl (z_okl g_a0) ?_
    refine z_iload_n dX13_turnOf_206 rfl rfl ?_
    obtain ⟨q19, hq19, hf⟩ := z_b_el hf
    refine y_cVv (av := [.int z1]) (Nat.le_trans (Nat.le_of_ble_eq_true rfl) hd) (wX13_sings (z_dl rfl hd) hq19) oX13_sings lmX13_325 iX13_sings g_a0 rfl _ rfl rfl (Nat.le_of_ble_eq_true rfl) dX13_turnOf_207 ?_
    refine z_goto (tgt := 166) dX13_turnOf_210 (by decide) ?_
    cases hf
    exact y_sub hk (z_le_c rfl (z_le_c rfl (z_le_n (z_le_n (z_le_n z_le_0)))))
def fX13_turnOf (a0 : Nat) (x1 : Int32) (I : Nat → Nat → Int32) (R : Nat → Nat → Nat) : Option ((Nat → Nat → Int32)) :=
  z_g (z_ob a0 13) (z_g (z_ok 1 (R a0 0) ((72 : Int32) + x1)) (if (I (R a0 0) ((72 : Int32) + x1).toNatClampNeg) = (1 : Int32) then (z_b (fX13_allCame a0 x1 I R) (fun q22 => if q22 = 0 then (some I) else (z_l (z_u I (R a0 0) ((72 : Int32) + x1).toNatClampNeg (0 : Int32)) (fun I24 => some I24)))) else (z_b (fX13_feels a0 x1 I R) (fun q3 => z_b (fX13_holdsAny a0 (120 : Int32) q3 R) (fun q4 => if q4.1 = 0 then (z_b (fX13_byLaw a0 (117 : Int32) (60 : Int32) q4.2 R) (fun q6 => z_b (fX13_byLaw a0 (118 : Int32) (60 : Int32) q6.2 R) (fun q7 => z_b (fX13_byLaw a0 (99 : Int32) (10 : Int32) q7.2 R) (fun q8 => z_g (z_ok 1 (R a0 0) (81 : Int32)) (z_l (z_u q8.2 (R a0 0) (81 : Int32).toNatClampNeg (z_rem (((25173 : Int32) * (q8.2 (R a0 0) (81 : Int32).toNatClampNeg)) + (13849 : Int32)) (65536 : Int32))) (fun I10 => if q8.1 ≤ (z_rem (I10 (R a0 0) (81 : Int32).toNatClampNeg) (10 : Int32)) then (z_g (z_ok 1 (R a0 0) ((48 : Int32) + x1)) (z_g (z_ok 1 (R a0 0) ((8 : Int32) + x1)) (z_b (fX13_max (0 : Int32) ((((60 : Int32) + (I10 (R a0 0) ((8 : Int32) + x1).toNatClampNeg)) + q6.1) - q7.1)) (fun q14 => z_l (z_u I10 (R a0 0) ((48 : Int32) + x1).toNatClampNeg ((I10 (R a0 0) ((48 : Int32) + x1).toNatClampNeg) + q14)) (fun I15 => z_b (z_lp (fX13_turnOf_b166 a0 x1 R) 300 I15) (fun q20 => some q20)))))) else (z_l (z_u I10 a0 45 ((I10 a0 45) + (1 : Int32))) (fun I21 => some I21)))))))) else (some q4.2))))))
set_option maxRecDepth 20000 in
theorem vX13_turnOf {G : z_G} {d : Nat} {Q : Option Value → z_S → z_H → Prop} {a0 : Nat} {x1 : Int32} {I : Nat → Nat → Int32} {R : Nat → Nat → Nat} {q : (Nat → Nat → Int32)} (hd : 6 ≤ d) (hf : fX13_turnOf a0 x1 I R = some q) (hk : Q none z_SH (q, R)) : z_W G eX13_turnOf d 0 0 0 [some (.ref a0), some (.int x1), none, none, none] [] z_SH (I, R) Q := by
  unfold fX13_turnOf at hf
  obtain ⟨g_a0, hf⟩ := z_g_el hf
  refine z_aload_n dX13_turnOf_0 rfl rfl (z_okl g_a0) ?_
  refine y_getR lfX13_7 rfl g_a0 dX13_turnOf_1 ?_
  refine z_bipush dX13_turnOf_4 kb_72 ?_
  refine z_iload_n dX13_turnOf_6 rfl rfl ?_
  refine z_iadd dX13_turnOf_7 ?_
  obtain ⟨g1, hf⟩ := z_g_el hf
  refine y_iald g1 dX13_turnOf_8 ?_
  refine z_iconst dX13_turnOf_9 kc_1 ?_
  refine z_icmp_ne (tgt := 32) dX13_turnOf_10 (by decide) (fun c2 => ?_) (fun c2 => ?_)
  · have hf := z_if_f hf c2
    refine z_aload_n dX13_turnOf_32 rfl rfl (z_okl g_a0) ?_
    refine z_iload_n dX13_turnOf_33 rfl rfl ?_
    obtain ⟨q3, hq3, hf⟩ := z_b_el hf
    refine y_cVv (av := [.int x1]) (Nat.le_trans (Nat.le_of_ble_eq_true rfl) hd) (wX13_feels (z_dl rfl hd) hq3) oX13_feels lmX13_315 iX13_feels g_a0 rfl _ rfl rfl (Nat.le_of_ble_eq_true rfl) dX13_turnOf_34 ?_
    refine z_aload_n dX13_turnOf_37 rfl rfl (z_okl g_a0) ?_
    refine z_bipush dX13_turnOf_38 kb_120 ?_
    obtain ⟨q4, hq4, hf⟩ := z_b_el hf
    refine y_cVi (av := [.int (120 : Int32)]) (Nat.le_trans (Nat.le_of_ble_eq_true rfl) hd) (wX13_holdsAny (z_dl rfl hd) hq4) oX13_holdsAny lmX13_318 iX13_holdsAny g_a0 rfl _ rfl rfl (Nat.le_of_ble_eq_true rfl) dX13_turnOf_40 ?_
    refine z_if_eq (tgt := 47) dX13_turnOf_43 (by decide) (fun c5 => ?_) (fun c5 => ?_)
    · have hf := z_if_t hf c5
      refine z_aload_n dX13_turnOf_47 rfl rfl (z_okl g_a0) ?_
      refine z_bipush dX13_turnOf_48 kb_117 ?_
      refine z_bipush dX13_turnOf_50 kb_60 ?_
      obtain ⟨q6, hq6, hf⟩ := z_b_el hf
      refine y_cVi (av := [.int (117 : Int32), .int (60 : Int32)]) (Nat.le_trans (Nat.le_of_ble_eq_true rfl) hd) (wX13_byLaw (z_dl rfl hd) hq6) oX13_byLaw lmX13_291 iX13_byLaw g_a0 rfl _ rfl rfl (Nat.le_of_ble_eq_true rfl) dX13_turnOf_52 ?_
      refine y_istore_n0 [some (.ref a0), some (.int x1), some (.int q6.1), none, none] dX13_turnOf_55 rfl (by decide) rfl ?_
      refine z_aload_n dX13_turnOf_56 rfl rfl (z_okl g_a0) ?_
      refine z_bipush dX13_turnOf_57 kb_118 ?_
      refine z_bipush dX13_turnOf_59 kb_60 ?_
      obtain ⟨q7, hq7, hf⟩ := z_b_el hf
      refine y_cVi (av := [.int (118 : Int32), .int (60 : Int32)]) (Nat.le_trans (Nat.le_of_ble_eq_true rfl) hd) (wX13_byLaw (z_dl rfl hd) hq7) oX13_byLaw lmX13_291 iX13_byLaw g_a0 rfl _ rfl rfl (Nat.le_of_ble_eq_true rfl) dX13_turnOf_61 ?_
      refine y_istore_n0 [some (.ref a0), some (.int x1), some (.int q6.1), some (.int q7.1), none] dX13_turnOf_64 rfl (by decide) rfl ?_
      refine z_aload_n dX13_turnOf_65 rfl rfl (z_okl g_a0) ?_
      refine z_bipush dX13_turnOf_66 kb_99 ?_
      refine z_bipush dX13_turnOf_68 kb_10 ?_
      obtain ⟨q8, hq8, hf⟩ := z_b_el hf
      refine y_cVi (av := [.int (99 : Int32), .int (10 : Int32)]) (Nat.le_trans (Nat.le_of_ble_eq_true rfl) hd) (wX13_byLaw (z_dl rfl hd) hq8) oX13_byLaw lmX13_291 iX13_byLaw g_a0 rfl _ rfl rfl (Nat.le_of_ble_eq_true rfl) dX13_turnOf_70 ?_
      refine y_istore0 [some (.ref a0), some (.int x1), some (.int q6.1), some (.int q7.1), some (.int q8.1)] dX13_turnOf_73 (by decide) rfl ?_
      refine z_aload_n dX13_turnOf_75 rfl rfl (z_okl g_a0) ?_
      refine y_getR lfX13_7 rfl g_a0 dX13_turnOf_76 ?_
      refine z_bipush dX13_turnOf_79 kb_81 ?_
      refine z_sipush dX13_turnOf_81 ks_25173 ?_
      refine z_aload_n dX13_turnOf_84 rfl rfl (z_okl g_a0) ?_
      refine y_getR lfX13_7 rfl g_a0 dX13_turnOf_85 ?_
      refine z_bipush dX13_turnOf_88 kb_81 ?_
      obtain ⟨g9, hf⟩ := z_g_el hf
      refine y_iald g9 dX13_turnOf_90 ?_
      refine z_imul dX13_turnOf_91 ?_
      refine z_sipush dX13_turnOf_92 ks_13849 ?_
      refine z_iadd dX13_turnOf_95 ?_
      refine z_ldcw dX13_turnOf_96 lkX13_321 ?_
      refine y_irem dX13_turnOf_99 (by decide) ?_
      refine y_iast g9 dX13_turnOf_100 (fun I10 eI10 => ?_)
      have hf := z_l_el hf eI10
      refine z_aload_n dX13_turnOf_101 rfl rfl (z_okl g_a0) ?_
      refine y_getR lfX13_7 rfl g_a0 dX13_turnOf_102 ?_
      refine z_bipush dX13_turnOf_105 kb_81 ?_
      refine y_iald g9 dX13_turnOf_107 ?_
      refine z_bipush dX13_turnOf_108 kb_10 ?_
      refine y_irem dX13_turnOf_110 (by decide) ?_
      refine z_iload dX13_turnOf_111 rfl ?_
      refine z_icmp_ge (tgt := 127) dX13_turnOf_113 (by decide) (fun c11 => ?_) (fun c11 => ?_)
      · have hf := z_if_t hf c11
        refine z_aload_n dX13_turnOf_127 rfl rfl (z_okl g_a0) ?_
        refine y_getR lfX13_7 rfl g_a0 dX13_turnOf_128 ?_
        refine z_bipush dX13_turnOf_131 kb_48 ?_
        refine z_iload_n dX13_turnOf_133 rfl rfl ?_
        refine z_iadd dX13_turnOf_134 ?_
        refine z_aload_n dX13_turnOf_135 rfl rfl (z_okl g_a0) ?_
        refine y_getR lfX13_7 rfl g_a0 dX13_turnOf_136 ?_
        refine z_bipush dX13_turnOf_139 kb_48 ?_
        refine z_iload_n dX13_turnOf_141 rfl rfl ?_
        refine z_iadd dX13_turnOf_142 ?_
        obtain ⟨g12, hf⟩ := z_g_el hf
        refine y_iald g12 dX13_turnOf_143 ?_
        refine z_iconst dX13_turnOf_144 kc_0 ?_
        refine z_bipush dX13_turnOf_145 kb_60 ?_
        refine z_aload_n dX13_turnOf_147 rfl rfl (z_okl g_a0) ?_
        refine y_getR lfX13_7 rfl g_a0 dX13_turnOf_148 ?_
        refine z_bipush dX13_turnOf_151 kb_8 ?_
        refine z_iload_n dX13_turnOf_153 rfl rfl ?_
        refine z_iadd dX13_turnOf_154 ?_
        obtain ⟨g13, hf⟩ := z_g_el hf
        refine y_iald g13 dX13_turnOf_155 ?_
        refine z_iadd dX13_turnOf_156 ?_
        refine z_iload_n dX13_turnOf_157 rfl rfl ?_
        refine z_iadd dX13_turnOf_158 ?_
        refine z_iload_n dX13_turnOf_159 rfl rfl ?_
        refine z_isub dX13_turnOf_160 ?_
        obtain ⟨q14, hq14, hf⟩ := z_b_el hf
        refine y_cSi (Nat.le_trans (Nat.le_of_ble_eq_true rfl) hd) (wX13_max (z_dl rfl hd) hq14) oX13_max lmX13_294 sX13_max _ rfl rfl (Nat.le_of_ble_eq_true rfl) dX13_turnOf_161 ?_
        refine z_iadd dX13_turnOf_164 ?_
        refine y_iast g12 dX13_turnOf_165 (fun I15 eI15 => ?_)
        have hf := z_l_el hf eI15
        obtain ⟨q20, hq20, hf⟩ := z_b_el hf
        refine y_sub (lv' := [some (.ref a0), some (.int x1), none, none, none]) ?_ (z_le_c rfl (z_le_c rfl (z_le_n (z_le_n (z_le_n z_le_0)))))
        refine z_lp_el (P := (fun s : (Nat → Nat → Int32) => z_W G eX13_turnOf d 0 0 166 [some (.ref a0), some (.int x1), none, none, none] [] z_SH (s, R) Q)) (E := (fun x : (Nat → Nat → Int32) => z_W G eX13_turnOf d 0 0 213 [none, none, none, none, none] [] z_SH (x, R) Q)) (wX13_turnOf_b166 hd g_a0) 300 I15 q20 hq20 ?_
        show z_W G eX13_turnOf d 0 0 213 [none, none, none, none, none] [] z_SH (q20, R) _
        cases hf
        exact z_vret hk rfl dX13_turnOf_213
      · have hf := z_if_f hf c11
        refine z_aload_n dX13_turnOf_116 rfl rfl (z_okl g_a0) ?_
        refine z_aload_n dX13_turnOf_117 rfl rfl (z_okl g_a0) ?_
        refine y_getI lfX13_322 rfl g_a0 dX13_turnOf_118 ?_
        refine z_iconst dX13_turnOf_121 kc_1 ?_
        refine z_iadd dX13_turnOf_122 ?_
        refine y_putI lfX13_322 rfl g_a0 rfl rfl rfl dX13_turnOf_123 (fun I21 eI21 => ?_)
        have hf := z_l_el hf eI21
        cases hf
        exact z_vret hk rfl dX13_turnOf_126
    · have hf := z_if_f hf c5
      cases hf
      exact z_vret hk rfl dX13_turnOf_46
  · have hf := z_if_t hf c2
    refine z_aload_n dX13_turnOf_13 rfl rfl (z_okl g_a0) ?_
    refine z_iload_n dX13_turnOf_14 rfl rfl ?_
    obtain ⟨q22, hq22, hf⟩ := z_b_el hf
    refine y_cVi (av := [.int x1]) (Nat.le_trans (Nat.le_of_ble_eq_true rfl) hd) (wX13_allCame (z_dl rfl hd) hq22) oX13_allCame lmX13_312 iX13_allCame g_a0 rfl _ rfl rfl (Nat.le_of_ble_eq_true rfl) dX13_turnOf_15 ?_
    refine z_if_eq (tgt := 31) dX13_turnOf_18 (by decide) (fun c23 => ?_) (fun c23 => ?_)
    · have hf := z_if_t hf c23
      cases hf
      exact z_vret hk rfl dX13_turnOf_31
    · have hf := z_if_f hf c23
      refine z_aload_n dX13_turnOf_21 rfl rfl (z_okl g_a0) ?_
      refine y_getR lfX13_7 rfl g_a0 dX13_turnOf_22 ?_
      refine z_bipush dX13_turnOf_25 kb_72 ?_
      refine z_iload_n dX13_turnOf_27 rfl rfl ?_
      refine z_iadd dX13_turnOf_28 ?_
      refine z_iconst dX13_turnOf_29 kc_0 ?_
      refine y_iast g1 dX13_turnOf_30 (fun I24 eI24 => ?_)
      have hf := z_l_el hf eI24
      cases hf
      exact z_vret hk rfl dX13_turnOf_31
theorem wX13_turnOf {G : z_G} {d : Nat} {a0 : Nat} {x1 : Int32} {I : Nat → Nat → Int32} {R : Nat → Nat → Nat} {q : (Nat → Nat → Int32)} (hd : 6 ≤ d) (hf : fX13_turnOf a0 x1 I R = some q) : z_M G d 0 0 eX13_turnOf [.ref a0, .int x1] z_SH (I, R) (z_E none (q, R)) :=
  y_M_of _ (by decide +kernel) rfl rfl rfl (vX13_turnOf hd hf ⟨rfl, rfl, rfl⟩)
def fX13_apartNow_b10 (a0 : Nat) (I : Nat → Nat → Int32) (R : Nat → Nat → Nat) : (Int32 × Int32 × Int32) → Option ((Int32 × Int32 × Int32) ⊕ (Int32 × Int32)) :=
  fun s => (fun (p1 : Int32) (p2 : Int32) (p3 : Int32) => if (8 : Int32) ≤ p3 then (some (.inr (p1, p2))) else (z_b (fX13_isTold a0 p3 I R) (fun q2 => if q2 = 0 then (z_l (p3 + (1 : Int32)) (fun t4 => some (.inl (p1, p2, t4)))) else (z_b (fX13_isDone a0 p3 I R) (fun q5 => if q5 = 0 then (z_g (z_ok 1 (R a0 0) ((40 : Int32) + p3)) (z_b (fX13_min p1 (I (R a0 0) ((40 : Int32) + p3).toNatClampNeg)) (fun q8 => z_b (fX13_max p2 (I (R a0 0) ((40 : Int32) + p3).toNatClampNeg)) (fun q9 => z_l (p3 + (1 : Int32)) (fun t10 => some (.inl (q8, q9, t10))))))) else (z_l (p3 + (1 : Int32)) (fun t11 => some (.inl (p1, p2, t11))))))))) s.1 s.2.1 s.2.2
theorem wX13_apartNow_b10 {G : z_G} {d : Nat} {Q : Option Value → z_S → z_H → Prop} {a0 : Nat} {I : Nat → Nat → Int32} {R : Nat → Nat → Nat} (hd : 2 ≤ d) (g_a0 : z_ob a0 13) : ∀ (s : Int32 × Int32 × Int32) (o : (Int32 × Int32 × Int32) ⊕ (Int32 × Int32)), fX13_apartNow_b10 a0 I R s = some o → z_or (fun s : Int32 × Int32 × Int32 => z_W G eX13_apartNow d 0 0 10 [some (.ref a0), some (.int s.1), some (.int s.2.1), some (.int s.2.2)] [] z_SH (I, R) Q) (fun x : Int32 × Int32 => z_W G eX13_apartNow d 0 0 69 [none, some (.int x.1), some (.int x.2), none] [] z_SH (I, R) Q) o → (fun s : Int32 × Int32 × Int32 => z_W G eX13_apartNow d 0 0 10 [some (.ref a0), some (.int s.1), some (.int s.2.1), some (.int s.2.2)] [] z_SH (I, R) Q) s := by
  rintro ⟨p1, p2, p3⟩ o hf hk
  show z_W G eX13_apartNow d 0 0 10 [some (.ref a0), some (.int p1), some (.int p2), some (.int p3)] [] z_SH (I, R) Q
  unfold fX13_apartNow_b10 at hf
  try dsimp only at hf
  refine z_iload_n dX13_apartNow_10 rfl rfl ?_
  refine z_bipush dX13_apartNow_11 kb_8 ?_
  refine z_icmp_ge (tgt := 69) dX13_apartNow_13 (by decide) (fun c1 => ?_) (fun c1 => ?_)
  · have hf := z_if_t hf c1
    cases hf
    exact y_sub hk (z_le_n (z_le_c rfl (z_le_c rfl (z_le_n z_le_0))))
  · have hf := z_if_f hf c1
    refine z_aload_n dX13_apartNow_16 rfl rfl (z_okl g_a0) ?_
    refine z_iload_n dX13_apartNow_17 rfl rfl ?_
    obtain ⟨q2, hq2, hf⟩ := z_b_el hf
    refine y_cVi (av := [.int p3]) (Nat.le_trans (Nat.le_of_ble_eq_true rfl) hd) (wX13_isTold (z_dl rfl hd) hq2) oX13_isTold lmX13_118 iX13_isTold g_a0 rfl _ rfl rfl (Nat.le_of_ble_eq_true rfl) dX13_apartNow_18 ?_
    refine z_if_eq (tgt := 63) dX13_apartNow_21 (by decide) (fun c3 => ?_) (fun c3 => ?_)
    · have hf := z_if_t hf c3
      refine y_iinc (fun t4 => [some (.ref a0), some (.int p1), some (.int p2), some (.int t4)]) dX13_apartNow_63 rfl kc_1 (by decide) (fun _ => rfl) (fun t4 et4 => ?_)
      have hf := z_l_el hf et4
      refine z_goto (tgt := 10) dX13_apartNow_66 (by decide) ?_
      cases hf
      exact y_sub hk (z_le_c rfl (z_le_c rfl (z_le_c rfl (z_le_c rfl z_le_0))))
    · have hf := z_if_f hf c3
      refine z_aload_n dX13_apartNow_24 rfl rfl (z_okl g_a0) ?_
      refine z_iload_n dX13_apartNow_25 rfl rfl ?_
      obtain ⟨q5, hq5, hf⟩ := z_b_el hf
      refine y_cVi (av := [.int p3]) (Nat.le_trans (Nat.le_of_ble_eq_true rfl) hd) (wX13_isDone (z_dl rfl hd) hq5) oX13_isDone lmX13_270 iX13_isDone g_a0 rfl _ rfl rfl (Nat.le_of_ble_eq_true rfl) dX13_apartNow_26 ?_
      refine z_if_eq (tgt := 35) dX13_apartNow_29 (by decide) (fun c6 => ?_) (fun c6 => ?_)
      · have hf := z_if_t hf c6
        refine z_iload_n dX13_apartNow_35 rfl rfl ?_
        refine z_aload_n dX13_apartNow_36 rfl rfl (z_okl g_a0) ?_
        refine y_getR lfX13_7 rfl g_a0 dX13_apartNow_37 ?_
        refine z_bipush dX13_apartNow_40 kb_40 ?_
        refine z_iload_n dX13_apartNow_42 rfl rfl ?_
        refine z_iadd dX13_apartNow_43 ?_
        obtain ⟨g7, hf⟩ := z_g_el hf
        refine y_iald g7 dX13_apartNow_44 ?_
        obtain ⟨q8, hq8, hf⟩ := z_b_el hf
        refine y_cSi (Nat.le_trans (Nat.le_of_ble_eq_true rfl) hd) (wX13_min (z_dl rfl hd) hq8) oX13_min lmX13_282 sX13_min _ rfl rfl (Nat.le_of_ble_eq_true rfl) dX13_apartNow_45 ?_
        refine y_istore_n0 [some (.ref a0), some (.int q8), some (.int p2), some (.int p3)] dX13_apartNow_48 rfl (by decide) rfl ?_
        refine z_iload_n dX13_apartNow_49 rfl rfl ?_
        refine z_aload_n dX13_apartNow_50 rfl rfl (z_okl g_a0) ?_
        refine y_getR lfX13_7 rfl g_a0 dX13_apartNow_51 ?_
        refine z_bipush dX13_apartNow_54 kb_40 ?_
        refine z_iload_n dX13_apartNow_56 rfl rfl ?_
        refine z_iadd dX13_apartNow_57 ?_
        refine y_iald g7 dX13_apartNow_58 ?_
        obtain ⟨q9, hq9, hf⟩ := z_b_el hf
        refine y_cSi (Nat.le_trans (Nat.le_of_ble_eq_true rfl) hd) (wX13_max (z_dl rfl hd) hq9) oX13_max lmX13_294 sX13_max _ rfl rfl (Nat.le_of_ble_eq_true rfl) dX13_apartNow_59 ?_
        refine y_istore_n0 [some (.ref a0), some (.int q8), some (.int q9), some (.int p3)] dX13_apartNow_62 rfl (by decide) rfl ?_
        refine y_iinc (fun t10 => [some (.ref a0), some (.int q8), some (.int q9), some (.int t10)]) dX13_apartNow_63 rfl kc_1 (by decide) (fun _ => rfl) (fun t10 et10 => ?_)
        have hf := z_l_el hf et10
        refine z_goto (tgt := 10) dX13_apartNow_66 (by decide) ?_
        cases hf
        exact y_sub hk (z_le_c rfl (z_le_c rfl (z_le_c rfl (z_le_c rfl z_le_0))))
      · have hf := z_if_f hf c6
        refine z_goto (tgt := 63) dX13_apartNow_32 (by decide) ?_
        refine y_iinc (fun t11 => [some (.ref a0), some (.int p1), some (.int p2), some (.int t11)]) dX13_apartNow_63 rfl kc_1 (by decide) (fun _ => rfl) (fun t11 et11 => ?_)
        have hf := z_l_el hf et11
        refine z_goto (tgt := 10) dX13_apartNow_66 (by decide) ?_
        cases hf
        exact y_sub hk (z_le_c rfl (z_le_c rfl (z_le_c rfl (z_le_c rfl z_le_0))))
def fX13_apartNow (a0 : Nat) (I : Nat → Nat → Int32) (R : Nat → Nat → Nat) : Option (Int32) :=
  z_g (z_ob a0 13) (z_b (z_lp (fX13_apartNow_b10 a0 I R) 300 ((1000000 : Int32), (-1000000 : Int32), (0 : Int32))) (fun q12 => z_b (fX13_max (0 : Int32) (q12.2 - q12.1)) (fun q13 => some q13)))
theorem vX13_apartNow {G : z_G} {d : Nat} {Q : Option Value → z_S → z_H → Prop} {a0 : Nat} {I : Nat → Nat → Int32} {R : Nat → Nat → Nat} {q : Int32} (hd : 2 ≤ d) (hf : fX13_apartNow a0 I R = some q) (hk : Q (some (.int q)) z_SH (I, R)) : z_W G eX13_apartNow d 0 0 0 [some (.ref a0), none, none, none] [] z_SH (I, R) Q := by
  unfold fX13_apartNow at hf
  obtain ⟨g_a0, hf⟩ := z_g_el hf
  refine z_ldcw dX13_apartNow_0 lkX13_328 ?_
  refine y_istore_n0 [some (.ref a0), some (.int (1000000 : Int32)), none, none] dX13_apartNow_3 rfl (by decide) rfl ?_
  refine z_ldcw dX13_apartNow_4 lkX13_329 ?_
  refine y_istore_n0 [some (.ref a0), some (.int (1000000 : Int32)), some (.int (-1000000 : Int32)), none] dX13_apartNow_7 rfl (by decide) rfl ?_
  refine z_iconst dX13_apartNow_8 kc_0 ?_
  refine y_istore_n0 [some (.ref a0), some (.int (1000000 : Int32)), some (.int (-1000000 : Int32)), some (.int (0 : Int32))] dX13_apartNow_9 rfl (by decide) rfl ?_
  obtain ⟨q12, hq12, hf⟩ := z_b_el hf
  refine y_sub (lv' := [some (.ref a0), some (.int (1000000 : Int32)), some (.int (-1000000 : Int32)), some (.int (0 : Int32))]) ?_ (z_le_c rfl (z_le_c rfl (z_le_c rfl (z_le_c rfl z_le_0))))
  refine z_lp_el (P := (fun s : Int32 × Int32 × Int32 => z_W G eX13_apartNow d 0 0 10 [some (.ref a0), some (.int s.1), some (.int s.2.1), some (.int s.2.2)] [] z_SH (I, R) Q)) (E := (fun x : Int32 × Int32 => z_W G eX13_apartNow d 0 0 69 [none, some (.int x.1), some (.int x.2), none] [] z_SH (I, R) Q)) (wX13_apartNow_b10 hd g_a0) 300 ((1000000 : Int32), (-1000000 : Int32), (0 : Int32)) q12 hq12 ?_
  show z_W G eX13_apartNow d 0 0 69 [none, some (.int q12.1), some (.int q12.2), none] [] z_SH (I, R) _
  refine z_iconst dX13_apartNow_69 kc_0 ?_
  refine z_iload_n dX13_apartNow_70 rfl rfl ?_
  refine z_iload_n dX13_apartNow_71 rfl rfl ?_
  refine z_isub dX13_apartNow_72 ?_
  obtain ⟨q13, hq13, hf⟩ := z_b_el hf
  refine y_cSi (Nat.le_trans (Nat.le_of_ble_eq_true rfl) hd) (wX13_max (z_dl rfl hd) hq13) oX13_max lmX13_294 sX13_max _ rfl rfl (Nat.le_of_ble_eq_true rfl) dX13_apartNow_73 ?_
  cases hf
  exact z_iret hk ⟨_, rfl, rfl⟩ dX13_apartNow_76
theorem wX13_apartNow {G : z_G} {d : Nat} {a0 : Nat} {I : Nat → Nat → Int32} {R : Nat → Nat → Nat} {q : Int32} (hd : 2 ≤ d) (hf : fX13_apartNow a0 I R = some q) : z_M G d 0 0 eX13_apartNow [.ref a0] z_SH (I, R) (z_E (some (.int q)) (I, R)) :=
  y_M_of _ (by decide +kernel) rfl rfl rfl (vX13_apartNow hd hf ⟨rfl, rfl, rfl⟩)
def fX13_tickGoes_b12 (a0 : Nat) (R : Nat → Nat → Nat) : (Int32 × (Nat → Nat → Int32)) → Option ((Int32 × (Nat → Nat → Int32)) ⊕ ((Nat → Nat → Int32))) :=
  fun s => (fun (p1 : Int32) (I : Nat → Nat → Int32) => if (8 : Int32) ≤ p1 then (some (.inr I)) else (z_g (z_ok 1 (R a0 0) ((40 : Int32) + p1)) (z_g (z_ok 1 (R a0 42) p1) (z_l (z_u I (R a0 42) p1.toNatClampNeg (I (R a0 0) ((40 : Int32) + p1).toNatClampNeg)) (fun I5 => z_l (p1 + (1 : Int32)) (fun t6 => some (.inl (t6, I5)))))))) s.1 s.2
theorem wX13_tickGoes_b12 {G : z_G} {d : Nat} {Q : Option Value → z_S → z_H → Prop} {a0 : Nat} {R : Nat → Nat → Nat} (hd : 7 ≤ d) (g_a0 : z_ob a0 13) : ∀ (s : Int32 × (Nat → Nat → Int32)) (o : (Int32 × (Nat → Nat → Int32)) ⊕ ((Nat → Nat → Int32))), fX13_tickGoes_b12 a0 R s = some o → z_or (fun s : Int32 × (Nat → Nat → Int32) => z_W G eX13_tickGoes d 0 0 12 [some (.ref a0), some (.int s.1)] [] z_SH (s.2, R) Q) (fun x : (Nat → Nat → Int32) => z_W G eX13_tickGoes d 0 0 39 [some (.ref a0), none] [] z_SH (x, R) Q) o → (fun s : Int32 × (Nat → Nat → Int32) => z_W G eX13_tickGoes d 0 0 12 [some (.ref a0), some (.int s.1)] [] z_SH (s.2, R) Q) s := by
  rintro ⟨p1, I⟩ o hf hk
  show z_W G eX13_tickGoes d 0 0 12 [some (.ref a0), some (.int p1)] [] z_SH (I, R) Q
  unfold fX13_tickGoes_b12 at hf
  try dsimp only at hf
  refine z_iload_n dX13_tickGoes_12 rfl rfl ?_
  refine z_bipush dX13_tickGoes_13 kb_8 ?_
  refine z_icmp_ge (tgt := 39) dX13_tickGoes_15 (by decide) (fun c2 => ?_) (fun c2 => ?_)
  · have hf := z_if_t hf c2
    cases hf
    exact y_sub hk (z_le_c rfl (z_le_n z_le_0))
  · have hf := z_if_f hf c2
    refine z_aload_n dX13_tickGoes_18 rfl rfl (z_okl g_a0) ?_
    refine y_getR lfX13_95 rfl g_a0 dX13_tickGoes_19 ?_
    refine z_iload_n dX13_tickGoes_22 rfl rfl ?_
    refine z_aload_n dX13_tickGoes_23 rfl rfl (z_okl g_a0) ?_
    refine y_getR lfX13_7 rfl g_a0 dX13_tickGoes_24 ?_
    refine z_bipush dX13_tickGoes_27 kb_40 ?_
    refine z_iload_n dX13_tickGoes_29 rfl rfl ?_
    refine z_iadd dX13_tickGoes_30 ?_
    obtain ⟨g3, hf⟩ := z_g_el hf
    refine y_iald g3 dX13_tickGoes_31 ?_
    obtain ⟨g4, hf⟩ := z_g_el hf
    refine y_iast g4 dX13_tickGoes_32 (fun I5 eI5 => ?_)
    have hf := z_l_el hf eI5
    refine y_iinc (fun t6 => [some (.ref a0), some (.int t6)]) dX13_tickGoes_33 rfl kc_1 (by decide) (fun _ => rfl) (fun t6 et6 => ?_)
    have hf := z_l_el hf et6
    refine z_goto (tgt := 12) dX13_tickGoes_36 (by decide) ?_
    cases hf
    exact y_sub hk (z_le_c rfl (z_le_c rfl z_le_0))
def fX13_tickGoes_b41 (a0 : Nat) (R : Nat → Nat → Nat) : (Int32 × (Nat → Nat → Int32)) → Option ((Int32 × (Nat → Nat → Int32)) ⊕ ((Nat → Nat → Int32))) :=
  fun s => (fun (p1 : Int32) (I : Nat → Nat → Int32) => if (8 : Int32) ≤ p1 then (some (.inr I)) else (z_b (fX13_isTold a0 p1 I R) (fun q9 => if q9 = 0 then (z_l (p1 + (1 : Int32)) (fun t11 => some (.inl (t11, I)))) else (z_b (fX13_isDone a0 p1 I R) (fun q12 => if q12 = 0 then (z_b (fX13_turnOf a0 p1 I R) (fun q15 => z_l (p1 + (1 : Int32)) (fun t16 => some (.inl (t16, q15))))) else (z_l (p1 + (1 : Int32)) (fun t14 => some (.inl (t14, I))))))))) s.1 s.2
theorem wX13_tickGoes_b41 {G : z_G} {d : Nat} {Q : Option Value → z_S → z_H → Prop} {a0 : Nat} {R : Nat → Nat → Nat} (hd : 7 ≤ d) (g_a0 : z_ob a0 13) : ∀ (s : Int32 × (Nat → Nat → Int32)) (o : (Int32 × (Nat → Nat → Int32)) ⊕ ((Nat → Nat → Int32))), fX13_tickGoes_b41 a0 R s = some o → z_or (fun s : Int32 × (Nat → Nat → Int32) => z_W G eX13_tickGoes d 0 0 41 [some (.ref a0), some (.int s.1)] [] z_SH (s.2, R) Q) (fun x : (Nat → Nat → Int32) => z_W G eX13_tickGoes d 0 0 74 [some (.ref a0), none] [] z_SH (x, R) Q) o → (fun s : Int32 × (Nat → Nat → Int32) => z_W G eX13_tickGoes d 0 0 41 [some (.ref a0), some (.int s.1)] [] z_SH (s.2, R) Q) s := by
  rintro ⟨p1, I⟩ o hf hk
  show z_W G eX13_tickGoes d 0 0 41 [some (.ref a0), some (.int p1)] [] z_SH (I, R) Q
  unfold fX13_tickGoes_b41 at hf
  try dsimp only at hf
  refine z_iload_n dX13_tickGoes_41 rfl rfl ?_
  refine z_bipush dX13_tickGoes_42 kb_8 ?_
  refine z_icmp_ge (tgt := 74) dX13_tickGoes_44 (by decide) (fun c8 => ?_) (fun c8 => ?_)
  · have hf := z_if_t hf c8
    cases hf
    exact y_sub hk (z_le_c rfl (z_le_n z_le_0))
  · have hf := z_if_f hf c8
    refine z_aload_n dX13_tickGoes_47 rfl rfl (z_okl g_a0) ?_
    refine z_iload_n dX13_tickGoes_48 rfl rfl ?_
    obtain ⟨q9, hq9, hf⟩ := z_b_el hf
    refine y_cVi (av := [.int p1]) (Nat.le_trans (Nat.le_of_ble_eq_true rfl) hd) (wX13_isTold (z_dl rfl hd) hq9) oX13_isTold lmX13_118 iX13_isTold g_a0 rfl _ rfl rfl (Nat.le_of_ble_eq_true rfl) dX13_tickGoes_49 ?_
    refine z_if_eq (tgt := 68) dX13_tickGoes_52 (by decide) (fun c10 => ?_) (fun c10 => ?_)
    · have hf := z_if_t hf c10
      refine y_iinc (fun t11 => [some (.ref a0), some (.int t11)]) dX13_tickGoes_68 rfl kc_1 (by decide) (fun _ => rfl) (fun t11 et11 => ?_)
      have hf := z_l_el hf et11
      refine z_goto (tgt := 41) dX13_tickGoes_71 (by decide) ?_
      cases hf
      exact y_sub hk (z_le_c rfl (z_le_c rfl z_le_0))
    · have hf := z_if_f hf c10
      refine z_aload_n dX13_tickGoes_55 rfl rfl (z_okl g_a0) ?_
      refine z_iload_n dX13_tickGoes_56 rfl rfl ?_
      obtain ⟨q12, hq12, hf⟩ := z_b_el hf
      refine y_cVi (av := [.int p1]) (Nat.le_trans (Nat.le_of_ble_eq_true rfl) hd) (wX13_isDone (z_dl rfl hd) hq12) oX13_isDone lmX13_270 iX13_isDone g_a0 rfl _ rfl rfl (Nat.le_of_ble_eq_true rfl) dX13_tickGoes_57 ?_
      refine z_if_ne (tgt := 68) dX13_tickGoes_60 (by decide) (fun c13 => ?_) (fun c13 => ?_)
      · have hf := z_if_f hf c13
        refine y_iinc (fun t14 => [some (.ref a0), some (.int t14)]) dX13_tickGoes_68 rfl kc_1 (by decide) (fun _ => rfl) (fun t14 et14 => ?_)
        have hf := z_l_el hf et14
        refine z_goto (tgt := 41) dX13_tickGoes_71 (by decide) ?_
        cases hf
        exact y_sub hk (z_le_c rfl (z_le_c rfl z_le_0))
      · have hf := z_if_t hf c13
        refine z_aload_n dX13_tickGoes_63 rfl rfl (z_okl g_a0) ?_
        refine z_iload_n dX13_tickGoes_64 rfl rfl ?_
        obtain ⟨q15, hq15, hf⟩ := z_b_el hf
        refine y_cVv (av := [.int p1]) (Nat.le_trans (Nat.le_of_ble_eq_true rfl) hd) (wX13_turnOf (z_dl rfl hd) hq15) oX13_turnOf lmX13_330 iX13_turnOf g_a0 rfl _ rfl rfl (Nat.le_of_ble_eq_true rfl) dX13_tickGoes_65 ?_
        refine y_iinc (fun t16 => [some (.ref a0), some (.int t16)]) dX13_tickGoes_68 rfl kc_1 (by decide) (fun _ => rfl) (fun t16 et16 => ?_)
        have hf := z_l_el hf et16
        refine z_goto (tgt := 41) dX13_tickGoes_71 (by decide) ?_
        cases hf
        exact y_sub hk (z_le_c rfl (z_le_c rfl z_le_0))
def fX13_tickGoes (a0 : Nat) (I : Nat → Nat → Int32) (R : Nat → Nat → Nat) : Option ((Nat → Nat → Int32)) :=
  z_g (z_ob a0 13) (z_l (z_u I a0 46 ((I a0 46) + (1 : Int32))) (fun I1 => z_b (z_lp (fX13_tickGoes_b12 a0 R) 300 ((0 : Int32), I1)) (fun q7 => z_b (z_lp (fX13_tickGoes_b41 a0 R) 300 ((0 : Int32), q7)) (fun q17 => z_b (fX13_apartNow a0 q17 R) (fun q18 => z_b (fX13_max (q17 a0 47) q18) (fun q19 => z_l (z_u q17 a0 47 q19) (fun I20 => z_g (z_ok 1 (R a0 0) (80 : Int32)) (z_l (z_u I20 (R a0 0) (80 : Int32).toNatClampNeg ((I20 (R a0 0) (80 : Int32).toNatClampNeg) + (1 : Int32))) (fun I22 => some I22)))))))))
theorem vX13_tickGoes {G : z_G} {d : Nat} {Q : Option Value → z_S → z_H → Prop} {a0 : Nat} {I : Nat → Nat → Int32} {R : Nat → Nat → Nat} {q : (Nat → Nat → Int32)} (hd : 7 ≤ d) (hf : fX13_tickGoes a0 I R = some q) (hk : Q none z_SH (q, R)) : z_W G eX13_tickGoes d 0 0 0 [some (.ref a0), none] [] z_SH (I, R) Q := by
  unfold fX13_tickGoes at hf
  obtain ⟨g_a0, hf⟩ := z_g_el hf
  refine z_aload_n dX13_tickGoes_0 rfl rfl (z_okl g_a0) ?_
  refine z_aload_n dX13_tickGoes_1 rfl rfl (z_okl g_a0) ?_
  refine y_getI lfX13_300 rfl g_a0 dX13_tickGoes_2 ?_
  refine z_iconst dX13_tickGoes_5 kc_1 ?_
  refine z_iadd dX13_tickGoes_6 ?_
  refine y_putI lfX13_300 rfl g_a0 rfl rfl rfl dX13_tickGoes_7 (fun I1 eI1 => ?_)
  have hf := z_l_el hf eI1
  refine z_iconst dX13_tickGoes_10 kc_0 ?_
  refine y_istore_n0 [some (.ref a0), some (.int (0 : Int32))] dX13_tickGoes_11 rfl (by decide) rfl ?_
  obtain ⟨q7, hq7, hf⟩ := z_b_el hf
  refine y_sub (lv' := [some (.ref a0), some (.int (0 : Int32))]) ?_ (z_le_c rfl (z_le_c rfl z_le_0))
  refine z_lp_el (P := (fun s : Int32 × (Nat → Nat → Int32) => z_W G eX13_tickGoes d 0 0 12 [some (.ref a0), some (.int s.1)] [] z_SH (s.2, R) Q)) (E := (fun x : (Nat → Nat → Int32) => z_W G eX13_tickGoes d 0 0 39 [some (.ref a0), none] [] z_SH (x, R) Q)) (wX13_tickGoes_b12 hd g_a0) 300 ((0 : Int32), I1) q7 hq7 ?_
  show z_W G eX13_tickGoes d 0 0 39 [some (.ref a0), none] [] z_SH (q7, R) _
  refine z_iconst dX13_tickGoes_39 kc_0 ?_
  refine y_istore_n0 [some (.ref a0), some (.int (0 : Int32))] dX13_tickGoes_40 rfl (by decide) rfl ?_
  obtain ⟨q17, hq17, hf⟩ := z_b_el hf
  refine y_sub (lv' := [some (.ref a0), some (.int (0 : Int32))]) ?_ (z_le_c rfl (z_le_c rfl z_le_0))
  refine z_lp_el (P := (fun s : Int32 × (Nat → Nat → Int32) => z_W G eX13_tickGoes d 0 0 41 [some (.ref a0), some (.int s.1)] [] z_SH (s.2, R) Q)) (E := (fun x : (Nat → Nat → Int32) => z_W G eX13_tickGoes d 0 0 74 [some (.ref a0), none] [] z_SH (x, R) Q)) (wX13_tickGoes_b41 hd g_a0) 300 ((0 : Int32), q7) q17 hq17 ?_
  show z_W G eX13_tickGoes d 0 0 74 [some (.ref a0), none] [] z_SH (q17, R) _
  refine z_aload_n dX13_tickGoes_74 rfl rfl (z_okl g_a0) ?_
  refine z_aload_n dX13_tickGoes_75 rfl rfl (z_okl g_a0) ?_
  refine y_getI lfX13_333 rfl g_a0 dX13_tickGoes_76 ?_
  refine z_aload_n dX13_tickGoes_79 rfl rfl (z_okl g_a0) ?_
  obtain ⟨q18, hq18, hf⟩ := z_b_el hf
  refine y_cVi (av := []) (Nat.le_trans (Nat.le_of_ble_eq_true rfl) hd) (wX13_apartNow (z_dl rfl hd) hq18) oX13_apartNow lmX13_336 iX13_apartNow g_a0 rfl _ rfl rfl (Nat.le_of_ble_eq_true rfl) dX13_tickGoes_80 ?_
  obtain ⟨q19, hq19, hf⟩ := z_b_el hf
  refine y_cSi (Nat.le_trans (Nat.le_of_ble_eq_true rfl) hd) (wX13_max (z_dl rfl hd) hq19) oX13_max lmX13_294 sX13_max _ rfl rfl (Nat.le_of_ble_eq_true rfl) dX13_tickGoes_83 ?_
  refine y_putI lfX13_333 rfl g_a0 rfl rfl rfl dX13_tickGoes_86 (fun I20 eI20 => ?_)
  have hf := z_l_el hf eI20
  refine z_aload_n dX13_tickGoes_89 rfl rfl (z_okl g_a0) ?_
  refine y_getR lfX13_7 rfl g_a0 dX13_tickGoes_90 ?_
  refine z_bipush dX13_tickGoes_93 kb_80 ?_
  refine z_aload_n dX13_tickGoes_95 rfl rfl (z_okl g_a0) ?_
  refine y_getR lfX13_7 rfl g_a0 dX13_tickGoes_96 ?_
  refine z_bipush dX13_tickGoes_99 kb_80 ?_
  obtain ⟨g21, hf⟩ := z_g_el hf
  refine y_iald g21 dX13_tickGoes_101 ?_
  refine z_iconst dX13_tickGoes_102 kc_1 ?_
  refine z_iadd dX13_tickGoes_103 ?_
  refine y_iast g21 dX13_tickGoes_104 (fun I22 eI22 => ?_)
  have hf := z_l_el hf eI22
  cases hf
  exact z_vret hk rfl dX13_tickGoes_105
theorem wX13_tickGoes {G : z_G} {d : Nat} {a0 : Nat} {I : Nat → Nat → Int32} {R : Nat → Nat → Nat} {q : (Nat → Nat → Int32)} (hd : 7 ≤ d) (hf : fX13_tickGoes a0 I R = some q) : z_M G d 0 0 eX13_tickGoes [.ref a0] z_SH (I, R) (z_E none (q, R)) :=
  y_M_of _ (by decide +kernel) rfl rfl rfl (vX13_tickGoes hd hf ⟨rfl, rfl, rfl⟩)
def fX13_beginsTicks (a0 : Nat) (I : Nat → Nat → Int32) : Option ((Nat → Nat → Int32)) :=
  z_g (z_ob a0 13) (z_l (z_u I a0 43 (0 : Int32)) (fun I1 => z_l (z_u I1 a0 44 (0 : Int32)) (fun I2 => z_l (z_u I2 a0 45 (0 : Int32)) (fun I3 => z_l (z_u I3 a0 46 (0 : Int32)) (fun I4 => z_l (z_u I4 a0 47 (0 : Int32)) (fun I5 => z_l (z_u I5 a0 48 (-1 : Int32)) (fun I6 => z_l (z_u I6 a0 49 (0 : Int32)) (fun I7 => z_l (z_u I7 a0 50 (-1 : Int32)) (fun I8 => z_l (z_u I8 a0 51 (0 : Int32)) (fun I9 => some I9))))))))))
theorem vX13_beginsTicks {G : z_G} {d : Nat} {Q : Option Value → z_S → z_H → Prop} {a0 : Nat} {I : Nat → Nat → Int32} {R : Nat → Nat → Nat} {q : (Nat → Nat → Int32)} (hd : 0 ≤ d) (hf : fX13_beginsTicks a0 I = some q) (hk : Q none z_SH (q, R)) : z_W G eX13_beginsTicks d 0 0 0 [some (.ref a0)] [] z_SH (I, R) Q := by
  unfold fX13_beginsTicks at hf
  obtain ⟨g_a0, hf⟩ := z_g_el hf
  refine z_aload_n dX13_beginsTicks_0 rfl rfl (z_okl g_a0) ?_
  refine z_iconst dX13_beginsTicks_1 kc_0 ?_
  refine y_putI lfX13_285 rfl g_a0 rfl rfl rfl dX13_beginsTicks_2 (fun I1 eI1 => ?_)
  have hf := z_l_el hf eI1
  refine z_aload_n dX13_beginsTicks_5 rfl rfl (z_okl g_a0) ?_
  refine z_iconst dX13_beginsTicks_6 kc_0 ?_
  refine y_putI lfX13_288 rfl g_a0 rfl rfl rfl dX13_beginsTicks_7 (fun I2 eI2 => ?_)
  have hf := z_l_el hf eI2
  refine z_aload_n dX13_beginsTicks_10 rfl rfl (z_okl g_a0) ?_
  refine z_iconst dX13_beginsTicks_11 kc_0 ?_
  refine y_putI lfX13_322 rfl g_a0 rfl rfl rfl dX13_beginsTicks_12 (fun I3 eI3 => ?_)
  have hf := z_l_el hf eI3
  refine z_aload_n dX13_beginsTicks_15 rfl rfl (z_okl g_a0) ?_
  refine z_iconst dX13_beginsTicks_16 kc_0 ?_
  refine y_putI lfX13_300 rfl g_a0 rfl rfl rfl dX13_beginsTicks_17 (fun I4 eI4 => ?_)
  have hf := z_l_el hf eI4
  refine z_aload_n dX13_beginsTicks_20 rfl rfl (z_okl g_a0) ?_
  refine z_iconst dX13_beginsTicks_21 kc_0 ?_
  refine y_putI lfX13_333 rfl g_a0 rfl rfl rfl dX13_beginsTicks_22 (fun I5 eI5 => ?_)
  have hf := z_l_el hf eI5
  refine z_aload_n dX13_beginsTicks_25 rfl rfl (z_okl g_a0) ?_
  refine z_iconst dX13_beginsTicks_26 kc_m1 ?_
  refine y_putI lfX13_297 rfl g_a0 rfl rfl rfl dX13_beginsTicks_27 (fun I6 eI6 => ?_)
  have hf := z_l_el hf eI6
  refine z_aload_n dX13_beginsTicks_30 rfl rfl (z_okl g_a0) ?_
  refine z_iconst dX13_beginsTicks_31 kc_0 ?_
  refine y_putI lfX13_303 rfl g_a0 rfl rfl rfl dX13_beginsTicks_32 (fun I7 eI7 => ?_)
  have hf := z_l_el hf eI7
  refine z_aload_n dX13_beginsTicks_35 rfl rfl (z_okl g_a0) ?_
  refine z_iconst dX13_beginsTicks_36 kc_m1 ?_
  refine y_putI lfX13_306 rfl g_a0 rfl rfl rfl dX13_beginsTicks_37 (fun I8 eI8 => ?_)
  have hf := z_l_el hf eI8
  refine z_aload_n dX13_beginsTicks_40 rfl rfl (z_okl g_a0) ?_
  refine z_iconst dX13_beginsTicks_41 kc_0 ?_
  refine y_putI lfX13_309 rfl g_a0 rfl rfl rfl dX13_beginsTicks_42 (fun I9 eI9 => ?_)
  have hf := z_l_el hf eI9
  cases hf
  exact z_vret hk rfl dX13_beginsTicks_45
theorem wX13_beginsTicks {G : z_G} {d : Nat} {a0 : Nat} {I : Nat → Nat → Int32} {R : Nat → Nat → Nat} {q : (Nat → Nat → Int32)} (hd : 0 ≤ d) (hf : fX13_beginsTicks a0 I = some q) : z_M G d 0 0 eX13_beginsTicks [.ref a0] z_SH (I, R) (z_E none (q, R)) :=
  y_M_of _ (by decide +kernel) rfl rfl rfl (vX13_beginsTicks hd hf ⟨rfl, rfl, rfl⟩)
def fX13_ticksGo_b6 (a0 : Nat) (z1 : Int32) (R : Nat → Nat → Nat) : (Int32 × (Nat → Nat → Int32)) → Option ((Int32 × (Nat → Nat → Int32)) ⊕ ((Nat → Nat → Int32))) :=
  fun s => (fun (p2 : Int32) (I : Nat → Nat → Int32) => if z1 ≤ p2 then (some (.inr I)) else (z_g (z_ok 1 (R a0 0) (80 : Int32)) (if (99999 : Int32) ≤ (I (R a0 0) (80 : Int32).toNatClampNeg) then (some (.inr I)) else (z_b (fX13_tickGoes a0 I R) (fun q5 => z_l (p2 + (1 : Int32)) (fun t6 => some (.inl (t6, q5)))))))) s.1 s.2
theorem wX13_ticksGo_b6 {G : z_G} {d : Nat} {Q : Option Value → z_S → z_H → Prop} {a0 : Nat} {z1 : Int32} {R : Nat → Nat → Nat} (hd : 8 ≤ d) (g_a0 : z_ob a0 13) : ∀ (s : Int32 × (Nat → Nat → Int32)) (o : (Int32 × (Nat → Nat → Int32)) ⊕ ((Nat → Nat → Int32))), fX13_ticksGo_b6 a0 z1 R s = some o → z_or (fun s : Int32 × (Nat → Nat → Int32) => z_W G eX13_ticksGo d 0 0 6 [some (.ref a0), some (.int z1), some (.int s.1)] [] z_SH (s.2, R) Q) (fun x : (Nat → Nat → Int32) => z_W G eX13_ticksGo d 0 0 34 [none, none, none] [] z_SH (x, R) Q) o → (fun s : Int32 × (Nat → Nat → Int32) => z_W G eX13_ticksGo d 0 0 6 [some (.ref a0), some (.int z1), some (.int s.1)] [] z_SH (s.2, R) Q) s := by
  rintro ⟨p2, I⟩ o hf hk
  show z_W G eX13_ticksGo d 0 0 6 [some (.ref a0), some (.int z1), some (.int p2)] [] z_SH (I, R) Q
  unfold fX13_ticksGo_b6 at hf
  try dsimp only at hf
  refine z_iload_n dX13_ticksGo_6 rfl rfl ?_
  refine z_iload_n dX13_ticksGo_7 rfl rfl ?_
  refine z_icmp_ge (tgt := 34) dX13_ticksGo_8 (by decide) (fun c2 => ?_) (fun c2 => ?_)
  · have hf := z_if_t hf c2
    cases hf
    exact y_sub hk (z_le_n (z_le_n (z_le_n z_le_0)))
  · have hf := z_if_f hf c2
    refine z_aload_n dX13_ticksGo_11 rfl rfl (z_okl g_a0) ?_
    refine y_getR lfX13_7 rfl g_a0 dX13_ticksGo_12 ?_
    refine z_bipush dX13_ticksGo_15 kb_80 ?_
    obtain ⟨g3, hf⟩ := z_g_el hf
    refine y_iald g3 dX13_ticksGo_17 ?_
    refine z_ldcw dX13_ticksGo_18 lkX13_342 ?_
    refine z_icmp_ge (tgt := 34) dX13_ticksGo_21 (by decide) (fun c4 => ?_) (fun c4 => ?_)
    · have hf := z_if_t hf c4
      cases hf
      exact y_sub hk (z_le_n (z_le_n (z_le_n z_le_0)))
    · have hf := z_if_f hf c4
      refine z_aload_n dX13_ticksGo_24 rfl rfl (z_okl g_a0) ?_
      obtain ⟨q5, hq5, hf⟩ := z_b_el hf
      refine y_cVv (av := []) (Nat.le_trans (Nat.le_of_ble_eq_true rfl) hd) (wX13_tickGoes (z_dl rfl hd) hq5) oX13_tickGoes lmX13_343 iX13_tickGoes g_a0 rfl _ rfl rfl (Nat.le_of_ble_eq_true rfl) dX13_ticksGo_25 ?_
      refine y_iinc (fun t6 => [some (.ref a0), some (.int z1), some (.int t6)]) dX13_ticksGo_28 rfl kc_1 (by decide) (fun _ => rfl) (fun t6 et6 => ?_)
      have hf := z_l_el hf et6
      refine z_goto (tgt := 6) dX13_ticksGo_31 (by decide) ?_
      cases hf
      exact y_sub hk (z_le_c rfl (z_le_c rfl (z_le_c rfl z_le_0)))
def fX13_ticksGo (a0 : Nat) (x1 : Int32) (I : Nat → Nat → Int32) (R : Nat → Nat → Nat) : Option ((Nat → Nat → Int32)) :=
  z_g (z_ob a0 13) (z_b (fX13_beginsTicks a0 I) (fun q1 => z_b (z_lp (fX13_ticksGo_b6 a0 x1 R) 300 ((0 : Int32), q1)) (fun q7 => some q7)))
theorem vX13_ticksGo {G : z_G} {d : Nat} {Q : Option Value → z_S → z_H → Prop} {a0 : Nat} {x1 : Int32} {I : Nat → Nat → Int32} {R : Nat → Nat → Nat} {q : (Nat → Nat → Int32)} (hd : 8 ≤ d) (hf : fX13_ticksGo a0 x1 I R = some q) (hk : Q none z_SH (q, R)) : z_W G eX13_ticksGo d 0 0 0 [some (.ref a0), some (.int x1), none] [] z_SH (I, R) Q := by
  unfold fX13_ticksGo at hf
  obtain ⟨g_a0, hf⟩ := z_g_el hf
  refine z_aload_n dX13_ticksGo_0 rfl rfl (z_okl g_a0) ?_
  obtain ⟨q1, hq1, hf⟩ := z_b_el hf
  refine y_cVv (av := []) (Nat.le_trans (Nat.le_of_ble_eq_true rfl) hd) (wX13_beginsTicks (z_dl rfl hd) hq1) oX13_beginsTicks lmX13_339 iX13_beginsTicks g_a0 rfl _ rfl rfl (Nat.le_of_ble_eq_true rfl) dX13_ticksGo_1 ?_
  refine z_iconst dX13_ticksGo_4 kc_0 ?_
  refine y_istore_n0 [some (.ref a0), some (.int x1), some (.int (0 : Int32))] dX13_ticksGo_5 rfl (by decide) rfl ?_
  obtain ⟨q7, hq7, hf⟩ := z_b_el hf
  refine y_sub (lv' := [some (.ref a0), some (.int x1), some (.int (0 : Int32))]) ?_ (z_le_c rfl (z_le_c rfl (z_le_c rfl z_le_0)))
  refine z_lp_el (P := (fun s : Int32 × (Nat → Nat → Int32) => z_W G eX13_ticksGo d 0 0 6 [some (.ref a0), some (.int x1), some (.int s.1)] [] z_SH (s.2, R) Q)) (E := (fun x : (Nat → Nat → Int32) => z_W G eX13_ticksGo d 0 0 34 [none, none, none] [] z_SH (x, R) Q)) (wX13_ticksGo_b6 hd g_a0) 300 ((0 : Int32), q1) q7 hq7 ?_
  show z_W G eX13_ticksGo d 0 0 34 [none, none, none] [] z_SH (q7, R) _
  cases hf
  exact z_vret hk rfl dX13_ticksGo_34
theorem wX13_ticksGo {G : z_G} {d : Nat} {a0 : Nat} {x1 : Int32} {I : Nat → Nat → Int32} {R : Nat → Nat → Nat} {q : (Nat → Nat → Int32)} (hd : 8 ≤ d) (hf : fX13_ticksGo a0 x1 I R = some q) : z_M G d 0 0 eX13_ticksGo [.ref a0, .int x1] z_SH (I, R) (z_E none (q, R)) :=
  y_M_of _ (by decide +kernel) rfl rfl rfl (vX13_ticksGo hd hf ⟨rfl, rfl, rfl⟩)
def fX13_ticks (a0 : Nat) (x1 : Int32) (I : Nat → Nat → Int32) (R : Nat → Nat → Nat) : Option (Int32 × (Nat → Nat → Int32)) :=
  z_g (z_ob a0 13) (z_b (fX13_in x1 (1 : Int32) (240 : Int32)) (fun q1 => if q1 = 0 then (some ((-1 : Int32), I)) else (z_b (fX13_ticksGo a0 x1 I R) (fun q3 => some (q3 a0 43, q3)))))
theorem vX13_ticks {G : z_G} {d : Nat} {Q : Option Value → z_S → z_H → Prop} {a0 : Nat} {x1 : Int32} {I : Nat → Nat → Int32} {R : Nat → Nat → Nat} {q : Int32 × (Nat → Nat → Int32)} (hd : 9 ≤ d) (hf : fX13_ticks a0 x1 I R = some q) (hk : Q (some (.int q.1)) z_SH (q.2, R)) : z_W G eX13_ticks d 0 0 0 [some (.ref a0), some (.int x1)] [] z_SH (I, R) Q := by
  unfold fX13_ticks at hf
  obtain ⟨g_a0, hf⟩ := z_g_el hf
  refine z_iload_n dX13_ticks_0 rfl rfl ?_
  refine z_iconst dX13_ticks_1 kc_1 ?_
  refine z_sipush dX13_ticks_2 ks_240 ?_
  obtain ⟨q1, hq1, hf⟩ := z_b_el hf
  refine y_cSi (Nat.le_trans (Nat.le_of_ble_eq_true rfl) hd) (wX13_in (z_dl rfl hd) hq1) oX13_in lmX13_114 sX13_in _ rfl rfl (Nat.le_of_ble_eq_true rfl) dX13_ticks_5 ?_
  refine z_if_ne (tgt := 13) dX13_ticks_8 (by decide) (fun c2 => ?_) (fun c2 => ?_)
  · have hf := z_if_f hf c2
    refine z_aload_n dX13_ticks_13 rfl rfl (z_okl g_a0) ?_
    refine z_iload_n dX13_ticks_14 rfl rfl ?_
    obtain ⟨q3, hq3, hf⟩ := z_b_el hf
    refine y_cVv (av := [.int x1]) (Nat.le_trans (Nat.le_of_ble_eq_true rfl) hd) (wX13_ticksGo (z_dl rfl hd) hq3) oX13_ticksGo lmX13_346 iX13_ticksGo g_a0 rfl _ rfl rfl (Nat.le_of_ble_eq_true rfl) dX13_ticks_15 ?_
    refine z_aload_n dX13_ticks_18 rfl rfl (z_okl g_a0) ?_
    refine y_getI lfX13_285 rfl g_a0 dX13_ticks_19 ?_
    cases hf
    exact z_iret hk ⟨_, rfl, rfl⟩ dX13_ticks_22
  · have hf := z_if_t hf c2
    refine z_iconst dX13_ticks_11 kc_m1 ?_
    cases hf
    exact z_iret hk ⟨_, rfl, rfl⟩ dX13_ticks_12
theorem wX13_ticks {G : z_G} {d : Nat} {a0 : Nat} {x1 : Int32} {I : Nat → Nat → Int32} {R : Nat → Nat → Nat} {q : Int32 × (Nat → Nat → Int32)} (hd : 9 ≤ d) (hf : fX13_ticks a0 x1 I R = some q) : z_M G d 0 0 eX13_ticks [.ref a0, .int x1] z_SH (I, R) (z_E (some (.int q.1)) (q.2, R)) :=
  y_M_of _ (by decide +kernel) rfl rfl rfl (vX13_ticks hd hf ⟨rfl, rfl, rfl⟩)
def fX13_waitingSet_b4 (a0 : Nat) (I : Nat → Nat → Int32) (R : Nat → Nat → Nat) : (Int32 × Int32) → Option ((Int32 × Int32) ⊕ (Int32)) :=
  fun s => (fun (p1 : Int32) (p2 : Int32) => if (8 : Int32) ≤ p2 then (some (.inr p1)) else (z_b (fX13_isTold a0 p2 I R) (fun q2 => if q2 = 0 then (z_l (p2 + (1 : Int32)) (fun t4 => some (.inl (p1, t4)))) else (z_g (z_ok 1 (R a0 0) ((72 : Int32) + p2)) (if (I (R a0 0) ((72 : Int32) + p2).toNatClampNeg) = (1 : Int32) then (z_l (p1 ||| (z_shl (1 : Int32) p2)) (fun t8 => z_l (p2 + (1 : Int32)) (fun t9 => some (.inl (t8, t9))))) else (z_l (p2 + (1 : Int32)) (fun t7 => some (.inl (p1, t7))))))))) s.1 s.2
theorem wX13_waitingSet_b4 {G : z_G} {d : Nat} {Q : Option Value → z_S → z_H → Prop} {a0 : Nat} {I : Nat → Nat → Int32} {R : Nat → Nat → Nat} (hd : 2 ≤ d) (g_a0 : z_ob a0 13) : ∀ (s : Int32 × Int32) (o : (Int32 × Int32) ⊕ (Int32)), fX13_waitingSet_b4 a0 I R s = some o → z_or (fun s : Int32 × Int32 => z_W G eX13_waitingSet d 0 0 4 [some (.ref a0), some (.int s.1), some (.int s.2)] [] z_SH (I, R) Q) (fun x : Int32 => z_W G eX13_waitingSet d 0 0 43 [none, some (.int x), none] [] z_SH (I, R) Q) o → (fun s : Int32 × Int32 => z_W G eX13_waitingSet d 0 0 4 [some (.ref a0), some (.int s.1), some (.int s.2)] [] z_SH (I, R) Q) s := by
  rintro ⟨p1, p2⟩ o hf hk
  show z_W G eX13_waitingSet d 0 0 4 [some (.ref a0), some (.int p1), some (.int p2)] [] z_SH (I, R) Q
  unfold fX13_waitingSet_b4 at hf
  try dsimp only at hf
  refine z_iload_n dX13_waitingSet_4 rfl rfl ?_
  refine z_bipush dX13_waitingSet_5 kb_8 ?_
  refine z_icmp_ge (tgt := 43) dX13_waitingSet_7 (by decide) (fun c1 => ?_) (fun c1 => ?_)
  · have hf := z_if_t hf c1
    cases hf
    exact y_sub hk (z_le_n (z_le_c rfl (z_le_n z_le_0)))
  · have hf := z_if_f hf c1
    refine z_aload_n dX13_waitingSet_10 rfl rfl (z_okl g_a0) ?_
    refine z_iload_n dX13_waitingSet_11 rfl rfl ?_
    obtain ⟨q2, hq2, hf⟩ := z_b_el hf
    refine y_cVi (av := [.int p2]) (Nat.le_trans (Nat.le_of_ble_eq_true rfl) hd) (wX13_isTold (z_dl rfl hd) hq2) oX13_isTold lmX13_118 iX13_isTold g_a0 rfl _ rfl rfl (Nat.le_of_ble_eq_true rfl) dX13_waitingSet_12 ?_
    refine z_if_eq (tgt := 37) dX13_waitingSet_15 (by decide) (fun c3 => ?_) (fun c3 => ?_)
    · have hf := z_if_t hf c3
      refine y_iinc (fun t4 => [some (.ref a0), some (.int p1), some (.int t4)]) dX13_waitingSet_37 rfl kc_1 (by decide) (fun _ => rfl) (fun t4 et4 => ?_)
      have hf := z_l_el hf et4
      refine z_goto (tgt := 4) dX13_waitingSet_40 (by decide) ?_
      cases hf
      exact y_sub hk (z_le_c rfl (z_le_c rfl (z_le_c rfl z_le_0)))
    · have hf := z_if_f hf c3
      refine z_aload_n dX13_waitingSet_18 rfl rfl (z_okl g_a0) ?_
      refine y_getR lfX13_7 rfl g_a0 dX13_waitingSet_19 ?_
      refine z_bipush dX13_waitingSet_22 kb_72 ?_
      refine z_iload_n dX13_waitingSet_24 rfl rfl ?_
      refine z_iadd dX13_waitingSet_25 ?_
      obtain ⟨g5, hf⟩ := z_g_el hf
      refine y_iald g5 dX13_waitingSet_26 ?_
      refine z_iconst dX13_waitingSet_27 kc_1 ?_
      refine z_icmp_ne (tgt := 37) dX13_waitingSet_28 (by decide) (fun c6 => ?_) (fun c6 => ?_)
      · have hf := z_if_f hf c6
        refine y_iinc (fun t7 => [some (.ref a0), some (.int p1), some (.int t7)]) dX13_waitingSet_37 rfl kc_1 (by decide) (fun _ => rfl) (fun t7 et7 => ?_)
        have hf := z_l_el hf et7
        refine z_goto (tgt := 4) dX13_waitingSet_40 (by decide) ?_
        cases hf
        exact y_sub hk (z_le_c rfl (z_le_c rfl (z_le_c rfl z_le_0)))
      · have hf := z_if_t hf c6
        refine z_iload_n dX13_waitingSet_31 rfl rfl ?_
        refine z_iconst dX13_waitingSet_32 kc_1 ?_
        refine z_iload_n dX13_waitingSet_33 rfl rfl ?_
        refine y_ishl dX13_waitingSet_34 ?_
        refine z_ior dX13_waitingSet_35 ?_
        refine y_istore_n (fun t8 => [some (.ref a0), some (.int t8), some (.int p2)]) dX13_waitingSet_36 rfl (by decide) (fun _ => rfl) (fun t8 et8 => ?_)
        have hf := z_l_el hf et8
        refine y_iinc (fun t9 => [some (.ref a0), some (.int t8), some (.int t9)]) dX13_waitingSet_37 rfl kc_1 (by decide) (fun _ => rfl) (fun t9 et9 => ?_)
        have hf := z_l_el hf et9
        refine z_goto (tgt := 4) dX13_waitingSet_40 (by decide) ?_
        cases hf
        exact y_sub hk (z_le_c rfl (z_le_c rfl (z_le_c rfl z_le_0)))
def fX13_waitingSet (a0 : Nat) (I : Nat → Nat → Int32) (R : Nat → Nat → Nat) : Option (Int32) :=
  z_g (z_ob a0 13) (z_b (z_lp (fX13_waitingSet_b4 a0 I R) 300 ((0 : Int32), (0 : Int32))) (fun q10 => some q10))
theorem vX13_waitingSet {G : z_G} {d : Nat} {Q : Option Value → z_S → z_H → Prop} {a0 : Nat} {I : Nat → Nat → Int32} {R : Nat → Nat → Nat} {q : Int32} (hd : 2 ≤ d) (hf : fX13_waitingSet a0 I R = some q) (hk : Q (some (.int q)) z_SH (I, R)) : z_W G eX13_waitingSet d 0 0 0 [some (.ref a0), none, none] [] z_SH (I, R) Q := by
  unfold fX13_waitingSet at hf
  obtain ⟨g_a0, hf⟩ := z_g_el hf
  refine z_iconst dX13_waitingSet_0 kc_0 ?_
  refine y_istore_n0 [some (.ref a0), some (.int (0 : Int32)), none] dX13_waitingSet_1 rfl (by decide) rfl ?_
  refine z_iconst dX13_waitingSet_2 kc_0 ?_
  refine y_istore_n0 [some (.ref a0), some (.int (0 : Int32)), some (.int (0 : Int32))] dX13_waitingSet_3 rfl (by decide) rfl ?_
  obtain ⟨q10, hq10, hf⟩ := z_b_el hf
  refine y_sub (lv' := [some (.ref a0), some (.int (0 : Int32)), some (.int (0 : Int32))]) ?_ (z_le_c rfl (z_le_c rfl (z_le_c rfl z_le_0)))
  refine z_lp_el (P := (fun s : Int32 × Int32 => z_W G eX13_waitingSet d 0 0 4 [some (.ref a0), some (.int s.1), some (.int s.2)] [] z_SH (I, R) Q)) (E := (fun x : Int32 => z_W G eX13_waitingSet d 0 0 43 [none, some (.int x), none] [] z_SH (I, R) Q)) (wX13_waitingSet_b4 hd g_a0) 300 ((0 : Int32), (0 : Int32)) q10 hq10 ?_
  show z_W G eX13_waitingSet d 0 0 43 [none, some (.int q10), none] [] z_SH (I, R) _
  refine z_iload_n dX13_waitingSet_43 rfl rfl ?_
  cases hf
  exact z_iret hk ⟨_, rfl, rfl⟩ dX13_waitingSet_44
theorem wX13_waitingSet {G : z_G} {d : Nat} {a0 : Nat} {I : Nat → Nat → Int32} {R : Nat → Nat → Nat} {q : Int32} (hd : 2 ≤ d) (hf : fX13_waitingSet a0 I R = some q) : z_M G d 0 0 eX13_waitingSet [.ref a0] z_SH (I, R) (z_E (some (.int q)) (I, R)) :=
  y_M_of _ (by decide +kernel) rfl rfl rfl (vX13_waitingSet hd hf ⟨rfl, rfl, rfl⟩)
def fX13_doneSet_b4 (a0 : Nat) (I : Nat → Nat → Int32) (R : Nat → Nat → Nat) : (Int32 × Int32) → Option ((Int32 × Int32) ⊕ (Int32)) :=
  fun s => (fun (p1 : Int32) (p2 : Int32) => if (8 : Int32) ≤ p2 then (some (.inr p1)) else (z_b (fX13_isTold a0 p2 I R) (fun q2 => if q2 = 0 then (z_l (p2 + (1 : Int32)) (fun t4 => some (.inl (p1, t4)))) else (z_b (fX13_isDone a0 p2 I R) (fun q5 => if q5 = 0 then (z_l (p2 + (1 : Int32)) (fun t7 => some (.inl (p1, t7)))) else (z_l (p1 ||| (z_shl (1 : Int32) p2)) (fun t8 => z_l (p2 + (1 : Int32)) (fun t9 => some (.inl (t8, t9)))))))))) s.1 s.2
theorem wX13_doneSet_b4 {G : z_G} {d : Nat} {Q : Option Value → z_S → z_H → Prop} {a0 : Nat} {I : Nat → Nat → Int32} {R : Nat → Nat → Nat} (hd : 2 ≤ d) (g_a0 : z_ob a0 13) : ∀ (s : Int32 × Int32) (o : (Int32 × Int32) ⊕ (Int32)), fX13_doneSet_b4 a0 I R s = some o → z_or (fun s : Int32 × Int32 => z_W G eX13_doneSet d 0 0 4 [some (.ref a0), some (.int s.1), some (.int s.2)] [] z_SH (I, R) Q) (fun x : Int32 => z_W G eX13_doneSet d 0 0 38 [none, some (.int x), none] [] z_SH (I, R) Q) o → (fun s : Int32 × Int32 => z_W G eX13_doneSet d 0 0 4 [some (.ref a0), some (.int s.1), some (.int s.2)] [] z_SH (I, R) Q) s := by
  rintro ⟨p1, p2⟩ o hf hk
  show z_W G eX13_doneSet d 0 0 4 [some (.ref a0), some (.int p1), some (.int p2)] [] z_SH (I, R) Q
  unfold fX13_doneSet_b4 at hf
  try dsimp only at hf
  refine z_iload_n dX13_doneSet_4 rfl rfl ?_
  refine z_bipush dX13_doneSet_5 kb_8 ?_
  refine z_icmp_ge (tgt := 38) dX13_doneSet_7 (by decide) (fun c1 => ?_) (fun c1 => ?_)
  · have hf := z_if_t hf c1
    cases hf
    exact y_sub hk (z_le_n (z_le_c rfl (z_le_n z_le_0)))
  · have hf := z_if_f hf c1
    refine z_aload_n dX13_doneSet_10 rfl rfl (z_okl g_a0) ?_
    refine z_iload_n dX13_doneSet_11 rfl rfl ?_
    obtain ⟨q2, hq2, hf⟩ := z_b_el hf
    refine y_cVi (av := [.int p2]) (Nat.le_trans (Nat.le_of_ble_eq_true rfl) hd) (wX13_isTold (z_dl rfl hd) hq2) oX13_isTold lmX13_118 iX13_isTold g_a0 rfl _ rfl rfl (Nat.le_of_ble_eq_true rfl) dX13_doneSet_12 ?_
    refine z_if_eq (tgt := 32) dX13_doneSet_15 (by decide) (fun c3 => ?_) (fun c3 => ?_)
    · have hf := z_if_t hf c3
      refine y_iinc (fun t4 => [some (.ref a0), some (.int p1), some (.int t4)]) dX13_doneSet_32 rfl kc_1 (by decide) (fun _ => rfl) (fun t4 et4 => ?_)
      have hf := z_l_el hf et4
      refine z_goto (tgt := 4) dX13_doneSet_35 (by decide) ?_
      cases hf
      exact y_sub hk (z_le_c rfl (z_le_c rfl (z_le_c rfl z_le_0)))
    · have hf := z_if_f hf c3
      refine z_aload_n dX13_doneSet_18 rfl rfl (z_okl g_a0) ?_
      refine z_iload_n dX13_doneSet_19 rfl rfl ?_
      obtain ⟨q5, hq5, hf⟩ := z_b_el hf
      refine y_cVi (av := [.int p2]) (Nat.le_trans (Nat.le_of_ble_eq_true rfl) hd) (wX13_isDone (z_dl rfl hd) hq5) oX13_isDone lmX13_270 iX13_isDone g_a0 rfl _ rfl rfl (Nat.le_of_ble_eq_true rfl) dX13_doneSet_20 ?_
      refine z_if_eq (tgt := 32) dX13_doneSet_23 (by decide) (fun c6 => ?_) (fun c6 => ?_)
      · have hf := z_if_t hf c6
        refine y_iinc (fun t7 => [some (.ref a0), some (.int p1), some (.int t7)]) dX13_doneSet_32 rfl kc_1 (by decide) (fun _ => rfl) (fun t7 et7 => ?_)
        have hf := z_l_el hf et7
        refine z_goto (tgt := 4) dX13_doneSet_35 (by decide) ?_
        cases hf
        exact y_sub hk (z_le_c rfl (z_le_c rfl (z_le_c rfl z_le_0)))
      · have hf := z_if_f hf c6
        refine z_iload_n dX13_doneSet_26 rfl rfl ?_
        refine z_iconst dX13_doneSet_27 kc_1 ?_
        refine z_iload_n dX13_doneSet_28 rfl rfl ?_
        refine y_ishl dX13_doneSet_29 ?_
        refine z_ior dX13_doneSet_30 ?_
        refine y_istore_n (fun t8 => [some (.ref a0), some (.int t8), some (.int p2)]) dX13_doneSet_31 rfl (by decide) (fun _ => rfl) (fun t8 et8 => ?_)
        have hf := z_l_el hf et8
        refine y_iinc (fun t9 => [some (.ref a0), some (.int t8), some (.int t9)]) dX13_doneSet_32 rfl kc_1 (by decide) (fun _ => rfl) (fun t9 et9 => ?_)
        have hf := z_l_el hf et9
        refine z_goto (tgt := 4) dX13_doneSet_35 (by decide) ?_
        cases hf
        exact y_sub hk (z_le_c rfl (z_le_c rfl (z_le_c rfl z_le_0)))
def fX13_doneSet (a0 : Nat) (I : Nat → Nat → Int32) (R : Nat → Nat → Nat) : Option (Int32) :=
  z_g (z_ob a0 13) (z_b (z_lp (fX13_doneSet_b4 a0 I R) 300 ((0 : Int32), (0 : Int32))) (fun q10 => some q10))
theorem vX13_doneSet {G : z_G} {d : Nat} {Q : Option Value → z_S → z_H → Prop} {a0 : Nat} {I : Nat → Nat → Int32} {R : Nat → Nat → Nat} {q : Int32} (hd : 2 ≤ d) (hf : fX13_doneSet a0 I R = some q) (hk : Q (some (.int q)) z_SH (I, R)) : z_W G eX13_doneSet d 0 0 0 [some (.ref a0), none, none] [] z_SH (I, R) Q := by
  unfold fX13_doneSet at hf
  obtain ⟨g_a0, hf⟩ := z_g_el hf
  refine z_iconst dX13_doneSet_0 kc_0 ?_
  refine y_istore_n0 [some (.ref a0), some (.int (0 : Int32)), none] dX13_doneSet_1 rfl (by decide) rfl ?_
  refine z_iconst dX13_doneSet_2 kc_0 ?_
  refine y_istore_n0 [some (.ref a0), some (.int (0 : Int32)), some (.int (0 : Int32))] dX13_doneSet_3 rfl (by decide) rfl ?_
  obtain ⟨q10, hq10, hf⟩ := z_b_el hf
  refine y_sub (lv' := [some (.ref a0), some (.int (0 : Int32)), some (.int (0 : Int32))]) ?_ (z_le_c rfl (z_le_c rfl (z_le_c rfl z_le_0)))
  refine z_lp_el (P := (fun s : Int32 × Int32 => z_W G eX13_doneSet d 0 0 4 [some (.ref a0), some (.int s.1), some (.int s.2)] [] z_SH (I, R) Q)) (E := (fun x : Int32 => z_W G eX13_doneSet d 0 0 38 [none, some (.int x), none] [] z_SH (I, R) Q)) (wX13_doneSet_b4 hd g_a0) 300 ((0 : Int32), (0 : Int32)) q10 hq10 ?_
  show z_W G eX13_doneSet d 0 0 38 [none, some (.int q10), none] [] z_SH (I, R) _
  refine z_iload_n dX13_doneSet_38 rfl rfl ?_
  cases hf
  exact z_iret hk ⟨_, rfl, rfl⟩ dX13_doneSet_39
theorem wX13_doneSet {G : z_G} {d : Nat} {a0 : Nat} {I : Nat → Nat → Int32} {R : Nat → Nat → Nat} {q : Int32} (hd : 2 ≤ d) (hf : fX13_doneSet a0 I R = some q) : z_M G d 0 0 eX13_doneSet [.ref a0] z_SH (I, R) (z_E (some (.int q)) (I, R)) :=
  y_M_of _ (by decide +kernel) rfl rfl rfl (vX13_doneSet hd hf ⟨rfl, rfl, rfl⟩)
def fX13_tried_j162 (a0 : Nat) (y3 : Int32) (I : Nat → Nat → Int32) (R : Nat → Nat → Nat) : Option (Int32 × (Nat → Nat → Int32)) :=
  z_b (fX13_copies (R a0 1) (R a0 0) I) (fun q9 => some (y3, q9))
theorem wX13_tried_j162 {G : z_G} {d : Nat} {Q : Option Value → z_S → z_H → Prop} {a0 : Nat} {y3 : Int32} {I : Nat → Nat → Int32} {R : Nat → Nat → Nat} {o : Int32 × (Nat → Nat → Int32)} (hd : 9 ≤ d) (g_a0 : z_ob a0 13) (hf : fX13_tried_j162 a0 y3 I R = some o) (hk : Q (some (.int o.1)) z_SH (o.2, R)) : z_W G eX13_tried d 0 0 162 [some (.ref a0), none, none, some (.int y3)] [] z_SH (I, R) Q := by
  unfold fX13_tried_j162 at hf
  refine z_aload_n dX13_tried_162 rfl rfl (z_okl g_a0) ?_
  refine y_getR lfX13_13 rfl g_a0 dX13_tried_163 ?_
  refine z_aload_n dX13_tried_166 rfl rfl (z_okl g_a0) ?_
  refine y_getR lfX13_7 rfl g_a0 dX13_tried_167 ?_
  obtain ⟨q9, hq9, hf⟩ := z_b_el hf
  refine y_cSv (Nat.le_trans (Nat.le_of_ble_eq_true rfl) hd) (wX13_copies (z_dl rfl hd) hq9) oX13_copies lmX13_349 sX13_copies _ rfl rfl (Nat.le_of_ble_eq_true rfl) dX13_tried_170 ?_
  refine z_iload_n dX13_tried_173 rfl rfl ?_
  cases hf
  exact z_iret hk ⟨_, rfl, rfl⟩ dX13_tried_174
def fX13_tried_j155 (a0 : Nat) (y2 : Int32) (v0 : Nat) (v1 : Int32) (I : Nat → Nat → Int32) (R : Nat → Nat → Nat) : Option (Int32 × (Nat → Nat → Int32)) :=
  z_g (z_ok 1 v0 (v1 + (z_rem y2 (10 : Int32)))) (z_l (I v0 (v1 + (z_rem y2 (10 : Int32))).toNatClampNeg) (fun t20 => fX13_tried_j162 a0 t20 I R))
theorem wX13_tried_j155 {G : z_G} {d : Nat} {Q : Option Value → z_S → z_H → Prop} {a0 : Nat} {y2 : Int32} {v0 : Nat} {v1 : Int32} {I : Nat → Nat → Int32} {R : Nat → Nat → Nat} {o : Int32 × (Nat → Nat → Int32)} (hd : 9 ≤ d) (g_a0 : z_ob a0 13) (hf : fX13_tried_j155 a0 y2 v0 v1 I R = some o) (hk : Q (some (.int o.1)) z_SH (o.2, R)) : z_W G eX13_tried d 0 0 155 [some (.ref a0), none, some (.int y2), none] [.int v1, .ref v0] z_SH (I, R) Q := by
  unfold fX13_tried_j155 at hf
  refine z_iload_n dX13_tried_155 rfl rfl ?_
  refine z_bipush dX13_tried_156 kb_10 ?_
  refine y_irem dX13_tried_158 (by decide) ?_
  refine z_iadd dX13_tried_159 ?_
  obtain ⟨g19, hf⟩ := z_g_el hf
  refine y_iald g19 dX13_tried_160 ?_
  refine y_istore_n (fun t20 => [some (.ref a0), none, some (.int y2), some (.int t20)]) dX13_tried_161 rfl (by decide) (fun _ => rfl) (fun t20 et20 => ?_)
  have hf := z_l_el hf et20
  exact y_sub (wX13_tried_j162 hd g_a0 hf hk) (z_le_c rfl (z_le_n (z_le_n (z_le_c rfl z_le_0))))
def fX13_tried_j44 (a0 : Nat) (y1 : Int32) (y2 : Int32) (I : Nat → Nat → Int32) (R : Nat → Nat → Nat) : Option (Int32 × (Nat → Nat → Int32)) :=
  z_b (fX13_copies (R a0 0) (R a0 1) I) (fun q5 => z_b (fX13_ticksGo a0 y1 q5 R) (fun q6 => if y2 = (0 : Int32) then (z_l (q6 a0 43) (fun t8 => fX13_tried_j162 a0 t8 q6 R)) else (if y2 = (1 : Int32) then (z_l (q6 a0 44) (fun t11 => fX13_tried_j162 a0 t11 q6 R)) else (if y2 = (2 : Int32) then (z_l (q6 a0 45) (fun t13 => fX13_tried_j162 a0 t13 q6 R)) else (if y2 = (3 : Int32) then (z_b (fX13_waitingSet a0 q6 R) (fun q15 => z_b (fX13_bits q15) (fun q16 => fX13_tried_j162 a0 q16 q6 R))) else (if (20 : Int32) ≤ y2 then (if (30 : Int32) ≤ y2 then (fX13_tried_j155 a0 y2 (R a0 0) (56 : Int32) q6 R) else (fX13_tried_j155 a0 y2 (R a0 0) (48 : Int32) q6 R)) else (fX13_tried_j155 a0 y2 (R a0 0) (40 : Int32) q6 R)))))))
theorem wX13_tried_j44 {G : z_G} {d : Nat} {Q : Option Value → z_S → z_H → Prop} {a0 : Nat} {y1 : Int32} {y2 : Int32} {I : Nat → Nat → Int32} {R : Nat → Nat → Nat} {o : Int32 × (Nat → Nat → Int32)} (hd : 9 ≤ d) (g_a0 : z_ob a0 13) (hf : fX13_tried_j44 a0 y1 y2 I R = some o) (hk : Q (some (.int o.1)) z_SH (o.2, R)) : z_W G eX13_tried d 0 0 44 [some (.ref a0), some (.int y1), some (.int y2), none] [] z_SH (I, R) Q := by
  unfold fX13_tried_j44 at hf
  refine z_aload_n dX13_tried_44 rfl rfl (z_okl g_a0) ?_
  refine y_getR lfX13_7 rfl g_a0 dX13_tried_45 ?_
  refine z_aload_n dX13_tried_48 rfl rfl (z_okl g_a0) ?_
  refine y_getR lfX13_13 rfl g_a0 dX13_tried_49 ?_
  obtain ⟨q5, hq5, hf⟩ := z_b_el hf
  refine y_cSv (Nat.le_trans (Nat.le_of_ble_eq_true rfl) hd) (wX13_copies (z_dl rfl hd) hq5) oX13_copies lmX13_349 sX13_copies _ rfl rfl (Nat.le_of_ble_eq_true rfl) dX13_tried_52 ?_
  refine z_aload_n dX13_tried_55 rfl rfl (z_okl g_a0) ?_
  refine z_iload_n dX13_tried_56 rfl rfl ?_
  obtain ⟨q6, hq6, hf⟩ := z_b_el hf
  refine y_cVv (av := [.int y1]) (Nat.le_trans (Nat.le_of_ble_eq_true rfl) hd) (wX13_ticksGo (z_dl rfl hd) hq6) oX13_ticksGo lmX13_346 iX13_ticksGo g_a0 rfl _ rfl rfl (Nat.le_of_ble_eq_true rfl) dX13_tried_57 ?_
  refine z_iload_n dX13_tried_60 rfl rfl ?_
  by_cases c7 : y2 = (0 : Int32)
  · have hf := z_if_t hf c7
    refine z_tabIn (off := 31) (tgt := 92) dX13_tried_61 (by rw [c7]; decide) (by rw [c7]; decide) (by rw [c7]; rfl) (by decide) ?_
    refine z_aload_n dX13_tried_92 rfl rfl (z_okl g_a0) ?_
    refine y_getI lfX13_285 rfl g_a0 dX13_tried_93 ?_
    refine y_istore_n (fun t8 => [some (.ref a0), some (.int y1), some (.int y2), some (.int t8)]) dX13_tried_96 rfl (by decide) (fun _ => rfl) (fun t8 et8 => ?_)
    have hf := z_l_el hf et8
    refine z_goto (tgt := 162) dX13_tried_97 (by decide) ?_
    exact y_sub (wX13_tried_j162 hd g_a0 hf hk) (z_le_c rfl (z_le_n (z_le_n (z_le_c rfl z_le_0))))
  · have hf := z_if_f hf c7
    by_cases c10 : y2 = (1 : Int32)
    · have hf := z_if_t hf c10
      refine z_tabIn (off := 39) (tgt := 100) dX13_tried_61 (by rw [c10]; decide) (by rw [c10]; decide) (by rw [c10]; rfl) (by decide) ?_
      refine z_aload_n dX13_tried_100 rfl rfl (z_okl g_a0) ?_
      refine y_getI lfX13_288 rfl g_a0 dX13_tried_101 ?_
      refine y_istore_n (fun t11 => [some (.ref a0), some (.int y1), some (.int y2), some (.int t11)]) dX13_tried_104 rfl (by decide) (fun _ => rfl) (fun t11 et11 => ?_)
      have hf := z_l_el hf et11
      refine z_goto (tgt := 162) dX13_tried_105 (by decide) ?_
      exact y_sub (wX13_tried_j162 hd g_a0 hf hk) (z_le_c rfl (z_le_n (z_le_n (z_le_c rfl z_le_0))))
    · have hf := z_if_f hf c10
      by_cases c12 : y2 = (2 : Int32)
      · have hf := z_if_t hf c12
        refine z_tabIn (off := 47) (tgt := 108) dX13_tried_61 (by rw [c12]; decide) (by rw [c12]; decide) (by rw [c12]; rfl) (by decide) ?_
        refine z_aload_n dX13_tried_108 rfl rfl (z_okl g_a0) ?_
        refine y_getI lfX13_322 rfl g_a0 dX13_tried_109 ?_
        refine y_istore_n (fun t13 => [some (.ref a0), some (.int y1), some (.int y2), some (.int t13)]) dX13_tried_112 rfl (by decide) (fun _ => rfl) (fun t13 et13 => ?_)
        have hf := z_l_el hf et13
        refine z_goto (tgt := 162) dX13_tried_113 (by decide) ?_
        exact y_sub (wX13_tried_j162 hd g_a0 hf hk) (z_le_c rfl (z_le_n (z_le_n (z_le_c rfl z_le_0))))
      · have hf := z_if_f hf c12
        by_cases c14 : y2 = (3 : Int32)
        · have hf := z_if_t hf c14
          refine z_tabIn (off := 55) (tgt := 116) dX13_tried_61 (by rw [c14]; decide) (by rw [c14]; decide) (by rw [c14]; rfl) (by decide) ?_
          refine z_aload_n dX13_tried_116 rfl rfl (z_okl g_a0) ?_
          obtain ⟨q15, hq15, hf⟩ := z_b_el hf
          refine y_cVi (av := []) (Nat.le_trans (Nat.le_of_ble_eq_true rfl) hd) (wX13_waitingSet (z_dl rfl hd) hq15) oX13_waitingSet lmX13_353 iX13_waitingSet g_a0 rfl _ rfl rfl (Nat.le_of_ble_eq_true rfl) dX13_tried_117 ?_
          obtain ⟨q16, hq16, hf⟩ := z_b_el hf
          refine y_cSi (Nat.le_trans (Nat.le_of_ble_eq_true rfl) hd) (wX13_bits (z_dl rfl hd) hq16) oX13_bits lmX13_130 sX13_bits _ rfl rfl (Nat.le_of_ble_eq_true rfl) dX13_tried_120 ?_
          refine y_istore_n0 [some (.ref a0), some (.int y1), some (.int y2), some (.int q16)] dX13_tried_123 rfl (by decide) rfl ?_
          refine z_goto (tgt := 162) dX13_tried_124 (by decide) ?_
          exact y_sub (wX13_tried_j162 hd g_a0 hf hk) (z_le_c rfl (z_le_n (z_le_n (z_le_c rfl z_le_0))))
        · have hf := z_if_f hf c14
          have nc7 : ¬ (y2).toInt = 0 := z_toInt_ne c7
          have nc10 : ¬ (y2).toInt = 1 := z_toInt_ne c10
          have nc12 : ¬ (y2).toInt = 2 := z_toInt_ne c12
          have nc14 : ¬ (y2).toInt = 3 := z_toInt_ne c14
          refine z_tabOut (tgt := 127) dX13_tried_61 (by omega) (by decide) ?_
          refine z_aload_n dX13_tried_127 rfl rfl (z_okl g_a0) ?_
          refine y_getR lfX13_7 rfl g_a0 dX13_tried_128 ?_
          refine z_iload_n dX13_tried_131 rfl rfl ?_
          refine z_bipush dX13_tried_132 kb_20 ?_
          refine z_icmp_ge (tgt := 142) dX13_tried_134 (by decide) (fun c17 => ?_) (fun c17 => ?_)
          · have hf := z_if_t hf c17
            refine z_iload_n dX13_tried_142 rfl rfl ?_
            refine z_bipush dX13_tried_143 kb_30 ?_
            refine z_icmp_ge (tgt := 153) dX13_tried_145 (by decide) (fun c18 => ?_) (fun c18 => ?_)
            · have hf := z_if_t hf c18
              refine z_bipush dX13_tried_153 kb_56 ?_
              exact y_sub (wX13_tried_j155 hd g_a0 hf hk) (z_le_c rfl (z_le_n (z_le_c rfl (z_le_n z_le_0))))
            · have hf := z_if_f hf c18
              refine z_bipush dX13_tried_148 kb_48 ?_
              refine z_goto (tgt := 155) dX13_tried_150 (by decide) ?_
              exact y_sub (wX13_tried_j155 hd g_a0 hf hk) (z_le_c rfl (z_le_n (z_le_c rfl (z_le_n z_le_0))))
          · have hf := z_if_f hf c17
            refine z_bipush dX13_tried_137 kb_40 ?_
            refine z_goto (tgt := 155) dX13_tried_139 (by decide) ?_
            exact y_sub (wX13_tried_j155 hd g_a0 hf hk) (z_le_c rfl (z_le_n (z_le_c rfl (z_le_n z_le_0))))
def fX13_tried (a0 : Nat) (x1 : Int32) (x2 : Int32) (I : Nat → Nat → Int32) (R : Nat → Nat → Nat) : Option (Int32 × (Nat → Nat → Int32)) :=
  z_g (z_ob a0 13) (z_b (fX13_in x1 (1 : Int32) (240 : Int32)) (fun q1 => if q1 = 0 then (some ((-1 : Int32), I)) else (z_b (fX13_in x2 (0 : Int32) (3 : Int32)) (fun q3 => if q3 = 0 then (z_b (fX13_in x2 (10 : Int32) (37 : Int32)) (fun q21 => if q21 = 0 then (some ((-1 : Int32), I)) else (z_b (fX13_isTold a0 (z_rem x2 (10 : Int32)) I R) (fun q23 => if q23 = 0 then (some ((-1 : Int32), I)) else (fX13_tried_j44 a0 x1 x2 I R))))) else (fX13_tried_j44 a0 x1 x2 I R)))))
set_option maxRecDepth 20000 in
theorem vX13_tried {G : z_G} {d : Nat} {Q : Option Value → z_S → z_H → Prop} {a0 : Nat} {x1 : Int32} {x2 : Int32} {I : Nat → Nat → Int32} {R : Nat → Nat → Nat} {q : Int32 × (Nat → Nat → Int32)} (hd : 9 ≤ d) (hf : fX13_tried a0 x1 x2 I R = some q) (hk : Q (some (.int q.1)) z_SH (q.2, R)) : z_W G eX13_tried d 0 0 0 [some (.ref a0), some (.int x1), some (.int x2), none] [] z_SH (I, R) Q := by
  unfold fX13_tried at hf
  obtain ⟨g_a0, hf⟩ := z_g_el hf
  refine z_iload_n dX13_tried_0 rfl rfl ?_
  refine z_iconst dX13_tried_1 kc_1 ?_
  refine z_sipush dX13_tried_2 ks_240 ?_
  obtain ⟨q1, hq1, hf⟩ := z_b_el hf
  refine y_cSi (Nat.le_trans (Nat.le_of_ble_eq_true rfl) hd) (wX13_in (z_dl rfl hd) hq1) oX13_in lmX13_114 sX13_in _ rfl rfl (Nat.le_of_ble_eq_true rfl) dX13_tried_5 ?_
  refine z_if_eq (tgt := 42) dX13_tried_8 (by decide) (fun c2 => ?_) (fun c2 => ?_)
  · have hf := z_if_t hf c2
    refine z_iconst dX13_tried_42 kc_m1 ?_
    cases hf
    exact z_iret hk ⟨_, rfl, rfl⟩ dX13_tried_43
  · have hf := z_if_f hf c2
    refine z_iload_n dX13_tried_11 rfl rfl ?_
    refine z_iconst dX13_tried_12 kc_0 ?_
    refine z_iconst dX13_tried_13 kc_3 ?_
    obtain ⟨q3, hq3, hf⟩ := z_b_el hf
    refine y_cSi (Nat.le_trans (Nat.le_of_ble_eq_true rfl) hd) (wX13_in (z_dl rfl hd) hq3) oX13_in lmX13_114 sX13_in _ rfl rfl (Nat.le_of_ble_eq_true rfl) dX13_tried_14 ?_
    refine z_if_ne (tgt := 44) dX13_tried_17 (by decide) (fun c4 => ?_) (fun c4 => ?_)
    · have hf := z_if_f hf c4
      exact y_sub (wX13_tried_j44 hd g_a0 hf hk) (z_le_c rfl (z_le_c rfl (z_le_c rfl (z_le_n z_le_0))))
    · have hf := z_if_t hf c4
      refine z_iload_n dX13_tried_20 rfl rfl ?_
      refine z_bipush dX13_tried_21 kb_10 ?_
      refine z_bipush dX13_tried_23 kb_37 ?_
      obtain ⟨q21, hq21, hf⟩ := z_b_el hf
      refine y_cSi (Nat.le_trans (Nat.le_of_ble_eq_true rfl) hd) (wX13_in (z_dl rfl hd) hq21) oX13_in lmX13_114 sX13_in _ rfl rfl (Nat.le_of_ble_eq_true rfl) dX13_tried_25 ?_
      refine z_if_eq (tgt := 42) dX13_tried_28 (by decide) (fun c22 => ?_) (fun c22 => ?_)
      · have hf := z_if_t hf c22
        refine z_iconst dX13_tried_42 kc_m1 ?_
        cases hf
        exact z_iret hk ⟨_, rfl, rfl⟩ dX13_tried_43
      · have hf := z_if_f hf c22
        refine z_aload_n dX13_tried_31 rfl rfl (z_okl g_a0) ?_
        refine z_iload_n dX13_tried_32 rfl rfl ?_
        refine z_bipush dX13_tried_33 kb_10 ?_
        refine y_irem dX13_tried_35 (by decide) ?_
        obtain ⟨q23, hq23, hf⟩ := z_b_el hf
        refine y_cVi (av := [.int (z_rem x2 (10 : Int32))]) (Nat.le_trans (Nat.le_of_ble_eq_true rfl) hd) (wX13_isTold (z_dl rfl hd) hq23) oX13_isTold lmX13_118 iX13_isTold g_a0 rfl _ rfl rfl (Nat.le_of_ble_eq_true rfl) dX13_tried_36 ?_
        refine z_if_ne (tgt := 44) dX13_tried_39 (by decide) (fun c24 => ?_) (fun c24 => ?_)
        · have hf := z_if_f hf c24
          exact y_sub (wX13_tried_j44 hd g_a0 hf hk) (z_le_c rfl (z_le_c rfl (z_le_c rfl (z_le_n z_le_0))))
        · have hf := z_if_t hf c24
          refine z_iconst dX13_tried_42 kc_m1 ?_
          cases hf
          exact z_iret hk ⟨_, rfl, rfl⟩ dX13_tried_43
theorem wX13_tried {G : z_G} {d : Nat} {a0 : Nat} {x1 : Int32} {x2 : Int32} {I : Nat → Nat → Int32} {R : Nat → Nat → Nat} {q : Int32 × (Nat → Nat → Int32)} (hd : 9 ≤ d) (hf : fX13_tried a0 x1 x2 I R = some q) : z_M G d 0 0 eX13_tried [.ref a0, .int x1, .int x2] z_SH (I, R) (z_E (some (.int q.1)) (q.2, R)) :=
  y_M_of _ (by decide +kernel) rfl rfl rfl (vX13_tried hd hf ⟨rfl, rfl, rfl⟩)
def fX13_singerIs (a0 : Nat) (x1 : Int32) (x2 : Int32) (I : Nat → Nat → Int32) (R : Nat → Nat → Nat) : Option (Int32) :=
  z_g (z_ob a0 13) (z_b (fX13_isTold a0 x1 I R) (fun q1 => if q1 = 0 then (some (-1 : Int32)) else (if x2 = (0 : Int32) then (z_g (z_ok 1 (R a0 0) ((16 : Int32) + x1)) (some (I (R a0 0) ((16 : Int32) + x1).toNatClampNeg))) else (if x2 = (1 : Int32) then (z_g (z_ok 1 (R a0 0) ((24 : Int32) + x1)) (some (I (R a0 0) ((24 : Int32) + x1).toNatClampNeg))) else (if x2 = (2 : Int32) then (z_g (z_ok 1 (R a0 0) ((32 : Int32) + x1)) (some (I (R a0 0) ((32 : Int32) + x1).toNatClampNeg))) else (if x2 = (3 : Int32) then (z_g (z_ok 1 (R a0 0) ((40 : Int32) + x1)) (some (I (R a0 0) ((40 : Int32) + x1).toNatClampNeg))) else (if x2 = (4 : Int32) then (z_g (z_ok 1 (R a0 0) ((48 : Int32) + x1)) (some (I (R a0 0) ((48 : Int32) + x1).toNatClampNeg))) else (if x2 = (5 : Int32) then (z_g (z_ok 1 (R a0 0) ((56 : Int32) + x1)) (some (I (R a0 0) ((56 : Int32) + x1).toNatClampNeg))) else (if x2 = (6 : Int32) then (z_g (z_ok 1 (R a0 0) ((64 : Int32) + x1)) (some (I (R a0 0) ((64 : Int32) + x1).toNatClampNeg))) else (if x2 = (7 : Int32) then (z_g (z_ok 1 (R a0 0) ((72 : Int32) + x1)) (some (I (R a0 0) ((72 : Int32) + x1).toNatClampNeg))) else (if x2 = (8 : Int32) then (z_b (fX13_isDone a0 x1 I R) (fun q20 => if q20 = 0 then (some (0 : Int32)) else (some (1 : Int32)))) else (if x2 = (9 : Int32) then (z_b (fX13_heardBy a0 x1 I R) (fun q23 => some q23)) else (some (-1 : Int32))))))))))))))
set_option maxRecDepth 20000 in
theorem vX13_singerIs {G : z_G} {d : Nat} {Q : Option Value → z_S → z_H → Prop} {a0 : Nat} {x1 : Int32} {x2 : Int32} {I : Nat → Nat → Int32} {R : Nat → Nat → Nat} {q : Int32} (hd : 4 ≤ d) (hf : fX13_singerIs a0 x1 x2 I R = some q) (hk : Q (some (.int q)) z_SH (I, R)) : z_W G eX13_singerIs d 0 0 0 [some (.ref a0), some (.int x1), some (.int x2)] [] z_SH (I, R) Q := by
  unfold fX13_singerIs at hf
  obtain ⟨g_a0, hf⟩ := z_g_el hf
  refine z_aload_n dX13_singerIs_0 rfl rfl (z_okl g_a0) ?_
  refine z_iload_n dX13_singerIs_1 rfl rfl ?_
  obtain ⟨q1, hq1, hf⟩ := z_b_el hf
  refine y_cVi (av := [.int x1]) (Nat.le_trans (Nat.le_of_ble_eq_true rfl) hd) (wX13_isTold (z_dl rfl hd) hq1) oX13_isTold lmX13_118 iX13_isTold g_a0 rfl _ rfl rfl (Nat.le_of_ble_eq_true rfl) dX13_singerIs_2 ?_
  refine z_if_ne (tgt := 10) dX13_singerIs_5 (by decide) (fun c2 => ?_) (fun c2 => ?_)
  · have hf := z_if_f hf c2
    refine z_iload_n dX13_singerIs_10 rfl rfl ?_
    by_cases c3 : x2 = (0 : Int32)
    · have hf := z_if_t hf c3
      refine z_tabIn (off := 53) (tgt := 64) dX13_singerIs_11 (by rw [c3]; decide) (by rw [c3]; decide) (by rw [c3]; rfl) (by decide) ?_
      refine z_aload_n dX13_singerIs_64 rfl rfl (z_okl g_a0) ?_
      refine y_getR lfX13_7 rfl g_a0 dX13_singerIs_65 ?_
      refine z_bipush dX13_singerIs_68 kb_16 ?_
      refine z_iload_n dX13_singerIs_70 rfl rfl ?_
      refine z_iadd dX13_singerIs_71 ?_
      obtain ⟨g4, hf⟩ := z_g_el hf
      refine y_iald g4 dX13_singerIs_72 ?_
      cases hf
      exact z_iret hk ⟨_, rfl, rfl⟩ dX13_singerIs_73
    · have hf := z_if_f hf c3
      by_cases c5 : x2 = (1 : Int32)
      · have hf := z_if_t hf c5
        refine z_tabIn (off := 63) (tgt := 74) dX13_singerIs_11 (by rw [c5]; decide) (by rw [c5]; decide) (by rw [c5]; rfl) (by decide) ?_
        refine z_aload_n dX13_singerIs_74 rfl rfl (z_okl g_a0) ?_
        refine y_getR lfX13_7 rfl g_a0 dX13_singerIs_75 ?_
        refine z_bipush dX13_singerIs_78 kb_24 ?_
        refine z_iload_n dX13_singerIs_80 rfl rfl ?_
        refine z_iadd dX13_singerIs_81 ?_
        obtain ⟨g6, hf⟩ := z_g_el hf
        refine y_iald g6 dX13_singerIs_82 ?_
        cases hf
        exact z_iret hk ⟨_, rfl, rfl⟩ dX13_singerIs_83
      · have hf := z_if_f hf c5
        by_cases c7 : x2 = (2 : Int32)
        · have hf := z_if_t hf c7
          refine z_tabIn (off := 73) (tgt := 84) dX13_singerIs_11 (by rw [c7]; decide) (by rw [c7]; decide) (by rw [c7]; rfl) (by decide) ?_
          refine z_aload_n dX13_singerIs_84 rfl rfl (z_okl g_a0) ?_
          refine y_getR lfX13_7 rfl g_a0 dX13_singerIs_85 ?_
          refine z_bipush dX13_singerIs_88 kb_32 ?_
          refine z_iload_n dX13_singerIs_90 rfl rfl ?_
          refine z_iadd dX13_singerIs_91 ?_
          obtain ⟨g8, hf⟩ := z_g_el hf
          refine y_iald g8 dX13_singerIs_92 ?_
          cases hf
          exact z_iret hk ⟨_, rfl, rfl⟩ dX13_singerIs_93
        · have hf := z_if_f hf c7
          by_cases c9 : x2 = (3 : Int32)
          · have hf := z_if_t hf c9
            refine z_tabIn (off := 83) (tgt := 94) dX13_singerIs_11 (by rw [c9]; decide) (by rw [c9]; decide) (by rw [c9]; rfl) (by decide) ?_
            refine z_aload_n dX13_singerIs_94 rfl rfl (z_okl g_a0) ?_
            refine y_getR lfX13_7 rfl g_a0 dX13_singerIs_95 ?_
            refine z_bipush dX13_singerIs_98 kb_40 ?_
            refine z_iload_n dX13_singerIs_100 rfl rfl ?_
            refine z_iadd dX13_singerIs_101 ?_
            obtain ⟨g10, hf⟩ := z_g_el hf
            refine y_iald g10 dX13_singerIs_102 ?_
            cases hf
            exact z_iret hk ⟨_, rfl, rfl⟩ dX13_singerIs_103
          · have hf := z_if_f hf c9
            by_cases c11 : x2 = (4 : Int32)
            · have hf := z_if_t hf c11
              refine z_tabIn (off := 93) (tgt := 104) dX13_singerIs_11 (by rw [c11]; decide) (by rw [c11]; decide) (by rw [c11]; rfl) (by decide) ?_
              refine z_aload_n dX13_singerIs_104 rfl rfl (z_okl g_a0) ?_
              refine y_getR lfX13_7 rfl g_a0 dX13_singerIs_105 ?_
              refine z_bipush dX13_singerIs_108 kb_48 ?_
              refine z_iload_n dX13_singerIs_110 rfl rfl ?_
              refine z_iadd dX13_singerIs_111 ?_
              obtain ⟨g12, hf⟩ := z_g_el hf
              refine y_iald g12 dX13_singerIs_112 ?_
              cases hf
              exact z_iret hk ⟨_, rfl, rfl⟩ dX13_singerIs_113
            · have hf := z_if_f hf c11
              by_cases c13 : x2 = (5 : Int32)
              · have hf := z_if_t hf c13
                refine z_tabIn (off := 103) (tgt := 114) dX13_singerIs_11 (by rw [c13]; decide) (by rw [c13]; decide) (by rw [c13]; rfl) (by decide) ?_
                refine z_aload_n dX13_singerIs_114 rfl rfl (z_okl g_a0) ?_
                refine y_getR lfX13_7 rfl g_a0 dX13_singerIs_115 ?_
                refine z_bipush dX13_singerIs_118 kb_56 ?_
                refine z_iload_n dX13_singerIs_120 rfl rfl ?_
                refine z_iadd dX13_singerIs_121 ?_
                obtain ⟨g14, hf⟩ := z_g_el hf
                refine y_iald g14 dX13_singerIs_122 ?_
                cases hf
                exact z_iret hk ⟨_, rfl, rfl⟩ dX13_singerIs_123
              · have hf := z_if_f hf c13
                by_cases c15 : x2 = (6 : Int32)
                · have hf := z_if_t hf c15
                  refine z_tabIn (off := 113) (tgt := 124) dX13_singerIs_11 (by rw [c15]; decide) (by rw [c15]; decide) (by rw [c15]; rfl) (by decide) ?_
                  refine z_aload_n dX13_singerIs_124 rfl rfl (z_okl g_a0) ?_
                  refine y_getR lfX13_7 rfl g_a0 dX13_singerIs_125 ?_
                  refine z_bipush dX13_singerIs_128 kb_64 ?_
                  refine z_iload_n dX13_singerIs_130 rfl rfl ?_
                  refine z_iadd dX13_singerIs_131 ?_
                  obtain ⟨g16, hf⟩ := z_g_el hf
                  refine y_iald g16 dX13_singerIs_132 ?_
                  cases hf
                  exact z_iret hk ⟨_, rfl, rfl⟩ dX13_singerIs_133
                · have hf := z_if_f hf c15
                  by_cases c17 : x2 = (7 : Int32)
                  · have hf := z_if_t hf c17
                    refine z_tabIn (off := 123) (tgt := 134) dX13_singerIs_11 (by rw [c17]; decide) (by rw [c17]; decide) (by rw [c17]; rfl) (by decide) ?_
                    refine z_aload_n dX13_singerIs_134 rfl rfl (z_okl g_a0) ?_
                    refine y_getR lfX13_7 rfl g_a0 dX13_singerIs_135 ?_
                    refine z_bipush dX13_singerIs_138 kb_72 ?_
                    refine z_iload_n dX13_singerIs_140 rfl rfl ?_
                    refine z_iadd dX13_singerIs_141 ?_
                    obtain ⟨g18, hf⟩ := z_g_el hf
                    refine y_iald g18 dX13_singerIs_142 ?_
                    cases hf
                    exact z_iret hk ⟨_, rfl, rfl⟩ dX13_singerIs_143
                  · have hf := z_if_f hf c17
                    by_cases c19 : x2 = (8 : Int32)
                    · have hf := z_if_t hf c19
                      refine z_tabIn (off := 133) (tgt := 144) dX13_singerIs_11 (by rw [c19]; decide) (by rw [c19]; decide) (by rw [c19]; rfl) (by decide) ?_
                      refine z_aload_n dX13_singerIs_144 rfl rfl (z_okl g_a0) ?_
                      refine z_iload_n dX13_singerIs_145 rfl rfl ?_
                      obtain ⟨q20, hq20, hf⟩ := z_b_el hf
                      refine y_cVi (av := [.int x1]) (Nat.le_trans (Nat.le_of_ble_eq_true rfl) hd) (wX13_isDone (z_dl rfl hd) hq20) oX13_isDone lmX13_270 iX13_isDone g_a0 rfl _ rfl rfl (Nat.le_of_ble_eq_true rfl) dX13_singerIs_146 ?_
                      refine z_if_eq (tgt := 156) dX13_singerIs_149 (by decide) (fun c21 => ?_) (fun c21 => ?_)
                      · have hf := z_if_t hf c21
                        refine z_iconst dX13_singerIs_156 kc_0 ?_
                        cases hf
                        exact z_iret hk ⟨_, rfl, rfl⟩ dX13_singerIs_157
                      · have hf := z_if_f hf c21
                        refine z_iconst dX13_singerIs_152 kc_1 ?_
                        refine z_goto (tgt := 157) dX13_singerIs_153 (by decide) ?_
                        cases hf
                        exact z_iret hk ⟨_, rfl, rfl⟩ dX13_singerIs_157
                    · have hf := z_if_f hf c19
                      by_cases c22 : x2 = (9 : Int32)
                      · have hf := z_if_t hf c22
                        refine z_tabIn (off := 147) (tgt := 158) dX13_singerIs_11 (by rw [c22]; decide) (by rw [c22]; decide) (by rw [c22]; rfl) (by decide) ?_
                        refine z_aload_n dX13_singerIs_158 rfl rfl (z_okl g_a0) ?_
                        refine z_iload_n dX13_singerIs_159 rfl rfl ?_
                        obtain ⟨q23, hq23, hf⟩ := z_b_el hf
                        refine y_cVi (av := [.int x1]) (Nat.le_trans (Nat.le_of_ble_eq_true rfl) hd) (wX13_heardBy (z_dl rfl hd) hq23) oX13_heardBy lmX13_267 iX13_heardBy g_a0 rfl _ rfl rfl (Nat.le_of_ble_eq_true rfl) dX13_singerIs_160 ?_
                        cases hf
                        exact z_iret hk ⟨_, rfl, rfl⟩ dX13_singerIs_163
                      · have hf := z_if_f hf c22
                        have nc3 : ¬ (x2).toInt = 0 := z_toInt_ne c3
                        have nc5 : ¬ (x2).toInt = 1 := z_toInt_ne c5
                        have nc7 : ¬ (x2).toInt = 2 := z_toInt_ne c7
                        have nc9 : ¬ (x2).toInt = 3 := z_toInt_ne c9
                        have nc11 : ¬ (x2).toInt = 4 := z_toInt_ne c11
                        have nc13 : ¬ (x2).toInt = 5 := z_toInt_ne c13
                        have nc15 : ¬ (x2).toInt = 6 := z_toInt_ne c15
                        have nc17 : ¬ (x2).toInt = 7 := z_toInt_ne c17
                        have nc19 : ¬ (x2).toInt = 8 := z_toInt_ne c19
                        have nc22 : ¬ (x2).toInt = 9 := z_toInt_ne c22
                        refine z_tabOut (tgt := 164) dX13_singerIs_11 (by omega) (by decide) ?_
                        refine z_iconst dX13_singerIs_164 kc_m1 ?_
                        cases hf
                        exact z_iret hk ⟨_, rfl, rfl⟩ dX13_singerIs_165
  · have hf := z_if_t hf c2
    refine z_iconst dX13_singerIs_8 kc_m1 ?_
    cases hf
    exact z_iret hk ⟨_, rfl, rfl⟩ dX13_singerIs_9
theorem wX13_singerIs {G : z_G} {d : Nat} {a0 : Nat} {x1 : Int32} {x2 : Int32} {I : Nat → Nat → Int32} {R : Nat → Nat → Nat} {q : Int32} (hd : 4 ≤ d) (hf : fX13_singerIs a0 x1 x2 I R = some q) : z_M G d 0 0 eX13_singerIs [.ref a0, .int x1, .int x2] z_SH (I, R) (z_E (some (.int q)) (I, R)) :=
  y_M_of _ (by decide +kernel) rfl rfl rfl (vX13_singerIs hd hf ⟨rfl, rfl, rfl⟩)
def fX13_drift (a0 : Nat) (x1 : Int32) (I : Nat → Nat → Int32) (R : Nat → Nat → Nat) : Option (Int32) :=
  z_g (z_ob a0 13) (z_b (fX13_isTold a0 x1 I R) (fun q1 => if q1 = 0 then (some (-100 : Int32)) else (z_g (z_ok 1 (R a0 0) ((8 : Int32) + x1)) (some (I (R a0 0) ((8 : Int32) + x1).toNatClampNeg)))))
theorem vX13_drift {G : z_G} {d : Nat} {Q : Option Value → z_S → z_H → Prop} {a0 : Nat} {x1 : Int32} {I : Nat → Nat → Int32} {R : Nat → Nat → Nat} {q : Int32} (hd : 2 ≤ d) (hf : fX13_drift a0 x1 I R = some q) (hk : Q (some (.int q)) z_SH (I, R)) : z_W G eX13_drift d 0 0 0 [some (.ref a0), some (.int x1)] [] z_SH (I, R) Q := by
  unfold fX13_drift at hf
  obtain ⟨g_a0, hf⟩ := z_g_el hf
  refine z_aload_n dX13_drift_0 rfl rfl (z_okl g_a0) ?_
  refine z_iload_n dX13_drift_1 rfl rfl ?_
  obtain ⟨q1, hq1, hf⟩ := z_b_el hf
  refine y_cVi (av := [.int x1]) (Nat.le_trans (Nat.le_of_ble_eq_true rfl) hd) (wX13_isTold (z_dl rfl hd) hq1) oX13_isTold lmX13_118 iX13_isTold g_a0 rfl _ rfl rfl (Nat.le_of_ble_eq_true rfl) dX13_drift_2 ?_
  refine z_if_eq (tgt := 20) dX13_drift_5 (by decide) (fun c2 => ?_) (fun c2 => ?_)
  · have hf := z_if_t hf c2
    refine z_bipush dX13_drift_20 kb_m100 ?_
    cases hf
    exact z_iret hk ⟨_, rfl, rfl⟩ dX13_drift_22
  · have hf := z_if_f hf c2
    refine z_aload_n dX13_drift_8 rfl rfl (z_okl g_a0) ?_
    refine y_getR lfX13_7 rfl g_a0 dX13_drift_9 ?_
    refine z_bipush dX13_drift_12 kb_8 ?_
    refine z_iload_n dX13_drift_14 rfl rfl ?_
    refine z_iadd dX13_drift_15 ?_
    obtain ⟨g3, hf⟩ := z_g_el hf
    refine y_iald g3 dX13_drift_16 ?_
    refine z_goto (tgt := 22) dX13_drift_17 (by decide) ?_
    cases hf
    exact z_iret hk ⟨_, rfl, rfl⟩ dX13_drift_22
theorem wX13_drift {G : z_G} {d : Nat} {a0 : Nat} {x1 : Int32} {I : Nat → Nat → Int32} {R : Nat → Nat → Nat} {q : Int32} (hd : 2 ≤ d) (hf : fX13_drift a0 x1 I R = some q) : z_M G d 0 0 eX13_drift [.ref a0, .int x1] z_SH (I, R) (z_E (some (.int q)) (I, R)) :=
  y_M_of _ (by decide +kernel) rfl rfl rfl (vX13_drift hd hf ⟨rfl, rfl, rfl⟩)
def fX13_beat (a0 : Nat) (x1 : Int32) (x2 : Int32) (x3 : Int32) (I : Nat → Nat → Int32) (R : Nat → Nat → Nat) : Option (Int32) :=
  z_g (z_ob a0 13) (z_b (fX13_in x1 (0 : Int32) (7 : Int32)) (fun q1 => if q1 = 0 then (some (-1 : Int32)) else (z_g (z_ok 1 (R a0 9) x1) (z_b (fX13_in x2 (0 : Int32) ((I (R a0 9) x1.toNatClampNeg) - (1 : Int32))) (fun q4 => if q4 = 0 then (some (-1 : Int32)) else (z_b (fX13_in x3 (0 : Int32) (3 : Int32)) (fun q6 => if q6 = 0 then (some (-1 : Int32)) else (z_l (((60 : Int32) * x1) + x2) (fun t8 => if x3 = 0 then (z_g (z_ok 1 (R a0 5) t8) (some (I (R a0 5) t8.toNatClampNeg))) else (if x3 = (1 : Int32) then (z_g (z_ok 1 (R a0 6) t8) (some (I (R a0 6) t8.toNatClampNeg))) else (if x3 = (2 : Int32) then (z_g (z_ok 1 (R a0 7) t8) (some (I (R a0 7) t8.toNatClampNeg))) else (z_g (z_ok 1 (R a0 8) t8) (some (I (R a0 8) t8.toNatClampNeg))))))))))))))
theorem vX13_beat {G : z_G} {d : Nat} {Q : Option Value → z_S → z_H → Prop} {a0 : Nat} {x1 : Int32} {x2 : Int32} {x3 : Int32} {I : Nat → Nat → Int32} {R : Nat → Nat → Nat} {q : Int32} (hd : 1 ≤ d) (hf : fX13_beat a0 x1 x2 x3 I R = some q) (hk : Q (some (.int q)) z_SH (I, R)) : z_W G eX13_beat d 0 0 0 [some (.ref a0), some (.int x1), some (.int x2), some (.int x3), none] [] z_SH (I, R) Q := by
  unfold fX13_beat at hf
  obtain ⟨g_a0, hf⟩ := z_g_el hf
  refine z_iload_n dX13_beat_0 rfl rfl ?_
  refine z_iconst dX13_beat_1 kc_0 ?_
  refine z_bipush dX13_beat_2 kb_7 ?_
  obtain ⟨q1, hq1, hf⟩ := z_b_el hf
  refine y_cSi (Nat.le_trans (Nat.le_of_ble_eq_true rfl) hd) (wX13_in (z_dl rfl hd) hq1) oX13_in lmX13_114 sX13_in _ rfl rfl (Nat.le_of_ble_eq_true rfl) dX13_beat_4 ?_
  refine z_if_eq (tgt := 35) dX13_beat_7 (by decide) (fun c2 => ?_) (fun c2 => ?_)
  · have hf := z_if_t hf c2
    refine z_iconst dX13_beat_35 kc_m1 ?_
    cases hf
    exact z_iret hk ⟨_, rfl, rfl⟩ dX13_beat_36
  · have hf := z_if_f hf c2
    refine z_iload_n dX13_beat_10 rfl rfl ?_
    refine z_iconst dX13_beat_11 kc_0 ?_
    refine z_aload_n dX13_beat_12 rfl rfl (z_okl g_a0) ?_
    refine y_getR lfX13_31 rfl g_a0 dX13_beat_13 ?_
    refine z_iload_n dX13_beat_16 rfl rfl ?_
    obtain ⟨g3, hf⟩ := z_g_el hf
    refine y_iald g3 dX13_beat_17 ?_
    refine z_iconst dX13_beat_18 kc_1 ?_
    refine z_isub dX13_beat_19 ?_
    obtain ⟨q4, hq4, hf⟩ := z_b_el hf
    refine y_cSi (Nat.le_trans (Nat.le_of_ble_eq_true rfl) hd) (wX13_in (z_dl rfl hd) hq4) oX13_in lmX13_114 sX13_in _ rfl rfl (Nat.le_of_ble_eq_true rfl) dX13_beat_20 ?_
    refine z_if_eq (tgt := 35) dX13_beat_23 (by decide) (fun c5 => ?_) (fun c5 => ?_)
    · have hf := z_if_t hf c5
      refine z_iconst dX13_beat_35 kc_m1 ?_
      cases hf
      exact z_iret hk ⟨_, rfl, rfl⟩ dX13_beat_36
    · have hf := z_if_f hf c5
      refine z_iload_n dX13_beat_26 rfl rfl ?_
      refine z_iconst dX13_beat_27 kc_0 ?_
      refine z_iconst dX13_beat_28 kc_3 ?_
      obtain ⟨q6, hq6, hf⟩ := z_b_el hf
      refine y_cSi (Nat.le_trans (Nat.le_of_ble_eq_true rfl) hd) (wX13_in (z_dl rfl hd) hq6) oX13_in lmX13_114 sX13_in _ rfl rfl (Nat.le_of_ble_eq_true rfl) dX13_beat_29 ?_
      refine z_if_ne (tgt := 37) dX13_beat_32 (by decide) (fun c7 => ?_) (fun c7 => ?_)
      · have hf := z_if_f hf c7
        refine z_bipush dX13_beat_37 kb_60 ?_
        refine z_iload_n dX13_beat_39 rfl rfl ?_
        refine z_imul dX13_beat_40 ?_
        refine z_iload_n dX13_beat_41 rfl rfl ?_
        refine z_iadd dX13_beat_42 ?_
        refine y_istore (fun t8 => [some (.ref a0), some (.int x1), some (.int x2), some (.int x3), some (.int t8)]) dX13_beat_43 (by decide) (fun _ => rfl) (fun t8 et8 => ?_)
        have hf := z_l_el hf et8
        refine z_iload_n dX13_beat_45 rfl rfl ?_
        refine z_if_ne (tgt := 59) dX13_beat_46 (by decide) (fun c9 => ?_) (fun c9 => ?_)
        · have hf := z_if_f hf c9
          refine z_iload_n dX13_beat_59 rfl rfl ?_
          refine z_iconst dX13_beat_60 kc_1 ?_
          refine z_icmp_ne (tgt := 74) dX13_beat_61 (by decide) (fun c10 => ?_) (fun c10 => ?_)
          · have hf := z_if_f hf c10
            refine z_iload_n dX13_beat_74 rfl rfl ?_
            refine z_iconst dX13_beat_75 kc_2 ?_
            refine z_icmp_ne (tgt := 89) dX13_beat_76 (by decide) (fun c11 => ?_) (fun c11 => ?_)
            · have hf := z_if_f hf c11
              refine z_aload_n dX13_beat_89 rfl rfl (z_okl g_a0) ?_
              refine y_getR lfX13_28 rfl g_a0 dX13_beat_90 ?_
              refine z_iload dX13_beat_93 rfl ?_
              obtain ⟨g12, hf⟩ := z_g_el hf
              refine y_iald g12 dX13_beat_95 ?_
              cases hf
              exact z_iret hk ⟨_, rfl, rfl⟩ dX13_beat_96
            · have hf := z_if_t hf c11
              refine z_aload_n dX13_beat_79 rfl rfl (z_okl g_a0) ?_
              refine y_getR lfX13_25 rfl g_a0 dX13_beat_80 ?_
              refine z_iload dX13_beat_83 rfl ?_
              obtain ⟨g13, hf⟩ := z_g_el hf
              refine y_iald g13 dX13_beat_85 ?_
              refine z_goto (tgt := 96) dX13_beat_86 (by decide) ?_
              cases hf
              exact z_iret hk ⟨_, rfl, rfl⟩ dX13_beat_96
          · have hf := z_if_t hf c10
            refine z_aload_n dX13_beat_64 rfl rfl (z_okl g_a0) ?_
            refine y_getR lfX13_22 rfl g_a0 dX13_beat_65 ?_
            refine z_iload dX13_beat_68 rfl ?_
            obtain ⟨g14, hf⟩ := z_g_el hf
            refine y_iald g14 dX13_beat_70 ?_
            refine z_goto (tgt := 96) dX13_beat_71 (by decide) ?_
            cases hf
            exact z_iret hk ⟨_, rfl, rfl⟩ dX13_beat_96
        · have hf := z_if_t hf c9
          refine z_aload_n dX13_beat_49 rfl rfl (z_okl g_a0) ?_
          refine y_getR lfX13_19 rfl g_a0 dX13_beat_50 ?_
          refine z_iload dX13_beat_53 rfl ?_
          obtain ⟨g15, hf⟩ := z_g_el hf
          refine y_iald g15 dX13_beat_55 ?_
          refine z_goto (tgt := 96) dX13_beat_56 (by decide) ?_
          cases hf
          exact z_iret hk ⟨_, rfl, rfl⟩ dX13_beat_96
      · have hf := z_if_t hf c7
        refine z_iconst dX13_beat_35 kc_m1 ?_
        cases hf
        exact z_iret hk ⟨_, rfl, rfl⟩ dX13_beat_36
theorem wX13_beat {G : z_G} {d : Nat} {a0 : Nat} {x1 : Int32} {x2 : Int32} {x3 : Int32} {I : Nat → Nat → Int32} {R : Nat → Nat → Nat} {q : Int32} (hd : 1 ≤ d) (hf : fX13_beat a0 x1 x2 x3 I R = some q) : z_M G d 0 0 eX13_beat [.ref a0, .int x1, .int x2, .int x3] z_SH (I, R) (z_E (some (.int q)) (I, R)) :=
  y_M_of _ (by decide +kernel) rfl rfl rfl (vX13_beat hd hf ⟨rfl, rfl, rfl⟩)
def fX13_end_j83 (a0 : Nat) (y2 : Int32) (v0 : Int32) (I : Nat → Nat → Int32) (R : Nat → Nat → Nat) : Option (Int32 × (Nat → Nat → Int32)) :=
  z_b (fX13_copies (R a0 1) (R a0 0) I) (fun q15 => if v0 = 0 then (some ((-2 : Int32), q15)) else (if y2 = 0 then (some (q15 a0 49, q15)) else (some (q15 a0 48, q15))))
theorem wX13_end_j83 {G : z_G} {d : Nat} {Q : Option Value → z_S → z_H → Prop} {a0 : Nat} {y2 : Int32} {v0 : Int32} {I : Nat → Nat → Int32} {R : Nat → Nat → Nat} {o : Int32 × (Nat → Nat → Int32)} (hd : 9 ≤ d) (g_a0 : z_ob a0 13) (hf : fX13_end_j83 a0 y2 v0 I R = some o) (hk : Q (some (.int o.1)) z_SH (o.2, R)) : z_W G eX13_end d 0 0 83 [some (.ref a0), none, some (.int y2), none] [.int v0] z_SH (I, R) Q := by
  unfold fX13_end_j83 at hf
  refine y_istore_n0 [some (.ref a0), none, some (.int y2), some (.int v0)] dX13_end_83 rfl (by decide) rfl ?_
  refine z_aload_n dX13_end_84 rfl rfl (z_okl g_a0) ?_
  refine y_getR lfX13_13 rfl g_a0 dX13_end_85 ?_
  refine z_aload_n dX13_end_88 rfl rfl (z_okl g_a0) ?_
  refine y_getR lfX13_7 rfl g_a0 dX13_end_89 ?_
  obtain ⟨q15, hq15, hf⟩ := z_b_el hf
  refine y_cSv (Nat.le_trans (Nat.le_of_ble_eq_true rfl) hd) (wX13_copies (z_dl rfl hd) hq15) oX13_copies lmX13_349 sX13_copies _ rfl rfl (Nat.le_of_ble_eq_true rfl) dX13_end_92 ?_
  refine z_iload_n dX13_end_95 rfl rfl ?_
  refine z_if_ne (tgt := 102) dX13_end_96 (by decide) (fun c16 => ?_) (fun c16 => ?_)
  · have hf := z_if_f hf c16
    refine z_iload_n dX13_end_102 rfl rfl ?_
    refine z_if_ne (tgt := 113) dX13_end_103 (by decide) (fun c17 => ?_) (fun c17 => ?_)
    · have hf := z_if_f hf c17
      refine z_aload_n dX13_end_113 rfl rfl (z_okl g_a0) ?_
      refine y_getI lfX13_297 rfl g_a0 dX13_end_114 ?_
      cases hf
      exact z_iret hk ⟨_, rfl, rfl⟩ dX13_end_117
    · have hf := z_if_t hf c17
      refine z_aload_n dX13_end_106 rfl rfl (z_okl g_a0) ?_
      refine y_getI lfX13_303 rfl g_a0 dX13_end_107 ?_
      refine z_goto (tgt := 117) dX13_end_110 (by decide) ?_
      cases hf
      exact z_iret hk ⟨_, rfl, rfl⟩ dX13_end_117
  · have hf := z_if_t hf c16
    refine z_bipush dX13_end_99 kb_m2 ?_
    cases hf
    exact z_iret hk ⟨_, rfl, rfl⟩ dX13_end_101
def fX13_end (a0 : Nat) (x1 : Int32) (x2 : Int32) (I : Nat → Nat → Int32) (R : Nat → Nat → Nat) : Option (Int32 × (Nat → Nat → Int32)) :=
  z_g (z_ob a0 13) (z_b (fX13_in x1 (1 : Int32) (240 : Int32)) (fun q1 => if q1 = 0 then (some ((-1 : Int32), I)) else (z_b (fX13_in x2 (0 : Int32) (1 : Int32)) (fun q3 => if q3 = 0 then (some ((-1 : Int32), I)) else (z_b (fX13_toldSet a0 I R) (fun q5 => if q5 = 0 then (some ((-1 : Int32), I)) else (z_b (fX13_doneSet a0 I R) (fun q7 => z_b (fX13_toldSet a0 I R) (fun q8 => if q7 = q8 then (if x2 = 0 then (some ((0 : Int32), I)) else (some ((-2 : Int32), I))) else (z_b (fX13_copies (R a0 0) (R a0 1) I) (fun q10 => z_b (fX13_ticksGo a0 x1 q10 R) (fun q11 => z_b (fX13_doneSet a0 q11 R) (fun q12 => z_b (fX13_toldSet a0 q11 R) (fun q13 => if q12 = q13 then (fX13_end_j83 a0 x2 (1 : Int32) q11 R) else (fX13_end_j83 a0 x2 (0 : Int32) q11 R)))))))))))))))
theorem vX13_end {G : z_G} {d : Nat} {Q : Option Value → z_S → z_H → Prop} {a0 : Nat} {x1 : Int32} {x2 : Int32} {I : Nat → Nat → Int32} {R : Nat → Nat → Nat} {q : Int32 × (Nat → Nat → Int32)} (hd : 9 ≤ d) (hf : fX13_end a0 x1 x2 I R = some q) (hk : Q (some (.int q.1)) z_SH (q.2, R)) : z_W G eX13_end d 0 0 0 [some (.ref a0), some (.int x1), some (.int x2), none] [] z_SH (I, R) Q := by
  unfold fX13_end at hf
  obtain ⟨g_a0, hf⟩ := z_g_el hf
  refine z_iload_n dX13_end_0 rfl rfl ?_
  refine z_iconst dX13_end_1 kc_1 ?_
  refine z_sipush dX13_end_2 ks_240 ?_
  obtain ⟨q1, hq1, hf⟩ := z_b_el hf
  refine y_cSi (Nat.le_trans (Nat.le_of_ble_eq_true rfl) hd) (wX13_in (z_dl rfl hd) hq1) oX13_in lmX13_114 sX13_in _ rfl rfl (Nat.le_of_ble_eq_true rfl) dX13_end_5 ?_
  refine z_if_eq (tgt := 27) dX13_end_8 (by decide) (fun c2 => ?_) (fun c2 => ?_)
  · have hf := z_if_t hf c2
    refine z_iconst dX13_end_27 kc_m1 ?_
    cases hf
    exact z_iret hk ⟨_, rfl, rfl⟩ dX13_end_28
  · have hf := z_if_f hf c2
    refine z_iload_n dX13_end_11 rfl rfl ?_
    refine z_iconst dX13_end_12 kc_0 ?_
    refine z_iconst dX13_end_13 kc_1 ?_
    obtain ⟨q3, hq3, hf⟩ := z_b_el hf
    refine y_cSi (Nat.le_trans (Nat.le_of_ble_eq_true rfl) hd) (wX13_in (z_dl rfl hd) hq3) oX13_in lmX13_114 sX13_in _ rfl rfl (Nat.le_of_ble_eq_true rfl) dX13_end_14 ?_
    refine z_if_eq (tgt := 27) dX13_end_17 (by decide) (fun c4 => ?_) (fun c4 => ?_)
    · have hf := z_if_t hf c4
      refine z_iconst dX13_end_27 kc_m1 ?_
      cases hf
      exact z_iret hk ⟨_, rfl, rfl⟩ dX13_end_28
    · have hf := z_if_f hf c4
      refine z_aload_n dX13_end_20 rfl rfl (z_okl g_a0) ?_
      obtain ⟨q5, hq5, hf⟩ := z_b_el hf
      refine y_cVi (av := []) (Nat.le_trans (Nat.le_of_ble_eq_true rfl) hd) (wX13_toldSet (z_dl rfl hd) hq5) oX13_toldSet lmX13_126 iX13_toldSet g_a0 rfl _ rfl rfl (Nat.le_of_ble_eq_true rfl) dX13_end_21 ?_
      refine z_if_ne (tgt := 29) dX13_end_24 (by decide) (fun c6 => ?_) (fun c6 => ?_)
      · have hf := z_if_f hf c6
        refine z_aload_n dX13_end_29 rfl rfl (z_okl g_a0) ?_
        obtain ⟨q7, hq7, hf⟩ := z_b_el hf
        refine y_cVi (av := []) (Nat.le_trans (Nat.le_of_ble_eq_true rfl) hd) (wX13_doneSet (z_dl rfl hd) hq7) oX13_doneSet lmX13_356 iX13_doneSet g_a0 rfl _ rfl rfl (Nat.le_of_ble_eq_true rfl) dX13_end_30 ?_
        refine z_aload_n dX13_end_33 rfl rfl (z_okl g_a0) ?_
        obtain ⟨q8, hq8, hf⟩ := z_b_el hf
        refine y_cVi (av := []) (Nat.le_trans (Nat.le_of_ble_eq_true rfl) hd) (wX13_toldSet (z_dl rfl hd) hq8) oX13_toldSet lmX13_126 iX13_toldSet g_a0 rfl _ rfl rfl (Nat.le_of_ble_eq_true rfl) dX13_end_34 ?_
        refine z_icmp_ne (tgt := 51) dX13_end_37 (by decide) (fun c9 => ?_) (fun c9 => ?_)
        · have hf := z_if_f hf c9
          refine z_aload_n dX13_end_51 rfl rfl (z_okl g_a0) ?_
          refine y_getR lfX13_7 rfl g_a0 dX13_end_52 ?_
          refine z_aload_n dX13_end_55 rfl rfl (z_okl g_a0) ?_
          refine y_getR lfX13_13 rfl g_a0 dX13_end_56 ?_
          obtain ⟨q10, hq10, hf⟩ := z_b_el hf
          refine y_cSv (Nat.le_trans (Nat.le_of_ble_eq_true rfl) hd) (wX13_copies (z_dl rfl hd) hq10) oX13_copies lmX13_349 sX13_copies _ rfl rfl (Nat.le_of_ble_eq_true rfl) dX13_end_59 ?_
          refine z_aload_n dX13_end_62 rfl rfl (z_okl g_a0) ?_
          refine z_iload_n dX13_end_63 rfl rfl ?_
          obtain ⟨q11, hq11, hf⟩ := z_b_el hf
          refine y_cVv (av := [.int x1]) (Nat.le_trans (Nat.le_of_ble_eq_true rfl) hd) (wX13_ticksGo (z_dl rfl hd) hq11) oX13_ticksGo lmX13_346 iX13_ticksGo g_a0 rfl _ rfl rfl (Nat.le_of_ble_eq_true rfl) dX13_end_64 ?_
          refine z_aload_n dX13_end_67 rfl rfl (z_okl g_a0) ?_
          obtain ⟨q12, hq12, hf⟩ := z_b_el hf
          refine y_cVi (av := []) (Nat.le_trans (Nat.le_of_ble_eq_true rfl) hd) (wX13_doneSet (z_dl rfl hd) hq12) oX13_doneSet lmX13_356 iX13_doneSet g_a0 rfl _ rfl rfl (Nat.le_of_ble_eq_true rfl) dX13_end_68 ?_
          refine z_aload_n dX13_end_71 rfl rfl (z_okl g_a0) ?_
          obtain ⟨q13, hq13, hf⟩ := z_b_el hf
          refine y_cVi (av := []) (Nat.le_trans (Nat.le_of_ble_eq_true rfl) hd) (wX13_toldSet (z_dl rfl hd) hq13) oX13_toldSet lmX13_126 iX13_toldSet g_a0 rfl _ rfl rfl (Nat.le_of_ble_eq_true rfl) dX13_end_72 ?_
          refine z_icmp_ne (tgt := 82) dX13_end_75 (by decide) (fun c14 => ?_) (fun c14 => ?_)
          · have hf := z_if_f hf c14
            refine z_iconst dX13_end_82 kc_0 ?_
            exact y_sub (wX13_end_j83 hd g_a0 hf hk) (z_le_c rfl (z_le_n (z_le_c rfl (z_le_n z_le_0))))
          · have hf := z_if_t hf c14
            refine z_iconst dX13_end_78 kc_1 ?_
            refine z_goto (tgt := 83) dX13_end_79 (by decide) ?_
            exact y_sub (wX13_end_j83 hd g_a0 hf hk) (z_le_c rfl (z_le_n (z_le_c rfl (z_le_n z_le_0))))
        · have hf := z_if_t hf c9
          refine z_iload_n dX13_end_40 rfl rfl ?_
          refine z_if_ne (tgt := 48) dX13_end_41 (by decide) (fun c18 => ?_) (fun c18 => ?_)
          · have hf := z_if_f hf c18
            refine z_bipush dX13_end_48 kb_m2 ?_
            cases hf
            exact z_iret hk ⟨_, rfl, rfl⟩ dX13_end_50
          · have hf := z_if_t hf c18
            refine z_iconst dX13_end_44 kc_0 ?_
            refine z_goto (tgt := 50) dX13_end_45 (by decide) ?_
            cases hf
            exact z_iret hk ⟨_, rfl, rfl⟩ dX13_end_50
      · have hf := z_if_t hf c6
        refine z_iconst dX13_end_27 kc_m1 ?_
        cases hf
        exact z_iret hk ⟨_, rfl, rfl⟩ dX13_end_28
theorem wX13_end {G : z_G} {d : Nat} {a0 : Nat} {x1 : Int32} {x2 : Int32} {I : Nat → Nat → Int32} {R : Nat → Nat → Nat} {q : Int32 × (Nat → Nat → Int32)} (hd : 9 ≤ d) (hf : fX13_end a0 x1 x2 I R = some q) : z_M G d 0 0 eX13_end [.ref a0, .int x1, .int x2] z_SH (I, R) (z_E (some (.int q.1)) (q.2, R)) :=
  y_M_of _ (by decide +kernel) rfl rfl rfl (vX13_end hd hf ⟨rfl, rfl, rfl⟩)
def fX13_spread (a0 : Nat) (x1 : Int32) (I : Nat → Nat → Int32) (R : Nat → Nat → Nat) : Option (Int32 × (Nat → Nat → Int32)) :=
  z_g (z_ob a0 13) (z_b (fX13_in x1 (1 : Int32) (240 : Int32)) (fun q1 => if q1 = 0 then (some ((-1 : Int32), I)) else (z_b (fX13_copies (R a0 0) (R a0 1) I) (fun q3 => z_b (fX13_ticksGo a0 x1 q3 R) (fun q4 => z_b (fX13_copies (R a0 1) (R a0 0) q4) (fun q5 => some (q5 a0 47, q5)))))))
theorem vX13_spread {G : z_G} {d : Nat} {Q : Option Value → z_S → z_H → Prop} {a0 : Nat} {x1 : Int32} {I : Nat → Nat → Int32} {R : Nat → Nat → Nat} {q : Int32 × (Nat → Nat → Int32)} (hd : 9 ≤ d) (hf : fX13_spread a0 x1 I R = some q) (hk : Q (some (.int q.1)) z_SH (q.2, R)) : z_W G eX13_spread d 0 0 0 [some (.ref a0), some (.int x1)] [] z_SH (I, R) Q := by
  unfold fX13_spread at hf
  obtain ⟨g_a0, hf⟩ := z_g_el hf
  refine z_iload_n dX13_spread_0 rfl rfl ?_
  refine z_iconst dX13_spread_1 kc_1 ?_
  refine z_sipush dX13_spread_2 ks_240 ?_
  obtain ⟨q1, hq1, hf⟩ := z_b_el hf
  refine y_cSi (Nat.le_trans (Nat.le_of_ble_eq_true rfl) hd) (wX13_in (z_dl rfl hd) hq1) oX13_in lmX13_114 sX13_in _ rfl rfl (Nat.le_of_ble_eq_true rfl) dX13_spread_5 ?_
  refine z_if_ne (tgt := 13) dX13_spread_8 (by decide) (fun c2 => ?_) (fun c2 => ?_)
  · have hf := z_if_f hf c2
    refine z_aload_n dX13_spread_13 rfl rfl (z_okl g_a0) ?_
    refine y_getR lfX13_7 rfl g_a0 dX13_spread_14 ?_
    refine z_aload_n dX13_spread_17 rfl rfl (z_okl g_a0) ?_
    refine y_getR lfX13_13 rfl g_a0 dX13_spread_18 ?_
    obtain ⟨q3, hq3, hf⟩ := z_b_el hf
    refine y_cSv (Nat.le_trans (Nat.le_of_ble_eq_true rfl) hd) (wX13_copies (z_dl rfl hd) hq3) oX13_copies lmX13_349 sX13_copies _ rfl rfl (Nat.le_of_ble_eq_true rfl) dX13_spread_21 ?_
    refine z_aload_n dX13_spread_24 rfl rfl (z_okl g_a0) ?_
    refine z_iload_n dX13_spread_25 rfl rfl ?_
    obtain ⟨q4, hq4, hf⟩ := z_b_el hf
    refine y_cVv (av := [.int x1]) (Nat.le_trans (Nat.le_of_ble_eq_true rfl) hd) (wX13_ticksGo (z_dl rfl hd) hq4) oX13_ticksGo lmX13_346 iX13_ticksGo g_a0 rfl _ rfl rfl (Nat.le_of_ble_eq_true rfl) dX13_spread_26 ?_
    refine z_aload_n dX13_spread_29 rfl rfl (z_okl g_a0) ?_
    refine y_getR lfX13_13 rfl g_a0 dX13_spread_30 ?_
    refine z_aload_n dX13_spread_33 rfl rfl (z_okl g_a0) ?_
    refine y_getR lfX13_7 rfl g_a0 dX13_spread_34 ?_
    obtain ⟨q5, hq5, hf⟩ := z_b_el hf
    refine y_cSv (Nat.le_trans (Nat.le_of_ble_eq_true rfl) hd) (wX13_copies (z_dl rfl hd) hq5) oX13_copies lmX13_349 sX13_copies _ rfl rfl (Nat.le_of_ble_eq_true rfl) dX13_spread_37 ?_
    refine z_aload_n dX13_spread_40 rfl rfl (z_okl g_a0) ?_
    refine y_getI lfX13_333 rfl g_a0 dX13_spread_41 ?_
    cases hf
    exact z_iret hk ⟨_, rfl, rfl⟩ dX13_spread_44
  · have hf := z_if_t hf c2
    refine z_iconst dX13_spread_11 kc_m1 ?_
    cases hf
    exact z_iret hk ⟨_, rfl, rfl⟩ dX13_spread_12
theorem wX13_spread {G : z_G} {d : Nat} {a0 : Nat} {x1 : Int32} {I : Nat → Nat → Int32} {R : Nat → Nat → Nat} {q : Int32 × (Nat → Nat → Int32)} (hd : 9 ≤ d) (hf : fX13_spread a0 x1 I R = some q) : z_M G d 0 0 eX13_spread [.ref a0, .int x1] z_SH (I, R) (z_E (some (.int q.1)) (q.2, R)) :=
  y_M_of _ (by decide +kernel) rfl rfl rfl (vX13_spread hd hf ⟨rfl, rfl, rfl⟩)
def fX13_firstCome_b34 (a0 : Nat) (z2 : Int32) (z3 : Int32) (I : Nat → Nat → Int32) (R : Nat → Nat → Nat) : (Int32) → Option ((Int32) ⊕ (Int32)) :=
  fun s => (fun (p4 : Int32) => z_b (fX13_has z3 p4) (fun q12 => if q12 = 0 then (z_l (p4 + (1 : Int32)) (fun t14 => some (.inl t14))) else (some (.inr p4)))) s
theorem wX13_firstCome_b34 {G : z_G} {d : Nat} {Q : Option Value → z_S → z_H → Prop} {a0 : Nat} {z2 : Int32} {z3 : Int32} {I : Nat → Nat → Int32} {R : Nat → Nat → Nat} (hd : 9 ≤ d) (g_a0 : z_ob a0 13) : ∀ (s : Int32) (o : (Int32) ⊕ (Int32)), fX13_firstCome_b34 a0 z2 z3 I R s = some o → z_or (fun s : Int32 => z_W G eX13_firstCome d 0 0 34 [none, none, some (.int z2), some (.int z3), some (.int s)] [] z_SH (I, R) Q) (fun x : Int32 => z_W G eX13_firstCome d 0 0 52 [none, none, some (.int z2), none, some (.int x)] [] z_SH (I, R) Q) o → (fun s : Int32 => z_W G eX13_firstCome d 0 0 34 [none, none, some (.int z2), some (.int z3), some (.int s)] [] z_SH (I, R) Q) s := by
  intro p4 o hf hk
  show z_W G eX13_firstCome d 0 0 34 [none, none, some (.int z2), some (.int z3), some (.int p4)] [] z_SH (I, R) Q
  unfold fX13_firstCome_b34 at hf
  try dsimp only at hf
  refine z_iload_n dX13_firstCome_34 rfl rfl ?_
  refine z_iload dX13_firstCome_35 rfl ?_
  obtain ⟨q12, hq12, hf⟩ := z_b_el hf
  refine y_cSi (Nat.le_trans (Nat.le_of_ble_eq_true rfl) hd) (wX13_has (z_dl rfl hd) hq12) oX13_has lmX13_137 sX13_has _ rfl rfl (Nat.le_of_ble_eq_true rfl) dX13_firstCome_37 ?_
  refine z_if_ne (tgt := 52) dX13_firstCome_40 (by decide) (fun c13 => ?_) (fun c13 => ?_)
  · have hf := z_if_f hf c13
    cases hf
    exact y_sub hk (z_le_n (z_le_n (z_le_c rfl (z_le_n (z_le_c rfl z_le_0)))))
  · have hf := z_if_t hf c13
    refine z_iload dX13_firstCome_43 rfl ?_
    refine z_iconst dX13_firstCome_45 kc_1 ?_
    refine z_iadd dX13_firstCome_46 ?_
    refine y_istore (fun t14 => [none, none, some (.int z2), some (.int z3), some (.int t14)]) dX13_firstCome_47 (by decide) (fun _ => rfl) (fun t14 et14 => ?_)
    have hf := z_l_el hf et14
    refine z_goto (tgt := 34) dX13_firstCome_49 (by decide) ?_
    cases hf
    exact y_sub hk (z_le_n (z_le_n (z_le_c rfl (z_le_c rfl (z_le_c rfl z_le_0)))))
def fX13_firstCome (a0 : Nat) (x1 : Int32) (x2 : Int32) (I : Nat → Nat → Int32) (R : Nat → Nat → Nat) : Option (Int32 × (Nat → Nat → Int32)) :=
  z_g (z_ob a0 13) (z_b (fX13_in x1 (1 : Int32) (240 : Int32)) (fun q1 => if q1 = 0 then (some ((-1 : Int32), I)) else (z_b (fX13_in x2 (0 : Int32) (1 : Int32)) (fun q3 => if q3 = 0 then (some ((-1 : Int32), I)) else (z_b (fX13_waitingSet a0 I R) (fun q5 => if q5 = 0 then (z_b (fX13_copies (R a0 0) (R a0 1) I) (fun q7 => z_b (fX13_ticksGo a0 x1 q7 R) (fun q8 => z_b (fX13_copies (R a0 1) (R a0 0) q8) (fun q9 => if (q9 a0 50) = (-1 : Int32) then (some ((-2 : Int32), q9)) else (if x2 = 0 then (some (q9 a0 50, q9)) else (some (q9 a0 51, q9))))))) else (z_b (z_lp (fX13_firstCome_b34 a0 x2 q5 I R) 300 (0 : Int32)) (fun q15 => if x2 = 0 then (some (q15, I)) else (some ((0 : Int32), I))))))))))
set_option maxRecDepth 20000 in
theorem vX13_firstCome {G : z_G} {d : Nat} {Q : Option Value → z_S → z_H → Prop} {a0 : Nat} {x1 : Int32} {x2 : Int32} {I : Nat → Nat → Int32} {R : Nat → Nat → Nat} {q : Int32 × (Nat → Nat → Int32)} (hd : 9 ≤ d) (hf : fX13_firstCome a0 x1 x2 I R = some q) (hk : Q (some (.int q.1)) z_SH (q.2, R)) : z_W G eX13_firstCome d 0 0 0 [some (.ref a0), some (.int x1), some (.int x2), none, none] [] z_SH (I, R) Q := by
  unfold fX13_firstCome at hf
  obtain ⟨g_a0, hf⟩ := z_g_el hf
  refine z_iload_n dX13_firstCome_0 rfl rfl ?_
  refine z_iconst dX13_firstCome_1 kc_1 ?_
  refine z_sipush dX13_firstCome_2 ks_240 ?_
  obtain ⟨q1, hq1, hf⟩ := z_b_el hf
  refine y_cSi (Nat.le_trans (Nat.le_of_ble_eq_true rfl) hd) (wX13_in (z_dl rfl hd) hq1) oX13_in lmX13_114 sX13_in _ rfl rfl (Nat.le_of_ble_eq_true rfl) dX13_firstCome_5 ?_
  refine z_if_eq (tgt := 20) dX13_firstCome_8 (by decide) (fun c2 => ?_) (fun c2 => ?_)
  · have hf := z_if_t hf c2
    refine z_iconst dX13_firstCome_20 kc_m1 ?_
    cases hf
    exact z_iret hk ⟨_, rfl, rfl⟩ dX13_firstCome_21
  · have hf := z_if_f hf c2
    refine z_iload_n dX13_firstCome_11 rfl rfl ?_
    refine z_iconst dX13_firstCome_12 kc_0 ?_
    refine z_iconst dX13_firstCome_13 kc_1 ?_
    obtain ⟨q3, hq3, hf⟩ := z_b_el hf
    refine y_cSi (Nat.le_trans (Nat.le_of_ble_eq_true rfl) hd) (wX13_in (z_dl rfl hd) hq3) oX13_in lmX13_114 sX13_in _ rfl rfl (Nat.le_of_ble_eq_true rfl) dX13_firstCome_14 ?_
    refine z_if_ne (tgt := 22) dX13_firstCome_17 (by decide) (fun c4 => ?_) (fun c4 => ?_)
    · have hf := z_if_f hf c4
      refine z_aload_n dX13_firstCome_22 rfl rfl (z_okl g_a0) ?_
      obtain ⟨q5, hq5, hf⟩ := z_b_el hf
      refine y_cVi (av := []) (Nat.le_trans (Nat.le_of_ble_eq_true rfl) hd) (wX13_waitingSet (z_dl rfl hd) hq5) oX13_waitingSet lmX13_353 iX13_waitingSet g_a0 rfl _ rfl rfl (Nat.le_of_ble_eq_true rfl) dX13_firstCome_23 ?_
      refine y_istore_n0 [some (.ref a0), some (.int x1), some (.int x2), some (.int q5), none] dX13_firstCome_26 rfl (by decide) rfl ?_
      refine z_iload_n dX13_firstCome_27 rfl rfl ?_
      refine z_if_eq (tgt := 63) dX13_firstCome_28 (by decide) (fun c6 => ?_) (fun c6 => ?_)
      · have hf := z_if_t hf c6
        refine z_aload_n dX13_firstCome_63 rfl rfl (z_okl g_a0) ?_
        refine y_getR lfX13_7 rfl g_a0 dX13_firstCome_64 ?_
        refine z_aload_n dX13_firstCome_67 rfl rfl (z_okl g_a0) ?_
        refine y_getR lfX13_13 rfl g_a0 dX13_firstCome_68 ?_
        obtain ⟨q7, hq7, hf⟩ := z_b_el hf
        refine y_cSv (Nat.le_trans (Nat.le_of_ble_eq_true rfl) hd) (wX13_copies (z_dl rfl hd) hq7) oX13_copies lmX13_349 sX13_copies _ rfl rfl (Nat.le_of_ble_eq_true rfl) dX13_firstCome_71 ?_
        refine z_aload_n dX13_firstCome_74 rfl rfl (z_okl g_a0) ?_
        refine z_iload_n dX13_firstCome_75 rfl rfl ?_
        obtain ⟨q8, hq8, hf⟩ := z_b_el hf
        refine y_cVv (av := [.int x1]) (Nat.le_trans (Nat.le_of_ble_eq_true rfl) hd) (wX13_ticksGo (z_dl rfl hd) hq8) oX13_ticksGo lmX13_346 iX13_ticksGo g_a0 rfl _ rfl rfl (Nat.le_of_ble_eq_true rfl) dX13_firstCome_76 ?_
        refine z_aload_n dX13_firstCome_79 rfl rfl (z_okl g_a0) ?_
        refine y_getR lfX13_13 rfl g_a0 dX13_firstCome_80 ?_
        refine z_aload_n dX13_firstCome_83 rfl rfl (z_okl g_a0) ?_
        refine y_getR lfX13_7 rfl g_a0 dX13_firstCome_84 ?_
        obtain ⟨q9, hq9, hf⟩ := z_b_el hf
        refine y_cSv (Nat.le_trans (Nat.le_of_ble_eq_true rfl) hd) (wX13_copies (z_dl rfl hd) hq9) oX13_copies lmX13_349 sX13_copies _ rfl rfl (Nat.le_of_ble_eq_true rfl) dX13_firstCome_87 ?_
        refine z_aload_n dX13_firstCome_90 rfl rfl (z_okl g_a0) ?_
        refine y_getI lfX13_306 rfl g_a0 dX13_firstCome_91 ?_
        refine z_iconst dX13_firstCome_94 kc_m1 ?_
        refine z_icmp_ne (tgt := 101) dX13_firstCome_95 (by decide) (fun c10 => ?_) (fun c10 => ?_)
        · have hf := z_if_f hf c10
          refine z_iload_n dX13_firstCome_101 rfl rfl ?_
          refine z_if_ne (tgt := 112) dX13_firstCome_102 (by decide) (fun c11 => ?_) (fun c11 => ?_)
          · have hf := z_if_f hf c11
            refine z_aload_n dX13_firstCome_112 rfl rfl (z_okl g_a0) ?_
            refine y_getI lfX13_309 rfl g_a0 dX13_firstCome_113 ?_
            cases hf
            exact z_iret hk ⟨_, rfl, rfl⟩ dX13_firstCome_116
          · have hf := z_if_t hf c11
            refine z_aload_n dX13_firstCome_105 rfl rfl (z_okl g_a0) ?_
            refine y_getI lfX13_306 rfl g_a0 dX13_firstCome_106 ?_
            refine z_goto (tgt := 116) dX13_firstCome_109 (by decide) ?_
            cases hf
            exact z_iret hk ⟨_, rfl, rfl⟩ dX13_firstCome_116
        · have hf := z_if_t hf c10
          refine z_bipush dX13_firstCome_98 kb_m2 ?_
          cases hf
          exact z_iret hk ⟨_, rfl, rfl⟩ dX13_firstCome_100
      · have hf := z_if_f hf c6
        refine z_iconst dX13_firstCome_31 kc_0 ?_
        refine y_istore0 [some (.ref a0), some (.int x1), some (.int x2), some (.int q5), some (.int (0 : Int32))] dX13_firstCome_32 (by decide) rfl ?_
        obtain ⟨q15, hq15, hf⟩ := z_b_el hf
        refine y_sub (lv' := [none, none, some (.int x2), some (.int q5), some (.int (0 : Int32))]) ?_ (z_le_n (z_le_n (z_le_c rfl (z_le_c rfl (z_le_c rfl z_le_0)))))
        refine z_lp_el (P := (fun s : Int32 => z_W G eX13_firstCome d 0 0 34 [none, none, some (.int x2), some (.int q5), some (.int s)] [] z_SH (I, R) Q)) (E := (fun x : Int32 => z_W G eX13_firstCome d 0 0 52 [none, none, some (.int x2), none, some (.int x)] [] z_SH (I, R) Q)) (wX13_firstCome_b34 hd g_a0) 300 (0 : Int32) q15 hq15 ?_
        show z_W G eX13_firstCome d 0 0 52 [none, none, some (.int x2), none, some (.int q15)] [] z_SH (I, R) _
        refine z_iload_n dX13_firstCome_52 rfl rfl ?_
        refine z_if_ne (tgt := 61) dX13_firstCome_53 (by decide) (fun c16 => ?_) (fun c16 => ?_)
        · have hf := z_if_f hf c16
          refine z_iconst dX13_firstCome_61 kc_0 ?_
          cases hf
          exact z_iret hk ⟨_, rfl, rfl⟩ dX13_firstCome_62
        · have hf := z_if_t hf c16
          refine z_iload dX13_firstCome_56 rfl ?_
          refine z_goto (tgt := 62) dX13_firstCome_58 (by decide) ?_
          cases hf
          exact z_iret hk ⟨_, rfl, rfl⟩ dX13_firstCome_62
    · have hf := z_if_t hf c4
      refine z_iconst dX13_firstCome_20 kc_m1 ?_
      cases hf
      exact z_iret hk ⟨_, rfl, rfl⟩ dX13_firstCome_21
theorem wX13_firstCome {G : z_G} {d : Nat} {a0 : Nat} {x1 : Int32} {x2 : Int32} {I : Nat → Nat → Int32} {R : Nat → Nat → Nat} {q : Int32 × (Nat → Nat → Int32)} (hd : 9 ≤ d) (hf : fX13_firstCome a0 x1 x2 I R = some q) : z_M G d 0 0 eX13_firstCome [.ref a0, .int x1, .int x2] z_SH (I, R) (z_E (some (.int q.1)) (q.2, R)) :=
  y_M_of _ (by decide +kernel) rfl rfl rfl (vX13_firstCome hd hf ⟨rfl, rfl, rfl⟩)
def fX13_areClashing (x0 : Int32) (x1 : Int32) : Option (Int32) :=
  z_b (fX13_size (x0 - x1)) (fun q1 => if x0 ≤ 0 then (some (0 : Int32)) else (if x1 ≤ 0 then (some (0 : Int32)) else (if q1 = (1 : Int32) then (some (1 : Int32)) else (if q1 = (6 : Int32) then (some (1 : Int32)) else (some (0 : Int32))))))
theorem vX13_areClashing {G : z_G} {d : Nat} {Q : Option Value → z_S → z_H → Prop} {x0 : Int32} {x1 : Int32} {I : Nat → Nat → Int32} {R : Nat → Nat → Nat} {q : Int32} (hd : 1 ≤ d) (hf : fX13_areClashing x0 x1 = some q) (hk : Q (some (.int q)) z_SH (I, R)) : z_W G eX13_areClashing d 0 0 0 [some (.int x0), some (.int x1), none] [] z_SH (I, R) Q := by
  unfold fX13_areClashing at hf
  refine z_iload_n dX13_areClashing_0 rfl rfl ?_
  refine z_iload_n dX13_areClashing_1 rfl rfl ?_
  refine z_isub dX13_areClashing_2 ?_
  obtain ⟨q1, hq1, hf⟩ := z_b_el hf
  refine y_cSi (Nat.le_trans (Nat.le_of_ble_eq_true rfl) hd) (wX13_size (z_dl rfl hd) hq1) oX13_size lmX13_134 sX13_size _ rfl rfl (Nat.le_of_ble_eq_true rfl) dX13_areClashing_3 ?_
  refine y_istore_n0 [some (.int x0), some (.int x1), some (.int q1)] dX13_areClashing_6 rfl (by decide) rfl ?_
  refine z_iload_n dX13_areClashing_7 rfl rfl ?_
  refine z_if_le (tgt := 30) dX13_areClashing_8 (by decide) (fun c2 => ?_) (fun c2 => ?_)
  · have hf := z_if_t hf c2
    refine z_iconst dX13_areClashing_30 kc_0 ?_
    cases hf
    exact z_iret hk ⟨_, rfl, rfl⟩ dX13_areClashing_31
  · have hf := z_if_f hf c2
    refine z_iload_n dX13_areClashing_11 rfl rfl ?_
    refine z_if_le (tgt := 30) dX13_areClashing_12 (by decide) (fun c3 => ?_) (fun c3 => ?_)
    · have hf := z_if_t hf c3
      refine z_iconst dX13_areClashing_30 kc_0 ?_
      cases hf
      exact z_iret hk ⟨_, rfl, rfl⟩ dX13_areClashing_31
    · have hf := z_if_f hf c3
      refine z_iload_n dX13_areClashing_15 rfl rfl ?_
      refine z_iconst dX13_areClashing_16 kc_1 ?_
      refine z_icmp_eq (tgt := 26) dX13_areClashing_17 (by decide) (fun c4 => ?_) (fun c4 => ?_)
      · have hf := z_if_t hf c4
        refine z_iconst dX13_areClashing_26 kc_1 ?_
        refine z_goto (tgt := 31) dX13_areClashing_27 (by decide) ?_
        cases hf
        exact z_iret hk ⟨_, rfl, rfl⟩ dX13_areClashing_31
      · have hf := z_if_f hf c4
        refine z_iload_n dX13_areClashing_20 rfl rfl ?_
        refine z_bipush dX13_areClashing_21 kb_6 ?_
        refine z_icmp_ne (tgt := 30) dX13_areClashing_23 (by decide) (fun c5 => ?_) (fun c5 => ?_)
        · have hf := z_if_f hf c5
          refine z_iconst dX13_areClashing_30 kc_0 ?_
          cases hf
          exact z_iret hk ⟨_, rfl, rfl⟩ dX13_areClashing_31
        · have hf := z_if_t hf c5
          refine z_iconst dX13_areClashing_26 kc_1 ?_
          refine z_goto (tgt := 31) dX13_areClashing_27 (by decide) ?_
          cases hf
          exact z_iret hk ⟨_, rfl, rfl⟩ dX13_areClashing_31
theorem wX13_areClashing {G : z_G} {d : Nat} {x0 : Int32} {x1 : Int32} {I : Nat → Nat → Int32} {R : Nat → Nat → Nat} {q : Int32} (hd : 1 ≤ d) (hf : fX13_areClashing x0 x1 = some q) : z_M G d 0 0 eX13_areClashing [.int x0, .int x1] z_SH (I, R) (z_E (some (.int q)) (I, R)) :=
  y_M_of _ (by decide +kernel) rfl rfl rfl (vX13_areClashing hd hf ⟨rfl, rfl, rfl⟩)
def fX13_soundOf (a0 : Nat) (x1 : Int32) (I : Nat → Nat → Int32) (R : Nat → Nat → Nat) : Option (Int32) :=
  z_g (z_ob a0 13) (z_b (fX13_isTold a0 x1 I R) (fun q1 => if q1 = 0 then (some (0 : Int32)) else (z_b (fX13_isDone a0 x1 I R) (fun q3 => if q3 = 0 then (z_g (z_ok 1 (R a0 0) ((72 : Int32) + x1)) (if (I (R a0 0) ((72 : Int32) + x1).toNatClampNeg) = 0 then (z_b (fX13_noteNow a0 x1 I R) (fun q7 => some q7)) else (some (0 : Int32)))) else (some (0 : Int32))))))
theorem vX13_soundOf {G : z_G} {d : Nat} {Q : Option Value → z_S → z_H → Prop} {a0 : Nat} {x1 : Int32} {I : Nat → Nat → Int32} {R : Nat → Nat → Nat} {q : Int32} (hd : 2 ≤ d) (hf : fX13_soundOf a0 x1 I R = some q) (hk : Q (some (.int q)) z_SH (I, R)) : z_W G eX13_soundOf d 0 0 0 [some (.ref a0), some (.int x1)] [] z_SH (I, R) Q := by
  unfold fX13_soundOf at hf
  obtain ⟨g_a0, hf⟩ := z_g_el hf
  refine z_aload_n dX13_soundOf_0 rfl rfl (z_okl g_a0) ?_
  refine z_iload_n dX13_soundOf_1 rfl rfl ?_
  obtain ⟨q1, hq1, hf⟩ := z_b_el hf
  refine y_cVi (av := [.int x1]) (Nat.le_trans (Nat.le_of_ble_eq_true rfl) hd) (wX13_isTold (z_dl rfl hd) hq1) oX13_isTold lmX13_118 iX13_isTold g_a0 rfl _ rfl rfl (Nat.le_of_ble_eq_true rfl) dX13_soundOf_2 ?_
  refine z_if_eq (tgt := 36) dX13_soundOf_5 (by decide) (fun c2 => ?_) (fun c2 => ?_)
  · have hf := z_if_t hf c2
    refine z_iconst dX13_soundOf_36 kc_0 ?_
    cases hf
    exact z_iret hk ⟨_, rfl, rfl⟩ dX13_soundOf_37
  · have hf := z_if_f hf c2
    refine z_aload_n dX13_soundOf_8 rfl rfl (z_okl g_a0) ?_
    refine z_iload_n dX13_soundOf_9 rfl rfl ?_
    obtain ⟨q3, hq3, hf⟩ := z_b_el hf
    refine y_cVi (av := [.int x1]) (Nat.le_trans (Nat.le_of_ble_eq_true rfl) hd) (wX13_isDone (z_dl rfl hd) hq3) oX13_isDone lmX13_270 iX13_isDone g_a0 rfl _ rfl rfl (Nat.le_of_ble_eq_true rfl) dX13_soundOf_10 ?_
    refine z_if_ne (tgt := 36) dX13_soundOf_13 (by decide) (fun c4 => ?_) (fun c4 => ?_)
    · have hf := z_if_f hf c4
      refine z_iconst dX13_soundOf_36 kc_0 ?_
      cases hf
      exact z_iret hk ⟨_, rfl, rfl⟩ dX13_soundOf_37
    · have hf := z_if_t hf c4
      refine z_aload_n dX13_soundOf_16 rfl rfl (z_okl g_a0) ?_
      refine y_getR lfX13_7 rfl g_a0 dX13_soundOf_17 ?_
      refine z_bipush dX13_soundOf_20 kb_72 ?_
      refine z_iload_n dX13_soundOf_22 rfl rfl ?_
      refine z_iadd dX13_soundOf_23 ?_
      obtain ⟨g5, hf⟩ := z_g_el hf
      refine y_iald g5 dX13_soundOf_24 ?_
      refine z_if_ne (tgt := 36) dX13_soundOf_25 (by decide) (fun c6 => ?_) (fun c6 => ?_)
      · have hf := z_if_f hf c6
        refine z_iconst dX13_soundOf_36 kc_0 ?_
        cases hf
        exact z_iret hk ⟨_, rfl, rfl⟩ dX13_soundOf_37
      · have hf := z_if_t hf c6
        refine z_aload_n dX13_soundOf_28 rfl rfl (z_okl g_a0) ?_
        refine z_iload_n dX13_soundOf_29 rfl rfl ?_
        obtain ⟨q7, hq7, hf⟩ := z_b_el hf
        refine y_cVi (av := [.int x1]) (Nat.le_trans (Nat.le_of_ble_eq_true rfl) hd) (wX13_noteNow (z_dl rfl hd) hq7) oX13_noteNow lmX13_276 iX13_noteNow g_a0 rfl _ rfl rfl (Nat.le_of_ble_eq_true rfl) dX13_soundOf_30 ?_
        refine z_goto (tgt := 37) dX13_soundOf_33 (by decide) ?_
        cases hf
        exact z_iret hk ⟨_, rfl, rfl⟩ dX13_soundOf_37
theorem wX13_soundOf {G : z_G} {d : Nat} {a0 : Nat} {x1 : Int32} {I : Nat → Nat → Int32} {R : Nat → Nat → Nat} {q : Int32} (hd : 2 ≤ d) (hf : fX13_soundOf a0 x1 I R = some q) : z_M G d 0 0 eX13_soundOf [.ref a0, .int x1] z_SH (I, R) (z_E (some (.int q)) (I, R)) :=
  y_M_of _ (by decide +kernel) rfl rfl rfl (vX13_soundOf hd hf ⟨rfl, rfl, rfl⟩)
def fX13_sounds_b48 (a0 : Nat) (z1 : Int32) (z2 : Int32) (z4 : Int32) (I : Nat → Nat → Int32) (R : Nat → Nat → Nat) : (Int32 × Int32) → Option ((Int32 × Int32) ⊕ (Int32)) :=
  fun s => (fun (p3 : Int32) (p5 : Int32) => if z4 ≤ p5 then (some (.inr p3)) else (z_b (fX13_soundOf a0 z4 I R) (fun q7 => z_b (fX13_soundOf a0 p5 I R) (fun q8 => z_b (fX13_areClashing q7 q8) (fun q9 => if q9 = 0 then (z_l (p5 + (1 : Int32)) (fun t11 => some (.inl (p3, t11)))) else (z_l (p3 + (1 : Int32)) (fun t12 => z_l (p5 + (1 : Int32)) (fun t13 => some (.inl (t12, t13)))))))))) s.1 s.2
theorem wX13_sounds_b48 {G : z_G} {d : Nat} {Q : Option Value → z_S → z_H → Prop} {a0 : Nat} {z1 : Int32} {z2 : Int32} {z4 : Int32} {I : Nat → Nat → Int32} {R : Nat → Nat → Nat} (hd : 3 ≤ d) (g_a0 : z_ob a0 13) : ∀ (s : Int32 × Int32) (o : (Int32 × Int32) ⊕ (Int32)), fX13_sounds_b48 a0 z1 z2 z4 I R s = some o → z_or (fun s : Int32 × Int32 => z_W G eX13_sounds d 0 0 48 [some (.ref a0), some (.int z1), some (.int z2), some (.int s.1), some (.int z4), some (.int s.2)] [] z_SH (I, R) Q) (fun x : Int32 => z_W G eX13_sounds d 0 0 83 [some (.ref a0), some (.int z1), some (.int z2), some (.int x), some (.int z4), none] [] z_SH (I, R) Q) o → (fun s : Int32 × Int32 => z_W G eX13_sounds d 0 0 48 [some (.ref a0), some (.int z1), some (.int z2), some (.int s.1), some (.int z4), some (.int s.2)] [] z_SH (I, R) Q) s := by
  rintro ⟨p3, p5⟩ o hf hk
  show z_W G eX13_sounds d 0 0 48 [some (.ref a0), some (.int z1), some (.int z2), some (.int p3), some (.int z4), some (.int p5)] [] z_SH (I, R) Q
  unfold fX13_sounds_b48 at hf
  try dsimp only at hf
  refine z_iload dX13_sounds_48 rfl ?_
  refine z_iload dX13_sounds_50 rfl ?_
  refine z_icmp_ge (tgt := 83) dX13_sounds_52 (by decide) (fun c6 => ?_) (fun c6 => ?_)
  · have hf := z_if_t hf c6
    cases hf
    exact y_sub hk (z_le_c rfl (z_le_c rfl (z_le_c rfl (z_le_c rfl (z_le_c rfl (z_le_n z_le_0))))))
  · have hf := z_if_f hf c6
    refine z_aload_n dX13_sounds_55 rfl rfl (z_okl g_a0) ?_
    refine z_iload dX13_sounds_56 rfl ?_
    obtain ⟨q7, hq7, hf⟩ := z_b_el hf
    refine y_cVi (av := [.int z4]) (Nat.le_trans (Nat.le_of_ble_eq_true rfl) hd) (wX13_soundOf (z_dl rfl hd) hq7) oX13_soundOf lmX13_359 iX13_soundOf g_a0 rfl _ rfl rfl (Nat.le_of_ble_eq_true rfl) dX13_sounds_58 ?_
    refine z_aload_n dX13_sounds_61 rfl rfl (z_okl g_a0) ?_
    refine z_iload dX13_sounds_62 rfl ?_
    obtain ⟨q8, hq8, hf⟩ := z_b_el hf
    refine y_cVi (av := [.int p5]) (Nat.le_trans (Nat.le_of_ble_eq_true rfl) hd) (wX13_soundOf (z_dl rfl hd) hq8) oX13_soundOf lmX13_359 iX13_soundOf g_a0 rfl _ rfl rfl (Nat.le_of_ble_eq_true rfl) dX13_sounds_64 ?_
    obtain ⟨q9, hq9, hf⟩ := z_b_el hf
    refine y_cSi (Nat.le_trans (Nat.le_of_ble_eq_true rfl) hd) (wX13_areClashing (z_dl rfl hd) hq9) oX13_areClashing lmX13_362 sX13_areClashing _ rfl rfl (Nat.le_of_ble_eq_true rfl) dX13_sounds_67 ?_
    refine z_if_eq (tgt := 77) dX13_sounds_70 (by decide) (fun c10 => ?_) (fun c10 => ?_)
    · have hf := z_if_t hf c10
      refine y_iinc (fun t11 => [some (.ref a0), some (.int z1), some (.int z2), some (.int p3), some (.int z4), some (.int t11)]) dX13_sounds_77 rfl kc_1 (by decide) (fun _ => rfl) (fun t11 et11 => ?_)
      have hf := z_l_el hf et11
      refine z_goto (tgt := 48) dX13_sounds_80 (by decide) ?_
      cases hf
      exact y_sub hk (z_le_c rfl (z_le_c rfl (z_le_c rfl (z_le_c rfl (z_le_c rfl (z_le_c rfl z_le_0))))))
    · have hf := z_if_f hf c10
      refine z_iload_n dX13_sounds_73 rfl rfl ?_
      refine z_iconst dX13_sounds_74 kc_1 ?_
      refine z_iadd dX13_sounds_75 ?_
      refine y_istore_n (fun t12 => [some (.ref a0), some (.int z1), some (.int z2), some (.int t12), some (.int z4), some (.int p5)]) dX13_sounds_76 rfl (by decide) (fun _ => rfl) (fun t12 et12 => ?_)
      have hf := z_l_el hf et12
      refine y_iinc (fun t13 => [some (.ref a0), some (.int z1), some (.int z2), some (.int t12), some (.int z4), some (.int t13)]) dX13_sounds_77 rfl kc_1 (by decide) (fun _ => rfl) (fun t13 et13 => ?_)
      have hf := z_l_el hf et13
      refine z_goto (tgt := 48) dX13_sounds_80 (by decide) ?_
      cases hf
      exact y_sub hk (z_le_c rfl (z_le_c rfl (z_le_c rfl (z_le_c rfl (z_le_c rfl (z_le_c rfl z_le_0))))))
def fX13_sounds_j45_18 (a0 : Nat) (z1 : Int32) (y2 : Int32) (y3 : Int32) (y4 : Int32) (I : Nat → Nat → Int32) (R : Nat → Nat → Nat) : Option ((Int32 × Int32 × Int32) ⊕ (Int32 × Int32)) :=
  z_b (z_lp (fX13_sounds_b48 a0 z1 y2 y4 I R) 300 (y3, (0 : Int32))) (fun q14 => z_l (y4 + (1 : Int32)) (fun t15 => some (.inl (y2, q14, t15))))
theorem wX13_sounds_j45_18 {G : z_G} {d : Nat} {Q : Option Value → z_S → z_H → Prop} {a0 : Nat} {z1 : Int32} {y2 : Int32} {y3 : Int32} {y4 : Int32} {I : Nat → Nat → Int32} {R : Nat → Nat → Nat} {o : (Int32 × Int32 × Int32) ⊕ (Int32 × Int32)} (hd : 3 ≤ d) (g_a0 : z_ob a0 13) (hf : fX13_sounds_j45_18 a0 z1 y2 y3 y4 I R = some o) (hk : z_or (fun s : Int32 × Int32 × Int32 => z_W G eX13_sounds d 0 0 18 [some (.ref a0), some (.int z1), some (.int s.1), some (.int s.2.1), some (.int s.2.2), none] [] z_SH (I, R) Q) (fun x : Int32 × Int32 => z_W G eX13_sounds d 0 0 89 [none, some (.int z1), some (.int x.1), some (.int x.2), none, none] [] z_SH (I, R) Q) o) : z_W G eX13_sounds d 0 0 45 [some (.ref a0), some (.int z1), some (.int y2), some (.int y3), some (.int y4), none] [] z_SH (I, R) Q := by
  unfold fX13_sounds_j45_18 at hf
  refine z_iconst dX13_sounds_45 kc_0 ?_
  refine y_istore0 [some (.ref a0), some (.int z1), some (.int y2), some (.int y3), some (.int y4), some (.int (0 : Int32))] dX13_sounds_46 (by decide) rfl ?_
  obtain ⟨q14, hq14, hf⟩ := z_b_el hf
  refine y_sub (lv' := [some (.ref a0), some (.int z1), some (.int y2), some (.int y3), some (.int y4), some (.int (0 : Int32))]) ?_ (z_le_c rfl (z_le_c rfl (z_le_c rfl (z_le_c rfl (z_le_c rfl (z_le_c rfl z_le_0))))))
  refine z_lp_el (P := (fun s : Int32 × Int32 => z_W G eX13_sounds d 0 0 48 [some (.ref a0), some (.int z1), some (.int y2), some (.int s.1), some (.int y4), some (.int s.2)] [] z_SH (I, R) Q)) (E := (fun x : Int32 => z_W G eX13_sounds d 0 0 83 [some (.ref a0), some (.int z1), some (.int y2), some (.int x), some (.int y4), none] [] z_SH (I, R) Q)) (wX13_sounds_b48 hd g_a0) 300 (y3, (0 : Int32)) q14 hq14 ?_
  show z_W G eX13_sounds d 0 0 83 [some (.ref a0), some (.int z1), some (.int y2), some (.int q14), some (.int y4), none] [] z_SH (I, R) _
  refine y_iinc (fun t15 => [some (.ref a0), some (.int z1), some (.int y2), some (.int q14), some (.int t15), none]) dX13_sounds_83 rfl kc_1 (by decide) (fun _ => rfl) (fun t15 et15 => ?_)
  have hf := z_l_el hf et15
  refine z_goto (tgt := 18) dX13_sounds_86 (by decide) ?_
  cases hf
  exact y_sub hk (z_le_c rfl (z_le_c rfl (z_le_c rfl (z_le_c rfl (z_le_c rfl (z_le_n z_le_0))))))
def fX13_sounds_b18 (a0 : Nat) (z1 : Int32) (I : Nat → Nat → Int32) (R : Nat → Nat → Nat) : (Int32 × Int32 × Int32) → Option ((Int32 × Int32 × Int32) ⊕ (Int32 × Int32)) :=
  fun s => (fun (p2 : Int32) (p3 : Int32) (p4 : Int32) => if (8 : Int32) ≤ p4 then (some (.inr (p2, p3))) else (z_b (fX13_soundOf a0 p4 I R) (fun q4 => if q4 ≤ 0 then (fX13_sounds_j45_18 a0 z1 p2 p3 p4 I R) else (z_b (fX13_soundOf a0 p4 I R) (fun q16 => z_l (p2 ||| (z_shl (1 : Int32) q16)) (fun t17 => fX13_sounds_j45_18 a0 z1 t17 p3 p4 I R)))))) s.1 s.2.1 s.2.2
theorem wX13_sounds_b18 {G : z_G} {d : Nat} {Q : Option Value → z_S → z_H → Prop} {a0 : Nat} {z1 : Int32} {I : Nat → Nat → Int32} {R : Nat → Nat → Nat} (hd : 3 ≤ d) (g_a0 : z_ob a0 13) : ∀ (s : Int32 × Int32 × Int32) (o : (Int32 × Int32 × Int32) ⊕ (Int32 × Int32)), fX13_sounds_b18 a0 z1 I R s = some o → z_or (fun s : Int32 × Int32 × Int32 => z_W G eX13_sounds d 0 0 18 [some (.ref a0), some (.int z1), some (.int s.1), some (.int s.2.1), some (.int s.2.2), none] [] z_SH (I, R) Q) (fun x : Int32 × Int32 => z_W G eX13_sounds d 0 0 89 [none, some (.int z1), some (.int x.1), some (.int x.2), none, none] [] z_SH (I, R) Q) o → (fun s : Int32 × Int32 × Int32 => z_W G eX13_sounds d 0 0 18 [some (.ref a0), some (.int z1), some (.int s.1), some (.int s.2.1), some (.int s.2.2), none] [] z_SH (I, R) Q) s := by
  rintro ⟨p2, p3, p4⟩ o hf hk
  show z_W G eX13_sounds d 0 0 18 [some (.ref a0), some (.int z1), some (.int p2), some (.int p3), some (.int p4), none] [] z_SH (I, R) Q
  unfold fX13_sounds_b18 at hf
  try dsimp only at hf
  refine z_iload dX13_sounds_18 rfl ?_
  refine z_bipush dX13_sounds_20 kb_8 ?_
  refine z_icmp_ge (tgt := 89) dX13_sounds_22 (by decide) (fun c3 => ?_) (fun c3 => ?_)
  · have hf := z_if_t hf c3
    cases hf
    exact y_sub hk (z_le_n (z_le_c rfl (z_le_c rfl (z_le_c rfl (z_le_n (z_le_n z_le_0))))))
  · have hf := z_if_f hf c3
    refine z_aload_n dX13_sounds_25 rfl rfl (z_okl g_a0) ?_
    refine z_iload dX13_sounds_26 rfl ?_
    obtain ⟨q4, hq4, hf⟩ := z_b_el hf
    refine y_cVi (av := [.int p4]) (Nat.le_trans (Nat.le_of_ble_eq_true rfl) hd) (wX13_soundOf (z_dl rfl hd) hq4) oX13_soundOf lmX13_359 iX13_soundOf g_a0 rfl _ rfl rfl (Nat.le_of_ble_eq_true rfl) dX13_sounds_28 ?_
    refine z_if_le (tgt := 45) dX13_sounds_31 (by decide) (fun c5 => ?_) (fun c5 => ?_)
    · have hf := z_if_t hf c5
      exact y_sub (wX13_sounds_j45_18 hd g_a0 hf hk) (z_le_c rfl (z_le_c rfl (z_le_c rfl (z_le_c rfl (z_le_c rfl (z_le_n z_le_0))))))
    · have hf := z_if_f hf c5
      refine z_iload_n dX13_sounds_34 rfl rfl ?_
      refine z_iconst dX13_sounds_35 kc_1 ?_
      refine z_aload_n dX13_sounds_36 rfl rfl (z_okl g_a0) ?_
      refine z_iload dX13_sounds_37 rfl ?_
      obtain ⟨q16, hq16, hf⟩ := z_b_el hf
      refine y_cVi (av := [.int p4]) (Nat.le_trans (Nat.le_of_ble_eq_true rfl) hd) (wX13_soundOf (z_dl rfl hd) hq16) oX13_soundOf lmX13_359 iX13_soundOf g_a0 rfl _ rfl rfl (Nat.le_of_ble_eq_true rfl) dX13_sounds_39 ?_
      refine y_ishl dX13_sounds_42 ?_
      refine z_ior dX13_sounds_43 ?_
      refine y_istore_n (fun t17 => [some (.ref a0), some (.int z1), some (.int t17), some (.int p3), some (.int p4), none]) dX13_sounds_44 rfl (by decide) (fun _ => rfl) (fun t17 et17 => ?_)
      have hf := z_l_el hf et17
      exact y_sub (wX13_sounds_j45_18 hd g_a0 hf hk) (z_le_c rfl (z_le_c rfl (z_le_c rfl (z_le_c rfl (z_le_c rfl (z_le_n z_le_0))))))
def fX13_sounds (a0 : Nat) (x1 : Int32) (I : Nat → Nat → Int32) (R : Nat → Nat → Nat) : Option (Int32) :=
  z_g (z_ob a0 13) (z_b (fX13_in x1 (0 : Int32) (1 : Int32)) (fun q1 => if q1 = 0 then (some (-1 : Int32)) else (z_b (z_lp (fX13_sounds_b18 a0 x1 I R) 300 ((0 : Int32), (0 : Int32), (0 : Int32))) (fun q18 => if x1 = 0 then (some q18.1) else (some q18.2)))))
theorem vX13_sounds {G : z_G} {d : Nat} {Q : Option Value → z_S → z_H → Prop} {a0 : Nat} {x1 : Int32} {I : Nat → Nat → Int32} {R : Nat → Nat → Nat} {q : Int32} (hd : 3 ≤ d) (hf : fX13_sounds a0 x1 I R = some q) (hk : Q (some (.int q)) z_SH (I, R)) : z_W G eX13_sounds d 0 0 0 [some (.ref a0), some (.int x1), none, none, none, none] [] z_SH (I, R) Q := by
  unfold fX13_sounds at hf
  obtain ⟨g_a0, hf⟩ := z_g_el hf
  refine z_iload_n dX13_sounds_0 rfl rfl ?_
  refine z_iconst dX13_sounds_1 kc_0 ?_
  refine z_iconst dX13_sounds_2 kc_1 ?_
  obtain ⟨q1, hq1, hf⟩ := z_b_el hf
  refine y_cSi (Nat.le_trans (Nat.le_of_ble_eq_true rfl) hd) (wX13_in (z_dl rfl hd) hq1) oX13_in lmX13_114 sX13_in _ rfl rfl (Nat.le_of_ble_eq_true rfl) dX13_sounds_3 ?_
  refine z_if_ne (tgt := 11) dX13_sounds_6 (by decide) (fun c2 => ?_) (fun c2 => ?_)
  · have hf := z_if_f hf c2
    refine z_iconst dX13_sounds_11 kc_0 ?_
    refine y_istore_n0 [some (.ref a0), some (.int x1), some (.int (0 : Int32)), none, none, none] dX13_sounds_12 rfl (by decide) rfl ?_
    refine z_iconst dX13_sounds_13 kc_0 ?_
    refine y_istore_n0 [some (.ref a0), some (.int x1), some (.int (0 : Int32)), some (.int (0 : Int32)), none, none] dX13_sounds_14 rfl (by decide) rfl ?_
    refine z_iconst dX13_sounds_15 kc_0 ?_
    refine y_istore0 [some (.ref a0), some (.int x1), some (.int (0 : Int32)), some (.int (0 : Int32)), some (.int (0 : Int32)), none] dX13_sounds_16 (by decide) rfl ?_
    obtain ⟨q18, hq18, hf⟩ := z_b_el hf
    refine y_sub (lv' := [some (.ref a0), some (.int x1), some (.int (0 : Int32)), some (.int (0 : Int32)), some (.int (0 : Int32)), none]) ?_ (z_le_c rfl (z_le_c rfl (z_le_c rfl (z_le_c rfl (z_le_c rfl (z_le_n z_le_0))))))
    refine z_lp_el (P := (fun s : Int32 × Int32 × Int32 => z_W G eX13_sounds d 0 0 18 [some (.ref a0), some (.int x1), some (.int s.1), some (.int s.2.1), some (.int s.2.2), none] [] z_SH (I, R) Q)) (E := (fun x : Int32 × Int32 => z_W G eX13_sounds d 0 0 89 [none, some (.int x1), some (.int x.1), some (.int x.2), none, none] [] z_SH (I, R) Q)) (wX13_sounds_b18 hd g_a0) 300 ((0 : Int32), (0 : Int32), (0 : Int32)) q18 hq18 ?_
    show z_W G eX13_sounds d 0 0 89 [none, some (.int x1), some (.int q18.1), some (.int q18.2), none, none] [] z_SH (I, R) _
    refine z_iload_n dX13_sounds_89 rfl rfl ?_
    refine z_if_ne (tgt := 97) dX13_sounds_90 (by decide) (fun c19 => ?_) (fun c19 => ?_)
    · have hf := z_if_f hf c19
      refine z_iload_n dX13_sounds_97 rfl rfl ?_
      cases hf
      exact z_iret hk ⟨_, rfl, rfl⟩ dX13_sounds_98
    · have hf := z_if_t hf c19
      refine z_iload_n dX13_sounds_93 rfl rfl ?_
      refine z_goto (tgt := 98) dX13_sounds_94 (by decide) ?_
      cases hf
      exact z_iret hk ⟨_, rfl, rfl⟩ dX13_sounds_98
  · have hf := z_if_t hf c2
    refine z_iconst dX13_sounds_9 kc_m1 ?_
    cases hf
    exact z_iret hk ⟨_, rfl, rfl⟩ dX13_sounds_10
theorem wX13_sounds {G : z_G} {d : Nat} {a0 : Nat} {x1 : Int32} {I : Nat → Nat → Int32} {R : Nat → Nat → Nat} {q : Int32} (hd : 3 ≤ d) (hf : fX13_sounds a0 x1 I R = some q) : z_M G d 0 0 eX13_sounds [.ref a0, .int x1] z_SH (I, R) (z_E (some (.int q)) (I, R)) :=
  y_M_of _ (by decide +kernel) rfl rfl rfl (vX13_sounds hd hf ⟨rfl, rfl, rfl⟩)
def fX13_clashesBy_b6 (a0 : Nat) (z1 : Int32) (z2 : Int32) (z3 : Int32) (I : Nat → Nat → Int32) (R : Nat → Nat → Nat) : (Int32 × Int32) → Option ((Int32 × Int32) ⊕ (Int32)) :=
  fun s => (fun (p4 : Int32) (p5 : Int32) => z_g (z_ok 1 (R a0 9) z1) (if (I (R a0 9) z1.toNatClampNeg) ≤ p5 then (some (.inr p4)) else (z_g (z_ok 1 (R a0 9) z2) (if (I (R a0 9) z2.toNatClampNeg) ≤ (p5 - z3) then (some (.inr p4)) else (z_g (z_ok 1 (R a0 5) (((60 : Int32) * z1) + p5)) (z_g (z_ok 1 (R a0 5) ((((60 : Int32) * z2) + p5) - z3)) (z_b (fX13_areClashing (I (R a0 5) (((60 : Int32) * z1) + p5).toNatClampNeg) (I (R a0 5) ((((60 : Int32) * z2) + p5) - z3).toNatClampNeg)) (fun q7 => if q7 = 0 then (z_l (p5 + (1 : Int32)) (fun t9 => some (.inl (p4, t9)))) else (z_l (p4 + (1 : Int32)) (fun t10 => z_l (p5 + (1 : Int32)) (fun t11 => some (.inl (t10, t11))))))))))))) s.1 s.2
theorem wX13_clashesBy_b6 {G : z_G} {d : Nat} {Q : Option Value → z_S → z_H → Prop} {a0 : Nat} {z1 : Int32} {z2 : Int32} {z3 : Int32} {I : Nat → Nat → Int32} {R : Nat → Nat → Nat} (hd : 2 ≤ d) (g_a0 : z_ob a0 13) : ∀ (s : Int32 × Int32) (o : (Int32 × Int32) ⊕ (Int32)), fX13_clashesBy_b6 a0 z1 z2 z3 I R s = some o → z_or (fun s : Int32 × Int32 => z_W G eX13_clashesBy d 0 0 6 [some (.ref a0), some (.int z1), some (.int z2), some (.int z3), some (.int s.1), some (.int s.2)] [] z_SH (I, R) Q) (fun x : Int32 => z_W G eX13_clashesBy d 0 0 74 [none, none, none, none, some (.int x), none] [] z_SH (I, R) Q) o → (fun s : Int32 × Int32 => z_W G eX13_clashesBy d 0 0 6 [some (.ref a0), some (.int z1), some (.int z2), some (.int z3), some (.int s.1), some (.int s.2)] [] z_SH (I, R) Q) s := by
  rintro ⟨p4, p5⟩ o hf hk
  show z_W G eX13_clashesBy d 0 0 6 [some (.ref a0), some (.int z1), some (.int z2), some (.int z3), some (.int p4), some (.int p5)] [] z_SH (I, R) Q
  unfold fX13_clashesBy_b6 at hf
  try dsimp only at hf
  refine z_iload dX13_clashesBy_6 rfl ?_
  refine z_aload_n dX13_clashesBy_8 rfl rfl (z_okl g_a0) ?_
  refine y_getR lfX13_31 rfl g_a0 dX13_clashesBy_9 ?_
  refine z_iload_n dX13_clashesBy_12 rfl rfl ?_
  obtain ⟨g1, hf⟩ := z_g_el hf
  refine y_iald g1 dX13_clashesBy_13 ?_
  refine z_icmp_ge (tgt := 74) dX13_clashesBy_14 (by decide) (fun c2 => ?_) (fun c2 => ?_)
  · have hf := z_if_t hf c2
    cases hf
    exact y_sub hk (z_le_n (z_le_n (z_le_n (z_le_n (z_le_c rfl (z_le_n z_le_0))))))
  · have hf := z_if_f hf c2
    refine z_iload dX13_clashesBy_17 rfl ?_
    refine z_iload_n dX13_clashesBy_19 rfl rfl ?_
    refine z_isub dX13_clashesBy_20 ?_
    refine z_aload_n dX13_clashesBy_21 rfl rfl (z_okl g_a0) ?_
    refine y_getR lfX13_31 rfl g_a0 dX13_clashesBy_22 ?_
    refine z_iload_n dX13_clashesBy_25 rfl rfl ?_
    obtain ⟨g3, hf⟩ := z_g_el hf
    refine y_iald g3 dX13_clashesBy_26 ?_
    refine z_icmp_ge (tgt := 74) dX13_clashesBy_27 (by decide) (fun c4 => ?_) (fun c4 => ?_)
    · have hf := z_if_t hf c4
      cases hf
      exact y_sub hk (z_le_n (z_le_n (z_le_n (z_le_n (z_le_c rfl (z_le_n z_le_0))))))
    · have hf := z_if_f hf c4
      refine z_aload_n dX13_clashesBy_30 rfl rfl (z_okl g_a0) ?_
      refine y_getR lfX13_19 rfl g_a0 dX13_clashesBy_31 ?_
      refine z_bipush dX13_clashesBy_34 kb_60 ?_
      refine z_iload_n dX13_clashesBy_36 rfl rfl ?_
      refine z_imul dX13_clashesBy_37 ?_
      refine z_iload dX13_clashesBy_38 rfl ?_
      refine z_iadd dX13_clashesBy_40 ?_
      obtain ⟨g5, hf⟩ := z_g_el hf
      refine y_iald g5 dX13_clashesBy_41 ?_
      refine z_aload_n dX13_clashesBy_42 rfl rfl (z_okl g_a0) ?_
      refine y_getR lfX13_19 rfl g_a0 dX13_clashesBy_43 ?_
      refine z_bipush dX13_clashesBy_46 kb_60 ?_
      refine z_iload_n dX13_clashesBy_48 rfl rfl ?_
      refine z_imul dX13_clashesBy_49 ?_
      refine z_iload dX13_clashesBy_50 rfl ?_
      refine z_iadd dX13_clashesBy_52 ?_
      refine z_iload_n dX13_clashesBy_53 rfl rfl ?_
      refine z_isub dX13_clashesBy_54 ?_
      obtain ⟨g6, hf⟩ := z_g_el hf
      refine y_iald g6 dX13_clashesBy_55 ?_
      obtain ⟨q7, hq7, hf⟩ := z_b_el hf
      refine y_cSi (Nat.le_trans (Nat.le_of_ble_eq_true rfl) hd) (wX13_areClashing (z_dl rfl hd) hq7) oX13_areClashing lmX13_362 sX13_areClashing _ rfl rfl (Nat.le_of_ble_eq_true rfl) dX13_clashesBy_56 ?_
      refine z_if_eq (tgt := 68) dX13_clashesBy_59 (by decide) (fun c8 => ?_) (fun c8 => ?_)
      · have hf := z_if_t hf c8
        refine y_iinc (fun t9 => [some (.ref a0), some (.int z1), some (.int z2), some (.int z3), some (.int p4), some (.int t9)]) dX13_clashesBy_68 rfl kc_1 (by decide) (fun _ => rfl) (fun t9 et9 => ?_)
        have hf := z_l_el hf et9
        refine z_goto (tgt := 6) dX13_clashesBy_71 (by decide) ?_
        cases hf
        exact y_sub hk (z_le_c rfl (z_le_c rfl (z_le_c rfl (z_le_c rfl (z_le_c rfl (z_le_c rfl z_le_0))))))
      · have hf := z_if_f hf c8
        refine z_iload dX13_clashesBy_62 rfl ?_
        refine z_iconst dX13_clashesBy_64 kc_1 ?_
        refine z_iadd dX13_clashesBy_65 ?_
        refine y_istore (fun t10 => [some (.ref a0), some (.int z1), some (.int z2), some (.int z3), some (.int t10), some (.int p5)]) dX13_clashesBy_66 (by decide) (fun _ => rfl) (fun t10 et10 => ?_)
        have hf := z_l_el hf et10
        refine y_iinc (fun t11 => [some (.ref a0), some (.int z1), some (.int z2), some (.int z3), some (.int t10), some (.int t11)]) dX13_clashesBy_68 rfl kc_1 (by decide) (fun _ => rfl) (fun t11 et11 => ?_)
        have hf := z_l_el hf et11
        refine z_goto (tgt := 6) dX13_clashesBy_71 (by decide) ?_
        cases hf
        exact y_sub hk (z_le_c rfl (z_le_c rfl (z_le_c rfl (z_le_c rfl (z_le_c rfl (z_le_c rfl z_le_0))))))
def fX13_clashesBy (a0 : Nat) (x1 : Int32) (x2 : Int32) (x3 : Int32) (I : Nat → Nat → Int32) (R : Nat → Nat → Nat) : Option (Int32) :=
  z_g (z_ob a0 13) (z_b (z_lp (fX13_clashesBy_b6 a0 x1 x2 x3 I R) 300 ((0 : Int32), x3)) (fun q12 => some q12))
theorem vX13_clashesBy {G : z_G} {d : Nat} {Q : Option Value → z_S → z_H → Prop} {a0 : Nat} {x1 : Int32} {x2 : Int32} {x3 : Int32} {I : Nat → Nat → Int32} {R : Nat → Nat → Nat} {q : Int32} (hd : 2 ≤ d) (hf : fX13_clashesBy a0 x1 x2 x3 I R = some q) (hk : Q (some (.int q)) z_SH (I, R)) : z_W G eX13_clashesBy d 0 0 0 [some (.ref a0), some (.int x1), some (.int x2), some (.int x3), none, none] [] z_SH (I, R) Q := by
  unfold fX13_clashesBy at hf
  obtain ⟨g_a0, hf⟩ := z_g_el hf
  refine z_iconst dX13_clashesBy_0 kc_0 ?_
  refine y_istore0 [some (.ref a0), some (.int x1), some (.int x2), some (.int x3), some (.int (0 : Int32)), none] dX13_clashesBy_1 (by decide) rfl ?_
  refine z_iload_n dX13_clashesBy_3 rfl rfl ?_
  refine y_istore0 [some (.ref a0), some (.int x1), some (.int x2), some (.int x3), some (.int (0 : Int32)), some (.int x3)] dX13_clashesBy_4 (by decide) rfl ?_
  obtain ⟨q12, hq12, hf⟩ := z_b_el hf
  refine y_sub (lv' := [some (.ref a0), some (.int x1), some (.int x2), some (.int x3), some (.int (0 : Int32)), some (.int x3)]) ?_ (z_le_c rfl (z_le_c rfl (z_le_c rfl (z_le_c rfl (z_le_c rfl (z_le_c rfl z_le_0))))))
  refine z_lp_el (P := (fun s : Int32 × Int32 => z_W G eX13_clashesBy d 0 0 6 [some (.ref a0), some (.int x1), some (.int x2), some (.int x3), some (.int s.1), some (.int s.2)] [] z_SH (I, R) Q)) (E := (fun x : Int32 => z_W G eX13_clashesBy d 0 0 74 [none, none, none, none, some (.int x), none] [] z_SH (I, R) Q)) (wX13_clashesBy_b6 hd g_a0) 300 ((0 : Int32), x3) q12 hq12 ?_
  show z_W G eX13_clashesBy d 0 0 74 [none, none, none, none, some (.int q12), none] [] z_SH (I, R) _
  refine z_iload dX13_clashesBy_74 rfl ?_
  cases hf
  exact z_iret hk ⟨_, rfl, rfl⟩ dX13_clashesBy_76
theorem wX13_clashesBy {G : z_G} {d : Nat} {a0 : Nat} {x1 : Int32} {x2 : Int32} {x3 : Int32} {I : Nat → Nat → Int32} {R : Nat → Nat → Nat} {q : Int32} (hd : 2 ≤ d) (hf : fX13_clashesBy a0 x1 x2 x3 I R = some q) : z_M G d 0 0 eX13_clashesBy [.ref a0, .int x1, .int x2, .int x3] z_SH (I, R) (z_E (some (.int q)) (I, R)) :=
  y_M_of _ (by decide +kernel) rfl rfl rfl (vX13_clashesBy hd hf ⟨rfl, rfl, rfl⟩)
def fX13_canon_b59 (a0 : Nat) (z1 : Int32) (z2 : Int32) (z3 : Int32) (I : Nat → Nat → Int32) (R : Nat → Nat → Nat) : (Int32 × Int32) → Option ((Int32 × Int32) ⊕ (Int32)) :=
  fun s => (fun (p4 : Int32) (p5 : Int32) => if (60 : Int32) ≤ p5 then (some (.inr p4)) else (z_b (fX13_clashesBy a0 z1 z2 p5 I R) (fun q10 => z_b (fX13_clashesBy a0 z1 z2 p4 I R) (fun q11 => if q11 ≤ q10 then (z_l (p5 + (1 : Int32)) (fun t13 => some (.inl (p4, t13)))) else (z_l (p5 + (1 : Int32)) (fun t14 => some (.inl (p5, t14)))))))) s.1 s.2
theorem wX13_canon_b59 {G : z_G} {d : Nat} {Q : Option Value → z_S → z_H → Prop} {a0 : Nat} {z1 : Int32} {z2 : Int32} {z3 : Int32} {I : Nat → Nat → Int32} {R : Nat → Nat → Nat} (hd : 3 ≤ d) (g_a0 : z_ob a0 13) : ∀ (s : Int32 × Int32) (o : (Int32 × Int32) ⊕ (Int32)), fX13_canon_b59 a0 z1 z2 z3 I R s = some o → z_or (fun s : Int32 × Int32 => z_W G eX13_canon d 0 0 59 [some (.ref a0), some (.int z1), some (.int z2), some (.int z3), some (.int s.1), some (.int s.2)] [] z_SH (I, R) Q) (fun x : Int32 => z_W G eX13_canon d 0 0 95 [some (.ref a0), some (.int z1), some (.int z2), some (.int z3), some (.int x), none] [] z_SH (I, R) Q) o → (fun s : Int32 × Int32 => z_W G eX13_canon d 0 0 59 [some (.ref a0), some (.int z1), some (.int z2), some (.int z3), some (.int s.1), some (.int s.2)] [] z_SH (I, R) Q) s := by
  rintro ⟨p4, p5⟩ o hf hk
  show z_W G eX13_canon d 0 0 59 [some (.ref a0), some (.int z1), some (.int z2), some (.int z3), some (.int p4), some (.int p5)] [] z_SH (I, R) Q
  unfold fX13_canon_b59 at hf
  try dsimp only at hf
  refine z_iload dX13_canon_59 rfl ?_
  refine z_bipush dX13_canon_61 kb_60 ?_
  refine z_icmp_ge (tgt := 95) dX13_canon_63 (by decide) (fun c9 => ?_) (fun c9 => ?_)
  · have hf := z_if_t hf c9
    cases hf
    exact y_sub hk (z_le_c rfl (z_le_c rfl (z_le_c rfl (z_le_c rfl (z_le_c rfl (z_le_n z_le_0))))))
  · have hf := z_if_f hf c9
    refine z_aload_n dX13_canon_66 rfl rfl (z_okl g_a0) ?_
    refine z_iload_n dX13_canon_67 rfl rfl ?_
    refine z_iload_n dX13_canon_68 rfl rfl ?_
    refine z_iload dX13_canon_69 rfl ?_
    obtain ⟨q10, hq10, hf⟩ := z_b_el hf
    refine y_cVi (av := [.int z1, .int z2, .int p5]) (Nat.le_trans (Nat.le_of_ble_eq_true rfl) hd) (wX13_clashesBy (z_dl rfl hd) hq10) oX13_clashesBy lmX13_365 iX13_clashesBy g_a0 rfl _ rfl rfl (Nat.le_of_ble_eq_true rfl) dX13_canon_71 ?_
    refine z_aload_n dX13_canon_74 rfl rfl (z_okl g_a0) ?_
    refine z_iload_n dX13_canon_75 rfl rfl ?_
    refine z_iload_n dX13_canon_76 rfl rfl ?_
    refine z_iload dX13_canon_77 rfl ?_
    obtain ⟨q11, hq11, hf⟩ := z_b_el hf
    refine y_cVi (av := [.int z1, .int z2, .int p4]) (Nat.le_trans (Nat.le_of_ble_eq_true rfl) hd) (wX13_clashesBy (z_dl rfl hd) hq11) oX13_clashesBy lmX13_365 iX13_clashesBy g_a0 rfl _ rfl rfl (Nat.le_of_ble_eq_true rfl) dX13_canon_79 ?_
    refine z_icmp_ge (tgt := 89) dX13_canon_82 (by decide) (fun c12 => ?_) (fun c12 => ?_)
    · have hf := z_if_t hf c12
      refine y_iinc (fun t13 => [some (.ref a0), some (.int z1), some (.int z2), some (.int z3), some (.int p4), some (.int t13)]) dX13_canon_89 rfl kc_1 (by decide) (fun _ => rfl) (fun t13 et13 => ?_)
      have hf := z_l_el hf et13
      refine z_goto (tgt := 59) dX13_canon_92 (by decide) ?_
      cases hf
      exact y_sub hk (z_le_c rfl (z_le_c rfl (z_le_c rfl (z_le_c rfl (z_le_c rfl (z_le_c rfl z_le_0))))))
    · have hf := z_if_f hf c12
      refine z_iload dX13_canon_85 rfl ?_
      refine y_istore0 [some (.ref a0), some (.int z1), some (.int z2), some (.int z3), some (.int p5), some (.int p5)] dX13_canon_87 (by decide) rfl ?_
      refine y_iinc (fun t14 => [some (.ref a0), some (.int z1), some (.int z2), some (.int z3), some (.int p5), some (.int t14)]) dX13_canon_89 rfl kc_1 (by decide) (fun _ => rfl) (fun t14 et14 => ?_)
      have hf := z_l_el hf et14
      refine z_goto (tgt := 59) dX13_canon_92 (by decide) ?_
      cases hf
      exact y_sub hk (z_le_c rfl (z_le_c rfl (z_le_c rfl (z_le_c rfl (z_le_c rfl (z_le_c rfl z_le_0))))))
def fX13_canon (a0 : Nat) (x1 : Int32) (x2 : Int32) (x3 : Int32) (I : Nat → Nat → Int32) (R : Nat → Nat → Nat) : Option (Int32) :=
  z_g (z_ob a0 13) (z_b (fX13_in x1 (0 : Int32) (7 : Int32)) (fun q1 => if q1 = 0 then (some (-1 : Int32)) else (z_b (fX13_in x2 (0 : Int32) (7 : Int32)) (fun q3 => if q3 = 0 then (some (-1 : Int32)) else (z_b (fX13_in x3 (0 : Int32) (59 : Int32)) (fun q5 => if q5 = 0 then (z_b (fX13_in x3 (100 : Int32) (101 : Int32)) (fun q7 => if q7 = 0 then (some (-1 : Int32)) else (z_b (z_lp (fX13_canon_b59 a0 x1 x2 x3 I R) 300 ((0 : Int32), (1 : Int32))) (fun q15 => if x3 = (100 : Int32) then (some q15) else (z_b (fX13_clashesBy a0 x1 x2 q15 I R) (fun q17 => some q17)))))) else (z_b (fX13_clashesBy a0 x1 x2 x3 I R) (fun q18 => some q18))))))))
set_option maxRecDepth 20000 in
theorem vX13_canon {G : z_G} {d : Nat} {Q : Option Value → z_S → z_H → Prop} {a0 : Nat} {x1 : Int32} {x2 : Int32} {x3 : Int32} {I : Nat → Nat → Int32} {R : Nat → Nat → Nat} {q : Int32} (hd : 3 ≤ d) (hf : fX13_canon a0 x1 x2 x3 I R = some q) (hk : Q (some (.int q)) z_SH (I, R)) : z_W G eX13_canon d 0 0 0 [some (.ref a0), some (.int x1), some (.int x2), some (.int x3), none, none] [] z_SH (I, R) Q := by
  unfold fX13_canon at hf
  obtain ⟨g_a0, hf⟩ := z_g_el hf
  refine z_iload_n dX13_canon_0 rfl rfl ?_
  refine z_iconst dX13_canon_1 kc_0 ?_
  refine z_bipush dX13_canon_2 kb_7 ?_
  obtain ⟨q1, hq1, hf⟩ := z_b_el hf
  refine y_cSi (Nat.le_trans (Nat.le_of_ble_eq_true rfl) hd) (wX13_in (z_dl rfl hd) hq1) oX13_in lmX13_114 sX13_in _ rfl rfl (Nat.le_of_ble_eq_true rfl) dX13_canon_4 ?_
  refine z_if_eq (tgt := 20) dX13_canon_7 (by decide) (fun c2 => ?_) (fun c2 => ?_)
  · have hf := z_if_t hf c2
    refine z_iconst dX13_canon_20 kc_m1 ?_
    cases hf
    exact z_iret hk ⟨_, rfl, rfl⟩ dX13_canon_21
  · have hf := z_if_f hf c2
    refine z_iload_n dX13_canon_10 rfl rfl ?_
    refine z_iconst dX13_canon_11 kc_0 ?_
    refine z_bipush dX13_canon_12 kb_7 ?_
    obtain ⟨q3, hq3, hf⟩ := z_b_el hf
    refine y_cSi (Nat.le_trans (Nat.le_of_ble_eq_true rfl) hd) (wX13_in (z_dl rfl hd) hq3) oX13_in lmX13_114 sX13_in _ rfl rfl (Nat.le_of_ble_eq_true rfl) dX13_canon_14 ?_
    refine z_if_ne (tgt := 22) dX13_canon_17 (by decide) (fun c4 => ?_) (fun c4 => ?_)
    · have hf := z_if_f hf c4
      refine z_iload_n dX13_canon_22 rfl rfl ?_
      refine z_iconst dX13_canon_23 kc_0 ?_
      refine z_bipush dX13_canon_24 kb_59 ?_
      obtain ⟨q5, hq5, hf⟩ := z_b_el hf
      refine y_cSi (Nat.le_trans (Nat.le_of_ble_eq_true rfl) hd) (wX13_in (z_dl rfl hd) hq5) oX13_in lmX13_114 sX13_in _ rfl rfl (Nat.le_of_ble_eq_true rfl) dX13_canon_26 ?_
      refine z_if_eq (tgt := 40) dX13_canon_29 (by decide) (fun c6 => ?_) (fun c6 => ?_)
      · have hf := z_if_t hf c6
        refine z_iload_n dX13_canon_40 rfl rfl ?_
        refine z_bipush dX13_canon_41 kb_100 ?_
        refine z_bipush dX13_canon_43 kb_101 ?_
        obtain ⟨q7, hq7, hf⟩ := z_b_el hf
        refine y_cSi (Nat.le_trans (Nat.le_of_ble_eq_true rfl) hd) (wX13_in (z_dl rfl hd) hq7) oX13_in lmX13_114 sX13_in _ rfl rfl (Nat.le_of_ble_eq_true rfl) dX13_canon_45 ?_
        refine z_if_ne (tgt := 53) dX13_canon_48 (by decide) (fun c8 => ?_) (fun c8 => ?_)
        · have hf := z_if_f hf c8
          refine z_iconst dX13_canon_53 kc_0 ?_
          refine y_istore0 [some (.ref a0), some (.int x1), some (.int x2), some (.int x3), some (.int (0 : Int32)), none] dX13_canon_54 (by decide) rfl ?_
          refine z_iconst dX13_canon_56 kc_1 ?_
          refine y_istore0 [some (.ref a0), some (.int x1), some (.int x2), some (.int x3), some (.int (0 : Int32)), some (.int (1 : Int32))] dX13_canon_57 (by decide) rfl ?_
          obtain ⟨q15, hq15, hf⟩ := z_b_el hf
          refine y_sub (lv' := [some (.ref a0), some (.int x1), some (.int x2), some (.int x3), some (.int (0 : Int32)), some (.int (1 : Int32))]) ?_ (z_le_c rfl (z_le_c rfl (z_le_c rfl (z_le_c rfl (z_le_c rfl (z_le_c rfl z_le_0))))))
          refine z_lp_el (P := (fun s : Int32 × Int32 => z_W G eX13_canon d 0 0 59 [some (.ref a0), some (.int x1), some (.int x2), some (.int x3), some (.int s.1), some (.int s.2)] [] z_SH (I, R) Q)) (E := (fun x : Int32 => z_W G eX13_canon d 0 0 95 [some (.ref a0), some (.int x1), some (.int x2), some (.int x3), some (.int x), none] [] z_SH (I, R) Q)) (wX13_canon_b59 hd g_a0) 300 ((0 : Int32), (1 : Int32)) q15 hq15 ?_
          show z_W G eX13_canon d 0 0 95 [some (.ref a0), some (.int x1), some (.int x2), some (.int x3), some (.int q15), none] [] z_SH (I, R) _
          refine z_iload_n dX13_canon_95 rfl rfl ?_
          refine z_bipush dX13_canon_96 kb_100 ?_
          refine z_icmp_ne (tgt := 106) dX13_canon_98 (by decide) (fun c16 => ?_) (fun c16 => ?_)
          · have hf := z_if_f hf c16
            refine z_aload_n dX13_canon_106 rfl rfl (z_okl g_a0) ?_
            refine z_iload_n dX13_canon_107 rfl rfl ?_
            refine z_iload_n dX13_canon_108 rfl rfl ?_
            refine z_iload dX13_canon_109 rfl ?_
            obtain ⟨q17, hq17, hf⟩ := z_b_el hf
            refine y_cVi (av := [.int x1, .int x2, .int q15]) (Nat.le_trans (Nat.le_of_ble_eq_true rfl) hd) (wX13_clashesBy (z_dl rfl hd) hq17) oX13_clashesBy lmX13_365 iX13_clashesBy g_a0 rfl _ rfl rfl (Nat.le_of_ble_eq_true rfl) dX13_canon_111 ?_
            cases hf
            exact z_iret hk ⟨_, rfl, rfl⟩ dX13_canon_114
          · have hf := z_if_t hf c16
            refine z_iload dX13_canon_101 rfl ?_
            refine z_goto (tgt := 114) dX13_canon_103 (by decide) ?_
            cases hf
            exact z_iret hk ⟨_, rfl, rfl⟩ dX13_canon_114
        · have hf := z_if_t hf c8
          refine z_iconst dX13_canon_51 kc_m1 ?_
          cases hf
          exact z_iret hk ⟨_, rfl, rfl⟩ dX13_canon_52
      · have hf := z_if_f hf c6
        refine z_aload_n dX13_canon_32 rfl rfl (z_okl g_a0) ?_
        refine z_iload_n dX13_canon_33 rfl rfl ?_
        refine z_iload_n dX13_canon_34 rfl rfl ?_
        refine z_iload_n dX13_canon_35 rfl rfl ?_
        obtain ⟨q18, hq18, hf⟩ := z_b_el hf
        refine y_cVi (av := [.int x1, .int x2, .int x3]) (Nat.le_trans (Nat.le_of_ble_eq_true rfl) hd) (wX13_clashesBy (z_dl rfl hd) hq18) oX13_clashesBy lmX13_365 iX13_clashesBy g_a0 rfl _ rfl rfl (Nat.le_of_ble_eq_true rfl) dX13_canon_36 ?_
        cases hf
        exact z_iret hk ⟨_, rfl, rfl⟩ dX13_canon_39
    · have hf := z_if_t hf c4
      refine z_iconst dX13_canon_20 kc_m1 ?_
      cases hf
      exact z_iret hk ⟨_, rfl, rfl⟩ dX13_canon_21
theorem wX13_canon {G : z_G} {d : Nat} {a0 : Nat} {x1 : Int32} {x2 : Int32} {x3 : Int32} {I : Nat → Nat → Int32} {R : Nat → Nat → Nat} {q : Int32} (hd : 3 ≤ d) (hf : fX13_canon a0 x1 x2 x3 I R = some q) : z_M G d 0 0 eX13_canon [.ref a0, .int x1, .int x2, .int x3] z_SH (I, R) (z_E (some (.int q)) (I, R)) :=
  y_M_of _ (by decide +kernel) rfl rfl rfl (vX13_canon hd hf ⟨rfl, rfl, rfl⟩)
def fX13_laysTune_b5 (a0 : Nat) (a2 : Nat) (z1 : Int32) (R : Nat → Nat → Nat) : (Int32 × Int32 × (Nat → Nat → Int32)) → Option ((Int32 × Int32 × (Nat → Nat → Int32)) ⊕ (Int32 × (Nat → Nat → Int32))) :=
  fun s => (fun (p3 : Int32) (p4 : Int32) (I : Nat → Nat → Int32) => z_g (z_ok 1 (R a0 9) z1) (if (I (R a0 9) z1.toNatClampNeg) ≤ p4 then (some (.inr (p3, I))) else (z_g (z_ok 1 (R a0 8) (((60 : Int32) * z1) + p4)) (if (I (R a0 8) (((60 : Int32) * z1) + p4).toNatClampNeg) = 0 then (z_l (p4 + (1 : Int32)) (fun t5 => some (.inl (p3, t5, I)))) else (z_g (z_ok 1 (R a0 5) (((60 : Int32) * z1) + p4)) (if (I (R a0 5) (((60 : Int32) * z1) + p4).toNatClampNeg) = 0 then (z_l (p4 + (1 : Int32)) (fun t12 => some (.inl (p3, t12, I)))) else (z_g (z_ok 1 a2 p3) (z_l (z_u I a2 p3.toNatClampNeg (I (R a0 5) (((60 : Int32) * z1) + p4).toNatClampNeg)) (fun I9 => z_l (p3 + (1 : Int32)) (fun t10 => z_l (p4 + (1 : Int32)) (fun t11 => some (.inl (t10, t11, I9))))))))))))) s.1 s.2.1 s.2.2
theorem wX13_laysTune_b5 {G : z_G} {d : Nat} {Q : Option Value → z_S → z_H → Prop} {a0 : Nat} {a2 : Nat} {z1 : Int32} {R : Nat → Nat → Nat} (hd : 0 ≤ d) (g_a0 : z_ob a0 13) (g_a2 : z_ar a2) : ∀ (s : Int32 × Int32 × (Nat → Nat → Int32)) (o : (Int32 × Int32 × (Nat → Nat → Int32)) ⊕ (Int32 × (Nat → Nat → Int32))), fX13_laysTune_b5 a0 a2 z1 R s = some o → z_or (fun s : Int32 × Int32 × (Nat → Nat → Int32) => z_W G eX13_laysTune d 0 0 5 [some (.ref a0), some (.int z1), some (.ref a2), some (.int s.1), some (.int s.2.1)] [] z_SH (s.2.2, R) Q) (fun x : Int32 × (Nat → Nat → Int32) => z_W G eX13_laysTune d 0 0 74 [none, none, none, some (.int x.1), none] [] z_SH (x.2, R) Q) o → (fun s : Int32 × Int32 × (Nat → Nat → Int32) => z_W G eX13_laysTune d 0 0 5 [some (.ref a0), some (.int z1), some (.ref a2), some (.int s.1), some (.int s.2.1)] [] z_SH (s.2.2, R) Q) s := by
  rintro ⟨p3, p4, I⟩ o hf hk
  show z_W G eX13_laysTune d 0 0 5 [some (.ref a0), some (.int z1), some (.ref a2), some (.int p3), some (.int p4)] [] z_SH (I, R) Q
  unfold fX13_laysTune_b5 at hf
  try dsimp only at hf
  refine z_iload dX13_laysTune_5 rfl ?_
  refine z_aload_n dX13_laysTune_7 rfl rfl (z_okl g_a0) ?_
  refine y_getR lfX13_31 rfl g_a0 dX13_laysTune_8 ?_
  refine z_iload_n dX13_laysTune_11 rfl rfl ?_
  obtain ⟨g1, hf⟩ := z_g_el hf
  refine y_iald g1 dX13_laysTune_12 ?_
  refine z_icmp_ge (tgt := 74) dX13_laysTune_13 (by decide) (fun c2 => ?_) (fun c2 => ?_)
  · have hf := z_if_t hf c2
    cases hf
    exact y_sub hk (z_le_n (z_le_n (z_le_n (z_le_c rfl (z_le_n z_le_0)))))
  · have hf := z_if_f hf c2
    refine z_aload_n dX13_laysTune_16 rfl rfl (z_okl g_a0) ?_
    refine y_getR lfX13_28 rfl g_a0 dX13_laysTune_17 ?_
    refine z_bipush dX13_laysTune_20 kb_60 ?_
    refine z_iload_n dX13_laysTune_22 rfl rfl ?_
    refine z_imul dX13_laysTune_23 ?_
    refine z_iload dX13_laysTune_24 rfl ?_
    refine z_iadd dX13_laysTune_26 ?_
    obtain ⟨g3, hf⟩ := z_g_el hf
    refine y_iald g3 dX13_laysTune_27 ?_
    refine z_if_eq (tgt := 68) dX13_laysTune_28 (by decide) (fun c4 => ?_) (fun c4 => ?_)
    · have hf := z_if_t hf c4
      refine y_iinc (fun t5 => [some (.ref a0), some (.int z1), some (.ref a2), some (.int p3), some (.int t5)]) dX13_laysTune_68 rfl kc_1 (by decide) (fun _ => rfl) (fun t5 et5 => ?_)
      have hf := z_l_el hf et5
      refine z_goto (tgt := 5) dX13_laysTune_71 (by decide) ?_
      cases hf
      exact y_sub hk (z_le_c rfl (z_le_c rfl (z_le_c rfl (z_le_c rfl (z_le_c rfl z_le_0)))))
    · have hf := z_if_f hf c4
      refine z_aload_n dX13_laysTune_31 rfl rfl (z_okl g_a0) ?_
      refine y_getR lfX13_19 rfl g_a0 dX13_laysTune_32 ?_
      refine z_bipush dX13_laysTune_35 kb_60 ?_
      refine z_iload_n dX13_laysTune_37 rfl rfl ?_
      refine z_imul dX13_laysTune_38 ?_
      refine z_iload dX13_laysTune_39 rfl ?_
      refine z_iadd dX13_laysTune_41 ?_
      obtain ⟨g6, hf⟩ := z_g_el hf
      refine y_iald g6 dX13_laysTune_42 ?_
      refine z_if_ne (tgt := 49) dX13_laysTune_43 (by decide) (fun c7 => ?_) (fun c7 => ?_)
      · have hf := z_if_f hf c7
        refine z_aload_n dX13_laysTune_49 rfl rfl (z_ar_lt g_a2) ?_
        refine z_iload_n dX13_laysTune_50 rfl rfl ?_
        refine z_aload_n dX13_laysTune_51 rfl rfl (z_okl g_a0) ?_
        refine y_getR lfX13_19 rfl g_a0 dX13_laysTune_52 ?_
        refine z_bipush dX13_laysTune_55 kb_60 ?_
        refine z_iload_n dX13_laysTune_57 rfl rfl ?_
        refine z_imul dX13_laysTune_58 ?_
        refine z_iload dX13_laysTune_59 rfl ?_
        refine z_iadd dX13_laysTune_61 ?_
        refine y_iald g6 dX13_laysTune_62 ?_
        obtain ⟨g8, hf⟩ := z_g_el hf
        refine y_iast g8 dX13_laysTune_63 (fun I9 eI9 => ?_)
        have hf := z_l_el hf eI9
        refine z_iload_n dX13_laysTune_64 rfl rfl ?_
        refine z_iconst dX13_laysTune_65 kc_1 ?_
        refine z_iadd dX13_laysTune_66 ?_
        refine y_istore_n (fun t10 => [some (.ref a0), some (.int z1), some (.ref a2), some (.int t10), some (.int p4)]) dX13_laysTune_67 rfl (by decide) (fun _ => rfl) (fun t10 et10 => ?_)
        have hf := z_l_el hf et10
        refine y_iinc (fun t11 => [some (.ref a0), some (.int z1), some (.ref a2), some (.int t10), some (.int t11)]) dX13_laysTune_68 rfl kc_1 (by decide) (fun _ => rfl) (fun t11 et11 => ?_)
        have hf := z_l_el hf et11
        refine z_goto (tgt := 5) dX13_laysTune_71 (by decide) ?_
        cases hf
        exact y_sub hk (z_le_c rfl (z_le_c rfl (z_le_c rfl (z_le_c rfl (z_le_c rfl z_le_0)))))
      · have hf := z_if_t hf c7
        refine z_goto (tgt := 68) dX13_laysTune_46 (by decide) ?_
        refine y_iinc (fun t12 => [some (.ref a0), some (.int z1), some (.ref a2), some (.int p3), some (.int t12)]) dX13_laysTune_68 rfl kc_1 (by decide) (fun _ => rfl) (fun t12 et12 => ?_)
        have hf := z_l_el hf et12
        refine z_goto (tgt := 5) dX13_laysTune_71 (by decide) ?_
        cases hf
        exact y_sub hk (z_le_c rfl (z_le_c rfl (z_le_c rfl (z_le_c rfl (z_le_c rfl z_le_0)))))
def fX13_laysTune (a0 : Nat) (x1 : Int32) (a2 : Nat) (I : Nat → Nat → Int32) (R : Nat → Nat → Nat) : Option (Int32 × (Nat → Nat → Int32)) :=
  z_g (z_ob a0 13) (z_g (z_ar a2) (z_b (z_lp (fX13_laysTune_b5 a0 a2 x1 R) 300 ((0 : Int32), (0 : Int32), I)) (fun q13 => some (q13.1, q13.2))))
theorem vX13_laysTune {G : z_G} {d : Nat} {Q : Option Value → z_S → z_H → Prop} {a0 : Nat} {x1 : Int32} {a2 : Nat} {I : Nat → Nat → Int32} {R : Nat → Nat → Nat} {q : Int32 × (Nat → Nat → Int32)} (hd : 0 ≤ d) (hf : fX13_laysTune a0 x1 a2 I R = some q) (hk : Q (some (.int q.1)) z_SH (q.2, R)) : z_W G eX13_laysTune d 0 0 0 [some (.ref a0), some (.int x1), some (.ref a2), none, none] [] z_SH (I, R) Q := by
  unfold fX13_laysTune at hf
  obtain ⟨g_a0, hf⟩ := z_g_el hf
  obtain ⟨g_a2, hf⟩ := z_g_el hf
  refine z_iconst dX13_laysTune_0 kc_0 ?_
  refine y_istore_n0 [some (.ref a0), some (.int x1), some (.ref a2), some (.int (0 : Int32)), none] dX13_laysTune_1 rfl (by decide) rfl ?_
  refine z_iconst dX13_laysTune_2 kc_0 ?_
  refine y_istore0 [some (.ref a0), some (.int x1), some (.ref a2), some (.int (0 : Int32)), some (.int (0 : Int32))] dX13_laysTune_3 (by decide) rfl ?_
  obtain ⟨q13, hq13, hf⟩ := z_b_el hf
  refine y_sub (lv' := [some (.ref a0), some (.int x1), some (.ref a2), some (.int (0 : Int32)), some (.int (0 : Int32))]) ?_ (z_le_c rfl (z_le_c rfl (z_le_c rfl (z_le_c rfl (z_le_c rfl z_le_0)))))
  refine z_lp_el (P := (fun s : Int32 × Int32 × (Nat → Nat → Int32) => z_W G eX13_laysTune d 0 0 5 [some (.ref a0), some (.int x1), some (.ref a2), some (.int s.1), some (.int s.2.1)] [] z_SH (s.2.2, R) Q)) (E := (fun x : Int32 × (Nat → Nat → Int32) => z_W G eX13_laysTune d 0 0 74 [none, none, none, some (.int x.1), none] [] z_SH (x.2, R) Q)) (wX13_laysTune_b5 hd g_a0 g_a2) 300 ((0 : Int32), (0 : Int32), I) q13 hq13 ?_
  show z_W G eX13_laysTune d 0 0 74 [none, none, none, some (.int q13.1), none] [] z_SH (q13.2, R) _
  refine z_iload_n dX13_laysTune_74 rfl rfl ?_
  cases hf
  exact z_iret hk ⟨_, rfl, rfl⟩ dX13_laysTune_75
theorem wX13_laysTune {G : z_G} {d : Nat} {a0 : Nat} {x1 : Int32} {a2 : Nat} {I : Nat → Nat → Int32} {R : Nat → Nat → Nat} {q : Int32 × (Nat → Nat → Int32)} (hd : 0 ≤ d) (hf : fX13_laysTune a0 x1 a2 I R = some q) : z_M G d 0 0 eX13_laysTune [.ref a0, .int x1, .ref a2] z_SH (I, R) (z_E (some (.int q.1)) (q.2, R)) :=
  y_M_of _ (by decide +kernel) rfl rfl rfl (vX13_laysTune hd hf ⟨rfl, rfl, rfl⟩)
def fX13_longestRow_b23 (a0 : Nat) (z1 : Int32) (z2 : Int32) (z3 : Int32) (z4 : Int32) (z5 : Int32) (I : Nat → Nat → Int32) (R : Nat → Nat → Nat) : (Int32) → Option ((Int32) ⊕ (Int32)) :=
  fun s => (fun (p6 : Int32) => if z1 ≤ (z4 + p6) then (some (.inr p6)) else (if z2 ≤ (z5 + p6) then (some (.inr p6)) else (z_g (z_ok 1 (R a0 52) (z4 + p6)) (z_g (z_ok 1 (R a0 52) ((z4 + p6) - (1 : Int32))) (z_g (z_ok 1 (R a0 53) (z5 + p6)) (z_g (z_ok 1 (R a0 53) ((z5 + p6) - (1 : Int32))) (if ((I (R a0 52) (z4 + p6).toNatClampNeg) - (I (R a0 52) ((z4 + p6) - (1 : Int32)).toNatClampNeg)) = ((I (R a0 53) (z5 + p6).toNatClampNeg) - (I (R a0 53) ((z5 + p6) - (1 : Int32)).toNatClampNeg)) then (z_l (p6 + (1 : Int32)) (fun t10 => some (.inl t10))) else (some (.inr p6))))))))) s
theorem wX13_longestRow_b23 {G : z_G} {d : Nat} {Q : Option Value → z_S → z_H → Prop} {a0 : Nat} {z1 : Int32} {z2 : Int32} {z3 : Int32} {z4 : Int32} {z5 : Int32} {I : Nat → Nat → Int32} {R : Nat → Nat → Nat} (hd : 0 ≤ d) (g_a0 : z_ob a0 13) : ∀ (s : Int32) (o : (Int32) ⊕ (Int32)), fX13_longestRow_b23 a0 z1 z2 z3 z4 z5 I R s = some o → z_or (fun s : Int32 => z_W G eX13_longestRow d 0 0 23 [some (.ref a0), some (.int z1), some (.int z2), some (.int z3), some (.int z4), some (.int z5), some (.int s)] [] z_SH (I, R) Q) (fun x : Int32 => z_W G eX13_longestRow d 0 0 99 [some (.ref a0), some (.int z1), some (.int z2), some (.int z3), some (.int z4), some (.int z5), some (.int x)] [] z_SH (I, R) Q) o → (fun s : Int32 => z_W G eX13_longestRow d 0 0 23 [some (.ref a0), some (.int z1), some (.int z2), some (.int z3), some (.int z4), some (.int z5), some (.int s)] [] z_SH (I, R) Q) s := by
  intro p6 o hf hk
  show z_W G eX13_longestRow d 0 0 23 [some (.ref a0), some (.int z1), some (.int z2), some (.int z3), some (.int z4), some (.int z5), some (.int p6)] [] z_SH (I, R) Q
  unfold fX13_longestRow_b23 at hf
  try dsimp only at hf
  refine z_iload dX13_longestRow_23 rfl ?_
  refine z_iload dX13_longestRow_25 rfl ?_
  refine z_iadd dX13_longestRow_27 ?_
  refine z_iload_n dX13_longestRow_28 rfl rfl ?_
  refine z_icmp_ge (tgt := 99) dX13_longestRow_29 (by decide) (fun c3 => ?_) (fun c3 => ?_)
  · have hf := z_if_t hf c3
    cases hf
    exact y_sub hk (z_le_c rfl (z_le_c rfl (z_le_c rfl (z_le_c rfl (z_le_c rfl (z_le_c rfl (z_le_c rfl z_le_0)))))))
  · have hf := z_if_f hf c3
    refine z_iload dX13_longestRow_32 rfl ?_
    refine z_iload dX13_longestRow_34 rfl ?_
    refine z_iadd dX13_longestRow_36 ?_
    refine z_iload_n dX13_longestRow_37 rfl rfl ?_
    refine z_icmp_ge (tgt := 99) dX13_longestRow_38 (by decide) (fun c4 => ?_) (fun c4 => ?_)
    · have hf := z_if_t hf c4
      cases hf
      exact y_sub hk (z_le_c rfl (z_le_c rfl (z_le_c rfl (z_le_c rfl (z_le_c rfl (z_le_c rfl (z_le_c rfl z_le_0)))))))
    · have hf := z_if_f hf c4
      refine z_aload_n dX13_longestRow_41 rfl rfl (z_okl g_a0) ?_
      refine y_getR lfX13_98 rfl g_a0 dX13_longestRow_42 ?_
      refine z_iload dX13_longestRow_45 rfl ?_
      refine z_iload dX13_longestRow_47 rfl ?_
      refine z_iadd dX13_longestRow_49 ?_
      obtain ⟨g5, hf⟩ := z_g_el hf
      refine y_iald g5 dX13_longestRow_50 ?_
      refine z_aload_n dX13_longestRow_51 rfl rfl (z_okl g_a0) ?_
      refine y_getR lfX13_98 rfl g_a0 dX13_longestRow_52 ?_
      refine z_iload dX13_longestRow_55 rfl ?_
      refine z_iload dX13_longestRow_57 rfl ?_
      refine z_iadd dX13_longestRow_59 ?_
      refine z_iconst dX13_longestRow_60 kc_1 ?_
      refine z_isub dX13_longestRow_61 ?_
      obtain ⟨g6, hf⟩ := z_g_el hf
      refine y_iald g6 dX13_longestRow_62 ?_
      refine z_isub dX13_longestRow_63 ?_
      refine z_aload_n dX13_longestRow_64 rfl rfl (z_okl g_a0) ?_
      refine y_getR lfX13_101 rfl g_a0 dX13_longestRow_65 ?_
      refine z_iload dX13_longestRow_68 rfl ?_
      refine z_iload dX13_longestRow_70 rfl ?_
      refine z_iadd dX13_longestRow_72 ?_
      obtain ⟨g7, hf⟩ := z_g_el hf
      refine y_iald g7 dX13_longestRow_73 ?_
      refine z_aload_n dX13_longestRow_74 rfl rfl (z_okl g_a0) ?_
      refine y_getR lfX13_101 rfl g_a0 dX13_longestRow_75 ?_
      refine z_iload dX13_longestRow_78 rfl ?_
      refine z_iload dX13_longestRow_80 rfl ?_
      refine z_iadd dX13_longestRow_82 ?_
      refine z_iconst dX13_longestRow_83 kc_1 ?_
      refine z_isub dX13_longestRow_84 ?_
      obtain ⟨g8, hf⟩ := z_g_el hf
      refine y_iald g8 dX13_longestRow_85 ?_
      refine z_isub dX13_longestRow_86 ?_
      refine z_icmp_ne (tgt := 99) dX13_longestRow_87 (by decide) (fun c9 => ?_) (fun c9 => ?_)
      · have hf := z_if_f hf c9
        cases hf
        exact y_sub hk (z_le_c rfl (z_le_c rfl (z_le_c rfl (z_le_c rfl (z_le_c rfl (z_le_c rfl (z_le_c rfl z_le_0)))))))
      · have hf := z_if_t hf c9
        refine z_iload dX13_longestRow_90 rfl ?_
        refine z_iconst dX13_longestRow_92 kc_1 ?_
        refine z_iadd dX13_longestRow_93 ?_
        refine y_istore (fun t10 => [some (.ref a0), some (.int z1), some (.int z2), some (.int z3), some (.int z4), some (.int z5), some (.int t10)]) dX13_longestRow_94 (by decide) (fun _ => rfl) (fun t10 et10 => ?_)
        have hf := z_l_el hf et10
        refine z_goto (tgt := 23) dX13_longestRow_96 (by decide) ?_
        cases hf
        exact y_sub hk (z_le_c rfl (z_le_c rfl (z_le_c rfl (z_le_c rfl (z_le_c rfl (z_le_c rfl (z_le_c rfl z_le_0)))))))
def fX13_longestRow_j99_14 (a0 : Nat) (z1 : Int32) (z2 : Int32) (z4 : Int32) (y3 : Int32) (y5 : Int32) (y6 : Int32) (I : Nat → Nat → Int32) (R : Nat → Nat → Nat) : Option ((Int32 × Int32 × (Nat → Nat → Int32)) ⊕ (Int32 × (Nat → Nat → Int32))) :=
  if y3 < y6 then (z_l (z_u I a0 54 z4) (fun I13 => z_l (z_u I13 a0 55 y5) (fun I14 => z_l (y5 + (1 : Int32)) (fun t15 => some (.inl (y6, t15, I14)))))) else (z_l (y5 + (1 : Int32)) (fun t16 => some (.inl (y3, t16, I))))
theorem wX13_longestRow_j99_14 {G : z_G} {d : Nat} {Q : Option Value → z_S → z_H → Prop} {a0 : Nat} {z1 : Int32} {z2 : Int32} {z4 : Int32} {y3 : Int32} {y5 : Int32} {y6 : Int32} {I : Nat → Nat → Int32} {R : Nat → Nat → Nat} {o : (Int32 × Int32 × (Nat → Nat → Int32)) ⊕ (Int32 × (Nat → Nat → Int32))} (hd : 0 ≤ d) (g_a0 : z_ob a0 13) (hf : fX13_longestRow_j99_14 a0 z1 z2 z4 y3 y5 y6 I R = some o) (hk : z_or (fun s : Int32 × Int32 × (Nat → Nat → Int32) => z_W G eX13_longestRow d 0 0 14 [some (.ref a0), some (.int z1), some (.int z2), some (.int s.1), some (.int z4), some (.int s.2.1), none] [] z_SH (s.2.2, R) Q) (fun x : Int32 × (Nat → Nat → Int32) => z_W G eX13_longestRow d 0 0 129 [some (.ref a0), some (.int z1), some (.int z2), some (.int x.1), some (.int z4), none, none] [] z_SH (x.2, R) Q) o) : z_W G eX13_longestRow d 0 0 99 [some (.ref a0), some (.int z1), some (.int z2), some (.int y3), some (.int z4), some (.int y5), some (.int y6)] [] z_SH (I, R) Q := by
  unfold fX13_longestRow_j99_14 at hf
  refine z_iload dX13_longestRow_99 rfl ?_
  refine z_iload_n dX13_longestRow_101 rfl rfl ?_
  refine z_icmp_gt (tgt := 108) dX13_longestRow_102 (by decide) (fun c12 => ?_) (fun c12 => ?_)
  · have hf := z_if_t hf c12
    refine z_iload dX13_longestRow_108 rfl ?_
    refine y_istore_n0 [some (.ref a0), some (.int z1), some (.int z2), some (.int y6), some (.int z4), some (.int y5), some (.int y6)] dX13_longestRow_110 rfl (by decide) rfl ?_
    refine z_aload_n dX13_longestRow_111 rfl rfl (z_okl g_a0) ?_
    refine z_iload dX13_longestRow_112 rfl ?_
    refine y_putI lfX13_368 rfl g_a0 rfl rfl rfl dX13_longestRow_114 (fun I13 eI13 => ?_)
    have hf := z_l_el hf eI13
    refine z_aload_n dX13_longestRow_117 rfl rfl (z_okl g_a0) ?_
    refine z_iload dX13_longestRow_118 rfl ?_
    refine y_putI lfX13_371 rfl g_a0 rfl rfl rfl dX13_longestRow_120 (fun I14 eI14 => ?_)
    have hf := z_l_el hf eI14
    refine y_iinc (fun t15 => [some (.ref a0), some (.int z1), some (.int z2), some (.int y6), some (.int z4), some (.int t15), some (.int y6)]) dX13_longestRow_123 rfl kc_1 (by decide) (fun _ => rfl) (fun t15 et15 => ?_)
    have hf := z_l_el hf et15
    refine z_goto (tgt := 14) dX13_longestRow_126 (by decide) ?_
    cases hf
    exact y_sub hk (z_le_c rfl (z_le_c rfl (z_le_c rfl (z_le_c rfl (z_le_c rfl (z_le_c rfl (z_le_n z_le_0)))))))
  · have hf := z_if_f hf c12
    refine z_goto (tgt := 123) dX13_longestRow_105 (by decide) ?_
    refine y_iinc (fun t16 => [some (.ref a0), some (.int z1), some (.int z2), some (.int y3), some (.int z4), some (.int t16), some (.int y6)]) dX13_longestRow_123 rfl kc_1 (by decide) (fun _ => rfl) (fun t16 et16 => ?_)
    have hf := z_l_el hf et16
    refine z_goto (tgt := 14) dX13_longestRow_126 (by decide) ?_
    cases hf
    exact y_sub hk (z_le_c rfl (z_le_c rfl (z_le_c rfl (z_le_c rfl (z_le_c rfl (z_le_c rfl (z_le_n z_le_0)))))))
def fX13_longestRow_b14 (a0 : Nat) (z1 : Int32) (z2 : Int32) (z4 : Int32) (R : Nat → Nat → Nat) : (Int32 × Int32 × (Nat → Nat → Int32)) → Option ((Int32 × Int32 × (Nat → Nat → Int32)) ⊕ (Int32 × (Nat → Nat → Int32))) :=
  fun s => (fun (p3 : Int32) (p5 : Int32) (I : Nat → Nat → Int32) => if z2 ≤ p5 then (some (.inr (p3, I))) else (z_b (z_lp (fX13_longestRow_b23 a0 z1 z2 p3 z4 p5 I R) 300 (1 : Int32)) (fun q11 => fX13_longestRow_j99_14 a0 z1 z2 z4 p3 p5 q11 I R))) s.1 s.2.1 s.2.2
theorem wX13_longestRow_b14 {G : z_G} {d : Nat} {Q : Option Value → z_S → z_H → Prop} {a0 : Nat} {z1 : Int32} {z2 : Int32} {z4 : Int32} {R : Nat → Nat → Nat} (hd : 0 ≤ d) (g_a0 : z_ob a0 13) : ∀ (s : Int32 × Int32 × (Nat → Nat → Int32)) (o : (Int32 × Int32 × (Nat → Nat → Int32)) ⊕ (Int32 × (Nat → Nat → Int32))), fX13_longestRow_b14 a0 z1 z2 z4 R s = some o → z_or (fun s : Int32 × Int32 × (Nat → Nat → Int32) => z_W G eX13_longestRow d 0 0 14 [some (.ref a0), some (.int z1), some (.int z2), some (.int s.1), some (.int z4), some (.int s.2.1), none] [] z_SH (s.2.2, R) Q) (fun x : Int32 × (Nat → Nat → Int32) => z_W G eX13_longestRow d 0 0 129 [some (.ref a0), some (.int z1), some (.int z2), some (.int x.1), some (.int z4), none, none] [] z_SH (x.2, R) Q) o → (fun s : Int32 × Int32 × (Nat → Nat → Int32) => z_W G eX13_longestRow d 0 0 14 [some (.ref a0), some (.int z1), some (.int z2), some (.int s.1), some (.int z4), some (.int s.2.1), none] [] z_SH (s.2.2, R) Q) s := by
  rintro ⟨p3, p5, I⟩ o hf hk
  show z_W G eX13_longestRow d 0 0 14 [some (.ref a0), some (.int z1), some (.int z2), some (.int p3), some (.int z4), some (.int p5), none] [] z_SH (I, R) Q
  unfold fX13_longestRow_b14 at hf
  try dsimp only at hf
  refine z_iload dX13_longestRow_14 rfl ?_
  refine z_iload_n dX13_longestRow_16 rfl rfl ?_
  refine z_icmp_ge (tgt := 129) dX13_longestRow_17 (by decide) (fun c2 => ?_) (fun c2 => ?_)
  · have hf := z_if_t hf c2
    cases hf
    exact y_sub hk (z_le_c rfl (z_le_c rfl (z_le_c rfl (z_le_c rfl (z_le_c rfl (z_le_n (z_le_n z_le_0)))))))
  · have hf := z_if_f hf c2
    refine z_iconst dX13_longestRow_20 kc_1 ?_
    refine y_istore0 [some (.ref a0), some (.int z1), some (.int z2), some (.int p3), some (.int z4), some (.int p5), some (.int (1 : Int32))] dX13_longestRow_21 (by decide) rfl ?_
    obtain ⟨q11, hq11, hf⟩ := z_b_el hf
    refine y_sub (lv' := [some (.ref a0), some (.int z1), some (.int z2), some (.int p3), some (.int z4), some (.int p5), some (.int (1 : Int32))]) ?_ (z_le_c rfl (z_le_c rfl (z_le_c rfl (z_le_c rfl (z_le_c rfl (z_le_c rfl (z_le_c rfl z_le_0)))))))
    refine z_lp_el (P := (fun s : Int32 => z_W G eX13_longestRow d 0 0 23 [some (.ref a0), some (.int z1), some (.int z2), some (.int p3), some (.int z4), some (.int p5), some (.int s)] [] z_SH (I, R) Q)) (E := (fun x : Int32 => z_W G eX13_longestRow d 0 0 99 [some (.ref a0), some (.int z1), some (.int z2), some (.int p3), some (.int z4), some (.int p5), some (.int x)] [] z_SH (I, R) Q)) (wX13_longestRow_b23 hd g_a0) 300 (1 : Int32) q11 hq11 ?_
    show z_W G eX13_longestRow d 0 0 99 [some (.ref a0), some (.int z1), some (.int z2), some (.int p3), some (.int z4), some (.int p5), some (.int q11)] [] z_SH (I, R) _
    exact y_sub (wX13_longestRow_j99_14 hd g_a0 hf hk) (z_le_c rfl (z_le_c rfl (z_le_c rfl (z_le_c rfl (z_le_c rfl (z_le_c rfl (z_le_c rfl z_le_0)))))))
def fX13_longestRow_b5 (a0 : Nat) (z1 : Int32) (z2 : Int32) (R : Nat → Nat → Nat) : (Int32 × Int32 × (Nat → Nat → Int32)) → Option ((Int32 × Int32 × (Nat → Nat → Int32)) ⊕ (Int32 × (Nat → Nat → Int32))) :=
  fun s => (fun (p3 : Int32) (p4 : Int32) (I : Nat → Nat → Int32) => if z1 ≤ p4 then (some (.inr (p3, I))) else (z_b (z_lp (fX13_longestRow_b14 a0 z1 z2 p4 R) 300 (p3, (0 : Int32), I)) (fun q17 => z_l (p4 + (1 : Int32)) (fun t18 => some (.inl (q17.1, t18, q17.2)))))) s.1 s.2.1 s.2.2
theorem wX13_longestRow_b5 {G : z_G} {d : Nat} {Q : Option Value → z_S → z_H → Prop} {a0 : Nat} {z1 : Int32} {z2 : Int32} {R : Nat → Nat → Nat} (hd : 0 ≤ d) (g_a0 : z_ob a0 13) : ∀ (s : Int32 × Int32 × (Nat → Nat → Int32)) (o : (Int32 × Int32 × (Nat → Nat → Int32)) ⊕ (Int32 × (Nat → Nat → Int32))), fX13_longestRow_b5 a0 z1 z2 R s = some o → z_or (fun s : Int32 × Int32 × (Nat → Nat → Int32) => z_W G eX13_longestRow d 0 0 5 [some (.ref a0), some (.int z1), some (.int z2), some (.int s.1), some (.int s.2.1), none, none] [] z_SH (s.2.2, R) Q) (fun x : Int32 × (Nat → Nat → Int32) => z_W G eX13_longestRow d 0 0 135 [none, none, none, some (.int x.1), none, none, none] [] z_SH (x.2, R) Q) o → (fun s : Int32 × Int32 × (Nat → Nat → Int32) => z_W G eX13_longestRow d 0 0 5 [some (.ref a0), some (.int z1), some (.int z2), some (.int s.1), some (.int s.2.1), none, none] [] z_SH (s.2.2, R) Q) s := by
  rintro ⟨p3, p4, I⟩ o hf hk
  show z_W G eX13_longestRow d 0 0 5 [some (.ref a0), some (.int z1), some (.int z2), some (.int p3), some (.int p4), none, none] [] z_SH (I, R) Q
  unfold fX13_longestRow_b5 at hf
  try dsimp only at hf
  refine z_iload dX13_longestRow_5 rfl ?_
  refine z_iload_n dX13_longestRow_7 rfl rfl ?_
  refine z_icmp_ge (tgt := 135) dX13_longestRow_8 (by decide) (fun c1 => ?_) (fun c1 => ?_)
  · have hf := z_if_t hf c1
    cases hf
    exact y_sub hk (z_le_n (z_le_n (z_le_n (z_le_c rfl (z_le_n (z_le_n (z_le_n z_le_0)))))))
  · have hf := z_if_f hf c1
    refine z_iconst dX13_longestRow_11 kc_0 ?_
    refine y_istore0 [some (.ref a0), some (.int z1), some (.int z2), some (.int p3), some (.int p4), some (.int (0 : Int32)), none] dX13_longestRow_12 (by decide) rfl ?_
    obtain ⟨q17, hq17, hf⟩ := z_b_el hf
    refine y_sub (lv' := [some (.ref a0), some (.int z1), some (.int z2), some (.int p3), some (.int p4), some (.int (0 : Int32)), none]) ?_ (z_le_c rfl (z_le_c rfl (z_le_c rfl (z_le_c rfl (z_le_c rfl (z_le_c rfl (z_le_n z_le_0)))))))
    refine z_lp_el (P := (fun s : Int32 × Int32 × (Nat → Nat → Int32) => z_W G eX13_longestRow d 0 0 14 [some (.ref a0), some (.int z1), some (.int z2), some (.int s.1), some (.int p4), some (.int s.2.1), none] [] z_SH (s.2.2, R) Q)) (E := (fun x : Int32 × (Nat → Nat → Int32) => z_W G eX13_longestRow d 0 0 129 [some (.ref a0), some (.int z1), some (.int z2), some (.int x.1), some (.int p4), none, none] [] z_SH (x.2, R) Q)) (wX13_longestRow_b14 hd g_a0) 300 (p3, (0 : Int32), I) q17 hq17 ?_
    show z_W G eX13_longestRow d 0 0 129 [some (.ref a0), some (.int z1), some (.int z2), some (.int q17.1), some (.int p4), none, none] [] z_SH (q17.2, R) _
    refine y_iinc (fun t18 => [some (.ref a0), some (.int z1), some (.int z2), some (.int q17.1), some (.int t18), none, none]) dX13_longestRow_129 rfl kc_1 (by decide) (fun _ => rfl) (fun t18 et18 => ?_)
    have hf := z_l_el hf et18
    refine z_goto (tgt := 5) dX13_longestRow_132 (by decide) ?_
    cases hf
    exact y_sub hk (z_le_c rfl (z_le_c rfl (z_le_c rfl (z_le_c rfl (z_le_c rfl (z_le_n (z_le_n z_le_0)))))))
def fX13_longestRow (a0 : Nat) (x1 : Int32) (x2 : Int32) (I : Nat → Nat → Int32) (R : Nat → Nat → Nat) : Option (Int32 × (Nat → Nat → Int32)) :=
  z_g (z_ob a0 13) (z_b (z_lp (fX13_longestRow_b5 a0 x1 x2 R) 300 ((0 : Int32), (0 : Int32), I)) (fun q19 => some (q19.1, q19.2)))
set_option maxRecDepth 20000 in
theorem vX13_longestRow {G : z_G} {d : Nat} {Q : Option Value → z_S → z_H → Prop} {a0 : Nat} {x1 : Int32} {x2 : Int32} {I : Nat → Nat → Int32} {R : Nat → Nat → Nat} {q : Int32 × (Nat → Nat → Int32)} (hd : 0 ≤ d) (hf : fX13_longestRow a0 x1 x2 I R = some q) (hk : Q (some (.int q.1)) z_SH (q.2, R)) : z_W G eX13_longestRow d 0 0 0 [some (.ref a0), some (.int x1), some (.int x2), none, none, none, none] [] z_SH (I, R) Q := by
  unfold fX13_longestRow at hf
  obtain ⟨g_a0, hf⟩ := z_g_el hf
  refine z_iconst dX13_longestRow_0 kc_0 ?_
  refine y_istore_n0 [some (.ref a0), some (.int x1), some (.int x2), some (.int (0 : Int32)), none, none, none] dX13_longestRow_1 rfl (by decide) rfl ?_
  refine z_iconst dX13_longestRow_2 kc_0 ?_
  refine y_istore0 [some (.ref a0), some (.int x1), some (.int x2), some (.int (0 : Int32)), some (.int (0 : Int32)), none, none] dX13_longestRow_3 (by decide) rfl ?_
  obtain ⟨q19, hq19, hf⟩ := z_b_el hf
  refine y_sub (lv' := [some (.ref a0), some (.int x1), some (.int x2), some (.int (0 : Int32)), some (.int (0 : Int32)), none, none]) ?_ (z_le_c rfl (z_le_c rfl (z_le_c rfl (z_le_c rfl (z_le_c rfl (z_le_n (z_le_n z_le_0)))))))
  refine z_lp_el (P := (fun s : Int32 × Int32 × (Nat → Nat → Int32) => z_W G eX13_longestRow d 0 0 5 [some (.ref a0), some (.int x1), some (.int x2), some (.int s.1), some (.int s.2.1), none, none] [] z_SH (s.2.2, R) Q)) (E := (fun x : Int32 × (Nat → Nat → Int32) => z_W G eX13_longestRow d 0 0 135 [none, none, none, some (.int x.1), none, none, none] [] z_SH (x.2, R) Q)) (wX13_longestRow_b5 hd g_a0) 300 ((0 : Int32), (0 : Int32), I) q19 hq19 ?_
  show z_W G eX13_longestRow d 0 0 135 [none, none, none, some (.int q19.1), none, none, none] [] z_SH (q19.2, R) _
  refine z_iload_n dX13_longestRow_135 rfl rfl ?_
  cases hf
  exact z_iret hk ⟨_, rfl, rfl⟩ dX13_longestRow_136
theorem wX13_longestRow {G : z_G} {d : Nat} {a0 : Nat} {x1 : Int32} {x2 : Int32} {I : Nat → Nat → Int32} {R : Nat → Nat → Nat} {q : Int32 × (Nat → Nat → Int32)} (hd : 0 ≤ d) (hf : fX13_longestRow a0 x1 x2 I R = some q) : z_M G d 0 0 eX13_longestRow [.ref a0, .int x1, .int x2] z_SH (I, R) (z_E (some (.int q.1)) (q.2, R)) :=
  y_M_of _ (by decide +kernel) rfl rfl rfl (vX13_longestRow hd hf ⟨rfl, rfl, rfl⟩)
def fX13_returns (a0 : Nat) (x1 : Int32) (x2 : Int32) (x3 : Int32) (I : Nat → Nat → Int32) (R : Nat → Nat → Nat) : Option (Int32 × (Nat → Nat → Int32)) :=
  z_g (z_ob a0 13) (z_b (fX13_in x1 (0 : Int32) (7 : Int32)) (fun q1 => if q1 = 0 then (some ((-1000 : Int32), I)) else (z_b (fX13_in x2 (0 : Int32) (7 : Int32)) (fun q3 => if q3 = 0 then (some ((-1000 : Int32), I)) else (z_b (fX13_in x3 (0 : Int32) (3 : Int32)) (fun q5 => if q5 = 0 then (some ((-1000 : Int32), I)) else (z_b (fX13_laysTune a0 x1 (R a0 52) I R) (fun q7 => z_b (fX13_laysTune a0 x2 (R a0 53) q7.2 R) (fun q8 => z_b (fX13_longestRow a0 q7.1 q8.1 q8.2 R) (fun q9 => if x3 = 0 then (some (q9.1, q9.2)) else (if q9.1 = 0 then (some ((-2000 : Int32), q9.2)) else (if x3 = (1 : Int32) then (some (q9.2 a0 54, q9.2)) else (if x3 = (2 : Int32) then (some (q9.2 a0 55, q9.2)) else (z_g (z_ok 1 (R a0 53) (q9.2 a0 55)) (z_g (z_ok 1 (R a0 52) (q9.2 a0 54)) (some ((q9.2 (R a0 53) (q9.2 a0 55).toNatClampNeg) - (q9.2 (R a0 52) (q9.2 a0 54).toNatClampNeg), q9.2)))))))))))))))))
set_option maxRecDepth 20000 in
theorem vX13_returns {G : z_G} {d : Nat} {Q : Option Value → z_S → z_H → Prop} {a0 : Nat} {x1 : Int32} {x2 : Int32} {x3 : Int32} {I : Nat → Nat → Int32} {R : Nat → Nat → Nat} {q : Int32 × (Nat → Nat → Int32)} (hd : 1 ≤ d) (hf : fX13_returns a0 x1 x2 x3 I R = some q) (hk : Q (some (.int q.1)) z_SH (q.2, R)) : z_W G eX13_returns d 0 0 0 [some (.ref a0), some (.int x1), some (.int x2), some (.int x3), none] [] z_SH (I, R) Q := by
  unfold fX13_returns at hf
  obtain ⟨g_a0, hf⟩ := z_g_el hf
  refine z_iload_n dX13_returns_0 rfl rfl ?_
  refine z_iconst dX13_returns_1 kc_0 ?_
  refine z_bipush dX13_returns_2 kb_7 ?_
  obtain ⟨q1, hq1, hf⟩ := z_b_el hf
  refine y_cSi (Nat.le_trans (Nat.le_of_ble_eq_true rfl) hd) (wX13_in (z_dl rfl hd) hq1) oX13_in lmX13_114 sX13_in _ rfl rfl (Nat.le_of_ble_eq_true rfl) dX13_returns_4 ?_
  refine z_if_eq (tgt := 29) dX13_returns_7 (by decide) (fun c2 => ?_) (fun c2 => ?_)
  · have hf := z_if_t hf c2
    refine z_sipush dX13_returns_29 ks_m1000 ?_
    cases hf
    exact z_iret hk ⟨_, rfl, rfl⟩ dX13_returns_32
  · have hf := z_if_f hf c2
    refine z_iload_n dX13_returns_10 rfl rfl ?_
    refine z_iconst dX13_returns_11 kc_0 ?_
    refine z_bipush dX13_returns_12 kb_7 ?_
    obtain ⟨q3, hq3, hf⟩ := z_b_el hf
    refine y_cSi (Nat.le_trans (Nat.le_of_ble_eq_true rfl) hd) (wX13_in (z_dl rfl hd) hq3) oX13_in lmX13_114 sX13_in _ rfl rfl (Nat.le_of_ble_eq_true rfl) dX13_returns_14 ?_
    refine z_if_eq (tgt := 29) dX13_returns_17 (by decide) (fun c4 => ?_) (fun c4 => ?_)
    · have hf := z_if_t hf c4
      refine z_sipush dX13_returns_29 ks_m1000 ?_
      cases hf
      exact z_iret hk ⟨_, rfl, rfl⟩ dX13_returns_32
    · have hf := z_if_f hf c4
      refine z_iload_n dX13_returns_20 rfl rfl ?_
      refine z_iconst dX13_returns_21 kc_0 ?_
      refine z_iconst dX13_returns_22 kc_3 ?_
      obtain ⟨q5, hq5, hf⟩ := z_b_el hf
      refine y_cSi (Nat.le_trans (Nat.le_of_ble_eq_true rfl) hd) (wX13_in (z_dl rfl hd) hq5) oX13_in lmX13_114 sX13_in _ rfl rfl (Nat.le_of_ble_eq_true rfl) dX13_returns_23 ?_
      refine z_if_ne (tgt := 33) dX13_returns_26 (by decide) (fun c6 => ?_) (fun c6 => ?_)
      · have hf := z_if_f hf c6
        refine z_aload_n dX13_returns_33 rfl rfl (z_okl g_a0) ?_
        refine z_aload_n dX13_returns_34 rfl rfl (z_okl g_a0) ?_
        refine z_iload_n dX13_returns_35 rfl rfl ?_
        refine z_aload_n dX13_returns_36 rfl rfl (z_okl g_a0) ?_
        refine y_getR lfX13_98 rfl g_a0 dX13_returns_37 ?_
        obtain ⟨q7, hq7, hf⟩ := z_b_el hf
        refine y_cVi (av := [.int x1, .ref (R a0 52)]) (Nat.le_trans (Nat.le_of_ble_eq_true rfl) hd) (wX13_laysTune (z_dl rfl hd) hq7) oX13_laysTune lmX13_374 iX13_laysTune g_a0 rfl _ rfl rfl (Nat.le_of_ble_eq_true rfl) dX13_returns_40 ?_
        refine z_aload_n dX13_returns_43 rfl rfl (z_okl g_a0) ?_
        refine z_iload_n dX13_returns_44 rfl rfl ?_
        refine z_aload_n dX13_returns_45 rfl rfl (z_okl g_a0) ?_
        refine y_getR lfX13_101 rfl g_a0 dX13_returns_46 ?_
        obtain ⟨q8, hq8, hf⟩ := z_b_el hf
        refine y_cVi (av := [.int x2, .ref (R a0 53)]) (Nat.le_trans (Nat.le_of_ble_eq_true rfl) hd) (wX13_laysTune (z_dl rfl hd) hq8) oX13_laysTune lmX13_374 iX13_laysTune g_a0 rfl _ rfl rfl (Nat.le_of_ble_eq_true rfl) dX13_returns_49 ?_
        obtain ⟨q9, hq9, hf⟩ := z_b_el hf
        refine y_cVi (av := [.int q7.1, .int q8.1]) (Nat.le_trans (Nat.le_of_ble_eq_true rfl) hd) (wX13_longestRow (z_dl rfl hd) hq9) oX13_longestRow lmX13_378 iX13_longestRow g_a0 rfl _ rfl rfl (Nat.le_of_ble_eq_true rfl) dX13_returns_52 ?_
        refine y_istore0 [some (.ref a0), some (.int x1), some (.int x2), some (.int x3), some (.int q9.1)] dX13_returns_55 (by decide) rfl ?_
        refine z_iload_n dX13_returns_57 rfl rfl ?_
        refine z_if_ne (tgt := 64) dX13_returns_58 (by decide) (fun c10 => ?_) (fun c10 => ?_)
        · have hf := z_if_f hf c10
          refine z_iload dX13_returns_64 rfl ?_
          refine z_if_ne (tgt := 73) dX13_returns_66 (by decide) (fun c11 => ?_) (fun c11 => ?_)
          · have hf := z_if_f hf c11
            refine z_iload_n dX13_returns_73 rfl rfl ?_
            refine z_iconst dX13_returns_74 kc_1 ?_
            refine z_icmp_ne (tgt := 85) dX13_returns_75 (by decide) (fun c12 => ?_) (fun c12 => ?_)
            · have hf := z_if_f hf c12
              refine z_iload_n dX13_returns_85 rfl rfl ?_
              refine z_iconst dX13_returns_86 kc_2 ?_
              refine z_icmp_ne (tgt := 97) dX13_returns_87 (by decide) (fun c13 => ?_) (fun c13 => ?_)
              · have hf := z_if_f hf c13
                refine z_aload_n dX13_returns_97 rfl rfl (z_okl g_a0) ?_
                refine y_getR lfX13_101 rfl g_a0 dX13_returns_98 ?_
                refine z_aload_n dX13_returns_101 rfl rfl (z_okl g_a0) ?_
                refine y_getI lfX13_371 rfl g_a0 dX13_returns_102 ?_
                obtain ⟨g14, hf⟩ := z_g_el hf
                refine y_iald g14 dX13_returns_105 ?_
                refine z_aload_n dX13_returns_106 rfl rfl (z_okl g_a0) ?_
                refine y_getR lfX13_98 rfl g_a0 dX13_returns_107 ?_
                refine z_aload_n dX13_returns_110 rfl rfl (z_okl g_a0) ?_
                refine y_getI lfX13_368 rfl g_a0 dX13_returns_111 ?_
                obtain ⟨g15, hf⟩ := z_g_el hf
                refine y_iald g15 dX13_returns_114 ?_
                refine z_isub dX13_returns_115 ?_
                cases hf
                exact z_iret hk ⟨_, rfl, rfl⟩ dX13_returns_116
              · have hf := z_if_t hf c13
                refine z_aload_n dX13_returns_90 rfl rfl (z_okl g_a0) ?_
                refine y_getI lfX13_371 rfl g_a0 dX13_returns_91 ?_
                refine z_goto (tgt := 116) dX13_returns_94 (by decide) ?_
                cases hf
                exact z_iret hk ⟨_, rfl, rfl⟩ dX13_returns_116
            · have hf := z_if_t hf c12
              refine z_aload_n dX13_returns_78 rfl rfl (z_okl g_a0) ?_
              refine y_getI lfX13_368 rfl g_a0 dX13_returns_79 ?_
              refine z_goto (tgt := 116) dX13_returns_82 (by decide) ?_
              cases hf
              exact z_iret hk ⟨_, rfl, rfl⟩ dX13_returns_116
          · have hf := z_if_t hf c11
            refine z_sipush dX13_returns_69 ks_m2000 ?_
            cases hf
            exact z_iret hk ⟨_, rfl, rfl⟩ dX13_returns_72
        · have hf := z_if_t hf c10
          refine z_iload dX13_returns_61 rfl ?_
          cases hf
          exact z_iret hk ⟨_, rfl, rfl⟩ dX13_returns_63
      · have hf := z_if_t hf c6
        refine z_sipush dX13_returns_29 ks_m1000 ?_
        cases hf
        exact z_iret hk ⟨_, rfl, rfl⟩ dX13_returns_32
theorem wX13_returns {G : z_G} {d : Nat} {a0 : Nat} {x1 : Int32} {x2 : Int32} {x3 : Int32} {I : Nat → Nat → Int32} {R : Nat → Nat → Nat} {q : Int32 × (Nat → Nat → Int32)} (hd : 1 ≤ d) (hf : fX13_returns a0 x1 x2 x3 I R = some q) : z_M G d 0 0 eX13_returns [.ref a0, .int x1, .int x2, .int x3] z_SH (I, R) (z_E (some (.int q.1)) (q.2, R)) :=
  y_M_of _ (by decide +kernel) rfl rfl rfl (vX13_returns hd hf ⟨rfl, rfl, rfl⟩)
def fX13_backwards_b50 (a0 : Nat) (z3 : Int32) (I : Nat → Nat → Int32) (R : Nat → Nat → Nat) : (Int32) → Option ((Int32) ⊕ ((Int32 × (Nat → Nat → Int32)) ⊕ (Unit))) :=
  fun s => (fun (p4 : Int32) => if z3 ≤ p4 then (some (.inr (.inr (())))) else (z_g (z_ok 1 (R a0 52) p4) (z_g (z_ok 1 (R a0 53) ((z3 - (1 : Int32)) - p4)) (if (I (R a0 52) p4.toNatClampNeg) = (I (R a0 53) ((z3 - (1 : Int32)) - p4).toNatClampNeg) then (z_l (p4 + (1 : Int32)) (fun t12 => some (.inl t12))) else (some (.inr (.inl ((0 : Int32), I)))))))) s
theorem wX13_backwards_b50 {G : z_G} {d : Nat} {Q : Option Value → z_S → z_H → Prop} {a0 : Nat} {z3 : Int32} {I : Nat → Nat → Int32} {R : Nat → Nat → Nat} (hd : 1 ≤ d) (g_a0 : z_ob a0 13) : ∀ (s : Int32) (o : (Int32) ⊕ ((Int32 × (Nat → Nat → Int32)) ⊕ (Unit))), fX13_backwards_b50 a0 z3 I R s = some o → z_or (fun s : Int32 => z_W G eX13_backwards d 0 0 50 [some (.ref a0), none, none, some (.int z3), some (.int s)] [] z_SH (I, R) Q) (z_or (fun r : Int32 × (Nat → Nat → Int32) => Q (some (.int r.1)) z_SH (r.2, R)) (fun x : Unit => z_W G eX13_backwards d 0 0 85 [none, none, none, none, none] [] z_SH (I, R) Q)) o → (fun s : Int32 => z_W G eX13_backwards d 0 0 50 [some (.ref a0), none, none, some (.int z3), some (.int s)] [] z_SH (I, R) Q) s := by
  intro p4 o hf hk
  show z_W G eX13_backwards d 0 0 50 [some (.ref a0), none, none, some (.int z3), some (.int p4)] [] z_SH (I, R) Q
  unfold fX13_backwards_b50 at hf
  try dsimp only at hf
  refine z_iload dX13_backwards_50 rfl ?_
  refine z_iload_n dX13_backwards_52 rfl rfl ?_
  refine z_icmp_ge (tgt := 85) dX13_backwards_53 (by decide) (fun c8 => ?_) (fun c8 => ?_)
  · have hf := z_if_t hf c8
    cases hf
    exact y_sub hk (z_le_n (z_le_n (z_le_n (z_le_n (z_le_n z_le_0)))))
  · have hf := z_if_f hf c8
    refine z_aload_n dX13_backwards_56 rfl rfl (z_okl g_a0) ?_
    refine y_getR lfX13_98 rfl g_a0 dX13_backwards_57 ?_
    refine z_iload dX13_backwards_60 rfl ?_
    obtain ⟨g9, hf⟩ := z_g_el hf
    refine y_iald g9 dX13_backwards_62 ?_
    refine z_aload_n dX13_backwards_63 rfl rfl (z_okl g_a0) ?_
    refine y_getR lfX13_101 rfl g_a0 dX13_backwards_64 ?_
    refine z_iload_n dX13_backwards_67 rfl rfl ?_
    refine z_iconst dX13_backwards_68 kc_1 ?_
    refine z_isub dX13_backwards_69 ?_
    refine z_iload dX13_backwards_70 rfl ?_
    refine z_isub dX13_backwards_72 ?_
    obtain ⟨g10, hf⟩ := z_g_el hf
    refine y_iald g10 dX13_backwards_73 ?_
    refine z_icmp_eq (tgt := 79) dX13_backwards_74 (by decide) (fun c11 => ?_) (fun c11 => ?_)
    · have hf := z_if_t hf c11
      refine y_iinc (fun t12 => [some (.ref a0), none, none, some (.int z3), some (.int t12)]) dX13_backwards_79 rfl kc_1 (by decide) (fun _ => rfl) (fun t12 et12 => ?_)
      have hf := z_l_el hf et12
      refine z_goto (tgt := 50) dX13_backwards_82 (by decide) ?_
      cases hf
      exact y_sub hk (z_le_c rfl (z_le_n (z_le_n (z_le_c rfl (z_le_c rfl z_le_0)))))
    · have hf := z_if_f hf c11
      refine z_iconst dX13_backwards_77 kc_0 ?_
      cases hf
      exact z_iret hk ⟨_, rfl, rfl⟩ dX13_backwards_78
def fX13_backwards (a0 : Nat) (x1 : Int32) (x2 : Int32) (I : Nat → Nat → Int32) (R : Nat → Nat → Nat) : Option (Int32 × (Nat → Nat → Int32)) :=
  z_g (z_ob a0 13) (z_b (fX13_in x1 (0 : Int32) (7 : Int32)) (fun q1 => if q1 = 0 then (some ((-1 : Int32), I)) else (z_b (fX13_in x2 (0 : Int32) (7 : Int32)) (fun q3 => if q3 = 0 then (some ((-1 : Int32), I)) else (z_b (fX13_laysTune a0 x1 (R a0 52) I R) (fun q5 => z_b (fX13_laysTune a0 x2 (R a0 53) q5.2 R) (fun q6 => if q6.1 = q5.1 then (z_b (z_lp (fX13_backwards_b50 a0 q5.1 q6.2 R) 300 (0 : Int32)) (fun q13 => z_x q13 (fun q15 => some q15) (fun q14 => some ((1 : Int32), q6.2)))) else (some ((0 : Int32), q6.2)))))))))
theorem vX13_backwards {G : z_G} {d : Nat} {Q : Option Value → z_S → z_H → Prop} {a0 : Nat} {x1 : Int32} {x2 : Int32} {I : Nat → Nat → Int32} {R : Nat → Nat → Nat} {q : Int32 × (Nat → Nat → Int32)} (hd : 1 ≤ d) (hf : fX13_backwards a0 x1 x2 I R = some q) (hk : Q (some (.int q.1)) z_SH (q.2, R)) : z_W G eX13_backwards d 0 0 0 [some (.ref a0), some (.int x1), some (.int x2), none, none] [] z_SH (I, R) Q := by
  unfold fX13_backwards at hf
  obtain ⟨g_a0, hf⟩ := z_g_el hf
  refine z_iload_n dX13_backwards_0 rfl rfl ?_
  refine z_iconst dX13_backwards_1 kc_0 ?_
  refine z_bipush dX13_backwards_2 kb_7 ?_
  obtain ⟨q1, hq1, hf⟩ := z_b_el hf
  refine y_cSi (Nat.le_trans (Nat.le_of_ble_eq_true rfl) hd) (wX13_in (z_dl rfl hd) hq1) oX13_in lmX13_114 sX13_in _ rfl rfl (Nat.le_of_ble_eq_true rfl) dX13_backwards_4 ?_
  refine z_if_eq (tgt := 20) dX13_backwards_7 (by decide) (fun c2 => ?_) (fun c2 => ?_)
  · have hf := z_if_t hf c2
    refine z_iconst dX13_backwards_20 kc_m1 ?_
    cases hf
    exact z_iret hk ⟨_, rfl, rfl⟩ dX13_backwards_21
  · have hf := z_if_f hf c2
    refine z_iload_n dX13_backwards_10 rfl rfl ?_
    refine z_iconst dX13_backwards_11 kc_0 ?_
    refine z_bipush dX13_backwards_12 kb_7 ?_
    obtain ⟨q3, hq3, hf⟩ := z_b_el hf
    refine y_cSi (Nat.le_trans (Nat.le_of_ble_eq_true rfl) hd) (wX13_in (z_dl rfl hd) hq3) oX13_in lmX13_114 sX13_in _ rfl rfl (Nat.le_of_ble_eq_true rfl) dX13_backwards_14 ?_
    refine z_if_ne (tgt := 22) dX13_backwards_17 (by decide) (fun c4 => ?_) (fun c4 => ?_)
    · have hf := z_if_f hf c4
      refine z_aload_n dX13_backwards_22 rfl rfl (z_okl g_a0) ?_
      refine z_iload_n dX13_backwards_23 rfl rfl ?_
      refine z_aload_n dX13_backwards_24 rfl rfl (z_okl g_a0) ?_
      refine y_getR lfX13_98 rfl g_a0 dX13_backwards_25 ?_
      obtain ⟨q5, hq5, hf⟩ := z_b_el hf
      refine y_cVi (av := [.int x1, .ref (R a0 52)]) (Nat.le_trans (Nat.le_of_ble_eq_true rfl) hd) (wX13_laysTune (z_dl rfl hd) hq5) oX13_laysTune lmX13_374 iX13_laysTune g_a0 rfl _ rfl rfl (Nat.le_of_ble_eq_true rfl) dX13_backwards_28 ?_
      refine y_istore_n0 [some (.ref a0), some (.int x1), some (.int x2), some (.int q5.1), none] dX13_backwards_31 rfl (by decide) rfl ?_
      refine z_aload_n dX13_backwards_32 rfl rfl (z_okl g_a0) ?_
      refine z_iload_n dX13_backwards_33 rfl rfl ?_
      refine z_aload_n dX13_backwards_34 rfl rfl (z_okl g_a0) ?_
      refine y_getR lfX13_101 rfl g_a0 dX13_backwards_35 ?_
      obtain ⟨q6, hq6, hf⟩ := z_b_el hf
      refine y_cVi (av := [.int x2, .ref (R a0 53)]) (Nat.le_trans (Nat.le_of_ble_eq_true rfl) hd) (wX13_laysTune (z_dl rfl hd) hq6) oX13_laysTune lmX13_374 iX13_laysTune g_a0 rfl _ rfl rfl (Nat.le_of_ble_eq_true rfl) dX13_backwards_38 ?_
      refine z_iload_n dX13_backwards_41 rfl rfl ?_
      refine z_icmp_eq (tgt := 47) dX13_backwards_42 (by decide) (fun c7 => ?_) (fun c7 => ?_)
      · have hf := z_if_t hf c7
        refine z_iconst dX13_backwards_47 kc_0 ?_
        refine y_istore0 [some (.ref a0), some (.int x1), some (.int x2), some (.int q5.1), some (.int (0 : Int32))] dX13_backwards_48 (by decide) rfl ?_
        obtain ⟨q13, hq13, hf⟩ := z_b_el hf
        refine y_sub (lv' := [some (.ref a0), none, none, some (.int q5.1), some (.int (0 : Int32))]) ?_ (z_le_c rfl (z_le_n (z_le_n (z_le_c rfl (z_le_c rfl z_le_0)))))
        refine z_lp_el (P := (fun s : Int32 => z_W G eX13_backwards d 0 0 50 [some (.ref a0), none, none, some (.int q5.1), some (.int s)] [] z_SH (q6.2, R) Q)) (E := (z_or (fun r : Int32 × (Nat → Nat → Int32) => Q (some (.int r.1)) z_SH (r.2, R)) (fun x : Unit => z_W G eX13_backwards d 0 0 85 [none, none, none, none, none] [] z_SH (q6.2, R) Q))) (wX13_backwards_b50 hd g_a0) 300 (0 : Int32) q13 hq13 ?_
        rcases q13 with q15 | q14
        · have hf := z_x_l hf
          cases hf
          exact hk
        · have hf := z_x_r hf
          show z_W G eX13_backwards d 0 0 85 [none, none, none, none, none] [] z_SH (q6.2, R) _
          refine z_iconst dX13_backwards_85 kc_1 ?_
          cases hf
          exact z_iret hk ⟨_, rfl, rfl⟩ dX13_backwards_86
      · have hf := z_if_f hf c7
        refine z_iconst dX13_backwards_45 kc_0 ?_
        cases hf
        exact z_iret hk ⟨_, rfl, rfl⟩ dX13_backwards_46
    · have hf := z_if_t hf c4
      refine z_iconst dX13_backwards_20 kc_m1 ?_
      cases hf
      exact z_iret hk ⟨_, rfl, rfl⟩ dX13_backwards_21
theorem wX13_backwards {G : z_G} {d : Nat} {a0 : Nat} {x1 : Int32} {x2 : Int32} {I : Nat → Nat → Int32} {R : Nat → Nat → Nat} {q : Int32 × (Nat → Nat → Int32)} (hd : 1 ≤ d) (hf : fX13_backwards a0 x1 x2 I R = some q) : z_M G d 0 0 eX13_backwards [.ref a0, .int x1, .int x2] z_SH (I, R) (z_E (some (.int q.1)) (q.2, R)) :=
  y_M_of _ (by decide +kernel) rfl rfl rfl (vX13_backwards hd hf ⟨rfl, rfl, rfl⟩)
def fX13_range_b32 (a0 : Nat) (z2 : Int32) (I : Nat → Nat → Int32) (R : Nat → Nat → Nat) : (Int32 × Int32 × Int32) → Option ((Int32 × Int32 × Int32) ⊕ (Int32 × Int32)) :=
  fun s => (fun (p3 : Int32) (p4 : Int32) (p5 : Int32) => if z2 ≤ p5 then (some (.inr (p3, p4))) else (z_g (z_ok 1 (R a0 52) p5) (z_b (fX13_min p3 (I (R a0 52) p5.toNatClampNeg)) (fun q6 => z_b (fX13_max p4 (I (R a0 52) p5.toNatClampNeg)) (fun q7 => z_l (p5 + (1 : Int32)) (fun t8 => some (.inl (q6, q7, t8)))))))) s.1 s.2.1 s.2.2
theorem wX13_range_b32 {G : z_G} {d : Nat} {Q : Option Value → z_S → z_H → Prop} {a0 : Nat} {z2 : Int32} {I : Nat → Nat → Int32} {R : Nat → Nat → Nat} (hd : 1 ≤ d) (g_a0 : z_ob a0 13) : ∀ (s : Int32 × Int32 × Int32) (o : (Int32 × Int32 × Int32) ⊕ (Int32 × Int32)), fX13_range_b32 a0 z2 I R s = some o → z_or (fun s : Int32 × Int32 × Int32 => z_W G eX13_range d 0 0 32 [some (.ref a0), none, some (.int z2), some (.int s.1), some (.int s.2.1), some (.int s.2.2)] [] z_SH (I, R) Q) (fun x : Int32 × Int32 => z_W G eX13_range d 0 0 70 [none, none, some (.int z2), some (.int x.1), some (.int x.2), none] [] z_SH (I, R) Q) o → (fun s : Int32 × Int32 × Int32 => z_W G eX13_range d 0 0 32 [some (.ref a0), none, some (.int z2), some (.int s.1), some (.int s.2.1), some (.int s.2.2)] [] z_SH (I, R) Q) s := by
  rintro ⟨p3, p4, p5⟩ o hf hk
  show z_W G eX13_range d 0 0 32 [some (.ref a0), none, some (.int z2), some (.int p3), some (.int p4), some (.int p5)] [] z_SH (I, R) Q
  unfold fX13_range_b32 at hf
  try dsimp only at hf
  refine z_iload dX13_range_32 rfl ?_
  refine z_iload_n dX13_range_34 rfl rfl ?_
  refine z_icmp_ge (tgt := 70) dX13_range_35 (by decide) (fun c4 => ?_) (fun c4 => ?_)
  · have hf := z_if_t hf c4
    cases hf
    exact y_sub hk (z_le_n (z_le_n (z_le_c rfl (z_le_c rfl (z_le_c rfl (z_le_n z_le_0))))))
  · have hf := z_if_f hf c4
    refine z_iload_n dX13_range_38 rfl rfl ?_
    refine z_aload_n dX13_range_39 rfl rfl (z_okl g_a0) ?_
    refine y_getR lfX13_98 rfl g_a0 dX13_range_40 ?_
    refine z_iload dX13_range_43 rfl ?_
    obtain ⟨g5, hf⟩ := z_g_el hf
    refine y_iald g5 dX13_range_45 ?_
    obtain ⟨q6, hq6, hf⟩ := z_b_el hf
    refine y_cSi (Nat.le_trans (Nat.le_of_ble_eq_true rfl) hd) (wX13_min (z_dl rfl hd) hq6) oX13_min lmX13_282 sX13_min _ rfl rfl (Nat.le_of_ble_eq_true rfl) dX13_range_46 ?_
    refine y_istore_n0 [some (.ref a0), none, some (.int z2), some (.int q6), some (.int p4), some (.int p5)] dX13_range_49 rfl (by decide) rfl ?_
    refine z_iload dX13_range_50 rfl ?_
    refine z_aload_n dX13_range_52 rfl rfl (z_okl g_a0) ?_
    refine y_getR lfX13_98 rfl g_a0 dX13_range_53 ?_
    refine z_iload dX13_range_56 rfl ?_
    refine y_iald g5 dX13_range_58 ?_
    obtain ⟨q7, hq7, hf⟩ := z_b_el hf
    refine y_cSi (Nat.le_trans (Nat.le_of_ble_eq_true rfl) hd) (wX13_max (z_dl rfl hd) hq7) oX13_max lmX13_294 sX13_max _ rfl rfl (Nat.le_of_ble_eq_true rfl) dX13_range_59 ?_
    refine y_istore0 [some (.ref a0), none, some (.int z2), some (.int q6), some (.int q7), some (.int p5)] dX13_range_62 (by decide) rfl ?_
    refine y_iinc (fun t8 => [some (.ref a0), none, some (.int z2), some (.int q6), some (.int q7), some (.int t8)]) dX13_range_64 rfl kc_1 (by decide) (fun _ => rfl) (fun t8 et8 => ?_)
    have hf := z_l_el hf et8
    refine z_goto (tgt := 32) dX13_range_67 (by decide) ?_
    cases hf
    exact y_sub hk (z_le_c rfl (z_le_n (z_le_c rfl (z_le_c rfl (z_le_c rfl (z_le_c rfl z_le_0))))))
def fX13_range (a0 : Nat) (x1 : Int32) (I : Nat → Nat → Int32) (R : Nat → Nat → Nat) : Option (Int32 × (Nat → Nat → Int32)) :=
  z_g (z_ob a0 13) (z_b (fX13_in x1 (0 : Int32) (7 : Int32)) (fun q1 => if q1 = 0 then (some ((-1 : Int32), I)) else (z_b (fX13_laysTune a0 x1 (R a0 52) I R) (fun q3 => z_b (z_lp (fX13_range_b32 a0 q3.1 q3.2 R) 300 ((1000000 : Int32), (0 : Int32), (0 : Int32))) (fun q9 => if q3.1 = 0 then (some ((-2 : Int32), q3.2)) else (some (q9.2 - q9.1, q3.2)))))))
theorem vX13_range {G : z_G} {d : Nat} {Q : Option Value → z_S → z_H → Prop} {a0 : Nat} {x1 : Int32} {I : Nat → Nat → Int32} {R : Nat → Nat → Nat} {q : Int32 × (Nat → Nat → Int32)} (hd : 1 ≤ d) (hf : fX13_range a0 x1 I R = some q) (hk : Q (some (.int q.1)) z_SH (q.2, R)) : z_W G eX13_range d 0 0 0 [some (.ref a0), some (.int x1), none, none, none, none] [] z_SH (I, R) Q := by
  unfold fX13_range at hf
  obtain ⟨g_a0, hf⟩ := z_g_el hf
  refine z_iload_n dX13_range_0 rfl rfl ?_
  refine z_iconst dX13_range_1 kc_0 ?_
  refine z_bipush dX13_range_2 kb_7 ?_
  obtain ⟨q1, hq1, hf⟩ := z_b_el hf
  refine y_cSi (Nat.le_trans (Nat.le_of_ble_eq_true rfl) hd) (wX13_in (z_dl rfl hd) hq1) oX13_in lmX13_114 sX13_in _ rfl rfl (Nat.le_of_ble_eq_true rfl) dX13_range_4 ?_
  refine z_if_ne (tgt := 12) dX13_range_7 (by decide) (fun c2 => ?_) (fun c2 => ?_)
  · have hf := z_if_f hf c2
    refine z_aload_n dX13_range_12 rfl rfl (z_okl g_a0) ?_
    refine z_iload_n dX13_range_13 rfl rfl ?_
    refine z_aload_n dX13_range_14 rfl rfl (z_okl g_a0) ?_
    refine y_getR lfX13_98 rfl g_a0 dX13_range_15 ?_
    obtain ⟨q3, hq3, hf⟩ := z_b_el hf
    refine y_cVi (av := [.int x1, .ref (R a0 52)]) (Nat.le_trans (Nat.le_of_ble_eq_true rfl) hd) (wX13_laysTune (z_dl rfl hd) hq3) oX13_laysTune lmX13_374 iX13_laysTune g_a0 rfl _ rfl rfl (Nat.le_of_ble_eq_true rfl) dX13_range_18 ?_
    refine y_istore_n0 [some (.ref a0), some (.int x1), some (.int q3.1), none, none, none] dX13_range_21 rfl (by decide) rfl ?_
    refine z_ldcw dX13_range_22 lkX13_328 ?_
    refine y_istore_n0 [some (.ref a0), some (.int x1), some (.int q3.1), some (.int (1000000 : Int32)), none, none] dX13_range_25 rfl (by decide) rfl ?_
    refine z_iconst dX13_range_26 kc_0 ?_
    refine y_istore0 [some (.ref a0), some (.int x1), some (.int q3.1), some (.int (1000000 : Int32)), some (.int (0 : Int32)), none] dX13_range_27 (by decide) rfl ?_
    refine z_iconst dX13_range_29 kc_0 ?_
    refine y_istore0 [some (.ref a0), some (.int x1), some (.int q3.1), some (.int (1000000 : Int32)), some (.int (0 : Int32)), some (.int (0 : Int32))] dX13_range_30 (by decide) rfl ?_
    obtain ⟨q9, hq9, hf⟩ := z_b_el hf
    refine y_sub (lv' := [some (.ref a0), none, some (.int q3.1), some (.int (1000000 : Int32)), some (.int (0 : Int32)), some (.int (0 : Int32))]) ?_ (z_le_c rfl (z_le_n (z_le_c rfl (z_le_c rfl (z_le_c rfl (z_le_c rfl z_le_0))))))
    refine z_lp_el (P := (fun s : Int32 × Int32 × Int32 => z_W G eX13_range d 0 0 32 [some (.ref a0), none, some (.int q3.1), some (.int s.1), some (.int s.2.1), some (.int s.2.2)] [] z_SH (q3.2, R) Q)) (E := (fun x : Int32 × Int32 => z_W G eX13_range d 0 0 70 [none, none, some (.int q3.1), some (.int x.1), some (.int x.2), none] [] z_SH (q3.2, R) Q)) (wX13_range_b32 hd g_a0) 300 ((1000000 : Int32), (0 : Int32), (0 : Int32)) q9 hq9 ?_
    show z_W G eX13_range d 0 0 70 [none, none, some (.int q3.1), some (.int q9.1), some (.int q9.2), none] [] z_SH (q3.2, R) _
    refine z_iload_n dX13_range_70 rfl rfl ?_
    refine z_if_ne (tgt := 79) dX13_range_71 (by decide) (fun c10 => ?_) (fun c10 => ?_)
    · have hf := z_if_f hf c10
      refine z_iload dX13_range_79 rfl ?_
      refine z_iload_n dX13_range_81 rfl rfl ?_
      refine z_isub dX13_range_82 ?_
      cases hf
      exact z_iret hk ⟨_, rfl, rfl⟩ dX13_range_83
    · have hf := z_if_t hf c10
      refine z_bipush dX13_range_74 kb_m2 ?_
      refine z_goto (tgt := 83) dX13_range_76 (by decide) ?_
      cases hf
      exact z_iret hk ⟨_, rfl, rfl⟩ dX13_range_83
  · have hf := z_if_t hf c2
    refine z_iconst dX13_range_10 kc_m1 ?_
    cases hf
    exact z_iret hk ⟨_, rfl, rfl⟩ dX13_range_11
theorem wX13_range {G : z_G} {d : Nat} {a0 : Nat} {x1 : Int32} {I : Nat → Nat → Int32} {R : Nat → Nat → Nat} {q : Int32 × (Nat → Nat → Int32)} (hd : 1 ≤ d) (hf : fX13_range a0 x1 I R = some q) : z_M G d 0 0 eX13_range [.ref a0, .int x1] z_SH (I, R) (z_E (some (.int q.1)) (q.2, R)) :=
  y_M_of _ (by decide +kernel) rfl rfl rfl (vX13_range hd hf ⟨rfl, rfl, rfl⟩)
def fX13_alone (a0 : Nat) (x1 : Int32) (I : Nat → Nat → Int32) (R : Nat → Nat → Nat) : Option (Int32) :=
  z_g (z_ob a0 13) (z_b (fX13_isTold a0 x1 I R) (fun q1 => if q1 = 0 then (some (-1 : Int32)) else (z_g (z_ok 1 (R a0 0) ((8 : Int32) + x1)) (z_l ((60 : Int32) + (I (R a0 0) ((8 : Int32) + x1).toNatClampNeg)) (fun t4 => z_g (z_ok 1 (R a0 9) x1) (z_g (¬ t4 = 0) (some (((((I (R a0 9) x1.toNatClampNeg) * (I a0 4)) + t4) - (1 : Int32)) / t4))))))))
theorem vX13_alone {G : z_G} {d : Nat} {Q : Option Value → z_S → z_H → Prop} {a0 : Nat} {x1 : Int32} {I : Nat → Nat → Int32} {R : Nat → Nat → Nat} {q : Int32} (hd : 2 ≤ d) (hf : fX13_alone a0 x1 I R = some q) (hk : Q (some (.int q)) z_SH (I, R)) : z_W G eX13_alone d 0 0 0 [some (.ref a0), some (.int x1), none] [] z_SH (I, R) Q := by
  unfold fX13_alone at hf
  obtain ⟨g_a0, hf⟩ := z_g_el hf
  refine z_aload_n dX13_alone_0 rfl rfl (z_okl g_a0) ?_
  refine z_iload_n dX13_alone_1 rfl rfl ?_
  obtain ⟨q1, hq1, hf⟩ := z_b_el hf
  refine y_cVi (av := [.int x1]) (Nat.le_trans (Nat.le_of_ble_eq_true rfl) hd) (wX13_isTold (z_dl rfl hd) hq1) oX13_isTold lmX13_118 iX13_isTold g_a0 rfl _ rfl rfl (Nat.le_of_ble_eq_true rfl) dX13_alone_2 ?_
  refine z_if_ne (tgt := 10) dX13_alone_5 (by decide) (fun c2 => ?_) (fun c2 => ?_)
  · have hf := z_if_f hf c2
    refine z_bipush dX13_alone_10 kb_60 ?_
    refine z_aload_n dX13_alone_12 rfl rfl (z_okl g_a0) ?_
    refine y_getR lfX13_7 rfl g_a0 dX13_alone_13 ?_
    refine z_bipush dX13_alone_16 kb_8 ?_
    refine z_iload_n dX13_alone_18 rfl rfl ?_
    refine z_iadd dX13_alone_19 ?_
    obtain ⟨g3, hf⟩ := z_g_el hf
    refine y_iald g3 dX13_alone_20 ?_
    refine z_iadd dX13_alone_21 ?_
    refine y_istore_n (fun t4 => [some (.ref a0), some (.int x1), some (.int t4)]) dX13_alone_22 rfl (by decide) (fun _ => rfl) (fun t4 et4 => ?_)
    have hf := z_l_el hf et4
    refine z_aload_n dX13_alone_23 rfl rfl (z_okl g_a0) ?_
    refine y_getR lfX13_31 rfl g_a0 dX13_alone_24 ?_
    refine z_iload_n dX13_alone_27 rfl rfl ?_
    obtain ⟨g5, hf⟩ := z_g_el hf
    refine y_iald g5 dX13_alone_28 ?_
    refine z_aload_n dX13_alone_29 rfl rfl (z_okl g_a0) ?_
    refine y_getI lfX13_111 rfl g_a0 dX13_alone_30 ?_
    refine z_imul dX13_alone_33 ?_
    refine z_iload_n dX13_alone_34 rfl rfl ?_
    refine z_iadd dX13_alone_35 ?_
    refine z_iconst dX13_alone_36 kc_1 ?_
    refine z_isub dX13_alone_37 ?_
    refine z_iload_n dX13_alone_38 rfl rfl ?_
    obtain ⟨g6, hf⟩ := z_g_el hf
    refine z_idiv dX13_alone_39 g6 ?_
    cases hf
    exact z_iret hk ⟨_, rfl, rfl⟩ dX13_alone_40
  · have hf := z_if_t hf c2
    refine z_iconst dX13_alone_8 kc_m1 ?_
    cases hf
    exact z_iret hk ⟨_, rfl, rfl⟩ dX13_alone_9
theorem wX13_alone {G : z_G} {d : Nat} {a0 : Nat} {x1 : Int32} {I : Nat → Nat → Int32} {R : Nat → Nat → Nat} {q : Int32} (hd : 2 ≤ d) (hf : fX13_alone a0 x1 I R = some q) : z_M G d 0 0 eX13_alone [.ref a0, .int x1] z_SH (I, R) (z_E (some (.int q)) (I, R)) :=
  y_M_of _ (by decide +kernel) rfl rfl rfl (vX13_alone hd hf ⟨rfl, rfl, rfl⟩)
def fX13_together_b55 (a0 : Nat) (z1 : Int32) (z2 : Int32) (z3 : Int32) (R : Nat → Nat → Nat) : (Int32 × Int32 × (Nat → Nat → Int32)) → Option ((Int32 × Int32 × (Nat → Nat → Int32)) ⊕ (Int32 × (Nat → Nat → Int32))) :=
  fun s => (fun (p4 : Int32) (p5 : Int32) (I : Nat → Nat → Int32) => if z3 ≤ p5 then (some (.inr (p4, I))) else (z_g (z_ok 1 (R a0 0) (80 : Int32)) (if (99999 : Int32) ≤ (I (R a0 0) (80 : Int32).toNatClampNeg) then (some (.inr (p4, I))) else (z_b (fX13_tickGoes a0 I R) (fun q13 => z_g (z_ok 1 (R a0 0) ((40 : Int32) + z1)) (z_g (z_ok 1 (R a0 0) ((40 : Int32) + z2)) (if (q13 (R a0 0) ((40 : Int32) + z1).toNatClampNeg) = (q13 (R a0 0) ((40 : Int32) + z2).toNatClampNeg) then (z_l (p4 + (1 : Int32)) (fun t18 => z_l (p5 + (1 : Int32)) (fun t19 => some (.inl (t18, t19, q13))))) else (z_l (p5 + (1 : Int32)) (fun t17 => some (.inl (p4, t17, q13))))))))))) s.1 s.2.1 s.2.2
theorem wX13_together_b55 {G : z_G} {d : Nat} {Q : Option Value → z_S → z_H → Prop} {a0 : Nat} {z1 : Int32} {z2 : Int32} {z3 : Int32} {R : Nat → Nat → Nat} (hd : 8 ≤ d) (g_a0 : z_ob a0 13) : ∀ (s : Int32 × Int32 × (Nat → Nat → Int32)) (o : (Int32 × Int32 × (Nat → Nat → Int32)) ⊕ (Int32 × (Nat → Nat → Int32))), fX13_together_b55 a0 z1 z2 z3 R s = some o → z_or (fun s : Int32 × Int32 × (Nat → Nat → Int32) => z_W G eX13_together d 0 0 55 [some (.ref a0), some (.int z1), some (.int z2), some (.int z3), some (.int s.1), some (.int s.2.1)] [] z_SH (s.2.2, R) Q) (fun x : Int32 × (Nat → Nat → Int32) => z_W G eX13_together d 0 0 111 [some (.ref a0), none, none, none, some (.int x.1), none] [] z_SH (x.2, R) Q) o → (fun s : Int32 × Int32 × (Nat → Nat → Int32) => z_W G eX13_together d 0 0 55 [some (.ref a0), some (.int z1), some (.int z2), some (.int z3), some (.int s.1), some (.int s.2.1)] [] z_SH (s.2.2, R) Q) s := by
  rintro ⟨p4, p5, I⟩ o hf hk
  show z_W G eX13_together d 0 0 55 [some (.ref a0), some (.int z1), some (.int z2), some (.int z3), some (.int p4), some (.int p5)] [] z_SH (I, R) Q
  unfold fX13_together_b55 at hf
  try dsimp only at hf
  refine z_iload dX13_together_55 rfl ?_
  refine z_iload_n dX13_together_57 rfl rfl ?_
  refine z_icmp_ge (tgt := 111) dX13_together_58 (by decide) (fun c10 => ?_) (fun c10 => ?_)
  · have hf := z_if_t hf c10
    cases hf
    exact y_sub hk (z_le_c rfl (z_le_n (z_le_n (z_le_n (z_le_c rfl (z_le_n z_le_0))))))
  · have hf := z_if_f hf c10
    refine z_aload_n dX13_together_61 rfl rfl (z_okl g_a0) ?_
    refine y_getR lfX13_7 rfl g_a0 dX13_together_62 ?_
    refine z_bipush dX13_together_65 kb_80 ?_
    obtain ⟨g11, hf⟩ := z_g_el hf
    refine y_iald g11 dX13_together_67 ?_
    refine z_ldcw dX13_together_68 lkX13_342 ?_
    refine z_icmp_ge (tgt := 111) dX13_together_71 (by decide) (fun c12 => ?_) (fun c12 => ?_)
    · have hf := z_if_t hf c12
      cases hf
      exact y_sub hk (z_le_c rfl (z_le_n (z_le_n (z_le_n (z_le_c rfl (z_le_n z_le_0))))))
    · have hf := z_if_f hf c12
      refine z_aload_n dX13_together_74 rfl rfl (z_okl g_a0) ?_
      obtain ⟨q13, hq13, hf⟩ := z_b_el hf
      refine y_cVv (av := []) (Nat.le_trans (Nat.le_of_ble_eq_true rfl) hd) (wX13_tickGoes (z_dl rfl hd) hq13) oX13_tickGoes lmX13_343 iX13_tickGoes g_a0 rfl _ rfl rfl (Nat.le_of_ble_eq_true rfl) dX13_together_75 ?_
      refine z_aload_n dX13_together_78 rfl rfl (z_okl g_a0) ?_
      refine y_getR lfX13_7 rfl g_a0 dX13_together_79 ?_
      refine z_bipush dX13_together_82 kb_40 ?_
      refine z_iload_n dX13_together_84 rfl rfl ?_
      refine z_iadd dX13_together_85 ?_
      obtain ⟨g14, hf⟩ := z_g_el hf
      refine y_iald g14 dX13_together_86 ?_
      refine z_aload_n dX13_together_87 rfl rfl (z_okl g_a0) ?_
      refine y_getR lfX13_7 rfl g_a0 dX13_together_88 ?_
      refine z_bipush dX13_together_91 kb_40 ?_
      refine z_iload_n dX13_together_93 rfl rfl ?_
      refine z_iadd dX13_together_94 ?_
      obtain ⟨g15, hf⟩ := z_g_el hf
      refine y_iald g15 dX13_together_95 ?_
      refine z_icmp_ne (tgt := 105) dX13_together_96 (by decide) (fun c16 => ?_) (fun c16 => ?_)
      · have hf := z_if_f hf c16
        refine y_iinc (fun t17 => [some (.ref a0), some (.int z1), some (.int z2), some (.int z3), some (.int p4), some (.int t17)]) dX13_together_105 rfl kc_1 (by decide) (fun _ => rfl) (fun t17 et17 => ?_)
        have hf := z_l_el hf et17
        refine z_goto (tgt := 55) dX13_together_108 (by decide) ?_
        cases hf
        exact y_sub hk (z_le_c rfl (z_le_c rfl (z_le_c rfl (z_le_c rfl (z_le_c rfl (z_le_c rfl z_le_0))))))
      · have hf := z_if_t hf c16
        refine z_iload dX13_together_99 rfl ?_
        refine z_iconst dX13_together_101 kc_1 ?_
        refine z_iadd dX13_together_102 ?_
        refine y_istore (fun t18 => [some (.ref a0), some (.int z1), some (.int z2), some (.int z3), some (.int t18), some (.int p5)]) dX13_together_103 (by decide) (fun _ => rfl) (fun t18 et18 => ?_)
        have hf := z_l_el hf et18
        refine y_iinc (fun t19 => [some (.ref a0), some (.int z1), some (.int z2), some (.int z3), some (.int t18), some (.int t19)]) dX13_together_105 rfl kc_1 (by decide) (fun _ => rfl) (fun t19 et19 => ?_)
        have hf := z_l_el hf et19
        refine z_goto (tgt := 55) dX13_together_108 (by decide) ?_
        cases hf
        exact y_sub hk (z_le_c rfl (z_le_c rfl (z_le_c rfl (z_le_c rfl (z_le_c rfl (z_le_c rfl z_le_0))))))
def fX13_together_j111 (a0 : Nat) (y4 : Int32) (I : Nat → Nat → Int32) (R : Nat → Nat → Nat) : Option (Int32 × (Nat → Nat → Int32)) :=
  z_b (fX13_copies (R a0 1) (R a0 0) I) (fun q21 => some (y4, q21))
theorem wX13_together_j111 {G : z_G} {d : Nat} {Q : Option Value → z_S → z_H → Prop} {a0 : Nat} {y4 : Int32} {I : Nat → Nat → Int32} {R : Nat → Nat → Nat} {o : Int32 × (Nat → Nat → Int32)} (hd : 8 ≤ d) (g_a0 : z_ob a0 13) (hf : fX13_together_j111 a0 y4 I R = some o) (hk : Q (some (.int o.1)) z_SH (o.2, R)) : z_W G eX13_together d 0 0 111 [some (.ref a0), none, none, none, some (.int y4), none] [] z_SH (I, R) Q := by
  unfold fX13_together_j111 at hf
  refine z_aload_n dX13_together_111 rfl rfl (z_okl g_a0) ?_
  refine y_getR lfX13_13 rfl g_a0 dX13_together_112 ?_
  refine z_aload_n dX13_together_115 rfl rfl (z_okl g_a0) ?_
  refine y_getR lfX13_7 rfl g_a0 dX13_together_116 ?_
  obtain ⟨q21, hq21, hf⟩ := z_b_el hf
  refine y_cSv (Nat.le_trans (Nat.le_of_ble_eq_true rfl) hd) (wX13_copies (z_dl rfl hd) hq21) oX13_copies lmX13_349 sX13_copies _ rfl rfl (Nat.le_of_ble_eq_true rfl) dX13_together_119 ?_
  refine z_iload dX13_together_122 rfl ?_
  cases hf
  exact z_iret hk ⟨_, rfl, rfl⟩ dX13_together_124
def fX13_together (a0 : Nat) (x1 : Int32) (x2 : Int32) (x3 : Int32) (I : Nat → Nat → Int32) (R : Nat → Nat → Nat) : Option (Int32 × (Nat → Nat → Int32)) :=
  z_g (z_ob a0 13) (z_b (fX13_isTold a0 x1 I R) (fun q1 => if q1 = 0 then (some ((-1 : Int32), I)) else (z_b (fX13_isTold a0 x2 I R) (fun q3 => if q3 = 0 then (some ((-1 : Int32), I)) else (if x1 = x2 then (some ((-1 : Int32), I)) else (z_b (fX13_in x3 (1 : Int32) (240 : Int32)) (fun q6 => if q6 = 0 then (some ((-1 : Int32), I)) else (z_b (fX13_copies (R a0 0) (R a0 1) I) (fun q8 => z_b (fX13_beginsTicks a0 q8) (fun q9 => z_b (z_lp (fX13_together_b55 a0 x1 x2 x3 R) 300 ((0 : Int32), (0 : Int32), q9)) (fun q20 => fX13_together_j111 a0 q20.1 q20.2 R)))))))))))
set_option maxRecDepth 20000 in
theorem vX13_together {G : z_G} {d : Nat} {Q : Option Value → z_S → z_H → Prop} {a0 : Nat} {x1 : Int32} {x2 : Int32} {x3 : Int32} {I : Nat → Nat → Int32} {R : Nat → Nat → Nat} {q : Int32 × (Nat → Nat → Int32)} (hd : 8 ≤ d) (hf : fX13_together a0 x1 x2 x3 I R = some q) (hk : Q (some (.int q.1)) z_SH (q.2, R)) : z_W G eX13_together d 0 0 0 [some (.ref a0), some (.int x1), some (.int x2), some (.int x3), none, none] [] z_SH (I, R) Q := by
  unfold fX13_together at hf
  obtain ⟨g_a0, hf⟩ := z_g_el hf
  refine z_aload_n dX13_together_0 rfl rfl (z_okl g_a0) ?_
  refine z_iload_n dX13_together_1 rfl rfl ?_
  obtain ⟨q1, hq1, hf⟩ := z_b_el hf
  refine y_cVi (av := [.int x1]) (Nat.le_trans (Nat.le_of_ble_eq_true rfl) hd) (wX13_isTold (z_dl rfl hd) hq1) oX13_isTold lmX13_118 iX13_isTold g_a0 rfl _ rfl rfl (Nat.le_of_ble_eq_true rfl) dX13_together_2 ?_
  refine z_if_eq (tgt := 32) dX13_together_5 (by decide) (fun c2 => ?_) (fun c2 => ?_)
  · have hf := z_if_t hf c2
    refine z_iconst dX13_together_32 kc_m1 ?_
    cases hf
    exact z_iret hk ⟨_, rfl, rfl⟩ dX13_together_33
  · have hf := z_if_f hf c2
    refine z_aload_n dX13_together_8 rfl rfl (z_okl g_a0) ?_
    refine z_iload_n dX13_together_9 rfl rfl ?_
    obtain ⟨q3, hq3, hf⟩ := z_b_el hf
    refine y_cVi (av := [.int x2]) (Nat.le_trans (Nat.le_of_ble_eq_true rfl) hd) (wX13_isTold (z_dl rfl hd) hq3) oX13_isTold lmX13_118 iX13_isTold g_a0 rfl _ rfl rfl (Nat.le_of_ble_eq_true rfl) dX13_together_10 ?_
    refine z_if_eq (tgt := 32) dX13_together_13 (by decide) (fun c4 => ?_) (fun c4 => ?_)
    · have hf := z_if_t hf c4
      refine z_iconst dX13_together_32 kc_m1 ?_
      cases hf
      exact z_iret hk ⟨_, rfl, rfl⟩ dX13_together_33
    · have hf := z_if_f hf c4
      refine z_iload_n dX13_together_16 rfl rfl ?_
      refine z_iload_n dX13_together_17 rfl rfl ?_
      refine z_icmp_eq (tgt := 32) dX13_together_18 (by decide) (fun c5 => ?_) (fun c5 => ?_)
      · have hf := z_if_t hf c5
        refine z_iconst dX13_together_32 kc_m1 ?_
        cases hf
        exact z_iret hk ⟨_, rfl, rfl⟩ dX13_together_33
      · have hf := z_if_f hf c5
        refine z_iload_n dX13_together_21 rfl rfl ?_
        refine z_iconst dX13_together_22 kc_1 ?_
        refine z_sipush dX13_together_23 ks_240 ?_
        obtain ⟨q6, hq6, hf⟩ := z_b_el hf
        refine y_cSi (Nat.le_trans (Nat.le_of_ble_eq_true rfl) hd) (wX13_in (z_dl rfl hd) hq6) oX13_in lmX13_114 sX13_in _ rfl rfl (Nat.le_of_ble_eq_true rfl) dX13_together_26 ?_
        refine z_if_ne (tgt := 34) dX13_together_29 (by decide) (fun c7 => ?_) (fun c7 => ?_)
        · have hf := z_if_f hf c7
          refine z_aload_n dX13_together_34 rfl rfl (z_okl g_a0) ?_
          refine y_getR lfX13_7 rfl g_a0 dX13_together_35 ?_
          refine z_aload_n dX13_together_38 rfl rfl (z_okl g_a0) ?_
          refine y_getR lfX13_13 rfl g_a0 dX13_together_39 ?_
          obtain ⟨q8, hq8, hf⟩ := z_b_el hf
          refine y_cSv (Nat.le_trans (Nat.le_of_ble_eq_true rfl) hd) (wX13_copies (z_dl rfl hd) hq8) oX13_copies lmX13_349 sX13_copies _ rfl rfl (Nat.le_of_ble_eq_true rfl) dX13_together_42 ?_
          refine z_aload_n dX13_together_45 rfl rfl (z_okl g_a0) ?_
          obtain ⟨q9, hq9, hf⟩ := z_b_el hf
          refine y_cVv (av := []) (Nat.le_trans (Nat.le_of_ble_eq_true rfl) hd) (wX13_beginsTicks (z_dl rfl hd) hq9) oX13_beginsTicks lmX13_339 iX13_beginsTicks g_a0 rfl _ rfl rfl (Nat.le_of_ble_eq_true rfl) dX13_together_46 ?_
          refine z_iconst dX13_together_49 kc_0 ?_
          refine y_istore0 [some (.ref a0), some (.int x1), some (.int x2), some (.int x3), some (.int (0 : Int32)), none] dX13_together_50 (by decide) rfl ?_
          refine z_iconst dX13_together_52 kc_0 ?_
          refine y_istore0 [some (.ref a0), some (.int x1), some (.int x2), some (.int x3), some (.int (0 : Int32)), some (.int (0 : Int32))] dX13_together_53 (by decide) rfl ?_
          obtain ⟨q20, hq20, hf⟩ := z_b_el hf
          refine y_sub (lv' := [some (.ref a0), some (.int x1), some (.int x2), some (.int x3), some (.int (0 : Int32)), some (.int (0 : Int32))]) ?_ (z_le_c rfl (z_le_c rfl (z_le_c rfl (z_le_c rfl (z_le_c rfl (z_le_c rfl z_le_0))))))
          refine z_lp_el (P := (fun s : Int32 × Int32 × (Nat → Nat → Int32) => z_W G eX13_together d 0 0 55 [some (.ref a0), some (.int x1), some (.int x2), some (.int x3), some (.int s.1), some (.int s.2.1)] [] z_SH (s.2.2, R) Q)) (E := (fun x : Int32 × (Nat → Nat → Int32) => z_W G eX13_together d 0 0 111 [some (.ref a0), none, none, none, some (.int x.1), none] [] z_SH (x.2, R) Q)) (wX13_together_b55 hd g_a0) 300 ((0 : Int32), (0 : Int32), q9) q20 hq20 ?_
          show z_W G eX13_together d 0 0 111 [some (.ref a0), none, none, none, some (.int q20.1), none] [] z_SH (q20.2, R) _
          exact y_sub (wX13_together_j111 hd g_a0 hf hk) (z_le_c rfl (z_le_n (z_le_n (z_le_n (z_le_c rfl (z_le_n z_le_0))))))
        · have hf := z_if_t hf c7
          refine z_iconst dX13_together_32 kc_m1 ?_
          cases hf
          exact z_iret hk ⟨_, rfl, rfl⟩ dX13_together_33
theorem wX13_together {G : z_G} {d : Nat} {a0 : Nat} {x1 : Int32} {x2 : Int32} {x3 : Int32} {I : Nat → Nat → Int32} {R : Nat → Nat → Nat} {q : Int32 × (Nat → Nat → Int32)} (hd : 8 ≤ d) (hf : fX13_together a0 x1 x2 x3 I R = some q) : z_M G d 0 0 eX13_together [.ref a0, .int x1, .int x2, .int x3] z_SH (I, R) (z_E (some (.int q.1)) (q.2, R)) :=
  y_M_of _ (by decide +kernel) rfl rfl rfl (vX13_together hd hf ⟨rfl, rfl, rfl⟩)
