def fX13_law_j67_31 (a0 : Nat) (v0 : Int32) (I : Nat → Nat → Int32) (R : Nat → Nat → Nat) : Option ((Int32 × (Nat → Nat → Int32)) ⊕ (Int32 × (Nat → Nat → Int32))) :=
  some (.inl (v0, I))
theorem wX13_law_j67_31 {G : z_G} {d : Nat} {Q : Option Value → z_S → z_H → Prop} {a0 : Nat} {v0 : Int32} {I : Nat → Nat → Int32} {R : Nat → Nat → Nat} {o : (Int32 × (Nat → Nat → Int32)) ⊕ (Int32 × (Nat → Nat → Int32))} (hd : 8 ≤ d) (g_a0 : z_ob a0 13) (hf : fX13_law_j67_31 a0 v0 I R = some o) (hk : z_or (fun s : Int32 × (Nat → Nat → Int32) => z_W G eX13_law d 0 0 31 [some (.ref a0), none, some (.int s.1), none] [] z_SH (s.2, R) Q) (fun x : Int32 × (Nat → Nat → Int32) => z_W G eX13_law d 0 0 71 [some (.ref a0), none, some (.int x.1), none] [] z_SH (x.2, R) Q) o) : z_W G eX13_law d 0 0 67 [some (.ref a0), none, none, none] [.int v0] z_SH (I, R) Q := by
  unfold fX13_law_j67_31 at hf
  refine y_istore_n0 [some (.ref a0), none, some (.int v0), none] dX13_law_67 rfl (by decide) rfl ?_
  refine z_goto (tgt := 31) dX13_law_68 (by decide) ?_
  cases hf
  exact y_sub hk (z_le_c rfl (z_le_n (z_le_c rfl (z_le_n z_le_0))))
def fX13_law_j66_31 (a0 : Nat) (I : Nat → Nat → Int32) (R : Nat → Nat → Nat) : Option ((Int32 × (Nat → Nat → Int32)) ⊕ (Int32 × (Nat → Nat → Int32))) :=
  fX13_law_j67_31 a0 (0 : Int32) I R
theorem wX13_law_j66_31 {G : z_G} {d : Nat} {Q : Option Value → z_S → z_H → Prop} {a0 : Nat} {I : Nat → Nat → Int32} {R : Nat → Nat → Nat} {o : (Int32 × (Nat → Nat → Int32)) ⊕ (Int32 × (Nat → Nat → Int32))} (hd : 8 ≤ d) (g_a0 : z_ob a0 13) (hf : fX13_law_j66_31 a0 I R = some o) (hk : z_or (fun s : Int32 × (Nat → Nat → Int32) => z_W G eX13_law d 0 0 31 [some (.ref a0), none, some (.int s.1), none] [] z_SH (s.2, R) Q) (fun x : Int32 × (Nat → Nat → Int32) => z_W G eX13_law d 0 0 71 [some (.ref a0), none, some (.int x.1), none] [] z_SH (x.2, R) Q) o) : z_W G eX13_law d 0 0 66 [some (.ref a0), none, none, none] [] z_SH (I, R) Q := by
  unfold fX13_law_j66_31 at hf
  refine z_iconst dX13_law_66 kc_0 ?_
  exact y_sub (wX13_law_j67_31 hd g_a0 hf hk) (z_le_c rfl (z_le_n (z_le_n (z_le_n z_le_0))))
def fX13_law_b31 (a0 : Nat) (R : Nat → Nat → Nat) : (Int32 × (Nat → Nat → Int32)) → Option ((Int32 × (Nat → Nat → Int32)) ⊕ (Int32 × (Nat → Nat → Int32))) :=
  fun s => (fun (p2 : Int32) (I : Nat → Nat → Int32) => if p2 = 0 then (some (.inr (p2, I))) else (if (I a0 13) ≤ (I a0 12) then (some (.inr (p2, I))) else (z_b (fX13_takes a0 (59 : Int32) I R) (fun q8 => if q8.1 = 0 then (fX13_law_j66_31 a0 q8.2 R) else (z_b (fX13_readsRule a0 q8.2 R) (fun q10 => if q10.1 = 0 then (fX13_law_j66_31 a0 q10.2 R) else (fX13_law_j67_31 a0 (1 : Int32) q10.2 R))))))) s.1 s.2
theorem wX13_law_b31 {G : z_G} {d : Nat} {Q : Option Value → z_S → z_H → Prop} {a0 : Nat} {R : Nat → Nat → Nat} (hd : 8 ≤ d) (g_a0 : z_ob a0 13) : ∀ (s : Int32 × (Nat → Nat → Int32)) (o : (Int32 × (Nat → Nat → Int32)) ⊕ (Int32 × (Nat → Nat → Int32))), fX13_law_b31 a0 R s = some o → z_or (fun s : Int32 × (Nat → Nat → Int32) => z_W G eX13_law d 0 0 31 [some (.ref a0), none, some (.int s.1), none] [] z_SH (s.2, R) Q) (fun x : Int32 × (Nat → Nat → Int32) => z_W G eX13_law d 0 0 71 [some (.ref a0), none, some (.int x.1), none] [] z_SH (x.2, R) Q) o → (fun s : Int32 × (Nat → Nat → Int32) => z_W G eX13_law d 0 0 31 [some (.ref a0), none, some (.int s.1), none] [] z_SH (s.2, R) Q) s := by
  rintro ⟨p2, I⟩ o hf hk
  show z_W G eX13_law d 0 0 31 [some (.ref a0), none, some (.int p2), none] [] z_SH (I, R) Q
  unfold fX13_law_b31 at hf
  try dsimp only at hf
  refine z_iload_n dX13_law_31 rfl rfl ?_
  refine z_if_eq (tgt := 71) dX13_law_32 (by decide) (fun c6 => ?_) (fun c6 => ?_)
  · have hf := z_if_t hf c6
    cases hf
    exact y_sub hk (z_le_c rfl (z_le_n (z_le_c rfl (z_le_n z_le_0))))
  · have hf := z_if_f hf c6
    refine z_aload_n dX13_law_35 rfl rfl (z_okl g_a0) ?_
    refine y_getI lfX13_150 rfl g_a0 dX13_law_36 ?_
    refine z_aload_n dX13_law_39 rfl rfl (z_okl g_a0) ?_
    refine y_getI lfX13_153 rfl g_a0 dX13_law_40 ?_
    refine z_icmp_ge (tgt := 71) dX13_law_43 (by decide) (fun c7 => ?_) (fun c7 => ?_)
    · have hf := z_if_t hf c7
      cases hf
      exact y_sub hk (z_le_c rfl (z_le_n (z_le_c rfl (z_le_n z_le_0))))
    · have hf := z_if_f hf c7
      refine z_aload_n dX13_law_46 rfl rfl (z_okl g_a0) ?_
      refine z_bipush dX13_law_47 kb_59 ?_
      obtain ⟨q8, hq8, hf⟩ := z_b_el hf
      refine y_cVi (av := [.int (59 : Int32)]) (Nat.le_trans (Nat.le_of_ble_eq_true rfl) hd) (wX13_takes (z_dl rfl hd) hq8) oX13_takes lmX13_238 iX13_takes g_a0 rfl _ rfl rfl (Nat.le_of_ble_eq_true rfl) dX13_law_49 ?_
      refine z_if_eq (tgt := 66) dX13_law_52 (by decide) (fun c9 => ?_) (fun c9 => ?_)
      · have hf := z_if_t hf c9
        exact y_sub (wX13_law_j66_31 hd g_a0 hf hk) (z_le_c rfl (z_le_n (z_le_n (z_le_n z_le_0))))
      · have hf := z_if_f hf c9
        refine z_aload_n dX13_law_55 rfl rfl (z_okl g_a0) ?_
        obtain ⟨q10, hq10, hf⟩ := z_b_el hf
        refine y_cVi (av := []) (Nat.le_trans (Nat.le_of_ble_eq_true rfl) hd) (wX13_readsRule (z_dl rfl hd) hq10) oX13_readsRule lmX13_235 iX13_readsRule g_a0 rfl _ rfl rfl (Nat.le_of_ble_eq_true rfl) dX13_law_56 ?_
        refine z_if_eq (tgt := 66) dX13_law_59 (by decide) (fun c11 => ?_) (fun c11 => ?_)
        · have hf := z_if_t hf c11
          exact y_sub (wX13_law_j66_31 hd g_a0 hf hk) (z_le_c rfl (z_le_n (z_le_n (z_le_n z_le_0))))
        · have hf := z_if_f hf c11
          refine z_iconst dX13_law_62 kc_1 ?_
          refine z_goto (tgt := 67) dX13_law_63 (by decide) ?_
          exact y_sub (wX13_law_j67_31 hd g_a0 hf hk) (z_le_c rfl (z_le_n (z_le_n (z_le_n z_le_0))))
def fX13_law_b95 (a0 : Nat) (R : Nat → Nat → Nat) : (Int32 × (Nat → Nat → Int32)) → Option ((Int32 × (Nat → Nat → Int32)) ⊕ ((Nat → Nat → Int32))) :=
  fun s => (fun (p3 : Int32) (I : Nat → Nat → Int32) => if (I a0 17) ≤ p3 then (some (.inr I)) else (z_g (z_ok 1 (R a0 21) p3) (z_g (z_ok 1 (R a0 27) p3) (z_l (z_u I (R a0 27) p3.toNatClampNeg (I (R a0 21) p3.toNatClampNeg)) (fun I19 => z_l (p3 + (1 : Int32)) (fun t20 => some (.inl (t20, I19)))))))) s.1 s.2
theorem wX13_law_b95 {G : z_G} {d : Nat} {Q : Option Value → z_S → z_H → Prop} {a0 : Nat} {R : Nat → Nat → Nat} (hd : 8 ≤ d) (g_a0 : z_ob a0 13) : ∀ (s : Int32 × (Nat → Nat → Int32)) (o : (Int32 × (Nat → Nat → Int32)) ⊕ ((Nat → Nat → Int32))), fX13_law_b95 a0 R s = some o → z_or (fun s : Int32 × (Nat → Nat → Int32) => z_W G eX13_law d 0 0 95 [some (.ref a0), none, none, some (.int s.1)] [] z_SH (s.2, R) Q) (fun x : (Nat → Nat → Int32) => z_W G eX13_law d 0 0 121 [some (.ref a0), none, none, none] [] z_SH (x, R) Q) o → (fun s : Int32 × (Nat → Nat → Int32) => z_W G eX13_law d 0 0 95 [some (.ref a0), none, none, some (.int s.1)] [] z_SH (s.2, R) Q) s := by
  rintro ⟨p3, I⟩ o hf hk
  show z_W G eX13_law d 0 0 95 [some (.ref a0), none, none, some (.int p3)] [] z_SH (I, R) Q
  unfold fX13_law_b95 at hf
  try dsimp only at hf
  refine z_iload_n dX13_law_95 rfl rfl ?_
  refine z_aload_n dX13_law_96 rfl rfl (z_okl g_a0) ?_
  refine y_getI lfX13_172 rfl g_a0 dX13_law_97 ?_
  refine z_icmp_ge (tgt := 121) dX13_law_100 (by decide) (fun c16 => ?_) (fun c16 => ?_)
  · have hf := z_if_t hf c16
    cases hf
    exact y_sub hk (z_le_c rfl (z_le_n (z_le_n (z_le_n z_le_0))))
  · have hf := z_if_f hf c16
    refine z_aload_n dX13_law_103 rfl rfl (z_okl g_a0) ?_
    refine y_getR lfX13_56 rfl g_a0 dX13_law_104 ?_
    refine z_iload_n dX13_law_107 rfl rfl ?_
    refine z_aload_n dX13_law_108 rfl rfl (z_okl g_a0) ?_
    refine y_getR lfX13_38 rfl g_a0 dX13_law_109 ?_
    refine z_iload_n dX13_law_112 rfl rfl ?_
    obtain ⟨g17, hf⟩ := z_g_el hf
    refine y_iald g17 dX13_law_113 ?_
    obtain ⟨g18, hf⟩ := z_g_el hf
    refine y_iast g18 dX13_law_114 (fun I19 eI19 => ?_)
    have hf := z_l_el hf eI19
    refine y_iinc (fun t20 => [some (.ref a0), none, none, some (.int t20)]) dX13_law_115 rfl kc_1 (by decide) (fun _ => rfl) (fun t20 et20 => ?_)
    have hf := z_l_el hf et20
    refine z_goto (tgt := 95) dX13_law_118 (by decide) ?_
    cases hf
    exact y_sub hk (z_le_c rfl (z_le_n (z_le_n (z_le_c rfl z_le_0))))
def fX13_law_b123 (a0 : Nat) (R : Nat → Nat → Nat) : (Int32 × (Nat → Nat → Int32)) → Option ((Int32 × (Nat → Nat → Int32)) ⊕ ((Nat → Nat → Int32))) :=
  fun s => (fun (p3 : Int32) (I : Nat → Nat → Int32) => if (I a0 19) ≤ p3 then (some (.inr I)) else (z_g (z_ok 1 (R a0 23) p3) (z_g (z_ok 1 (R a0 28) p3) (z_l (z_u I (R a0 28) p3.toNatClampNeg (I (R a0 23) p3.toNatClampNeg)) (fun I25 => z_g (z_ok 1 (R a0 24) p3) (z_g (z_ok 1 (R a0 29) p3) (z_l (z_u I25 (R a0 29) p3.toNatClampNeg (I25 (R a0 24) p3.toNatClampNeg)) (fun I28 => z_g (z_ok 1 (R a0 25) p3) (z_g (z_ok 1 (R a0 30) p3) (z_l (z_u I28 (R a0 30) p3.toNatClampNeg (I28 (R a0 25) p3.toNatClampNeg)) (fun I31 => z_g (z_ok 1 (R a0 26) p3) (z_g (z_ok 1 (R a0 31) p3) (z_l (z_u I31 (R a0 31) p3.toNatClampNeg (I31 (R a0 26) p3.toNatClampNeg)) (fun I34 => z_l (p3 + (1 : Int32)) (fun t35 => some (.inl (t35, I34))))))))))))))))) s.1 s.2
theorem wX13_law_b123 {G : z_G} {d : Nat} {Q : Option Value → z_S → z_H → Prop} {a0 : Nat} {R : Nat → Nat → Nat} (hd : 8 ≤ d) (g_a0 : z_ob a0 13) : ∀ (s : Int32 × (Nat → Nat → Int32)) (o : (Int32 × (Nat → Nat → Int32)) ⊕ ((Nat → Nat → Int32))), fX13_law_b123 a0 R s = some o → z_or (fun s : Int32 × (Nat → Nat → Int32) => z_W G eX13_law d 0 0 123 [some (.ref a0), none, none, some (.int s.1)] [] z_SH (s.2, R) Q) (fun x : (Nat → Nat → Int32) => z_W G eX13_law d 0 0 185 [some (.ref a0), none, none, none] [] z_SH (x, R) Q) o → (fun s : Int32 × (Nat → Nat → Int32) => z_W G eX13_law d 0 0 123 [some (.ref a0), none, none, some (.int s.1)] [] z_SH (s.2, R) Q) s := by
  rintro ⟨p3, I⟩ o hf hk
  show z_W G eX13_law d 0 0 123 [some (.ref a0), none, none, some (.int p3)] [] z_SH (I, R) Q
  unfold fX13_law_b123 at hf
  try dsimp only at hf
  refine z_iload_n dX13_law_123 rfl rfl ?_
  refine z_aload_n dX13_law_124 rfl rfl (z_okl g_a0) ?_
  refine y_getI lfX13_226 rfl g_a0 dX13_law_125 ?_
  refine z_icmp_ge (tgt := 185) dX13_law_128 (by decide) (fun c22 => ?_) (fun c22 => ?_)
  · have hf := z_if_t hf c22
    cases hf
    exact y_sub hk (z_le_c rfl (z_le_n (z_le_n (z_le_n z_le_0))))
  · have hf := z_if_f hf c22
    refine z_aload_n dX13_law_131 rfl rfl (z_okl g_a0) ?_
    refine y_getR lfX13_59 rfl g_a0 dX13_law_132 ?_
    refine z_iload_n dX13_law_135 rfl rfl ?_
    refine z_aload_n dX13_law_136 rfl rfl (z_okl g_a0) ?_
    refine y_getR lfX13_44 rfl g_a0 dX13_law_137 ?_
    refine z_iload_n dX13_law_140 rfl rfl ?_
    obtain ⟨g23, hf⟩ := z_g_el hf
    refine y_iald g23 dX13_law_141 ?_
    obtain ⟨g24, hf⟩ := z_g_el hf
    refine y_iast g24 dX13_law_142 (fun I25 eI25 => ?_)
    have hf := z_l_el hf eI25
    refine z_aload_n dX13_law_143 rfl rfl (z_okl g_a0) ?_
    refine y_getR lfX13_62 rfl g_a0 dX13_law_144 ?_
    refine z_iload_n dX13_law_147 rfl rfl ?_
    refine z_aload_n dX13_law_148 rfl rfl (z_okl g_a0) ?_
    refine y_getR lfX13_47 rfl g_a0 dX13_law_149 ?_
    refine z_iload_n dX13_law_152 rfl rfl ?_
    obtain ⟨g26, hf⟩ := z_g_el hf
    refine y_iald g26 dX13_law_153 ?_
    obtain ⟨g27, hf⟩ := z_g_el hf
    refine y_iast g27 dX13_law_154 (fun I28 eI28 => ?_)
    have hf := z_l_el hf eI28
    refine z_aload_n dX13_law_155 rfl rfl (z_okl g_a0) ?_
    refine y_getR lfX13_65 rfl g_a0 dX13_law_156 ?_
    refine z_iload_n dX13_law_159 rfl rfl ?_
    refine z_aload_n dX13_law_160 rfl rfl (z_okl g_a0) ?_
    refine y_getR lfX13_50 rfl g_a0 dX13_law_161 ?_
    refine z_iload_n dX13_law_164 rfl rfl ?_
    obtain ⟨g29, hf⟩ := z_g_el hf
    refine y_iald g29 dX13_law_165 ?_
    obtain ⟨g30, hf⟩ := z_g_el hf
    refine y_iast g30 dX13_law_166 (fun I31 eI31 => ?_)
    have hf := z_l_el hf eI31
    refine z_aload_n dX13_law_167 rfl rfl (z_okl g_a0) ?_
    refine y_getR lfX13_68 rfl g_a0 dX13_law_168 ?_
    refine z_iload_n dX13_law_171 rfl rfl ?_
    refine z_aload_n dX13_law_172 rfl rfl (z_okl g_a0) ?_
    refine y_getR lfX13_53 rfl g_a0 dX13_law_173 ?_
    refine z_iload_n dX13_law_176 rfl rfl ?_
    obtain ⟨g32, hf⟩ := z_g_el hf
    refine y_iald g32 dX13_law_177 ?_
    obtain ⟨g33, hf⟩ := z_g_el hf
    refine y_iast g33 dX13_law_178 (fun I34 eI34 => ?_)
    have hf := z_l_el hf eI34
    refine y_iinc (fun t35 => [some (.ref a0), none, none, some (.int t35)]) dX13_law_179 rfl kc_1 (by decide) (fun _ => rfl) (fun t35 et35 => ?_)
    have hf := z_l_el hf et35
    refine z_goto (tgt := 123) dX13_law_182 (by decide) ?_
    cases hf
    exact y_sub hk (z_le_c rfl (z_le_n (z_le_n (z_le_c rfl z_le_0))))
def fX13_law_j71 (a0 : Nat) (y2 : Int32) (I : Nat → Nat → Int32) (R : Nat → Nat → Nat) : Option (Int32 × (Nat → Nat → Int32)) :=
  z_l (z_u I a0 11 (0 : Int32)) (fun I13 => if y2 = 0 then (some (I13 a0 14, I13)) else (z_l (z_u I13 a0 20 (I13 a0 19)) (fun I15 => z_b (z_lp (fX13_law_b95 a0 R) 300 ((0 : Int32), I15)) (fun q21 => z_b (z_lp (fX13_law_b123 a0 R) 300 ((0 : Int32), q21)) (fun q36 => some (q36 a0 19, q36))))))
theorem wX13_law_j71 {G : z_G} {d : Nat} {Q : Option Value → z_S → z_H → Prop} {a0 : Nat} {y2 : Int32} {I : Nat → Nat → Int32} {R : Nat → Nat → Nat} {o : Int32 × (Nat → Nat → Int32)} (hd : 8 ≤ d) (g_a0 : z_ob a0 13) (hf : fX13_law_j71 a0 y2 I R = some o) (hk : Q (some (.int o.1)) z_SH (o.2, R)) : z_W G eX13_law d 0 0 71 [some (.ref a0), none, some (.int y2), none] [] z_SH (I, R) Q := by
  unfold fX13_law_j71 at hf
  refine z_aload_n dX13_law_71 rfl rfl (z_okl g_a0) ?_
  refine z_iconst dX13_law_72 kc_0 ?_
  refine y_putI lfX13_144 rfl g_a0 rfl rfl rfl dX13_law_73 (fun I13 eI13 => ?_)
  have hf := z_l_el hf eI13
  refine z_iload_n dX13_law_76 rfl rfl ?_
  refine z_if_ne (tgt := 85) dX13_law_77 (by decide) (fun c14 => ?_) (fun c14 => ?_)
  · have hf := z_if_f hf c14
    refine z_aload_n dX13_law_85 rfl rfl (z_okl g_a0) ?_
    refine z_aload_n dX13_law_86 rfl rfl (z_okl g_a0) ?_
    refine y_getI lfX13_226 rfl g_a0 dX13_law_87 ?_
    refine y_putI lfX13_241 rfl g_a0 rfl rfl rfl dX13_law_90 (fun I15 eI15 => ?_)
    have hf := z_l_el hf eI15
    refine z_iconst dX13_law_93 kc_0 ?_
    refine y_istore_n0 [some (.ref a0), none, some (.int y2), some (.int (0 : Int32))] dX13_law_94 rfl (by decide) rfl ?_
    obtain ⟨q21, hq21, hf⟩ := z_b_el hf
    refine y_sub (lv' := [some (.ref a0), none, none, some (.int (0 : Int32))]) ?_ (z_le_c rfl (z_le_n (z_le_n (z_le_c rfl z_le_0))))
    refine z_lp_el (P := (fun s : Int32 × (Nat → Nat → Int32) => z_W G eX13_law d 0 0 95 [some (.ref a0), none, none, some (.int s.1)] [] z_SH (s.2, R) Q)) (E := (fun x : (Nat → Nat → Int32) => z_W G eX13_law d 0 0 121 [some (.ref a0), none, none, none] [] z_SH (x, R) Q)) (wX13_law_b95 hd g_a0) 300 ((0 : Int32), I15) q21 hq21 ?_
    show z_W G eX13_law d 0 0 121 [some (.ref a0), none, none, none] [] z_SH (q21, R) _
    refine z_iconst dX13_law_121 kc_0 ?_
    refine y_istore_n0 [some (.ref a0), none, none, some (.int (0 : Int32))] dX13_law_122 rfl (by decide) rfl ?_
    obtain ⟨q36, hq36, hf⟩ := z_b_el hf
    refine y_sub (lv' := [some (.ref a0), none, none, some (.int (0 : Int32))]) ?_ (z_le_c rfl (z_le_n (z_le_n (z_le_c rfl z_le_0))))
    refine z_lp_el (P := (fun s : Int32 × (Nat → Nat → Int32) => z_W G eX13_law d 0 0 123 [some (.ref a0), none, none, some (.int s.1)] [] z_SH (s.2, R) Q)) (E := (fun x : (Nat → Nat → Int32) => z_W G eX13_law d 0 0 185 [some (.ref a0), none, none, none] [] z_SH (x, R) Q)) (wX13_law_b123 hd g_a0) 300 ((0 : Int32), q21) q36 hq36 ?_
    show z_W G eX13_law d 0 0 185 [some (.ref a0), none, none, none] [] z_SH (q36, R) _
    refine z_aload_n dX13_law_185 rfl rfl (z_okl g_a0) ?_
    refine y_getI lfX13_226 rfl g_a0 dX13_law_186 ?_
    cases hf
    exact z_iret hk ⟨_, rfl, rfl⟩ dX13_law_189
  · have hf := z_if_t hf c14
    refine z_aload_n dX13_law_80 rfl rfl (z_okl g_a0) ?_
    refine y_getI lfX13_159 rfl g_a0 dX13_law_81 ?_
    cases hf
    exact z_iret hk ⟨_, rfl, rfl⟩ dX13_law_84
def fX13_law (a0 : Nat) (x1 : Int32) (I : Nat → Nat → Int32) (R : Nat → Nat → Nat) : Option (Int32 × (Nat → Nat → Int32)) :=
  z_g (z_ob a0 13) (z_b (fX13_in x1 (1 : Int32) (240 : Int32)) (fun q1 => if q1 = 0 then (some ((-1 : Int32), I)) else (if x1 ≤ (I a0 11) then (z_b (fX13_beginsText a0 x1 I) (fun q4 => z_b (fX13_readsRule a0 q4 R) (fun q5 => z_b (z_lp (fX13_law_b31 a0 R) 300 (q5.1, q5.2)) (fun q12 => fX13_law_j71 a0 q12.1 q12.2 R)))) else (some ((-1 : Int32), I)))))
set_option maxRecDepth 20000 in
theorem vX13_law {G : z_G} {d : Nat} {Q : Option Value → z_S → z_H → Prop} {a0 : Nat} {x1 : Int32} {I : Nat → Nat → Int32} {R : Nat → Nat → Nat} {q : Int32 × (Nat → Nat → Int32)} (hd : 8 ≤ d) (hf : fX13_law a0 x1 I R = some q) (hk : Q (some (.int q.1)) z_SH (q.2, R)) : z_W G eX13_law d 0 0 0 [some (.ref a0), some (.int x1), none, none] [] z_SH (I, R) Q := by
  unfold fX13_law at hf
  obtain ⟨g_a0, hf⟩ := z_g_el hf
  refine z_iload_n dX13_law_0 rfl rfl ?_
  refine z_iconst dX13_law_1 kc_1 ?_
  refine z_sipush dX13_law_2 ks_240 ?_
  obtain ⟨q1, hq1, hf⟩ := z_b_el hf
  refine y_cSi (Nat.le_trans (Nat.le_of_ble_eq_true rfl) hd) (wX13_in (z_dl rfl hd) hq1) oX13_in lmX13_114 sX13_in _ rfl rfl (Nat.le_of_ble_eq_true rfl) dX13_law_5 ?_
  refine z_if_eq (tgt := 19) dX13_law_8 (by decide) (fun c2 => ?_) (fun c2 => ?_)
  · have hf := z_if_t hf c2
    refine z_iconst dX13_law_19 kc_m1 ?_
    cases hf
    exact z_iret hk ⟨_, rfl, rfl⟩ dX13_law_20
  · have hf := z_if_f hf c2
    refine z_iload_n dX13_law_11 rfl rfl ?_
    refine z_aload_n dX13_law_12 rfl rfl (z_okl g_a0) ?_
    refine y_getI lfX13_144 rfl g_a0 dX13_law_13 ?_
    refine z_icmp_le (tgt := 21) dX13_law_16 (by decide) (fun c3 => ?_) (fun c3 => ?_)
    · have hf := z_if_t hf c3
      refine z_aload_n dX13_law_21 rfl rfl (z_okl g_a0) ?_
      refine z_iload_n dX13_law_22 rfl rfl ?_
      obtain ⟨q4, hq4, hf⟩ := z_b_el hf
      refine y_cVv (av := [.int x1]) (Nat.le_trans (Nat.le_of_ble_eq_true rfl) hd) (wX13_beginsText (z_dl rfl hd) hq4) oX13_beginsText lmX13_232 iX13_beginsText g_a0 rfl _ rfl rfl (Nat.le_of_ble_eq_true rfl) dX13_law_23 ?_
      refine z_aload_n dX13_law_26 rfl rfl (z_okl g_a0) ?_
      obtain ⟨q5, hq5, hf⟩ := z_b_el hf
      refine y_cVi (av := []) (Nat.le_trans (Nat.le_of_ble_eq_true rfl) hd) (wX13_readsRule (z_dl rfl hd) hq5) oX13_readsRule lmX13_235 iX13_readsRule g_a0 rfl _ rfl rfl (Nat.le_of_ble_eq_true rfl) dX13_law_27 ?_
      refine y_istore_n0 [some (.ref a0), some (.int x1), some (.int q5.1), none] dX13_law_30 rfl (by decide) rfl ?_
      obtain ⟨q12, hq12, hf⟩ := z_b_el hf
      refine y_sub (lv' := [some (.ref a0), none, some (.int q5.1), none]) ?_ (z_le_c rfl (z_le_n (z_le_c rfl (z_le_n z_le_0))))
      refine z_lp_el (P := (fun s : Int32 × (Nat → Nat → Int32) => z_W G eX13_law d 0 0 31 [some (.ref a0), none, some (.int s.1), none] [] z_SH (s.2, R) Q)) (E := (fun x : Int32 × (Nat → Nat → Int32) => z_W G eX13_law d 0 0 71 [some (.ref a0), none, some (.int x.1), none] [] z_SH (x.2, R) Q)) (wX13_law_b31 hd g_a0) 300 (q5.1, q5.2) q12 hq12 ?_
      show z_W G eX13_law d 0 0 71 [some (.ref a0), none, some (.int q12.1), none] [] z_SH (q12.2, R) _
      exact y_sub (wX13_law_j71 hd g_a0 hf hk) (z_le_c rfl (z_le_n (z_le_c rfl (z_le_n z_le_0))))
    · have hf := z_if_f hf c3
      refine z_iconst dX13_law_19 kc_m1 ?_
      cases hf
      exact z_iret hk ⟨_, rfl, rfl⟩ dX13_law_20
theorem wX13_law {G : z_G} {d : Nat} {a0 : Nat} {x1 : Int32} {I : Nat → Nat → Int32} {R : Nat → Nat → Nat} {q : Int32 × (Nat → Nat → Int32)} (hd : 8 ≤ d) (hf : fX13_law a0 x1 I R = some q) : z_M G d 0 0 eX13_law [.ref a0, .int x1] z_SH (I, R) (z_E (some (.int q.1)) (q.2, R)) :=
  y_M_of _ (by decide +kernel) rfl rfl rfl (vX13_law hd hf ⟨rfl, rfl, rfl⟩)
def fX13_reckon (x0 : Int32) (x1 : Int32) (x2 : Int32) : Option (Int32) :=
  if x0 = (2 : Int32) then (some (x1 + x2)) else (if x0 = (3 : Int32) then (some (x1 - x2)) else (if x0 = (4 : Int32) then (some (x1 * x2)) else (if x0 = (5 : Int32) then (z_g (¬ x2 = 0) (some (x1 / x2))) else (if x0 = (6 : Int32) then (z_g (¬ x2 = 0) (some (z_rem x1 x2))) else (if x0 = (7 : Int32) then (if x2 ≤ x1 then (some (0 : Int32)) else (some (1 : Int32))) else (if x0 = (8 : Int32) then (if x1 ≤ x2 then (some (0 : Int32)) else (some (1 : Int32))) else (if x1 = x2 then (some (1 : Int32)) else (some (0 : Int32)))))))))
theorem vX13_reckon {G : z_G} {d : Nat} {Q : Option Value → z_S → z_H → Prop} {x0 : Int32} {x1 : Int32} {x2 : Int32} {I : Nat → Nat → Int32} {R : Nat → Nat → Nat} {q : Int32} (hd : 0 ≤ d) (hf : fX13_reckon x0 x1 x2 = some q) (hk : Q (some (.int q)) z_SH (I, R)) : z_W G eX13_reckon d 0 0 0 [some (.int x0), some (.int x1), some (.int x2)] [] z_SH (I, R) Q := by
  unfold fX13_reckon at hf
  refine z_iload_n dX13_reckon_0 rfl rfl ?_
  by_cases c1 : x0 = (2 : Int32)
  · have hf := z_if_t hf c1
    refine z_tabIn (off := 43) (tgt := 44) dX13_reckon_1 (by rw [c1]; decide) (by rw [c1]; decide) (by rw [c1]; rfl) (by decide) ?_
    refine z_iload_n dX13_reckon_44 rfl rfl ?_
    refine z_iload_n dX13_reckon_45 rfl rfl ?_
    refine z_iadd dX13_reckon_46 ?_
    cases hf
    exact z_iret hk ⟨_, rfl, rfl⟩ dX13_reckon_47
  · have hf := z_if_f hf c1
    by_cases c2 : x0 = (3 : Int32)
    · have hf := z_if_t hf c2
      refine z_tabIn (off := 47) (tgt := 48) dX13_reckon_1 (by rw [c2]; decide) (by rw [c2]; decide) (by rw [c2]; rfl) (by decide) ?_
      refine z_iload_n dX13_reckon_48 rfl rfl ?_
      refine z_iload_n dX13_reckon_49 rfl rfl ?_
      refine z_isub dX13_reckon_50 ?_
      cases hf
      exact z_iret hk ⟨_, rfl, rfl⟩ dX13_reckon_51
    · have hf := z_if_f hf c2
      by_cases c3 : x0 = (4 : Int32)
      · have hf := z_if_t hf c3
        refine z_tabIn (off := 51) (tgt := 52) dX13_reckon_1 (by rw [c3]; decide) (by rw [c3]; decide) (by rw [c3]; rfl) (by decide) ?_
        refine z_iload_n dX13_reckon_52 rfl rfl ?_
        refine z_iload_n dX13_reckon_53 rfl rfl ?_
        refine z_imul dX13_reckon_54 ?_
        cases hf
        exact z_iret hk ⟨_, rfl, rfl⟩ dX13_reckon_55
      · have hf := z_if_f hf c3
        by_cases c4 : x0 = (5 : Int32)
        · have hf := z_if_t hf c4
          refine z_tabIn (off := 55) (tgt := 56) dX13_reckon_1 (by rw [c4]; decide) (by rw [c4]; decide) (by rw [c4]; rfl) (by decide) ?_
          refine z_iload_n dX13_reckon_56 rfl rfl ?_
          refine z_iload_n dX13_reckon_57 rfl rfl ?_
          obtain ⟨g5, hf⟩ := z_g_el hf
          refine z_idiv dX13_reckon_58 g5 ?_
          cases hf
          exact z_iret hk ⟨_, rfl, rfl⟩ dX13_reckon_59
        · have hf := z_if_f hf c4
          by_cases c6 : x0 = (6 : Int32)
          · have hf := z_if_t hf c6
            refine z_tabIn (off := 59) (tgt := 60) dX13_reckon_1 (by rw [c6]; decide) (by rw [c6]; decide) (by rw [c6]; rfl) (by decide) ?_
            refine z_iload_n dX13_reckon_60 rfl rfl ?_
            refine z_iload_n dX13_reckon_61 rfl rfl ?_
            obtain ⟨g7, hf⟩ := z_g_el hf
            refine y_irem dX13_reckon_62 g7 ?_
            cases hf
            exact z_iret hk ⟨_, rfl, rfl⟩ dX13_reckon_63
          · have hf := z_if_f hf c6
            by_cases c8 : x0 = (7 : Int32)
            · have hf := z_if_t hf c8
              refine z_tabIn (off := 63) (tgt := 64) dX13_reckon_1 (by rw [c8]; decide) (by rw [c8]; decide) (by rw [c8]; rfl) (by decide) ?_
              refine z_iload_n dX13_reckon_64 rfl rfl ?_
              refine z_iload_n dX13_reckon_65 rfl rfl ?_
              refine z_icmp_ge (tgt := 73) dX13_reckon_66 (by decide) (fun c9 => ?_) (fun c9 => ?_)
              · have hf := z_if_t hf c9
                refine z_iconst dX13_reckon_73 kc_0 ?_
                cases hf
                exact z_iret hk ⟨_, rfl, rfl⟩ dX13_reckon_74
              · have hf := z_if_f hf c9
                refine z_iconst dX13_reckon_69 kc_1 ?_
                refine z_goto (tgt := 74) dX13_reckon_70 (by decide) ?_
                cases hf
                exact z_iret hk ⟨_, rfl, rfl⟩ dX13_reckon_74
            · have hf := z_if_f hf c8
              by_cases c10 : x0 = (8 : Int32)
              · have hf := z_if_t hf c10
                refine z_tabIn (off := 74) (tgt := 75) dX13_reckon_1 (by rw [c10]; decide) (by rw [c10]; decide) (by rw [c10]; rfl) (by decide) ?_
                refine z_iload_n dX13_reckon_75 rfl rfl ?_
                refine z_iload_n dX13_reckon_76 rfl rfl ?_
                refine z_icmp_le (tgt := 84) dX13_reckon_77 (by decide) (fun c11 => ?_) (fun c11 => ?_)
                · have hf := z_if_t hf c11
                  refine z_iconst dX13_reckon_84 kc_0 ?_
                  cases hf
                  exact z_iret hk ⟨_, rfl, rfl⟩ dX13_reckon_85
                · have hf := z_if_f hf c11
                  refine z_iconst dX13_reckon_80 kc_1 ?_
                  refine z_goto (tgt := 85) dX13_reckon_81 (by decide) ?_
                  cases hf
                  exact z_iret hk ⟨_, rfl, rfl⟩ dX13_reckon_85
              · have hf := z_if_f hf c10
                have nc1 : ¬ (x0).toInt = 2 := z_toInt_ne c1
                have nc2 : ¬ (x0).toInt = 3 := z_toInt_ne c2
                have nc3 : ¬ (x0).toInt = 4 := z_toInt_ne c3
                have nc4 : ¬ (x0).toInt = 5 := z_toInt_ne c4
                have nc6 : ¬ (x0).toInt = 6 := z_toInt_ne c6
                have nc8 : ¬ (x0).toInt = 7 := z_toInt_ne c8
                have nc10 : ¬ (x0).toInt = 8 := z_toInt_ne c10
                refine z_tabOut (tgt := 86) dX13_reckon_1 (by omega) (by decide) ?_
                refine z_iload_n dX13_reckon_86 rfl rfl ?_
                refine z_iload_n dX13_reckon_87 rfl rfl ?_
                refine z_icmp_ne (tgt := 95) dX13_reckon_88 (by decide) (fun c12 => ?_) (fun c12 => ?_)
                · have hf := z_if_f hf c12
                  refine z_iconst dX13_reckon_95 kc_0 ?_
                  cases hf
                  exact z_iret hk ⟨_, rfl, rfl⟩ dX13_reckon_96
                · have hf := z_if_t hf c12
                  refine z_iconst dX13_reckon_91 kc_1 ?_
                  refine z_goto (tgt := 96) dX13_reckon_92 (by decide) ?_
                  cases hf
                  exact z_iret hk ⟨_, rfl, rfl⟩ dX13_reckon_96
theorem wX13_reckon {G : z_G} {d : Nat} {x0 : Int32} {x1 : Int32} {x2 : Int32} {I : Nat → Nat → Int32} {R : Nat → Nat → Nat} {q : Int32} (hd : 0 ≤ d) (hf : fX13_reckon x0 x1 x2 = some q) : z_M G d 0 0 eX13_reckon [.int x0, .int x1, .int x2] z_SH (I, R) (z_E (some (.int q)) (I, R)) :=
  y_M_of _ (by decide +kernel) rfl rfl rfl (vX13_reckon hd hf ⟨rfl, rfl, rfl⟩)
def fX13_comesTo_j85_16 (a0 : Nat) (z2 : Int32) (z4 : Int32) (y3 : Int32) (y5 : Int32) (v0 : Nat) (v1 : Int32) (v2 : Int32) (I : Nat → Nat → Int32) (R : Nat → Nat → Nat) : Option ((Int32 × Int32 × (Nat → Nat → Int32)) ⊕ ((Int32 × (Nat → Nat → Int32)) ⊕ ((Nat → Nat → Int32)))) :=
  z_g (z_ok 1 v0 v1) (z_l (z_u I v0 v1.toNatClampNeg v2) (fun I11 => z_l (y3 + (1 : Int32)) (fun t12 => some (.inl (t12, y5, I11)))))
theorem wX13_comesTo_j85_16 {G : z_G} {d : Nat} {Q : Option Value → z_S → z_H → Prop} {a0 : Nat} {z2 : Int32} {z4 : Int32} {y3 : Int32} {y5 : Int32} {v0 : Nat} {v1 : Int32} {v2 : Int32} {I : Nat → Nat → Int32} {R : Nat → Nat → Nat} {o : (Int32 × Int32 × (Nat → Nat → Int32)) ⊕ ((Int32 × (Nat → Nat → Int32)) ⊕ ((Nat → Nat → Int32)))} (hd : 1 ≤ d) (g_a0 : z_ob a0 13) (hf : fX13_comesTo_j85_16 a0 z2 z4 y3 y5 v0 v1 v2 I R = some o) (hk : z_or (fun s : Int32 × Int32 × (Nat → Nat → Int32) => z_W G eX13_comesTo d 0 0 16 [some (.ref a0), none, some (.int z2), some (.int s.1), some (.int z4), some (.int s.2.1), none, none] [] z_SH (s.2.2, R) Q) (z_or (fun r : Int32 × (Nat → Nat → Int32) => Q (some (.int r.1)) z_SH (r.2, R)) (fun x : (Nat → Nat → Int32) => z_W G eX13_comesTo d 0 0 233 [some (.ref a0), none, none, none, none, none, none, none] [] z_SH (x, R) Q)) o) : z_W G eX13_comesTo d 0 0 85 [some (.ref a0), none, some (.int z2), some (.int y3), some (.int z4), some (.int y5), none, none] [.int v2, .int v1, .ref v0] z_SH (I, R) Q := by
  unfold fX13_comesTo_j85_16 at hf
  obtain ⟨g10, hf⟩ := z_g_el hf
  refine y_iast g10 dX13_comesTo_85 (fun I11 eI11 => ?_)
  have hf := z_l_el hf eI11
  refine z_iload_n dX13_comesTo_86 rfl rfl ?_
  refine z_iconst dX13_comesTo_87 kc_1 ?_
  refine z_iadd dX13_comesTo_88 ?_
  refine y_istore_n (fun t12 => [some (.ref a0), none, some (.int z2), some (.int t12), some (.int z4), some (.int y5), none, none]) dX13_comesTo_89 rfl (by decide) (fun _ => rfl) (fun t12 et12 => ?_)
  have hf := z_l_el hf et12
  refine z_goto (tgt := 230) dX13_comesTo_90 (by decide) ?_
  refine z_goto (tgt := 16) dX13_comesTo_230 (by decide) ?_
  cases hf
  exact y_sub hk (z_le_c rfl (z_le_n (z_le_c rfl (z_le_c rfl (z_le_c rfl (z_le_c rfl (z_le_n (z_le_n z_le_0))))))))
def fX13_comesTo_j63_16 (a0 : Nat) (z2 : Int32) (z4 : Int32) (y3 : Int32) (y5 : Int32) (y6 : Int32) (y7 : Int32) (I : Nat → Nat → Int32) (R : Nat → Nat → Nat) : Option ((Int32 × Int32 × (Nat → Nat → Int32)) ⊕ ((Int32 × (Nat → Nat → Int32)) ⊕ ((Nat → Nat → Int32)))) :=
  if y6 = 0 then (fX13_comesTo_j85_16 a0 z2 z4 y3 y5 (R a0 32) y3 y7 I R) else (z_g (z_ok 1 (R a0 33) y7) (fX13_comesTo_j85_16 a0 z2 z4 y3 y5 (R a0 32) y3 (I (R a0 33) y7.toNatClampNeg) I R))
theorem wX13_comesTo_j63_16 {G : z_G} {d : Nat} {Q : Option Value → z_S → z_H → Prop} {a0 : Nat} {z2 : Int32} {z4 : Int32} {y3 : Int32} {y5 : Int32} {y6 : Int32} {y7 : Int32} {I : Nat → Nat → Int32} {R : Nat → Nat → Nat} {o : (Int32 × Int32 × (Nat → Nat → Int32)) ⊕ ((Int32 × (Nat → Nat → Int32)) ⊕ ((Nat → Nat → Int32)))} (hd : 1 ≤ d) (g_a0 : z_ob a0 13) (hf : fX13_comesTo_j63_16 a0 z2 z4 y3 y5 y6 y7 I R = some o) (hk : z_or (fun s : Int32 × Int32 × (Nat → Nat → Int32) => z_W G eX13_comesTo d 0 0 16 [some (.ref a0), none, some (.int z2), some (.int s.1), some (.int z4), some (.int s.2.1), none, none] [] z_SH (s.2.2, R) Q) (z_or (fun r : Int32 × (Nat → Nat → Int32) => Q (some (.int r.1)) z_SH (r.2, R)) (fun x : (Nat → Nat → Int32) => z_W G eX13_comesTo d 0 0 233 [some (.ref a0), none, none, none, none, none, none, none] [] z_SH (x, R) Q)) o) : z_W G eX13_comesTo d 0 0 63 [some (.ref a0), none, some (.int z2), some (.int y3), some (.int z4), some (.int y5), some (.int y6), some (.int y7)] [] z_SH (I, R) Q := by
  unfold fX13_comesTo_j63_16 at hf
  refine z_aload_n dX13_comesTo_63 rfl rfl (z_okl g_a0) ?_
  refine y_getR lfX13_71 rfl g_a0 dX13_comesTo_64 ?_
  refine z_iload_n dX13_comesTo_67 rfl rfl ?_
  refine z_iload dX13_comesTo_68 rfl ?_
  refine z_if_ne (tgt := 78) dX13_comesTo_70 (by decide) (fun c8 => ?_) (fun c8 => ?_)
  · have hf := z_if_f hf c8
    refine z_aload_n dX13_comesTo_78 rfl rfl (z_okl g_a0) ?_
    refine y_getR lfX13_74 rfl g_a0 dX13_comesTo_79 ?_
    refine z_iload dX13_comesTo_82 rfl ?_
    obtain ⟨g9, hf⟩ := z_g_el hf
    refine y_iald g9 dX13_comesTo_84 ?_
    exact y_sub (wX13_comesTo_j85_16 hd g_a0 hf hk) (z_le_c rfl (z_le_n (z_le_c rfl (z_le_c rfl (z_le_c rfl (z_le_c rfl (z_le_n (z_le_n z_le_0))))))))
  · have hf := z_if_t hf c8
    refine z_iload dX13_comesTo_73 rfl ?_
    refine z_goto (tgt := 85) dX13_comesTo_75 (by decide) ?_
    exact y_sub (wX13_comesTo_j85_16 hd g_a0 hf hk) (z_le_c rfl (z_le_n (z_le_c rfl (z_le_c rfl (z_le_c rfl (z_le_c rfl (z_le_n (z_le_n z_le_0))))))))
def fX13_comesTo_j155_16 (a0 : Nat) (z2 : Int32) (z4 : Int32) (y3 : Int32) (y5 : Int32) (y7 : Int32) (v0 : Int32) (v1 : Int32) (I : Nat → Nat → Int32) (R : Nat → Nat → Nat) : Option ((Int32 × Int32 × (Nat → Nat → Int32)) ⊕ ((Int32 × (Nat → Nat → Int32)) ⊕ ((Nat → Nat → Int32)))) :=
  if v0 = v1 then (z_l (z4 + y7) (fun t20 => some (.inl (y3, t20, I)))) else (z_l (y3 - (1 : Int32)) (fun t19 => some (.inl (t19, y5, I))))
theorem wX13_comesTo_j155_16 {G : z_G} {d : Nat} {Q : Option Value → z_S → z_H → Prop} {a0 : Nat} {z2 : Int32} {z4 : Int32} {y3 : Int32} {y5 : Int32} {y7 : Int32} {v0 : Int32} {v1 : Int32} {I : Nat → Nat → Int32} {R : Nat → Nat → Nat} {o : (Int32 × Int32 × (Nat → Nat → Int32)) ⊕ ((Int32 × (Nat → Nat → Int32)) ⊕ ((Nat → Nat → Int32)))} (hd : 1 ≤ d) (g_a0 : z_ob a0 13) (hf : fX13_comesTo_j155_16 a0 z2 z4 y3 y5 y7 v0 v1 I R = some o) (hk : z_or (fun s : Int32 × Int32 × (Nat → Nat → Int32) => z_W G eX13_comesTo d 0 0 16 [some (.ref a0), none, some (.int z2), some (.int s.1), some (.int z4), some (.int s.2.1), none, none] [] z_SH (s.2.2, R) Q) (z_or (fun r : Int32 × (Nat → Nat → Int32) => Q (some (.int r.1)) z_SH (r.2, R)) (fun x : (Nat → Nat → Int32) => z_W G eX13_comesTo d 0 0 233 [some (.ref a0), none, none, none, none, none, none, none] [] z_SH (x, R) Q)) o) : z_W G eX13_comesTo d 0 0 155 [some (.ref a0), none, some (.int z2), some (.int y3), some (.int z4), some (.int y5), none, some (.int y7)] [.int v1, .int v0] z_SH (I, R) Q := by
  unfold fX13_comesTo_j155_16 at hf
  refine z_icmp_ne (tgt := 168) dX13_comesTo_155 (by decide) (fun c18 => ?_) (fun c18 => ?_)
  · have hf := z_if_f hf c18
    refine z_iload_n dX13_comesTo_168 rfl rfl ?_
    refine z_iconst dX13_comesTo_169 kc_1 ?_
    refine z_isub dX13_comesTo_170 ?_
    refine y_istore_n (fun t19 => [some (.ref a0), none, some (.int z2), some (.int t19), some (.int z4), some (.int y5), none, some (.int y7)]) dX13_comesTo_171 rfl (by decide) (fun _ => rfl) (fun t19 et19 => ?_)
    have hf := z_l_el hf et19
    refine z_goto (tgt := 230) dX13_comesTo_172 (by decide) ?_
    refine z_goto (tgt := 16) dX13_comesTo_230 (by decide) ?_
    cases hf
    exact y_sub hk (z_le_c rfl (z_le_n (z_le_c rfl (z_le_c rfl (z_le_c rfl (z_le_c rfl (z_le_n (z_le_n z_le_0))))))))
  · have hf := z_if_t hf c18
    refine z_iload dX13_comesTo_158 rfl ?_
    refine z_iload dX13_comesTo_160 rfl ?_
    refine z_iadd dX13_comesTo_162 ?_
    refine y_istore (fun t20 => [some (.ref a0), none, some (.int z2), some (.int y3), some (.int z4), some (.int t20), none, some (.int y7)]) dX13_comesTo_163 (by decide) (fun _ => rfl) (fun t20 et20 => ?_)
    have hf := z_l_el hf et20
    refine z_goto (tgt := 230) dX13_comesTo_165 (by decide) ?_
    refine z_goto (tgt := 16) dX13_comesTo_230 (by decide) ?_
    cases hf
    exact y_sub hk (z_le_c rfl (z_le_n (z_le_c rfl (z_le_c rfl (z_le_c rfl (z_le_c rfl (z_le_n (z_le_n z_le_0))))))))
def fX13_comesTo_j135_16 (a0 : Nat) (z2 : Int32) (z4 : Int32) (y3 : Int32) (y5 : Int32) (y6 : Int32) (y7 : Int32) (I : Nat → Nat → Int32) (R : Nat → Nat → Nat) : Option ((Int32 × Int32 × (Nat → Nat → Int32)) ⊕ ((Int32 × (Nat → Nat → Int32)) ⊕ ((Nat → Nat → Int32)))) :=
  z_g (z_ok 1 (R a0 32) (y3 - (1 : Int32))) (if y6 = (12 : Int32) then (fX13_comesTo_j155_16 a0 z2 z4 y3 y5 y7 (I (R a0 32) (y3 - (1 : Int32)).toNatClampNeg) (1 : Int32) I R) else (fX13_comesTo_j155_16 a0 z2 z4 y3 y5 y7 (I (R a0 32) (y3 - (1 : Int32)).toNatClampNeg) (0 : Int32) I R))
theorem wX13_comesTo_j135_16 {G : z_G} {d : Nat} {Q : Option Value → z_S → z_H → Prop} {a0 : Nat} {z2 : Int32} {z4 : Int32} {y3 : Int32} {y5 : Int32} {y6 : Int32} {y7 : Int32} {I : Nat → Nat → Int32} {R : Nat → Nat → Nat} {o : (Int32 × Int32 × (Nat → Nat → Int32)) ⊕ ((Int32 × (Nat → Nat → Int32)) ⊕ ((Nat → Nat → Int32)))} (hd : 1 ≤ d) (g_a0 : z_ob a0 13) (hf : fX13_comesTo_j135_16 a0 z2 z4 y3 y5 y6 y7 I R = some o) (hk : z_or (fun s : Int32 × Int32 × (Nat → Nat → Int32) => z_W G eX13_comesTo d 0 0 16 [some (.ref a0), none, some (.int z2), some (.int s.1), some (.int z4), some (.int s.2.1), none, none] [] z_SH (s.2.2, R) Q) (z_or (fun r : Int32 × (Nat → Nat → Int32) => Q (some (.int r.1)) z_SH (r.2, R)) (fun x : (Nat → Nat → Int32) => z_W G eX13_comesTo d 0 0 233 [some (.ref a0), none, none, none, none, none, none, none] [] z_SH (x, R) Q)) o) : z_W G eX13_comesTo d 0 0 135 [some (.ref a0), none, some (.int z2), some (.int y3), some (.int z4), some (.int y5), some (.int y6), some (.int y7)] [] z_SH (I, R) Q := by
  unfold fX13_comesTo_j135_16 at hf
  refine z_aload_n dX13_comesTo_135 rfl rfl (z_okl g_a0) ?_
  refine y_getR lfX13_71 rfl g_a0 dX13_comesTo_136 ?_
  refine z_iload_n dX13_comesTo_139 rfl rfl ?_
  refine z_iconst dX13_comesTo_140 kc_1 ?_
  refine z_isub dX13_comesTo_141 ?_
  obtain ⟨g16, hf⟩ := z_g_el hf
  refine y_iald g16 dX13_comesTo_142 ?_
  refine z_iload dX13_comesTo_143 rfl ?_
  refine z_bipush dX13_comesTo_145 kb_12 ?_
  refine z_icmp_ne (tgt := 154) dX13_comesTo_147 (by decide) (fun c17 => ?_) (fun c17 => ?_)
  · have hf := z_if_f hf c17
    refine z_iconst dX13_comesTo_154 kc_0 ?_
    exact y_sub (wX13_comesTo_j155_16 hd g_a0 hf hk) (z_le_c rfl (z_le_n (z_le_c rfl (z_le_c rfl (z_le_c rfl (z_le_c rfl (z_le_n (z_le_c rfl z_le_0))))))))
  · have hf := z_if_t hf c17
    refine z_iconst dX13_comesTo_150 kc_1 ?_
    refine z_goto (tgt := 155) dX13_comesTo_151 (by decide) ?_
    exact y_sub (wX13_comesTo_j155_16 hd g_a0 hf hk) (z_le_c rfl (z_le_n (z_le_c rfl (z_le_c rfl (z_le_c rfl (z_le_c rfl (z_le_n (z_le_c rfl z_le_0))))))))
def fX13_comesTo_j203_16 (a0 : Nat) (z2 : Int32) (z4 : Int32) (y3 : Int32) (y5 : Int32) (y6 : Int32) (I : Nat → Nat → Int32) (R : Nat → Nat → Nat) : Option ((Int32 × Int32 × (Nat → Nat → Int32)) ⊕ ((Int32 × (Nat → Nat → Int32)) ⊕ ((Nat → Nat → Int32)))) :=
  z_g (z_ok 1 (R a0 32) (y3 - (1 : Int32))) (z_g (z_ok 1 (R a0 32) y3) (z_b (fX13_reckon y6 (I (R a0 32) (y3 - (1 : Int32)).toNatClampNeg) (I (R a0 32) y3.toNatClampNeg)) (fun q28 => z_l (z_u I (R a0 32) (y3 - (1 : Int32)).toNatClampNeg q28) (fun I29 => some (.inl (y3, y5, I29))))))
theorem wX13_comesTo_j203_16 {G : z_G} {d : Nat} {Q : Option Value → z_S → z_H → Prop} {a0 : Nat} {z2 : Int32} {z4 : Int32} {y3 : Int32} {y5 : Int32} {y6 : Int32} {I : Nat → Nat → Int32} {R : Nat → Nat → Nat} {o : (Int32 × Int32 × (Nat → Nat → Int32)) ⊕ ((Int32 × (Nat → Nat → Int32)) ⊕ ((Nat → Nat → Int32)))} (hd : 1 ≤ d) (g_a0 : z_ob a0 13) (hf : fX13_comesTo_j203_16 a0 z2 z4 y3 y5 y6 I R = some o) (hk : z_or (fun s : Int32 × Int32 × (Nat → Nat → Int32) => z_W G eX13_comesTo d 0 0 16 [some (.ref a0), none, some (.int z2), some (.int s.1), some (.int z4), some (.int s.2.1), none, none] [] z_SH (s.2.2, R) Q) (z_or (fun r : Int32 × (Nat → Nat → Int32) => Q (some (.int r.1)) z_SH (r.2, R)) (fun x : (Nat → Nat → Int32) => z_W G eX13_comesTo d 0 0 233 [some (.ref a0), none, none, none, none, none, none, none] [] z_SH (x, R) Q)) o) : z_W G eX13_comesTo d 0 0 203 [some (.ref a0), none, some (.int z2), some (.int y3), some (.int z4), some (.int y5), some (.int y6), none] [] z_SH (I, R) Q := by
  unfold fX13_comesTo_j203_16 at hf
  refine z_aload_n dX13_comesTo_203 rfl rfl (z_okl g_a0) ?_
  refine y_getR lfX13_71 rfl g_a0 dX13_comesTo_204 ?_
  refine z_iload_n dX13_comesTo_207 rfl rfl ?_
  refine z_iconst dX13_comesTo_208 kc_1 ?_
  refine z_isub dX13_comesTo_209 ?_
  refine z_iload dX13_comesTo_210 rfl ?_
  refine z_aload_n dX13_comesTo_212 rfl rfl (z_okl g_a0) ?_
  refine y_getR lfX13_71 rfl g_a0 dX13_comesTo_213 ?_
  refine z_iload_n dX13_comesTo_216 rfl rfl ?_
  refine z_iconst dX13_comesTo_217 kc_1 ?_
  refine z_isub dX13_comesTo_218 ?_
  obtain ⟨g26, hf⟩ := z_g_el hf
  refine y_iald g26 dX13_comesTo_219 ?_
  refine z_aload_n dX13_comesTo_220 rfl rfl (z_okl g_a0) ?_
  refine y_getR lfX13_71 rfl g_a0 dX13_comesTo_221 ?_
  refine z_iload_n dX13_comesTo_224 rfl rfl ?_
  obtain ⟨g27, hf⟩ := z_g_el hf
  refine y_iald g27 dX13_comesTo_225 ?_
  obtain ⟨q28, hq28, hf⟩ := z_b_el hf
  refine y_cSi (Nat.le_trans (Nat.le_of_ble_eq_true rfl) hd) (wX13_reckon (z_dl rfl hd) hq28) oX13_reckon lmX13_244 sX13_reckon _ rfl rfl (Nat.le_of_ble_eq_true rfl) dX13_comesTo_226 ?_
  refine y_iast g26 dX13_comesTo_229 (fun I29 eI29 => ?_)
  have hf := z_l_el hf eI29
  refine z_goto (tgt := 16) dX13_comesTo_230 (by decide) ?_
  cases hf
  exact y_sub hk (z_le_c rfl (z_le_n (z_le_c rfl (z_le_c rfl (z_le_c rfl (z_le_c rfl (z_le_n (z_le_n z_le_0))))))))
def fX13_comesTo_j192_16 (a0 : Nat) (z2 : Int32) (z4 : Int32) (y3 : Int32) (y5 : Int32) (y6 : Int32) (I : Nat → Nat → Int32) (R : Nat → Nat → Nat) : Option ((Int32 × Int32 × (Nat → Nat → Int32)) ⊕ ((Int32 × (Nat → Nat → Int32)) ⊕ ((Nat → Nat → Int32)))) :=
  z_g (z_ok 1 (R a0 32) y3) (if (I (R a0 32) y3.toNatClampNeg) = 0 then (some (.inr (.inl ((0 : Int32), I)))) else (fX13_comesTo_j203_16 a0 z2 z4 y3 y5 y6 I R))
theorem wX13_comesTo_j192_16 {G : z_G} {d : Nat} {Q : Option Value → z_S → z_H → Prop} {a0 : Nat} {z2 : Int32} {z4 : Int32} {y3 : Int32} {y5 : Int32} {y6 : Int32} {I : Nat → Nat → Int32} {R : Nat → Nat → Nat} {o : (Int32 × Int32 × (Nat → Nat → Int32)) ⊕ ((Int32 × (Nat → Nat → Int32)) ⊕ ((Nat → Nat → Int32)))} (hd : 1 ≤ d) (g_a0 : z_ob a0 13) (hf : fX13_comesTo_j192_16 a0 z2 z4 y3 y5 y6 I R = some o) (hk : z_or (fun s : Int32 × Int32 × (Nat → Nat → Int32) => z_W G eX13_comesTo d 0 0 16 [some (.ref a0), none, some (.int z2), some (.int s.1), some (.int z4), some (.int s.2.1), none, none] [] z_SH (s.2.2, R) Q) (z_or (fun r : Int32 × (Nat → Nat → Int32) => Q (some (.int r.1)) z_SH (r.2, R)) (fun x : (Nat → Nat → Int32) => z_W G eX13_comesTo d 0 0 233 [some (.ref a0), none, none, none, none, none, none, none] [] z_SH (x, R) Q)) o) : z_W G eX13_comesTo d 0 0 192 [some (.ref a0), none, some (.int z2), some (.int y3), some (.int z4), some (.int y5), some (.int y6), none] [] z_SH (I, R) Q := by
  unfold fX13_comesTo_j192_16 at hf
  refine z_aload_n dX13_comesTo_192 rfl rfl (z_okl g_a0) ?_
  refine y_getR lfX13_71 rfl g_a0 dX13_comesTo_193 ?_
  refine z_iload_n dX13_comesTo_196 rfl rfl ?_
  obtain ⟨g24, hf⟩ := z_g_el hf
  refine y_iald g24 dX13_comesTo_197 ?_
  refine z_if_ne (tgt := 203) dX13_comesTo_198 (by decide) (fun c25 => ?_) (fun c25 => ?_)
  · have hf := z_if_f hf c25
    exact y_sub (wX13_comesTo_j203_16 hd g_a0 hf hk) (z_le_c rfl (z_le_n (z_le_c rfl (z_le_c rfl (z_le_c rfl (z_le_c rfl (z_le_c rfl (z_le_n z_le_0))))))))
  · have hf := z_if_t hf c25
    refine z_iconst dX13_comesTo_201 kc_0 ?_
    cases hf
    exact z_iret hk ⟨_, rfl, rfl⟩ dX13_comesTo_202
def fX13_comesTo_b16 (a0 : Nat) (z2 : Int32) (z4 : Int32) (R : Nat → Nat → Nat) : (Int32 × Int32 × (Nat → Nat → Int32)) → Option ((Int32 × Int32 × (Nat → Nat → Int32)) ⊕ ((Int32 × (Nat → Nat → Int32)) ⊕ ((Nat → Nat → Int32)))) :=
  fun s => (fun (p3 : Int32) (p5 : Int32) (I : Nat → Nat → Int32) => if z2 ≤ p5 then (some (.inr (.inr I))) else (z_g (z_ok 1 (R a0 27) p5) (z_l ((I (R a0 27) p5.toNatClampNeg) / (1048576 : Int32)) (fun t4 => z_l (z_rem (I (R a0 27) p5.toNatClampNeg) (1048576 : Int32)) (fun t5 => z_l (p5 + (1 : Int32)) (fun t6 => if t4 = 0 then (fX13_comesTo_j63_16 a0 z2 z4 p3 t6 t4 t5 I R) else (if t4 = (1 : Int32) then (fX13_comesTo_j63_16 a0 z2 z4 p3 t6 t4 t5 I R) else (if t4 = (10 : Int32) then (z_g (z_ok 1 (R a0 32) (p3 - (1 : Int32))) (z_l (z_u I (R a0 32) (p3 - (1 : Int32)).toNatClampNeg ((1 : Int32) - (I (R a0 32) (p3 - (1 : Int32)).toNatClampNeg))) (fun I32 => some (.inl (p3, t6, I32))))) else (if t4 = (11 : Int32) then (fX13_comesTo_j135_16 a0 z2 z4 p3 t6 t4 t5 I R) else (if t4 = (12 : Int32) then (fX13_comesTo_j135_16 a0 z2 z4 p3 t6 t4 t5 I R) else (z_l (p3 - (1 : Int32)) (fun t22 => if t4 = (5 : Int32) then (fX13_comesTo_j192_16 a0 z2 z4 t22 t6 t4 I R) else (if t4 = (6 : Int32) then (fX13_comesTo_j192_16 a0 z2 z4 t22 t6 t4 I R) else (fX13_comesTo_j203_16 a0 z2 z4 t22 t6 t4 I R)))))))))))))) s.1 s.2.1 s.2.2
theorem wX13_comesTo_b16 {G : z_G} {d : Nat} {Q : Option Value → z_S → z_H → Prop} {a0 : Nat} {z2 : Int32} {z4 : Int32} {R : Nat → Nat → Nat} (hd : 1 ≤ d) (g_a0 : z_ob a0 13) : ∀ (s : Int32 × Int32 × (Nat → Nat → Int32)) (o : (Int32 × Int32 × (Nat → Nat → Int32)) ⊕ ((Int32 × (Nat → Nat → Int32)) ⊕ ((Nat → Nat → Int32)))), fX13_comesTo_b16 a0 z2 z4 R s = some o → z_or (fun s : Int32 × Int32 × (Nat → Nat → Int32) => z_W G eX13_comesTo d 0 0 16 [some (.ref a0), none, some (.int z2), some (.int s.1), some (.int z4), some (.int s.2.1), none, none] [] z_SH (s.2.2, R) Q) (z_or (fun r : Int32 × (Nat → Nat → Int32) => Q (some (.int r.1)) z_SH (r.2, R)) (fun x : (Nat → Nat → Int32) => z_W G eX13_comesTo d 0 0 233 [some (.ref a0), none, none, none, none, none, none, none] [] z_SH (x, R) Q)) o → (fun s : Int32 × Int32 × (Nat → Nat → Int32) => z_W G eX13_comesTo d 0 0 16 [some (.ref a0), none, some (.int z2), some (.int s.1), some (.int z4), some (.int s.2.1), none, none] [] z_SH (s.2.2, R) Q) s := by
  rintro ⟨p3, p5, I⟩ o hf hk
  show z_W G eX13_comesTo d 0 0 16 [some (.ref a0), none, some (.int z2), some (.int p3), some (.int z4), some (.int p5), none, none] [] z_SH (I, R) Q
  unfold fX13_comesTo_b16 at hf
  try dsimp only at hf
  refine z_iload dX13_comesTo_16 rfl ?_
  refine z_iload_n dX13_comesTo_18 rfl rfl ?_
  refine z_icmp_ge (tgt := 233) dX13_comesTo_19 (by decide) (fun c2 => ?_) (fun c2 => ?_)
  · have hf := z_if_t hf c2
    cases hf
    exact y_sub hk (z_le_c rfl (z_le_n (z_le_n (z_le_n (z_le_n (z_le_n (z_le_n (z_le_n z_le_0))))))))
  · have hf := z_if_f hf c2
    refine z_aload_n dX13_comesTo_22 rfl rfl (z_okl g_a0) ?_
    refine y_getR lfX13_56 rfl g_a0 dX13_comesTo_23 ?_
    refine z_iload dX13_comesTo_26 rfl ?_
    obtain ⟨g3, hf⟩ := z_g_el hf
    refine y_iald g3 dX13_comesTo_28 ?_
    refine z_ldc dX13_comesTo_29 lkX13_175 ?_
    refine z_idiv dX13_comesTo_31 (by decide) ?_
    refine y_istore (fun t4 => [some (.ref a0), none, some (.int z2), some (.int p3), some (.int z4), some (.int p5), some (.int t4), none]) dX13_comesTo_32 (by decide) (fun _ => rfl) (fun t4 et4 => ?_)
    have hf := z_l_el hf et4
    refine z_aload_n dX13_comesTo_34 rfl rfl (z_okl g_a0) ?_
    refine y_getR lfX13_56 rfl g_a0 dX13_comesTo_35 ?_
    refine z_iload dX13_comesTo_38 rfl ?_
    refine y_iald g3 dX13_comesTo_40 ?_
    refine z_ldc dX13_comesTo_41 lkX13_175 ?_
    refine y_irem dX13_comesTo_43 (by decide) ?_
    refine y_istore (fun t5 => [some (.ref a0), none, some (.int z2), some (.int p3), some (.int z4), some (.int p5), some (.int t4), some (.int t5)]) dX13_comesTo_44 (by decide) (fun _ => rfl) (fun t5 et5 => ?_)
    have hf := z_l_el hf et5
    refine z_iload dX13_comesTo_46 rfl ?_
    refine z_iconst dX13_comesTo_48 kc_1 ?_
    refine z_iadd dX13_comesTo_49 ?_
    refine y_istore (fun t6 => [some (.ref a0), none, some (.int z2), some (.int p3), some (.int z4), some (.int t6), some (.int t4), some (.int t5)]) dX13_comesTo_50 (by decide) (fun _ => rfl) (fun t6 et6 => ?_)
    have hf := z_l_el hf et6
    refine z_iload dX13_comesTo_52 rfl ?_
    refine z_if_eq (tgt := 63) dX13_comesTo_54 (by decide) (fun c7 => ?_) (fun c7 => ?_)
    · have hf := z_if_t hf c7
      exact y_sub (wX13_comesTo_j63_16 hd g_a0 hf hk) (z_le_c rfl (z_le_n (z_le_c rfl (z_le_c rfl (z_le_c rfl (z_le_c rfl (z_le_c rfl (z_le_c rfl z_le_0))))))))
    · have hf := z_if_f hf c7
      refine z_iload dX13_comesTo_57 rfl ?_
      refine z_iconst dX13_comesTo_59 kc_1 ?_
      refine z_icmp_ne (tgt := 93) dX13_comesTo_60 (by decide) (fun c13 => ?_) (fun c13 => ?_)
      · have hf := z_if_f hf c13
        refine z_iload dX13_comesTo_93 rfl ?_
        refine z_bipush dX13_comesTo_95 kb_10 ?_
        refine z_icmp_ne (tgt := 121) dX13_comesTo_97 (by decide) (fun c14 => ?_) (fun c14 => ?_)
        · have hf := z_if_f hf c14
          refine z_iload dX13_comesTo_121 rfl ?_
          refine z_bipush dX13_comesTo_123 kb_11 ?_
          refine z_icmp_eq (tgt := 135) dX13_comesTo_125 (by decide) (fun c15 => ?_) (fun c15 => ?_)
          · have hf := z_if_t hf c15
            exact y_sub (wX13_comesTo_j135_16 hd g_a0 hf hk) (z_le_c rfl (z_le_n (z_le_c rfl (z_le_c rfl (z_le_c rfl (z_le_c rfl (z_le_c rfl (z_le_c rfl z_le_0))))))))
          · have hf := z_if_f hf c15
            refine z_iload dX13_comesTo_128 rfl ?_
            refine z_bipush dX13_comesTo_130 kb_12 ?_
            refine z_icmp_ne (tgt := 175) dX13_comesTo_132 (by decide) (fun c21 => ?_) (fun c21 => ?_)
            · have hf := z_if_f hf c21
              refine z_iload_n dX13_comesTo_175 rfl rfl ?_
              refine z_iconst dX13_comesTo_176 kc_1 ?_
              refine z_isub dX13_comesTo_177 ?_
              refine y_istore_n (fun t22 => [some (.ref a0), none, some (.int z2), some (.int t22), some (.int z4), some (.int t6), some (.int t4), some (.int t5)]) dX13_comesTo_178 rfl (by decide) (fun _ => rfl) (fun t22 et22 => ?_)
              have hf := z_l_el hf et22
              refine z_iload dX13_comesTo_179 rfl ?_
              refine z_iconst dX13_comesTo_181 kc_5 ?_
              refine z_icmp_eq (tgt := 192) dX13_comesTo_182 (by decide) (fun c23 => ?_) (fun c23 => ?_)
              · have hf := z_if_t hf c23
                exact y_sub (wX13_comesTo_j192_16 hd g_a0 hf hk) (z_le_c rfl (z_le_n (z_le_c rfl (z_le_c rfl (z_le_c rfl (z_le_c rfl (z_le_c rfl (z_le_n z_le_0))))))))
              · have hf := z_if_f hf c23
                refine z_iload dX13_comesTo_185 rfl ?_
                refine z_bipush dX13_comesTo_187 kb_6 ?_
                refine z_icmp_ne (tgt := 203) dX13_comesTo_189 (by decide) (fun c30 => ?_) (fun c30 => ?_)
                · have hf := z_if_f hf c30
                  exact y_sub (wX13_comesTo_j203_16 hd g_a0 hf hk) (z_le_c rfl (z_le_n (z_le_c rfl (z_le_c rfl (z_le_c rfl (z_le_c rfl (z_le_c rfl (z_le_n z_le_0))))))))
                · have hf := z_if_t hf c30
                  exact y_sub (wX13_comesTo_j192_16 hd g_a0 hf hk) (z_le_c rfl (z_le_n (z_le_c rfl (z_le_c rfl (z_le_c rfl (z_le_c rfl (z_le_c rfl (z_le_n z_le_0))))))))
            · have hf := z_if_t hf c21
              exact y_sub (wX13_comesTo_j135_16 hd g_a0 hf hk) (z_le_c rfl (z_le_n (z_le_c rfl (z_le_c rfl (z_le_c rfl (z_le_c rfl (z_le_c rfl (z_le_c rfl z_le_0))))))))
        · have hf := z_if_t hf c14
          refine z_aload_n dX13_comesTo_100 rfl rfl (z_okl g_a0) ?_
          refine y_getR lfX13_71 rfl g_a0 dX13_comesTo_101 ?_
          refine z_iload_n dX13_comesTo_104 rfl rfl ?_
          refine z_iconst dX13_comesTo_105 kc_1 ?_
          refine z_isub dX13_comesTo_106 ?_
          refine z_iconst dX13_comesTo_107 kc_1 ?_
          refine z_aload_n dX13_comesTo_108 rfl rfl (z_okl g_a0) ?_
          refine y_getR lfX13_71 rfl g_a0 dX13_comesTo_109 ?_
          refine z_iload_n dX13_comesTo_112 rfl rfl ?_
          refine z_iconst dX13_comesTo_113 kc_1 ?_
          refine z_isub dX13_comesTo_114 ?_
          obtain ⟨g31, hf⟩ := z_g_el hf
          refine y_iald g31 dX13_comesTo_115 ?_
          refine z_isub dX13_comesTo_116 ?_
          refine y_iast g31 dX13_comesTo_117 (fun I32 eI32 => ?_)
          have hf := z_l_el hf eI32
          refine z_goto (tgt := 230) dX13_comesTo_118 (by decide) ?_
          refine z_goto (tgt := 16) dX13_comesTo_230 (by decide) ?_
          cases hf
          exact y_sub hk (z_le_c rfl (z_le_n (z_le_c rfl (z_le_c rfl (z_le_c rfl (z_le_c rfl (z_le_n (z_le_n z_le_0))))))))
      · have hf := z_if_t hf c13
        exact y_sub (wX13_comesTo_j63_16 hd g_a0 hf hk) (z_le_c rfl (z_le_n (z_le_c rfl (z_le_c rfl (z_le_c rfl (z_le_c rfl (z_le_c rfl (z_le_c rfl z_le_0))))))))
def fX13_comesTo (a0 : Nat) (x1 : Int32) (x2 : Int32) (I : Nat → Nat → Int32) (R : Nat → Nat → Nat) : Option (Int32 × (Nat → Nat → Int32)) :=
  z_g (z_ob a0 13) (z_l ((260 : Int32) * (x1 / (260 : Int32))) (fun t1 => z_b (z_lp (fX13_comesTo_b16 a0 x2 t1 R) 300 ((0 : Int32), x1, I)) (fun q33 => z_x q33 (fun q35 => some q35) (fun q34 => z_g (z_ok 1 (R a0 32) (0 : Int32)) (some (q34 (R a0 32) (0 : Int32).toNatClampNeg, q34))))))
set_option maxRecDepth 20000 in
theorem vX13_comesTo {G : z_G} {d : Nat} {Q : Option Value → z_S → z_H → Prop} {a0 : Nat} {x1 : Int32} {x2 : Int32} {I : Nat → Nat → Int32} {R : Nat → Nat → Nat} {q : Int32 × (Nat → Nat → Int32)} (hd : 1 ≤ d) (hf : fX13_comesTo a0 x1 x2 I R = some q) (hk : Q (some (.int q.1)) z_SH (q.2, R)) : z_W G eX13_comesTo d 0 0 0 [some (.ref a0), some (.int x1), some (.int x2), none, none, none, none, none] [] z_SH (I, R) Q := by
  unfold fX13_comesTo at hf
  obtain ⟨g_a0, hf⟩ := z_g_el hf
  refine z_iconst dX13_comesTo_0 kc_0 ?_
  refine y_istore_n0 [some (.ref a0), some (.int x1), some (.int x2), some (.int (0 : Int32)), none, none, none, none] dX13_comesTo_1 rfl (by decide) rfl ?_
  refine z_sipush dX13_comesTo_2 ks_260 ?_
  refine z_iload_n dX13_comesTo_5 rfl rfl ?_
  refine z_sipush dX13_comesTo_6 ks_260 ?_
  refine z_idiv dX13_comesTo_9 (by decide) ?_
  refine z_imul dX13_comesTo_10 ?_
  refine y_istore (fun t1 => [some (.ref a0), some (.int x1), some (.int x2), some (.int (0 : Int32)), some (.int t1), none, none, none]) dX13_comesTo_11 (by decide) (fun _ => rfl) (fun t1 et1 => ?_)
  have hf := z_l_el hf et1
  refine z_iload_n dX13_comesTo_13 rfl rfl ?_
  refine y_istore0 [some (.ref a0), some (.int x1), some (.int x2), some (.int (0 : Int32)), some (.int t1), some (.int x1), none, none] dX13_comesTo_14 (by decide) rfl ?_
  obtain ⟨q33, hq33, hf⟩ := z_b_el hf
  refine y_sub (lv' := [some (.ref a0), none, some (.int x2), some (.int (0 : Int32)), some (.int t1), some (.int x1), none, none]) ?_ (z_le_c rfl (z_le_n (z_le_c rfl (z_le_c rfl (z_le_c rfl (z_le_c rfl (z_le_n (z_le_n z_le_0))))))))
  refine z_lp_el (P := (fun s : Int32 × Int32 × (Nat → Nat → Int32) => z_W G eX13_comesTo d 0 0 16 [some (.ref a0), none, some (.int x2), some (.int s.1), some (.int t1), some (.int s.2.1), none, none] [] z_SH (s.2.2, R) Q)) (E := (z_or (fun r : Int32 × (Nat → Nat → Int32) => Q (some (.int r.1)) z_SH (r.2, R)) (fun x : (Nat → Nat → Int32) => z_W G eX13_comesTo d 0 0 233 [some (.ref a0), none, none, none, none, none, none, none] [] z_SH (x, R) Q))) (wX13_comesTo_b16 hd g_a0) 300 ((0 : Int32), x1, I) q33 hq33 ?_
  rcases q33 with q35 | q34
  · have hf := z_x_l hf
    cases hf
    exact hk
  · have hf := z_x_r hf
    show z_W G eX13_comesTo d 0 0 233 [some (.ref a0), none, none, none, none, none, none, none] [] z_SH (q34, R) _
    refine z_aload_n dX13_comesTo_233 rfl rfl (z_okl g_a0) ?_
    refine y_getR lfX13_71 rfl g_a0 dX13_comesTo_234 ?_
    refine z_iconst dX13_comesTo_237 kc_0 ?_
    obtain ⟨g36, hf⟩ := z_g_el hf
    refine y_iald g36 dX13_comesTo_238 ?_
    cases hf
    exact z_iret hk ⟨_, rfl, rfl⟩ dX13_comesTo_239
theorem wX13_comesTo {G : z_G} {d : Nat} {a0 : Nat} {x1 : Int32} {x2 : Int32} {I : Nat → Nat → Int32} {R : Nat → Nat → Nat} {q : Int32 × (Nat → Nat → Int32)} (hd : 1 ≤ d) (hf : fX13_comesTo a0 x1 x2 I R = some q) : z_M G d 0 0 eX13_comesTo [.ref a0, .int x1, .int x2] z_SH (I, R) (z_E (some (.int q.1)) (q.2, R)) :=
  y_M_of _ (by decide +kernel) rfl rfl rfl (vX13_comesTo hd hf ⟨rfl, rfl, rfl⟩)
def fX13_byLaw_b2 (a0 : Nat) (z1 : Int32) (z2 : Int32) (R : Nat → Nat → Nat) : (Int32 × (Nat → Nat → Int32)) → Option ((Int32 × (Nat → Nat → Int32)) ⊕ ((Int32 × (Nat → Nat → Int32)) ⊕ (Int32 × (Nat → Nat → Int32)))) :=
  fun s => (fun (p3 : Int32) (I : Nat → Nat → Int32) => if (I a0 20) ≤ p3 then (some (.inr (.inl ((0 : Int32), I)))) else (z_g (z_ok 1 (R a0 28) p3) (if (I (R a0 28) p3.toNatClampNeg) = z1 then (z_g (z_ok 1 (R a0 30) p3) (z_g (z_ok 1 (R a0 31) p3) (z_b (fX13_comesTo a0 (I (R a0 30) p3.toNatClampNeg) (I (R a0 31) p3.toNatClampNeg) I R) (fun q7 => if q7.1 = (1 : Int32) then (some (.inr (.inr (p3, q7.2)))) else (z_l (p3 + (1 : Int32)) (fun t9 => some (.inl (t9, q7.2)))))))) else (z_l (p3 + (1 : Int32)) (fun t4 => some (.inl (t4, I))))))) s.1 s.2
theorem wX13_byLaw_b2 {G : z_G} {d : Nat} {Q : Option Value → z_S → z_H → Prop} {a0 : Nat} {z1 : Int32} {z2 : Int32} {R : Nat → Nat → Nat} (hd : 2 ≤ d) (g_a0 : z_ob a0 13) : ∀ (s : Int32 × (Nat → Nat → Int32)) (o : (Int32 × (Nat → Nat → Int32)) ⊕ ((Int32 × (Nat → Nat → Int32)) ⊕ (Int32 × (Nat → Nat → Int32)))), fX13_byLaw_b2 a0 z1 z2 R s = some o → z_or (fun s : Int32 × (Nat → Nat → Int32) => z_W G eX13_byLaw d 0 0 2 [some (.ref a0), some (.int z1), some (.int z2), some (.int s.1), none] [] z_SH (s.2, R) Q) (z_or (fun r : Int32 × (Nat → Nat → Int32) => Q (some (.int r.1)) z_SH (r.2, R)) (fun x : Int32 × (Nat → Nat → Int32) => z_W G eX13_byLaw d 0 0 43 [some (.ref a0), none, some (.int z2), some (.int x.1), none] [] z_SH (x.2, R) Q)) o → (fun s : Int32 × (Nat → Nat → Int32) => z_W G eX13_byLaw d 0 0 2 [some (.ref a0), some (.int z1), some (.int z2), some (.int s.1), none] [] z_SH (s.2, R) Q) s := by
  rintro ⟨p3, I⟩ o hf hk
  show z_W G eX13_byLaw d 0 0 2 [some (.ref a0), some (.int z1), some (.int z2), some (.int p3), none] [] z_SH (I, R) Q
  unfold fX13_byLaw_b2 at hf
  try dsimp only at hf
  refine z_iload_n dX13_byLaw_2 rfl rfl ?_
  refine z_aload_n dX13_byLaw_3 rfl rfl (z_okl g_a0) ?_
  refine y_getI lfX13_241 rfl g_a0 dX13_byLaw_4 ?_
  refine z_icmp_ge (tgt := 89) dX13_byLaw_7 (by decide) (fun c1 => ?_) (fun c1 => ?_)
  · have hf := z_if_t hf c1
    refine z_iconst dX13_byLaw_89 kc_0 ?_
    cases hf
    exact z_iret hk ⟨_, rfl, rfl⟩ dX13_byLaw_90
  · have hf := z_if_f hf c1
    refine z_aload_n dX13_byLaw_10 rfl rfl (z_okl g_a0) ?_
    refine y_getR lfX13_59 rfl g_a0 dX13_byLaw_11 ?_
    refine z_iload_n dX13_byLaw_14 rfl rfl ?_
    obtain ⟨g2, hf⟩ := z_g_el hf
    refine y_iald g2 dX13_byLaw_15 ?_
    refine z_iload_n dX13_byLaw_16 rfl rfl ?_
    refine z_icmp_ne (tgt := 83) dX13_byLaw_17 (by decide) (fun c3 => ?_) (fun c3 => ?_)
    · have hf := z_if_f hf c3
      refine y_iinc (fun t4 => [some (.ref a0), some (.int z1), some (.int z2), some (.int t4), none]) dX13_byLaw_83 rfl kc_1 (by decide) (fun _ => rfl) (fun t4 et4 => ?_)
      have hf := z_l_el hf et4
      refine z_goto (tgt := 2) dX13_byLaw_86 (by decide) ?_
      cases hf
      exact y_sub hk (z_le_c rfl (z_le_c rfl (z_le_c rfl (z_le_c rfl (z_le_n z_le_0)))))
    · have hf := z_if_t hf c3
      refine z_aload_n dX13_byLaw_20 rfl rfl (z_okl g_a0) ?_
      refine z_aload_n dX13_byLaw_21 rfl rfl (z_okl g_a0) ?_
      refine y_getR lfX13_65 rfl g_a0 dX13_byLaw_22 ?_
      refine z_iload_n dX13_byLaw_25 rfl rfl ?_
      obtain ⟨g5, hf⟩ := z_g_el hf
      refine y_iald g5 dX13_byLaw_26 ?_
      refine z_aload_n dX13_byLaw_27 rfl rfl (z_okl g_a0) ?_
      refine y_getR lfX13_68 rfl g_a0 dX13_byLaw_28 ?_
      refine z_iload_n dX13_byLaw_31 rfl rfl ?_
      obtain ⟨g6, hf⟩ := z_g_el hf
      refine y_iald g6 dX13_byLaw_32 ?_
      obtain ⟨q7, hq7, hf⟩ := z_b_el hf
      refine y_cVi (av := [.int (I (R a0 30) p3.toNatClampNeg), .int (I (R a0 31) p3.toNatClampNeg)]) (Nat.le_trans (Nat.le_of_ble_eq_true rfl) hd) (wX13_comesTo (z_dl rfl hd) hq7) oX13_comesTo lmX13_248 iX13_comesTo g_a0 rfl _ rfl rfl (Nat.le_of_ble_eq_true rfl) dX13_byLaw_33 ?_
      refine z_iconst dX13_byLaw_36 kc_1 ?_
      refine z_icmp_eq (tgt := 43) dX13_byLaw_37 (by decide) (fun c8 => ?_) (fun c8 => ?_)
      · have hf := z_if_t hf c8
        cases hf
        exact y_sub hk (z_le_c rfl (z_le_n (z_le_c rfl (z_le_c rfl (z_le_n z_le_0)))))
      · have hf := z_if_f hf c8
        refine z_goto (tgt := 83) dX13_byLaw_40 (by decide) ?_
        refine y_iinc (fun t9 => [some (.ref a0), some (.int z1), some (.int z2), some (.int t9), none]) dX13_byLaw_83 rfl kc_1 (by decide) (fun _ => rfl) (fun t9 et9 => ?_)
        have hf := z_l_el hf et9
        refine z_goto (tgt := 2) dX13_byLaw_86 (by decide) ?_
        cases hf
        exact y_sub hk (z_le_c rfl (z_le_c rfl (z_le_c rfl (z_le_c rfl (z_le_n z_le_0)))))
def fX13_byLaw (a0 : Nat) (x1 : Int32) (x2 : Int32) (I : Nat → Nat → Int32) (R : Nat → Nat → Nat) : Option (Int32 × (Nat → Nat → Int32)) :=
  z_g (z_ob a0 13) (z_b (z_lp (fX13_byLaw_b2 a0 x1 x2 R) 300 ((0 : Int32), I)) (fun q10 => z_x q10 (fun q12 => some q12) (fun q11 => z_g (z_ok 1 (R a0 29) q11.1) (z_g (z_ok 1 (R a0 30) q11.1) (z_b (fX13_comesTo a0 (q11.2 (R a0 29) q11.1.toNatClampNeg) (q11.2 (R a0 30) q11.1.toNatClampNeg) q11.2 R) (fun q15 => if 0 ≤ q15.1 then (if q15.1 ≤ x2 then (some (q15.1, q15.2)) else (some (x2, q15.2))) else (some ((0 : Int32), q15.2))))))))
theorem vX13_byLaw {G : z_G} {d : Nat} {Q : Option Value → z_S → z_H → Prop} {a0 : Nat} {x1 : Int32} {x2 : Int32} {I : Nat → Nat → Int32} {R : Nat → Nat → Nat} {q : Int32 × (Nat → Nat → Int32)} (hd : 2 ≤ d) (hf : fX13_byLaw a0 x1 x2 I R = some q) (hk : Q (some (.int q.1)) z_SH (q.2, R)) : z_W G eX13_byLaw d 0 0 0 [some (.ref a0), some (.int x1), some (.int x2), none, none] [] z_SH (I, R) Q := by
  unfold fX13_byLaw at hf
  obtain ⟨g_a0, hf⟩ := z_g_el hf
  refine z_iconst dX13_byLaw_0 kc_0 ?_
  refine y_istore_n0 [some (.ref a0), some (.int x1), some (.int x2), some (.int (0 : Int32)), none] dX13_byLaw_1 rfl (by decide) rfl ?_
  obtain ⟨q10, hq10, hf⟩ := z_b_el hf
  refine y_sub (lv' := [some (.ref a0), some (.int x1), some (.int x2), some (.int (0 : Int32)), none]) ?_ (z_le_c rfl (z_le_c rfl (z_le_c rfl (z_le_c rfl (z_le_n z_le_0)))))
  refine z_lp_el (P := (fun s : Int32 × (Nat → Nat → Int32) => z_W G eX13_byLaw d 0 0 2 [some (.ref a0), some (.int x1), some (.int x2), some (.int s.1), none] [] z_SH (s.2, R) Q)) (E := (z_or (fun r : Int32 × (Nat → Nat → Int32) => Q (some (.int r.1)) z_SH (r.2, R)) (fun x : Int32 × (Nat → Nat → Int32) => z_W G eX13_byLaw d 0 0 43 [some (.ref a0), none, some (.int x2), some (.int x.1), none] [] z_SH (x.2, R) Q))) (wX13_byLaw_b2 hd g_a0) 300 ((0 : Int32), I) q10 hq10 ?_
  rcases q10 with q12 | q11
  · have hf := z_x_l hf
    cases hf
    exact hk
  · have hf := z_x_r hf
    show z_W G eX13_byLaw d 0 0 43 [some (.ref a0), none, some (.int x2), some (.int q11.1), none] [] z_SH (q11.2, R) _
    refine z_aload_n dX13_byLaw_43 rfl rfl (z_okl g_a0) ?_
    refine z_aload_n dX13_byLaw_44 rfl rfl (z_okl g_a0) ?_
    refine y_getR lfX13_62 rfl g_a0 dX13_byLaw_45 ?_
    refine z_iload_n dX13_byLaw_48 rfl rfl ?_
    obtain ⟨g13, hf⟩ := z_g_el hf
    refine y_iald g13 dX13_byLaw_49 ?_
    refine z_aload_n dX13_byLaw_50 rfl rfl (z_okl g_a0) ?_
    refine y_getR lfX13_65 rfl g_a0 dX13_byLaw_51 ?_
    refine z_iload_n dX13_byLaw_54 rfl rfl ?_
    obtain ⟨g14, hf⟩ := z_g_el hf
    refine y_iald g14 dX13_byLaw_55 ?_
    obtain ⟨q15, hq15, hf⟩ := z_b_el hf
    refine y_cVi (av := [.int (q11.2 (R a0 29) q11.1.toNatClampNeg), .int (q11.2 (R a0 30) q11.1.toNatClampNeg)]) (Nat.le_trans (Nat.le_of_ble_eq_true rfl) hd) (wX13_comesTo (z_dl rfl hd) hq15) oX13_comesTo lmX13_248 iX13_comesTo g_a0 rfl _ rfl rfl (Nat.le_of_ble_eq_true rfl) dX13_byLaw_56 ?_
    refine y_istore0 [some (.ref a0), none, some (.int x2), some (.int q11.1), some (.int q15.1)] dX13_byLaw_59 (by decide) rfl ?_
    refine z_iload dX13_byLaw_61 rfl ?_
    refine z_if_ge (tgt := 70) dX13_byLaw_63 (by decide) (fun c16 => ?_) (fun c16 => ?_)
    · have hf := z_if_t hf c16
      refine z_iload dX13_byLaw_70 rfl ?_
      refine z_iload_n dX13_byLaw_72 rfl rfl ?_
      refine z_icmp_le (tgt := 80) dX13_byLaw_73 (by decide) (fun c17 => ?_) (fun c17 => ?_)
      · have hf := z_if_t hf c17
        refine z_iload dX13_byLaw_80 rfl ?_
        cases hf
        exact z_iret hk ⟨_, rfl, rfl⟩ dX13_byLaw_82
      · have hf := z_if_f hf c17
        refine z_iload_n dX13_byLaw_76 rfl rfl ?_
        refine z_goto (tgt := 82) dX13_byLaw_77 (by decide) ?_
        cases hf
        exact z_iret hk ⟨_, rfl, rfl⟩ dX13_byLaw_82
    · have hf := z_if_f hf c16
      refine z_iconst dX13_byLaw_66 kc_0 ?_
      refine z_goto (tgt := 82) dX13_byLaw_67 (by decide) ?_
      cases hf
      exact z_iret hk ⟨_, rfl, rfl⟩ dX13_byLaw_82
theorem wX13_byLaw {G : z_G} {d : Nat} {a0 : Nat} {x1 : Int32} {x2 : Int32} {I : Nat → Nat → Int32} {R : Nat → Nat → Nat} {q : Int32 × (Nat → Nat → Int32)} (hd : 2 ≤ d) (hf : fX13_byLaw a0 x1 x2 I R = some q) : z_M G d 0 0 eX13_byLaw [.ref a0, .int x1, .int x2] z_SH (I, R) (z_E (some (.int q.1)) (q.2, R)) :=
  y_M_of _ (by decide +kernel) rfl rfl rfl (vX13_byLaw hd hf ⟨rfl, rfl, rfl⟩)
def fX13_holdsAny_b2 (a0 : Nat) (z1 : Int32) (R : Nat → Nat → Nat) : (Int32 × (Nat → Nat → Int32)) → Option ((Int32 × (Nat → Nat → Int32)) ⊕ ((Int32 × (Nat → Nat → Int32)) ⊕ ((Nat → Nat → Int32)))) :=
  fun s => (fun (p2 : Int32) (I : Nat → Nat → Int32) => if (I a0 20) ≤ p2 then (some (.inr (.inr I))) else (z_g (z_ok 1 (R a0 28) p2) (if (I (R a0 28) p2.toNatClampNeg) = z1 then (z_g (z_ok 1 (R a0 30) p2) (z_g (z_ok 1 (R a0 31) p2) (z_b (fX13_comesTo a0 (I (R a0 30) p2.toNatClampNeg) (I (R a0 31) p2.toNatClampNeg) I R) (fun q7 => if q7.1 = (1 : Int32) then (some (.inr (.inl ((1 : Int32), q7.2)))) else (z_l (p2 + (1 : Int32)) (fun t9 => some (.inl (t9, q7.2)))))))) else (z_l (p2 + (1 : Int32)) (fun t4 => some (.inl (t4, I))))))) s.1 s.2
theorem wX13_holdsAny_b2 {G : z_G} {d : Nat} {Q : Option Value → z_S → z_H → Prop} {a0 : Nat} {z1 : Int32} {R : Nat → Nat → Nat} (hd : 2 ≤ d) (g_a0 : z_ob a0 13) : ∀ (s : Int32 × (Nat → Nat → Int32)) (o : (Int32 × (Nat → Nat → Int32)) ⊕ ((Int32 × (Nat → Nat → Int32)) ⊕ ((Nat → Nat → Int32)))), fX13_holdsAny_b2 a0 z1 R s = some o → z_or (fun s : Int32 × (Nat → Nat → Int32) => z_W G eX13_holdsAny d 0 0 2 [some (.ref a0), some (.int z1), some (.int s.1)] [] z_SH (s.2, R) Q) (z_or (fun r : Int32 × (Nat → Nat → Int32) => Q (some (.int r.1)) z_SH (r.2, R)) (fun x : (Nat → Nat → Int32) => z_W G eX13_holdsAny d 0 0 48 [none, none, none] [] z_SH (x, R) Q)) o → (fun s : Int32 × (Nat → Nat → Int32) => z_W G eX13_holdsAny d 0 0 2 [some (.ref a0), some (.int z1), some (.int s.1)] [] z_SH (s.2, R) Q) s := by
  rintro ⟨p2, I⟩ o hf hk
  show z_W G eX13_holdsAny d 0 0 2 [some (.ref a0), some (.int z1), some (.int p2)] [] z_SH (I, R) Q
  unfold fX13_holdsAny_b2 at hf
  try dsimp only at hf
  refine z_iload_n dX13_holdsAny_2 rfl rfl ?_
  refine z_aload_n dX13_holdsAny_3 rfl rfl (z_okl g_a0) ?_
  refine y_getI lfX13_241 rfl g_a0 dX13_holdsAny_4 ?_
  refine z_icmp_ge (tgt := 48) dX13_holdsAny_7 (by decide) (fun c1 => ?_) (fun c1 => ?_)
  · have hf := z_if_t hf c1
    cases hf
    exact y_sub hk (z_le_n (z_le_n (z_le_n z_le_0)))
  · have hf := z_if_f hf c1
    refine z_aload_n dX13_holdsAny_10 rfl rfl (z_okl g_a0) ?_
    refine y_getR lfX13_59 rfl g_a0 dX13_holdsAny_11 ?_
    refine z_iload_n dX13_holdsAny_14 rfl rfl ?_
    obtain ⟨g2, hf⟩ := z_g_el hf
    refine y_iald g2 dX13_holdsAny_15 ?_
    refine z_iload_n dX13_holdsAny_16 rfl rfl ?_
    refine z_icmp_ne (tgt := 42) dX13_holdsAny_17 (by decide) (fun c3 => ?_) (fun c3 => ?_)
    · have hf := z_if_f hf c3
      refine y_iinc (fun t4 => [some (.ref a0), some (.int z1), some (.int t4)]) dX13_holdsAny_42 rfl kc_1 (by decide) (fun _ => rfl) (fun t4 et4 => ?_)
      have hf := z_l_el hf et4
      refine z_goto (tgt := 2) dX13_holdsAny_45 (by decide) ?_
      cases hf
      exact y_sub hk (z_le_c rfl (z_le_c rfl (z_le_c rfl z_le_0)))
    · have hf := z_if_t hf c3
      refine z_aload_n dX13_holdsAny_20 rfl rfl (z_okl g_a0) ?_
      refine z_aload_n dX13_holdsAny_21 rfl rfl (z_okl g_a0) ?_
      refine y_getR lfX13_65 rfl g_a0 dX13_holdsAny_22 ?_
      refine z_iload_n dX13_holdsAny_25 rfl rfl ?_
      obtain ⟨g5, hf⟩ := z_g_el hf
      refine y_iald g5 dX13_holdsAny_26 ?_
      refine z_aload_n dX13_holdsAny_27 rfl rfl (z_okl g_a0) ?_
      refine y_getR lfX13_68 rfl g_a0 dX13_holdsAny_28 ?_
      refine z_iload_n dX13_holdsAny_31 rfl rfl ?_
      obtain ⟨g6, hf⟩ := z_g_el hf
      refine y_iald g6 dX13_holdsAny_32 ?_
      obtain ⟨q7, hq7, hf⟩ := z_b_el hf
      refine y_cVi (av := [.int (I (R a0 30) p2.toNatClampNeg), .int (I (R a0 31) p2.toNatClampNeg)]) (Nat.le_trans (Nat.le_of_ble_eq_true rfl) hd) (wX13_comesTo (z_dl rfl hd) hq7) oX13_comesTo lmX13_248 iX13_comesTo g_a0 rfl _ rfl rfl (Nat.le_of_ble_eq_true rfl) dX13_holdsAny_33 ?_
      refine z_iconst dX13_holdsAny_36 kc_1 ?_
      refine z_icmp_ne (tgt := 42) dX13_holdsAny_37 (by decide) (fun c8 => ?_) (fun c8 => ?_)
      · have hf := z_if_f hf c8
        refine y_iinc (fun t9 => [some (.ref a0), some (.int z1), some (.int t9)]) dX13_holdsAny_42 rfl kc_1 (by decide) (fun _ => rfl) (fun t9 et9 => ?_)
        have hf := z_l_el hf et9
        refine z_goto (tgt := 2) dX13_holdsAny_45 (by decide) ?_
        cases hf
        exact y_sub hk (z_le_c rfl (z_le_c rfl (z_le_c rfl z_le_0)))
      · have hf := z_if_t hf c8
        refine z_iconst dX13_holdsAny_40 kc_1 ?_
        cases hf
        exact z_iret hk ⟨_, rfl, rfl⟩ dX13_holdsAny_41
def fX13_holdsAny (a0 : Nat) (x1 : Int32) (I : Nat → Nat → Int32) (R : Nat → Nat → Nat) : Option (Int32 × (Nat → Nat → Int32)) :=
  z_g (z_ob a0 13) (z_b (z_lp (fX13_holdsAny_b2 a0 x1 R) 300 ((0 : Int32), I)) (fun q10 => z_x q10 (fun q12 => some q12) (fun q11 => some ((0 : Int32), q11))))
theorem vX13_holdsAny {G : z_G} {d : Nat} {Q : Option Value → z_S → z_H → Prop} {a0 : Nat} {x1 : Int32} {I : Nat → Nat → Int32} {R : Nat → Nat → Nat} {q : Int32 × (Nat → Nat → Int32)} (hd : 2 ≤ d) (hf : fX13_holdsAny a0 x1 I R = some q) (hk : Q (some (.int q.1)) z_SH (q.2, R)) : z_W G eX13_holdsAny d 0 0 0 [some (.ref a0), some (.int x1), none] [] z_SH (I, R) Q := by
  unfold fX13_holdsAny at hf
  obtain ⟨g_a0, hf⟩ := z_g_el hf
  refine z_iconst dX13_holdsAny_0 kc_0 ?_
  refine y_istore_n0 [some (.ref a0), some (.int x1), some (.int (0 : Int32))] dX13_holdsAny_1 rfl (by decide) rfl ?_
  obtain ⟨q10, hq10, hf⟩ := z_b_el hf
  refine y_sub (lv' := [some (.ref a0), some (.int x1), some (.int (0 : Int32))]) ?_ (z_le_c rfl (z_le_c rfl (z_le_c rfl z_le_0)))
  refine z_lp_el (P := (fun s : Int32 × (Nat → Nat → Int32) => z_W G eX13_holdsAny d 0 0 2 [some (.ref a0), some (.int x1), some (.int s.1)] [] z_SH (s.2, R) Q)) (E := (z_or (fun r : Int32 × (Nat → Nat → Int32) => Q (some (.int r.1)) z_SH (r.2, R)) (fun x : (Nat → Nat → Int32) => z_W G eX13_holdsAny d 0 0 48 [none, none, none] [] z_SH (x, R) Q))) (wX13_holdsAny_b2 hd g_a0) 300 ((0 : Int32), I) q10 hq10 ?_
  rcases q10 with q12 | q11
  · have hf := z_x_l hf
    cases hf
    exact hk
  · have hf := z_x_r hf
    show z_W G eX13_holdsAny d 0 0 48 [none, none, none] [] z_SH (q11, R) _
    refine z_iconst dX13_holdsAny_48 kc_0 ?_
    cases hf
    exact z_iret hk ⟨_, rfl, rfl⟩ dX13_holdsAny_49
theorem wX13_holdsAny {G : z_G} {d : Nat} {a0 : Nat} {x1 : Int32} {I : Nat → Nat → Int32} {R : Nat → Nat → Nat} {q : Int32 × (Nat → Nat → Int32)} (hd : 2 ≤ d) (hf : fX13_holdsAny a0 x1 I R = some q) : z_M G d 0 0 eX13_holdsAny [.ref a0, .int x1] z_SH (I, R) (z_E (some (.int q.1)) (q.2, R)) :=
  y_M_of _ (by decide +kernel) rfl rfl rfl (vX13_holdsAny hd hf ⟨rfl, rfl, rfl⟩)
def fX13_readsNote_j158_103 (a0 : Nat) (z2 : Int32) (z3 : Int32) (y4 : Int32) (v0 : Nat) (v1 : Int32) (v2 : Int32) (I : Nat → Nat → Int32) (R : Nat → Nat → Nat) : Option ((Int32 × (Nat → Nat → Int32)) ⊕ ((Nat → Nat → Int32))) :=
  z_g (z_ok 1 v0 v1) (z_l (z_u I v0 v1.toNatClampNeg v2) (fun I15 => z_g (z_ok 1 (R a0 35) ((I15 a0 40) + y4)) (z_l (z_u I15 (R a0 35) ((I15 a0 40) + y4).toNatClampNeg (0 : Int32)) (fun I17 => z_g (z_ok 1 (R a0 36) ((I17 a0 40) + y4)) (z_l (z_u I17 (R a0 36) ((I17 a0 40) + y4).toNatClampNeg (0 : Int32)) (fun I19 => z_l (y4 + (1 : Int32)) (fun t20 => some (.inl (t20, I19)))))))))
theorem wX13_readsNote_j158_103 {G : z_G} {d : Nat} {Q : Option Value → z_S → z_H → Prop} {a0 : Nat} {z2 : Int32} {z3 : Int32} {y4 : Int32} {v0 : Nat} {v1 : Int32} {v2 : Int32} {I : Nat → Nat → Int32} {R : Nat → Nat → Nat} {o : (Int32 × (Nat → Nat → Int32)) ⊕ ((Nat → Nat → Int32))} (hd : 1 ≤ d) (g_a0 : z_ob a0 13) (hf : fX13_readsNote_j158_103 a0 z2 z3 y4 v0 v1 v2 I R = some o) (hk : z_or (fun s : Int32 × (Nat → Nat → Int32) => z_W G eX13_readsNote d 0 0 103 [some (.ref a0), none, some (.int z2), some (.int z3), some (.int s.1)] [] z_SH (s.2, R) Q) (fun x : (Nat → Nat → Int32) => z_W G eX13_readsNote d 0 0 191 [some (.ref a0), none, none, some (.int z3), none] [] z_SH (x, R) Q) o) : z_W G eX13_readsNote d 0 0 158 [some (.ref a0), none, some (.int z2), some (.int z3), some (.int y4)] [.int v2, .int v1, .ref v0] z_SH (I, R) Q := by
  unfold fX13_readsNote_j158_103 at hf
  obtain ⟨g14, hf⟩ := z_g_el hf
  refine y_iast g14 dX13_readsNote_158 (fun I15 eI15 => ?_)
  have hf := z_l_el hf eI15
  refine z_aload_n dX13_readsNote_159 rfl rfl (z_okl g_a0) ?_
  refine y_getR lfX13_80 rfl g_a0 dX13_readsNote_160 ?_
  refine z_aload_n dX13_readsNote_163 rfl rfl (z_okl g_a0) ?_
  refine y_getI lfX13_252 rfl g_a0 dX13_readsNote_164 ?_
  refine z_iload dX13_readsNote_167 rfl ?_
  refine z_iadd dX13_readsNote_169 ?_
  refine z_iconst dX13_readsNote_170 kc_0 ?_
  obtain ⟨g16, hf⟩ := z_g_el hf
  refine y_iast g16 dX13_readsNote_171 (fun I17 eI17 => ?_)
  have hf := z_l_el hf eI17
  refine z_aload_n dX13_readsNote_172 rfl rfl (z_okl g_a0) ?_
  refine y_getR lfX13_83 rfl g_a0 dX13_readsNote_173 ?_
  refine z_aload_n dX13_readsNote_176 rfl rfl (z_okl g_a0) ?_
  refine y_getI lfX13_252 rfl g_a0 dX13_readsNote_177 ?_
  refine z_iload dX13_readsNote_180 rfl ?_
  refine z_iadd dX13_readsNote_182 ?_
  refine z_iconst dX13_readsNote_183 kc_0 ?_
  obtain ⟨g18, hf⟩ := z_g_el hf
  refine y_iast g18 dX13_readsNote_184 (fun I19 eI19 => ?_)
  have hf := z_l_el hf eI19
  refine y_iinc (fun t20 => [some (.ref a0), none, some (.int z2), some (.int z3), some (.int t20)]) dX13_readsNote_185 rfl kc_1 (by decide) (fun _ => rfl) (fun t20 et20 => ?_)
  have hf := z_l_el hf et20
  refine z_goto (tgt := 103) dX13_readsNote_188 (by decide) ?_
  cases hf
  exact y_sub hk (z_le_c rfl (z_le_n (z_le_c rfl (z_le_c rfl (z_le_c rfl z_le_0)))))
def fX13_readsNote_j136_103 (a0 : Nat) (z2 : Int32) (z3 : Int32) (y4 : Int32) (v0 : Nat) (v1 : Int32) (v2 : Int32) (I : Nat → Nat → Int32) (R : Nat → Nat → Nat) : Option ((Int32 × (Nat → Nat → Int32)) ⊕ ((Nat → Nat → Int32))) :=
  z_g (z_ok 1 v0 v1) (z_l (z_u I v0 v1.toNatClampNeg v2) (fun I12 => if y4 = 0 then (fX13_readsNote_j158_103 a0 z2 z3 y4 (R a0 37) ((I12 a0 40) + y4) (1 : Int32) I12 R) else (fX13_readsNote_j158_103 a0 z2 z3 y4 (R a0 37) ((I12 a0 40) + y4) (0 : Int32) I12 R)))
theorem wX13_readsNote_j136_103 {G : z_G} {d : Nat} {Q : Option Value → z_S → z_H → Prop} {a0 : Nat} {z2 : Int32} {z3 : Int32} {y4 : Int32} {v0 : Nat} {v1 : Int32} {v2 : Int32} {I : Nat → Nat → Int32} {R : Nat → Nat → Nat} {o : (Int32 × (Nat → Nat → Int32)) ⊕ ((Nat → Nat → Int32))} (hd : 1 ≤ d) (g_a0 : z_ob a0 13) (hf : fX13_readsNote_j136_103 a0 z2 z3 y4 v0 v1 v2 I R = some o) (hk : z_or (fun s : Int32 × (Nat → Nat → Int32) => z_W G eX13_readsNote d 0 0 103 [some (.ref a0), none, some (.int z2), some (.int z3), some (.int s.1)] [] z_SH (s.2, R) Q) (fun x : (Nat → Nat → Int32) => z_W G eX13_readsNote d 0 0 191 [some (.ref a0), none, none, some (.int z3), none] [] z_SH (x, R) Q) o) : z_W G eX13_readsNote d 0 0 136 [some (.ref a0), none, some (.int z2), some (.int z3), some (.int y4)] [.int v2, .int v1, .ref v0] z_SH (I, R) Q := by
  unfold fX13_readsNote_j136_103 at hf
  obtain ⟨g11, hf⟩ := z_g_el hf
  refine y_iast g11 dX13_readsNote_136 (fun I12 eI12 => ?_)
  have hf := z_l_el hf eI12
  refine z_aload_n dX13_readsNote_137 rfl rfl (z_okl g_a0) ?_
  refine y_getR lfX13_86 rfl g_a0 dX13_readsNote_138 ?_
  refine z_aload_n dX13_readsNote_141 rfl rfl (z_okl g_a0) ?_
  refine y_getI lfX13_252 rfl g_a0 dX13_readsNote_142 ?_
  refine z_iload dX13_readsNote_145 rfl ?_
  refine z_iadd dX13_readsNote_147 ?_
  refine z_iload dX13_readsNote_148 rfl ?_
  refine z_if_ne (tgt := 157) dX13_readsNote_150 (by decide) (fun c13 => ?_) (fun c13 => ?_)
  · have hf := z_if_f hf c13
    refine z_iconst dX13_readsNote_157 kc_0 ?_
    exact y_sub (wX13_readsNote_j158_103 hd g_a0 hf hk) (z_le_c rfl (z_le_n (z_le_c rfl (z_le_c rfl (z_le_c rfl z_le_0)))))
  · have hf := z_if_t hf c13
    refine z_iconst dX13_readsNote_153 kc_1 ?_
    refine z_goto (tgt := 158) dX13_readsNote_154 (by decide) ?_
    exact y_sub (wX13_readsNote_j158_103 hd g_a0 hf hk) (z_le_c rfl (z_le_n (z_le_c rfl (z_le_c rfl (z_le_c rfl z_le_0)))))
def fX13_readsNote_b103 (a0 : Nat) (z2 : Int32) (z3 : Int32) (R : Nat → Nat → Nat) : (Int32 × (Nat → Nat → Int32)) → Option ((Int32 × (Nat → Nat → Int32)) ⊕ ((Nat → Nat → Int32))) :=
  fun s => (fun (p4 : Int32) (I : Nat → Nat → Int32) => if z3 ≤ p4 then (some (.inr I)) else (if z2 = (46 : Int32) then (fX13_readsNote_j136_103 a0 z2 z3 p4 (R a0 34) ((I a0 40) + p4) (0 : Int32) I R) else (fX13_readsNote_j136_103 a0 z2 z3 p4 (R a0 34) ((I a0 40) + p4) ((z2 - (97 : Int32)) + (1 : Int32)) I R))) s.1 s.2
theorem wX13_readsNote_b103 {G : z_G} {d : Nat} {Q : Option Value → z_S → z_H → Prop} {a0 : Nat} {z2 : Int32} {z3 : Int32} {R : Nat → Nat → Nat} (hd : 1 ≤ d) (g_a0 : z_ob a0 13) : ∀ (s : Int32 × (Nat → Nat → Int32)) (o : (Int32 × (Nat → Nat → Int32)) ⊕ ((Nat → Nat → Int32))), fX13_readsNote_b103 a0 z2 z3 R s = some o → z_or (fun s : Int32 × (Nat → Nat → Int32) => z_W G eX13_readsNote d 0 0 103 [some (.ref a0), none, some (.int z2), some (.int z3), some (.int s.1)] [] z_SH (s.2, R) Q) (fun x : (Nat → Nat → Int32) => z_W G eX13_readsNote d 0 0 191 [some (.ref a0), none, none, some (.int z3), none] [] z_SH (x, R) Q) o → (fun s : Int32 × (Nat → Nat → Int32) => z_W G eX13_readsNote d 0 0 103 [some (.ref a0), none, some (.int z2), some (.int z3), some (.int s.1)] [] z_SH (s.2, R) Q) s := by
  rintro ⟨p4, I⟩ o hf hk
  show z_W G eX13_readsNote d 0 0 103 [some (.ref a0), none, some (.int z2), some (.int z3), some (.int p4)] [] z_SH (I, R) Q
  unfold fX13_readsNote_b103 at hf
  try dsimp only at hf
  refine z_iload dX13_readsNote_103 rfl ?_
  refine z_iload_n dX13_readsNote_105 rfl rfl ?_
  refine z_icmp_ge (tgt := 191) dX13_readsNote_106 (by decide) (fun c9 => ?_) (fun c9 => ?_)
  · have hf := z_if_t hf c9
    cases hf
    exact y_sub hk (z_le_c rfl (z_le_n (z_le_n (z_le_c rfl (z_le_n z_le_0)))))
  · have hf := z_if_f hf c9
    refine z_aload_n dX13_readsNote_109 rfl rfl (z_okl g_a0) ?_
    refine y_getR lfX13_77 rfl g_a0 dX13_readsNote_110 ?_
    refine z_aload_n dX13_readsNote_113 rfl rfl (z_okl g_a0) ?_
    refine y_getI lfX13_252 rfl g_a0 dX13_readsNote_114 ?_
    refine z_iload dX13_readsNote_117 rfl ?_
    refine z_iadd dX13_readsNote_119 ?_
    refine z_iload_n dX13_readsNote_120 rfl rfl ?_
    refine z_bipush dX13_readsNote_121 kb_46 ?_
    refine z_icmp_ne (tgt := 130) dX13_readsNote_123 (by decide) (fun c10 => ?_) (fun c10 => ?_)
    · have hf := z_if_f hf c10
      refine z_iload_n dX13_readsNote_130 rfl rfl ?_
      refine z_bipush dX13_readsNote_131 kb_97 ?_
      refine z_isub dX13_readsNote_133 ?_
      refine z_iconst dX13_readsNote_134 kc_1 ?_
      refine z_iadd dX13_readsNote_135 ?_
      exact y_sub (wX13_readsNote_j136_103 hd g_a0 hf hk) (z_le_c rfl (z_le_n (z_le_c rfl (z_le_c rfl (z_le_c rfl z_le_0)))))
    · have hf := z_if_t hf c10
      refine z_iconst dX13_readsNote_126 kc_0 ?_
      refine z_goto (tgt := 136) dX13_readsNote_127 (by decide) ?_
      exact y_sub (wX13_readsNote_j136_103 hd g_a0 hf hk) (z_le_c rfl (z_le_n (z_le_c rfl (z_le_c rfl (z_le_c rfl z_le_0)))))
def fX13_readsNote_j232 (a0 : Nat) (I : Nat → Nat → Int32) (R : Nat → Nat → Nat) : Option (Int32 × (Nat → Nat → Int32)) :=
  z_b (fX13_here a0 I R) (fun q25 => if q25 = (44 : Int32) then (z_g (z_ok 1 (R a0 36) ((I a0 40) - (1 : Int32))) (z_l (z_u I (R a0 36) ((I a0 40) - (1 : Int32)).toNatClampNeg (1 : Int32)) (fun I28 => z_l (z_u I28 a0 12 ((I28 a0 12) + (1 : Int32))) (fun I29 => some ((1 : Int32), I29))))) else (some ((1 : Int32), I)))
theorem wX13_readsNote_j232 {G : z_G} {d : Nat} {Q : Option Value → z_S → z_H → Prop} {a0 : Nat} {I : Nat → Nat → Int32} {R : Nat → Nat → Nat} {o : Int32 × (Nat → Nat → Int32)} (hd : 1 ≤ d) (g_a0 : z_ob a0 13) (hf : fX13_readsNote_j232 a0 I R = some o) (hk : Q (some (.int o.1)) z_SH (o.2, R)) : z_W G eX13_readsNote d 0 0 232 [some (.ref a0), none, none, none, none] [] z_SH (I, R) Q := by
  unfold fX13_readsNote_j232 at hf
  refine z_aload_n dX13_readsNote_232 rfl rfl (z_okl g_a0) ?_
  obtain ⟨q25, hq25, hf⟩ := z_b_el hf
  refine y_cVi (av := []) (Nat.le_trans (Nat.le_of_ble_eq_true rfl) hd) (wX13_here (z_dl rfl hd) hq25) oX13_here lmX13_156 iX13_here g_a0 rfl _ rfl rfl (Nat.le_of_ble_eq_true rfl) dX13_readsNote_233 ?_
  refine z_bipush dX13_readsNote_236 kb_44 ?_
  refine z_icmp_ne (tgt := 263) dX13_readsNote_238 (by decide) (fun c26 => ?_) (fun c26 => ?_)
  · have hf := z_if_f hf c26
    refine z_iconst dX13_readsNote_263 kc_1 ?_
    cases hf
    exact z_iret hk ⟨_, rfl, rfl⟩ dX13_readsNote_264
  · have hf := z_if_t hf c26
    refine z_aload_n dX13_readsNote_241 rfl rfl (z_okl g_a0) ?_
    refine y_getR lfX13_83 rfl g_a0 dX13_readsNote_242 ?_
    refine z_aload_n dX13_readsNote_245 rfl rfl (z_okl g_a0) ?_
    refine y_getI lfX13_252 rfl g_a0 dX13_readsNote_246 ?_
    refine z_iconst dX13_readsNote_249 kc_1 ?_
    refine z_isub dX13_readsNote_250 ?_
    refine z_iconst dX13_readsNote_251 kc_1 ?_
    obtain ⟨g27, hf⟩ := z_g_el hf
    refine y_iast g27 dX13_readsNote_252 (fun I28 eI28 => ?_)
    have hf := z_l_el hf eI28
    refine z_aload_n dX13_readsNote_253 rfl rfl (z_okl g_a0) ?_
    refine z_aload_n dX13_readsNote_254 rfl rfl (z_okl g_a0) ?_
    refine y_getI lfX13_150 rfl g_a0 dX13_readsNote_255 ?_
    refine z_iconst dX13_readsNote_258 kc_1 ?_
    refine z_iadd dX13_readsNote_259 ?_
    refine y_putI lfX13_150 rfl g_a0 rfl rfl rfl dX13_readsNote_260 (fun I29 eI29 => ?_)
    have hf := z_l_el hf eI29
    refine z_iconst dX13_readsNote_263 kc_1 ?_
    cases hf
    exact z_iret hk ⟨_, rfl, rfl⟩ dX13_readsNote_264
def fX13_readsNote_j81 (a0 : Nat) (y1 : Int32) (y2 : Int32) (y3 : Int32) (I : Nat → Nat → Int32) (R : Nat → Nat → Nat) : Option (Int32 × (Nat → Nat → Int32)) :=
  if ((I a0 40) + y3) ≤ (60 : Int32) then (z_b (z_lp (fX13_readsNote_b103 a0 y2 y3 R) 300 ((0 : Int32), I)) (fun q21 => z_l (z_u q21 a0 40 ((q21 a0 40) + y3)) (fun I22 => z_b (fX13_here a0 I22 R) (fun q23 => if q23 = (94 : Int32) then (z_g (z_ok 1 (R a0 35) ((I22 a0 40) - (1 : Int32))) (z_l (z_u I22 (R a0 35) ((I22 a0 40) - (1 : Int32)).toNatClampNeg (1 : Int32)) (fun I31 => z_l (z_u I31 a0 12 ((I31 a0 12) + (1 : Int32))) (fun I32 => fX13_readsNote_j232 a0 I32 R)))) else (fX13_readsNote_j232 a0 I22 R))))) else (z_b (fX13_wrongAt a0 (6 : Int32) y1 I) (fun q33 => z_g (q33.1 = 0 ∨ q33.1 = 1) (some (q33.1, q33.2))))
theorem wX13_readsNote_j81 {G : z_G} {d : Nat} {Q : Option Value → z_S → z_H → Prop} {a0 : Nat} {y1 : Int32} {y2 : Int32} {y3 : Int32} {I : Nat → Nat → Int32} {R : Nat → Nat → Nat} {o : Int32 × (Nat → Nat → Int32)} (hd : 1 ≤ d) (g_a0 : z_ob a0 13) (hf : fX13_readsNote_j81 a0 y1 y2 y3 I R = some o) (hk : Q (some (.int o.1)) z_SH (o.2, R)) : z_W G eX13_readsNote d 0 0 81 [some (.ref a0), some (.int y1), some (.int y2), some (.int y3), none] [] z_SH (I, R) Q := by
  unfold fX13_readsNote_j81 at hf
  refine z_aload_n dX13_readsNote_81 rfl rfl (z_okl g_a0) ?_
  refine y_getI lfX13_252 rfl g_a0 dX13_readsNote_82 ?_
  refine z_iload_n dX13_readsNote_85 rfl rfl ?_
  refine z_iadd dX13_readsNote_86 ?_
  refine z_bipush dX13_readsNote_87 kb_60 ?_
  refine z_icmp_le (tgt := 100) dX13_readsNote_89 (by decide) (fun c8 => ?_) (fun c8 => ?_)
  · have hf := z_if_t hf c8
    refine z_iconst dX13_readsNote_100 kc_0 ?_
    refine y_istore0 [some (.ref a0), some (.int y1), some (.int y2), some (.int y3), some (.int (0 : Int32))] dX13_readsNote_101 (by decide) rfl ?_
    obtain ⟨q21, hq21, hf⟩ := z_b_el hf
    refine y_sub (lv' := [some (.ref a0), none, some (.int y2), some (.int y3), some (.int (0 : Int32))]) ?_ (z_le_c rfl (z_le_n (z_le_c rfl (z_le_c rfl (z_le_c rfl z_le_0)))))
    refine z_lp_el (P := (fun s : Int32 × (Nat → Nat → Int32) => z_W G eX13_readsNote d 0 0 103 [some (.ref a0), none, some (.int y2), some (.int y3), some (.int s.1)] [] z_SH (s.2, R) Q)) (E := (fun x : (Nat → Nat → Int32) => z_W G eX13_readsNote d 0 0 191 [some (.ref a0), none, none, some (.int y3), none] [] z_SH (x, R) Q)) (wX13_readsNote_b103 hd g_a0) 300 ((0 : Int32), I) q21 hq21 ?_
    show z_W G eX13_readsNote d 0 0 191 [some (.ref a0), none, none, some (.int y3), none] [] z_SH (q21, R) _
    refine z_aload_n dX13_readsNote_191 rfl rfl (z_okl g_a0) ?_
    refine z_aload_n dX13_readsNote_192 rfl rfl (z_okl g_a0) ?_
    refine y_getI lfX13_252 rfl g_a0 dX13_readsNote_193 ?_
    refine z_iload_n dX13_readsNote_196 rfl rfl ?_
    refine z_iadd dX13_readsNote_197 ?_
    refine y_putI lfX13_252 rfl g_a0 rfl rfl rfl dX13_readsNote_198 (fun I22 eI22 => ?_)
    have hf := z_l_el hf eI22
    refine z_aload_n dX13_readsNote_201 rfl rfl (z_okl g_a0) ?_
    obtain ⟨q23, hq23, hf⟩ := z_b_el hf
    refine y_cVi (av := []) (Nat.le_trans (Nat.le_of_ble_eq_true rfl) hd) (wX13_here (z_dl rfl hd) hq23) oX13_here lmX13_156 iX13_here g_a0 rfl _ rfl rfl (Nat.le_of_ble_eq_true rfl) dX13_readsNote_202 ?_
    refine z_bipush dX13_readsNote_205 kb_94 ?_
    refine z_icmp_ne (tgt := 232) dX13_readsNote_207 (by decide) (fun c24 => ?_) (fun c24 => ?_)
    · have hf := z_if_f hf c24
      exact y_sub (wX13_readsNote_j232 hd g_a0 hf hk) (z_le_c rfl (z_le_n (z_le_n (z_le_n (z_le_n z_le_0)))))
    · have hf := z_if_t hf c24
      refine z_aload_n dX13_readsNote_210 rfl rfl (z_okl g_a0) ?_
      refine y_getR lfX13_80 rfl g_a0 dX13_readsNote_211 ?_
      refine z_aload_n dX13_readsNote_214 rfl rfl (z_okl g_a0) ?_
      refine y_getI lfX13_252 rfl g_a0 dX13_readsNote_215 ?_
      refine z_iconst dX13_readsNote_218 kc_1 ?_
      refine z_isub dX13_readsNote_219 ?_
      refine z_iconst dX13_readsNote_220 kc_1 ?_
      obtain ⟨g30, hf⟩ := z_g_el hf
      refine y_iast g30 dX13_readsNote_221 (fun I31 eI31 => ?_)
      have hf := z_l_el hf eI31
      refine z_aload_n dX13_readsNote_222 rfl rfl (z_okl g_a0) ?_
      refine z_aload_n dX13_readsNote_223 rfl rfl (z_okl g_a0) ?_
      refine y_getI lfX13_150 rfl g_a0 dX13_readsNote_224 ?_
      refine z_iconst dX13_readsNote_227 kc_1 ?_
      refine z_iadd dX13_readsNote_228 ?_
      refine y_putI lfX13_150 rfl g_a0 rfl rfl rfl dX13_readsNote_229 (fun I32 eI32 => ?_)
      have hf := z_l_el hf eI32
      exact y_sub (wX13_readsNote_j232 hd g_a0 hf hk) (z_le_c rfl (z_le_n (z_le_n (z_le_n (z_le_n z_le_0)))))
  · have hf := z_if_f hf c8
    refine z_aload_n dX13_readsNote_92 rfl rfl (z_okl g_a0) ?_
    refine z_bipush dX13_readsNote_93 kb_6 ?_
    refine z_iload_n dX13_readsNote_95 rfl rfl ?_
    obtain ⟨q33, hq33, hf⟩ := z_b_el hf
    refine y_cVi (av := [.int (6 : Int32), .int y1]) (Nat.le_trans (Nat.le_of_ble_eq_true rfl) hd) (wX13_wrongAt (z_dl rfl hd) hq33) oX13_wrongAt lmX13_162 iX13_wrongAt g_a0 rfl _ rfl rfl (Nat.le_of_ble_eq_true rfl) dX13_readsNote_96 ?_
    obtain ⟨g34, hf⟩ := z_g_el hf
    cases hf
    exact z_iret hk ⟨_, rfl, z_bn g34⟩ dX13_readsNote_99
def fX13_readsNote_j37 (a0 : Nat) (y1 : Int32) (y2 : Int32) (I : Nat → Nat → Int32) (R : Nat → Nat → Nat) : Option (Int32 × (Nat → Nat → Int32)) :=
  z_l (z_u I a0 12 ((I a0 12) + (1 : Int32))) (fun I4 => z_b (fX13_here a0 I4 R) (fun q5 => z_b (fX13_in q5 (50 : Int32) (57 : Int32)) (fun q6 => if q6 = 0 then (fX13_readsNote_j81 a0 y1 y2 (1 : Int32) I4 R) else (z_b (fX13_here a0 I4 R) (fun q35 => z_l (q35 - (48 : Int32)) (fun t36 => z_l (z_u I4 a0 12 ((I4 a0 12) + (1 : Int32))) (fun I37 => fX13_readsNote_j81 a0 y1 y2 t36 I37 R)))))))
theorem wX13_readsNote_j37 {G : z_G} {d : Nat} {Q : Option Value → z_S → z_H → Prop} {a0 : Nat} {y1 : Int32} {y2 : Int32} {I : Nat → Nat → Int32} {R : Nat → Nat → Nat} {o : Int32 × (Nat → Nat → Int32)} (hd : 1 ≤ d) (g_a0 : z_ob a0 13) (hf : fX13_readsNote_j37 a0 y1 y2 I R = some o) (hk : Q (some (.int o.1)) z_SH (o.2, R)) : z_W G eX13_readsNote d 0 0 37 [some (.ref a0), some (.int y1), some (.int y2), none, none] [] z_SH (I, R) Q := by
  unfold fX13_readsNote_j37 at hf
  refine z_aload_n dX13_readsNote_37 rfl rfl (z_okl g_a0) ?_
  refine z_aload_n dX13_readsNote_38 rfl rfl (z_okl g_a0) ?_
  refine y_getI lfX13_150 rfl g_a0 dX13_readsNote_39 ?_
  refine z_iconst dX13_readsNote_42 kc_1 ?_
  refine z_iadd dX13_readsNote_43 ?_
  refine y_putI lfX13_150 rfl g_a0 rfl rfl rfl dX13_readsNote_44 (fun I4 eI4 => ?_)
  have hf := z_l_el hf eI4
  refine z_iconst dX13_readsNote_47 kc_1 ?_
  refine y_istore_n0 [some (.ref a0), some (.int y1), some (.int y2), some (.int (1 : Int32)), none] dX13_readsNote_48 rfl (by decide) rfl ?_
  refine z_aload_n dX13_readsNote_49 rfl rfl (z_okl g_a0) ?_
  obtain ⟨q5, hq5, hf⟩ := z_b_el hf
  refine y_cVi (av := []) (Nat.le_trans (Nat.le_of_ble_eq_true rfl) hd) (wX13_here (z_dl rfl hd) hq5) oX13_here lmX13_156 iX13_here g_a0 rfl _ rfl rfl (Nat.le_of_ble_eq_true rfl) dX13_readsNote_50 ?_
  refine z_bipush dX13_readsNote_53 kb_50 ?_
  refine z_bipush dX13_readsNote_55 kb_57 ?_
  obtain ⟨q6, hq6, hf⟩ := z_b_el hf
  refine y_cSi (Nat.le_trans (Nat.le_of_ble_eq_true rfl) hd) (wX13_in (z_dl rfl hd) hq6) oX13_in lmX13_114 sX13_in _ rfl rfl (Nat.le_of_ble_eq_true rfl) dX13_readsNote_57 ?_
  refine z_if_eq (tgt := 81) dX13_readsNote_60 (by decide) (fun c7 => ?_) (fun c7 => ?_)
  · have hf := z_if_t hf c7
    exact y_sub (wX13_readsNote_j81 hd g_a0 hf hk) (z_le_c rfl (z_le_c rfl (z_le_c rfl (z_le_c rfl (z_le_n z_le_0)))))
  · have hf := z_if_f hf c7
    refine z_aload_n dX13_readsNote_63 rfl rfl (z_okl g_a0) ?_
    obtain ⟨q35, hq35, hf⟩ := z_b_el hf
    refine y_cVi (av := []) (Nat.le_trans (Nat.le_of_ble_eq_true rfl) hd) (wX13_here (z_dl rfl hd) hq35) oX13_here lmX13_156 iX13_here g_a0 rfl _ rfl rfl (Nat.le_of_ble_eq_true rfl) dX13_readsNote_64 ?_
    refine z_bipush dX13_readsNote_67 kb_48 ?_
    refine z_isub dX13_readsNote_69 ?_
    refine y_istore_n (fun t36 => [some (.ref a0), some (.int y1), some (.int y2), some (.int t36), none]) dX13_readsNote_70 rfl (by decide) (fun _ => rfl) (fun t36 et36 => ?_)
    have hf := z_l_el hf et36
    refine z_aload_n dX13_readsNote_71 rfl rfl (z_okl g_a0) ?_
    refine z_aload_n dX13_readsNote_72 rfl rfl (z_okl g_a0) ?_
    refine y_getI lfX13_150 rfl g_a0 dX13_readsNote_73 ?_
    refine z_iconst dX13_readsNote_76 kc_1 ?_
    refine z_iadd dX13_readsNote_77 ?_
    refine y_putI lfX13_150 rfl g_a0 rfl rfl rfl dX13_readsNote_78 (fun I37 eI37 => ?_)
    have hf := z_l_el hf eI37
    exact y_sub (wX13_readsNote_j81 hd g_a0 hf hk) (z_le_c rfl (z_le_c rfl (z_le_c rfl (z_le_c rfl (z_le_n z_le_0)))))
def fX13_readsNote (a0 : Nat) (I : Nat → Nat → Int32) (R : Nat → Nat → Nat) : Option (Int32 × (Nat → Nat → Int32)) :=
  z_g (z_ob a0 13) (z_l (I a0 12) (fun t1 => z_b (fX13_here a0 I R) (fun q2 => if q2 = (46 : Int32) then (fX13_readsNote_j37 a0 t1 q2 I R) else (z_b (fX13_in q2 (97 : Int32) (103 : Int32)) (fun q38 => if q38 = 0 then (z_b (fX13_wrongAt a0 (1 : Int32) (I a0 12) I) (fun q40 => z_g (q40.1 = 0 ∨ q40.1 = 1) (some (q40.1, q40.2)))) else (fX13_readsNote_j37 a0 t1 q2 I R))))))
set_option maxRecDepth 20000 in
theorem vX13_readsNote {G : z_G} {d : Nat} {Q : Option Value → z_S → z_H → Prop} {a0 : Nat} {I : Nat → Nat → Int32} {R : Nat → Nat → Nat} {q : Int32 × (Nat → Nat → Int32)} (hd : 1 ≤ d) (hf : fX13_readsNote a0 I R = some q) (hk : Q (some (.int q.1)) z_SH (q.2, R)) : z_W G eX13_readsNote d 0 0 0 [some (.ref a0), none, none, none, none] [] z_SH (I, R) Q := by
  unfold fX13_readsNote at hf
  obtain ⟨g_a0, hf⟩ := z_g_el hf
  refine z_aload_n dX13_readsNote_0 rfl rfl (z_okl g_a0) ?_
  refine y_getI lfX13_150 rfl g_a0 dX13_readsNote_1 ?_
  refine y_istore_n (fun t1 => [some (.ref a0), some (.int t1), none, none, none]) dX13_readsNote_4 rfl (by decide) (fun _ => rfl) (fun t1 et1 => ?_)
  have hf := z_l_el hf et1
  refine z_aload_n dX13_readsNote_5 rfl rfl (z_okl g_a0) ?_
  obtain ⟨q2, hq2, hf⟩ := z_b_el hf
  refine y_cVi (av := []) (Nat.le_trans (Nat.le_of_ble_eq_true rfl) hd) (wX13_here (z_dl rfl hd) hq2) oX13_here lmX13_156 iX13_here g_a0 rfl _ rfl rfl (Nat.le_of_ble_eq_true rfl) dX13_readsNote_6 ?_
  refine y_istore_n0 [some (.ref a0), some (.int t1), some (.int q2), none, none] dX13_readsNote_9 rfl (by decide) rfl ?_
  refine z_iload_n dX13_readsNote_10 rfl rfl ?_
  refine z_bipush dX13_readsNote_11 kb_46 ?_
  refine z_icmp_eq (tgt := 37) dX13_readsNote_13 (by decide) (fun c3 => ?_) (fun c3 => ?_)
  · have hf := z_if_t hf c3
    exact y_sub (wX13_readsNote_j37 hd g_a0 hf hk) (z_le_c rfl (z_le_c rfl (z_le_c rfl (z_le_n (z_le_n z_le_0)))))
  · have hf := z_if_f hf c3
    refine z_iload_n dX13_readsNote_16 rfl rfl ?_
    refine z_bipush dX13_readsNote_17 kb_97 ?_
    refine z_bipush dX13_readsNote_19 kb_103 ?_
    obtain ⟨q38, hq38, hf⟩ := z_b_el hf
    refine y_cSi (Nat.le_trans (Nat.le_of_ble_eq_true rfl) hd) (wX13_in (z_dl rfl hd) hq38) oX13_in lmX13_114 sX13_in _ rfl rfl (Nat.le_of_ble_eq_true rfl) dX13_readsNote_21 ?_
    refine z_if_ne (tgt := 37) dX13_readsNote_24 (by decide) (fun c39 => ?_) (fun c39 => ?_)
    · have hf := z_if_f hf c39
      exact y_sub (wX13_readsNote_j37 hd g_a0 hf hk) (z_le_c rfl (z_le_c rfl (z_le_c rfl (z_le_n (z_le_n z_le_0)))))
    · have hf := z_if_t hf c39
      refine z_aload_n dX13_readsNote_27 rfl rfl (z_okl g_a0) ?_
      refine z_iconst dX13_readsNote_28 kc_1 ?_
      refine z_aload_n dX13_readsNote_29 rfl rfl (z_okl g_a0) ?_
      refine y_getI lfX13_150 rfl g_a0 dX13_readsNote_30 ?_
      obtain ⟨q40, hq40, hf⟩ := z_b_el hf
      refine y_cVi (av := [.int (1 : Int32), .int (I a0 12)]) (Nat.le_trans (Nat.le_of_ble_eq_true rfl) hd) (wX13_wrongAt (z_dl rfl hd) hq40) oX13_wrongAt lmX13_162 iX13_wrongAt g_a0 rfl _ rfl rfl (Nat.le_of_ble_eq_true rfl) dX13_readsNote_33 ?_
      obtain ⟨g41, hf⟩ := z_g_el hf
      cases hf
      exact z_iret hk ⟨_, rfl, z_bn g41⟩ dX13_readsNote_36
theorem wX13_readsNote {G : z_G} {d : Nat} {a0 : Nat} {I : Nat → Nat → Int32} {R : Nat → Nat → Nat} {q : Int32 × (Nat → Nat → Int32)} (hd : 1 ≤ d) (hf : fX13_readsNote a0 I R = some q) : z_M G d 0 0 eX13_readsNote [.ref a0] z_SH (I, R) (z_E (some (.int q.1)) (q.2, R)) :=
  y_M_of _ (by decide +kernel) rfl rfl rfl (vX13_readsNote hd hf ⟨rfl, rfl, rfl⟩)
def fX13_endsRound_b129 (a0 : Nat) (z1 : Int32) (z2 : Int32) (z3 : Int32) (R : Nat → Nat → Nat) : (Int32 × (Nat → Nat → Int32)) → Option ((Int32 × (Nat → Nat → Int32)) ⊕ ((Nat → Nat → Int32))) :=
  fun s => (fun (p4 : Int32) (I : Nat → Nat → Int32) => if (z3 * z1) ≤ p4 then (some (.inr I)) else (z_g (z_ok 1 (R a0 34) ((z2 + p4) - z3)) (z_g (z_ok 1 (R a0 34) (z2 + p4)) (z_l (z_u I (R a0 34) (z2 + p4).toNatClampNeg (I (R a0 34) ((z2 + p4) - z3).toNatClampNeg)) (fun I12 => z_g (z_ok 1 (R a0 37) ((z2 + p4) - z3)) (z_g (z_ok 1 (R a0 37) (z2 + p4)) (z_l (z_u I12 (R a0 37) (z2 + p4).toNatClampNeg (I12 (R a0 37) ((z2 + p4) - z3).toNatClampNeg)) (fun I15 => z_g (z_ok 1 (R a0 35) ((z2 + p4) - z3)) (z_g (z_ok 1 (R a0 35) (z2 + p4)) (z_l (z_u I15 (R a0 35) (z2 + p4).toNatClampNeg (I15 (R a0 35) ((z2 + p4) - z3).toNatClampNeg)) (fun I18 => z_g (z_ok 1 (R a0 36) ((z2 + p4) - z3)) (z_g (z_ok 1 (R a0 36) (z2 + p4)) (z_l (z_u I18 (R a0 36) (z2 + p4).toNatClampNeg (I18 (R a0 36) ((z2 + p4) - z3).toNatClampNeg)) (fun I21 => z_l (p4 + (1 : Int32)) (fun t22 => some (.inl (t22, I21))))))))))))))))) s.1 s.2
theorem wX13_endsRound_b129 {G : z_G} {d : Nat} {Q : Option Value → z_S → z_H → Prop} {a0 : Nat} {z1 : Int32} {z2 : Int32} {z3 : Int32} {R : Nat → Nat → Nat} (hd : 1 ≤ d) (g_a0 : z_ob a0 13) : ∀ (s : Int32 × (Nat → Nat → Int32)) (o : (Int32 × (Nat → Nat → Int32)) ⊕ ((Nat → Nat → Int32))), fX13_endsRound_b129 a0 z1 z2 z3 R s = some o → z_or (fun s : Int32 × (Nat → Nat → Int32) => z_W G eX13_endsRound d 0 0 129 [some (.ref a0), some (.int z1), some (.int z2), some (.int z3), some (.int s.1)] [] z_SH (s.2, R) Q) (fun x : (Nat → Nat → Int32) => z_W G eX13_endsRound d 0 0 223 [some (.ref a0), some (.int z1), some (.int z2), some (.int z3), none] [] z_SH (x, R) Q) o → (fun s : Int32 × (Nat → Nat → Int32) => z_W G eX13_endsRound d 0 0 129 [some (.ref a0), some (.int z1), some (.int z2), some (.int z3), some (.int s.1)] [] z_SH (s.2, R) Q) s := by
  rintro ⟨p4, I⟩ o hf hk
  show z_W G eX13_endsRound d 0 0 129 [some (.ref a0), some (.int z1), some (.int z2), some (.int z3), some (.int p4)] [] z_SH (I, R) Q
  unfold fX13_endsRound_b129 at hf
  try dsimp only at hf
  refine z_iload dX13_endsRound_129 rfl ?_
  refine z_iload_n dX13_endsRound_131 rfl rfl ?_
  refine z_iload_n dX13_endsRound_132 rfl rfl ?_
  refine z_imul dX13_endsRound_133 ?_
  refine z_icmp_ge (tgt := 223) dX13_endsRound_134 (by decide) (fun c9 => ?_) (fun c9 => ?_)
  · have hf := z_if_t hf c9
    cases hf
    exact y_sub hk (z_le_c rfl (z_le_c rfl (z_le_c rfl (z_le_c rfl (z_le_n z_le_0)))))
  · have hf := z_if_f hf c9
    refine z_aload_n dX13_endsRound_137 rfl rfl (z_okl g_a0) ?_
    refine y_getR lfX13_77 rfl g_a0 dX13_endsRound_138 ?_
    refine z_iload_n dX13_endsRound_141 rfl rfl ?_
    refine z_iload dX13_endsRound_142 rfl ?_
    refine z_iadd dX13_endsRound_144 ?_
    refine z_aload_n dX13_endsRound_145 rfl rfl (z_okl g_a0) ?_
    refine y_getR lfX13_77 rfl g_a0 dX13_endsRound_146 ?_
    refine z_iload_n dX13_endsRound_149 rfl rfl ?_
    refine z_iload dX13_endsRound_150 rfl ?_
    refine z_iadd dX13_endsRound_152 ?_
    refine z_iload_n dX13_endsRound_153 rfl rfl ?_
    refine z_isub dX13_endsRound_154 ?_
    obtain ⟨g10, hf⟩ := z_g_el hf
    refine y_iald g10 dX13_endsRound_155 ?_
    obtain ⟨g11, hf⟩ := z_g_el hf
    refine y_iast g11 dX13_endsRound_156 (fun I12 eI12 => ?_)
    have hf := z_l_el hf eI12
    refine z_aload_n dX13_endsRound_157 rfl rfl (z_okl g_a0) ?_
    refine y_getR lfX13_86 rfl g_a0 dX13_endsRound_158 ?_
    refine z_iload_n dX13_endsRound_161 rfl rfl ?_
    refine z_iload dX13_endsRound_162 rfl ?_
    refine z_iadd dX13_endsRound_164 ?_
    refine z_aload_n dX13_endsRound_165 rfl rfl (z_okl g_a0) ?_
    refine y_getR lfX13_86 rfl g_a0 dX13_endsRound_166 ?_
    refine z_iload_n dX13_endsRound_169 rfl rfl ?_
    refine z_iload dX13_endsRound_170 rfl ?_
    refine z_iadd dX13_endsRound_172 ?_
    refine z_iload_n dX13_endsRound_173 rfl rfl ?_
    refine z_isub dX13_endsRound_174 ?_
    obtain ⟨g13, hf⟩ := z_g_el hf
    refine y_iald g13 dX13_endsRound_175 ?_
    obtain ⟨g14, hf⟩ := z_g_el hf
    refine y_iast g14 dX13_endsRound_176 (fun I15 eI15 => ?_)
    have hf := z_l_el hf eI15
    refine z_aload_n dX13_endsRound_177 rfl rfl (z_okl g_a0) ?_
    refine y_getR lfX13_80 rfl g_a0 dX13_endsRound_178 ?_
    refine z_iload_n dX13_endsRound_181 rfl rfl ?_
    refine z_iload dX13_endsRound_182 rfl ?_
    refine z_iadd dX13_endsRound_184 ?_
    refine z_aload_n dX13_endsRound_185 rfl rfl (z_okl g_a0) ?_
    refine y_getR lfX13_80 rfl g_a0 dX13_endsRound_186 ?_
    refine z_iload_n dX13_endsRound_189 rfl rfl ?_
    refine z_iload dX13_endsRound_190 rfl ?_
    refine z_iadd dX13_endsRound_192 ?_
    refine z_iload_n dX13_endsRound_193 rfl rfl ?_
    refine z_isub dX13_endsRound_194 ?_
    obtain ⟨g16, hf⟩ := z_g_el hf
    refine y_iald g16 dX13_endsRound_195 ?_
    obtain ⟨g17, hf⟩ := z_g_el hf
    refine y_iast g17 dX13_endsRound_196 (fun I18 eI18 => ?_)
    have hf := z_l_el hf eI18
    refine z_aload_n dX13_endsRound_197 rfl rfl (z_okl g_a0) ?_
    refine y_getR lfX13_83 rfl g_a0 dX13_endsRound_198 ?_
    refine z_iload_n dX13_endsRound_201 rfl rfl ?_
    refine z_iload dX13_endsRound_202 rfl ?_
    refine z_iadd dX13_endsRound_204 ?_
    refine z_aload_n dX13_endsRound_205 rfl rfl (z_okl g_a0) ?_
    refine y_getR lfX13_83 rfl g_a0 dX13_endsRound_206 ?_
    refine z_iload_n dX13_endsRound_209 rfl rfl ?_
    refine z_iload dX13_endsRound_210 rfl ?_
    refine z_iadd dX13_endsRound_212 ?_
    refine z_iload_n dX13_endsRound_213 rfl rfl ?_
    refine z_isub dX13_endsRound_214 ?_
    obtain ⟨g19, hf⟩ := z_g_el hf
    refine y_iald g19 dX13_endsRound_215 ?_
    obtain ⟨g20, hf⟩ := z_g_el hf
    refine y_iast g20 dX13_endsRound_216 (fun I21 eI21 => ?_)
    have hf := z_l_el hf eI21
    refine y_iinc (fun t22 => [some (.ref a0), some (.int z1), some (.int z2), some (.int z3), some (.int t22)]) dX13_endsRound_217 rfl kc_1 (by decide) (fun _ => rfl) (fun t22 et22 => ?_)
    have hf := z_l_el hf et22
    refine z_goto (tgt := 129) dX13_endsRound_220 (by decide) ?_
    cases hf
    exact y_sub hk (z_le_c rfl (z_le_c rfl (z_le_c rfl (z_le_c rfl (z_le_c rfl z_le_0)))))
def fX13_endsRound_j73 (a0 : Nat) (y1 : Int32) (I : Nat → Nat → Int32) (R : Nat → Nat → Nat) : Option (Int32 × (Nat → Nat → Int32)) :=
  z_l (z_u I a0 41 ((I a0 41) - (1 : Int32))) (fun I4 => z_g (z_ok 1 (R a0 39) (I4 a0 41)) (z_l (I4 (R a0 39) (I4 a0 41).toNatClampNeg) (fun t6 => z_l ((I4 a0 40) - t6) (fun t7 => if (t6 + (t7 * y1)) ≤ (60 : Int32) then (z_b (z_lp (fX13_endsRound_b129 a0 y1 t6 t7 R) 300 (t7, I4)) (fun q23 => z_l (z_u q23 a0 40 (t6 + (t7 * y1))) (fun I24 => some ((1 : Int32), I24)))) else (z_g (z_ok 1 (R a0 38) (I4 a0 41)) (z_b (fX13_wrongAt a0 (6 : Int32) (I4 (R a0 38) (I4 a0 41).toNatClampNeg) I4) (fun q26 => z_g (q26.1 = 0 ∨ q26.1 = 1) (some (q26.1, q26.2)))))))))
theorem wX13_endsRound_j73 {G : z_G} {d : Nat} {Q : Option Value → z_S → z_H → Prop} {a0 : Nat} {y1 : Int32} {I : Nat → Nat → Int32} {R : Nat → Nat → Nat} {o : Int32 × (Nat → Nat → Int32)} (hd : 1 ≤ d) (g_a0 : z_ob a0 13) (hf : fX13_endsRound_j73 a0 y1 I R = some o) (hk : Q (some (.int o.1)) z_SH (o.2, R)) : z_W G eX13_endsRound d 0 0 73 [some (.ref a0), some (.int y1), none, none, none] [] z_SH (I, R) Q := by
  unfold fX13_endsRound_j73 at hf
  refine z_aload_n dX13_endsRound_73 rfl rfl (z_okl g_a0) ?_
  refine z_aload_n dX13_endsRound_74 rfl rfl (z_okl g_a0) ?_
  refine y_getI lfX13_255 rfl g_a0 dX13_endsRound_75 ?_
  refine z_iconst dX13_endsRound_78 kc_1 ?_
  refine z_isub dX13_endsRound_79 ?_
  refine y_putI lfX13_255 rfl g_a0 rfl rfl rfl dX13_endsRound_80 (fun I4 eI4 => ?_)
  have hf := z_l_el hf eI4
  refine z_aload_n dX13_endsRound_83 rfl rfl (z_okl g_a0) ?_
  refine y_getR lfX13_92 rfl g_a0 dX13_endsRound_84 ?_
  refine z_aload_n dX13_endsRound_87 rfl rfl (z_okl g_a0) ?_
  refine y_getI lfX13_255 rfl g_a0 dX13_endsRound_88 ?_
  obtain ⟨g5, hf⟩ := z_g_el hf
  refine y_iald g5 dX13_endsRound_91 ?_
  refine y_istore_n (fun t6 => [some (.ref a0), some (.int y1), some (.int t6), none, none]) dX13_endsRound_92 rfl (by decide) (fun _ => rfl) (fun t6 et6 => ?_)
  have hf := z_l_el hf et6
  refine z_aload_n dX13_endsRound_93 rfl rfl (z_okl g_a0) ?_
  refine y_getI lfX13_252 rfl g_a0 dX13_endsRound_94 ?_
  refine z_iload_n dX13_endsRound_97 rfl rfl ?_
  refine z_isub dX13_endsRound_98 ?_
  refine y_istore_n (fun t7 => [some (.ref a0), some (.int y1), some (.int t6), some (.int t7), none]) dX13_endsRound_99 rfl (by decide) (fun _ => rfl) (fun t7 et7 => ?_)
  have hf := z_l_el hf et7
  refine z_iload_n dX13_endsRound_100 rfl rfl ?_
  refine z_iload_n dX13_endsRound_101 rfl rfl ?_
  refine z_iload_n dX13_endsRound_102 rfl rfl ?_
  refine z_imul dX13_endsRound_103 ?_
  refine z_iadd dX13_endsRound_104 ?_
  refine z_bipush dX13_endsRound_105 kb_60 ?_
  refine z_icmp_le (tgt := 126) dX13_endsRound_107 (by decide) (fun c8 => ?_) (fun c8 => ?_)
  · have hf := z_if_t hf c8
    refine z_iload_n dX13_endsRound_126 rfl rfl ?_
    refine y_istore0 [some (.ref a0), some (.int y1), some (.int t6), some (.int t7), some (.int t7)] dX13_endsRound_127 (by decide) rfl ?_
    obtain ⟨q23, hq23, hf⟩ := z_b_el hf
    refine y_sub (lv' := [some (.ref a0), some (.int y1), some (.int t6), some (.int t7), some (.int t7)]) ?_ (z_le_c rfl (z_le_c rfl (z_le_c rfl (z_le_c rfl (z_le_c rfl z_le_0)))))
    refine z_lp_el (P := (fun s : Int32 × (Nat → Nat → Int32) => z_W G eX13_endsRound d 0 0 129 [some (.ref a0), some (.int y1), some (.int t6), some (.int t7), some (.int s.1)] [] z_SH (s.2, R) Q)) (E := (fun x : (Nat → Nat → Int32) => z_W G eX13_endsRound d 0 0 223 [some (.ref a0), some (.int y1), some (.int t6), some (.int t7), none] [] z_SH (x, R) Q)) (wX13_endsRound_b129 hd g_a0) 300 (t7, I4) q23 hq23 ?_
    show z_W G eX13_endsRound d 0 0 223 [some (.ref a0), some (.int y1), some (.int t6), some (.int t7), none] [] z_SH (q23, R) _
    refine z_aload_n dX13_endsRound_223 rfl rfl (z_okl g_a0) ?_
    refine z_iload_n dX13_endsRound_224 rfl rfl ?_
    refine z_iload_n dX13_endsRound_225 rfl rfl ?_
    refine z_iload_n dX13_endsRound_226 rfl rfl ?_
    refine z_imul dX13_endsRound_227 ?_
    refine z_iadd dX13_endsRound_228 ?_
    refine y_putI lfX13_252 rfl g_a0 rfl rfl rfl dX13_endsRound_229 (fun I24 eI24 => ?_)
    have hf := z_l_el hf eI24
    refine z_iconst dX13_endsRound_232 kc_1 ?_
    cases hf
    exact z_iret hk ⟨_, rfl, rfl⟩ dX13_endsRound_233
  · have hf := z_if_f hf c8
    refine z_aload_n dX13_endsRound_110 rfl rfl (z_okl g_a0) ?_
    refine z_bipush dX13_endsRound_111 kb_6 ?_
    refine z_aload_n dX13_endsRound_113 rfl rfl (z_okl g_a0) ?_
    refine y_getR lfX13_89 rfl g_a0 dX13_endsRound_114 ?_
    refine z_aload_n dX13_endsRound_117 rfl rfl (z_okl g_a0) ?_
    refine y_getI lfX13_255 rfl g_a0 dX13_endsRound_118 ?_
    obtain ⟨g25, hf⟩ := z_g_el hf
    refine y_iald g25 dX13_endsRound_121 ?_
    obtain ⟨q26, hq26, hf⟩ := z_b_el hf
    refine y_cVi (av := [.int (6 : Int32), .int (I4 (R a0 38) (I4 a0 41).toNatClampNeg)]) (Nat.le_trans (Nat.le_of_ble_eq_true rfl) hd) (wX13_wrongAt (z_dl rfl hd) hq26) oX13_wrongAt lmX13_162 iX13_wrongAt g_a0 rfl _ rfl rfl (Nat.le_of_ble_eq_true rfl) dX13_endsRound_122 ?_
    obtain ⟨g27, hf⟩ := z_g_el hf
    cases hf
    exact z_iret hk ⟨_, rfl, z_bn g27⟩ dX13_endsRound_125
def fX13_endsRound (a0 : Nat) (I : Nat → Nat → Int32) (R : Nat → Nat → Nat) : Option (Int32 × (Nat → Nat → Int32)) :=
  z_g (z_ob a0 13) (z_l (z_u I a0 12 ((I a0 12) + (1 : Int32))) (fun I1 => z_b (fX13_here a0 I1 R) (fun q2 => if q2 = (120 : Int32) then (z_l (z_u I1 a0 12 ((I1 a0 12) + (1 : Int32))) (fun I28 => z_b (fX13_here a0 I28 R) (fun q29 => z_b (fX13_in q29 (50 : Int32) (57 : Int32)) (fun q30 => if q30 = 0 then (z_b (fX13_wrongAt a0 (1 : Int32) (I28 a0 12) I28) (fun q35 => z_g (q35.1 = 0 ∨ q35.1 = 1) (some (q35.1, q35.2)))) else (z_b (fX13_here a0 I28 R) (fun q32 => z_l (q32 - (48 : Int32)) (fun t33 => z_l (z_u I28 a0 12 ((I28 a0 12) + (1 : Int32))) (fun I34 => fX13_endsRound_j73 a0 t33 I34 R)))))))) else (fX13_endsRound_j73 a0 (1 : Int32) I1 R))))
set_option maxRecDepth 20000 in
theorem vX13_endsRound {G : z_G} {d : Nat} {Q : Option Value → z_S → z_H → Prop} {a0 : Nat} {I : Nat → Nat → Int32} {R : Nat → Nat → Nat} {q : Int32 × (Nat → Nat → Int32)} (hd : 1 ≤ d) (hf : fX13_endsRound a0 I R = some q) (hk : Q (some (.int q.1)) z_SH (q.2, R)) : z_W G eX13_endsRound d 0 0 0 [some (.ref a0), none, none, none, none] [] z_SH (I, R) Q := by
  unfold fX13_endsRound at hf
  obtain ⟨g_a0, hf⟩ := z_g_el hf
  refine z_aload_n dX13_endsRound_0 rfl rfl (z_okl g_a0) ?_
  refine z_aload_n dX13_endsRound_1 rfl rfl (z_okl g_a0) ?_
  refine y_getI lfX13_150 rfl g_a0 dX13_endsRound_2 ?_
  refine z_iconst dX13_endsRound_5 kc_1 ?_
  refine z_iadd dX13_endsRound_6 ?_
  refine y_putI lfX13_150 rfl g_a0 rfl rfl rfl dX13_endsRound_7 (fun I1 eI1 => ?_)
  have hf := z_l_el hf eI1
  refine z_iconst dX13_endsRound_10 kc_1 ?_
  refine y_istore_n0 [some (.ref a0), some (.int (1 : Int32)), none, none, none] dX13_endsRound_11 rfl (by decide) rfl ?_
  refine z_aload_n dX13_endsRound_12 rfl rfl (z_okl g_a0) ?_
  obtain ⟨q2, hq2, hf⟩ := z_b_el hf
  refine y_cVi (av := []) (Nat.le_trans (Nat.le_of_ble_eq_true rfl) hd) (wX13_here (z_dl rfl hd) hq2) oX13_here lmX13_156 iX13_here g_a0 rfl _ rfl rfl (Nat.le_of_ble_eq_true rfl) dX13_endsRound_13 ?_
  refine z_bipush dX13_endsRound_16 kb_120 ?_
  refine z_icmp_ne (tgt := 73) dX13_endsRound_18 (by decide) (fun c3 => ?_) (fun c3 => ?_)
  · have hf := z_if_f hf c3
    exact y_sub (wX13_endsRound_j73 hd g_a0 hf hk) (z_le_c rfl (z_le_c rfl (z_le_n (z_le_n (z_le_n z_le_0)))))
  · have hf := z_if_t hf c3
    refine z_aload_n dX13_endsRound_21 rfl rfl (z_okl g_a0) ?_
    refine z_aload_n dX13_endsRound_22 rfl rfl (z_okl g_a0) ?_
    refine y_getI lfX13_150 rfl g_a0 dX13_endsRound_23 ?_
    refine z_iconst dX13_endsRound_26 kc_1 ?_
    refine z_iadd dX13_endsRound_27 ?_
    refine y_putI lfX13_150 rfl g_a0 rfl rfl rfl dX13_endsRound_28 (fun I28 eI28 => ?_)
    have hf := z_l_el hf eI28
    refine z_aload_n dX13_endsRound_31 rfl rfl (z_okl g_a0) ?_
    obtain ⟨q29, hq29, hf⟩ := z_b_el hf
    refine y_cVi (av := []) (Nat.le_trans (Nat.le_of_ble_eq_true rfl) hd) (wX13_here (z_dl rfl hd) hq29) oX13_here lmX13_156 iX13_here g_a0 rfl _ rfl rfl (Nat.le_of_ble_eq_true rfl) dX13_endsRound_32 ?_
    refine z_bipush dX13_endsRound_35 kb_50 ?_
    refine z_bipush dX13_endsRound_37 kb_57 ?_
    obtain ⟨q30, hq30, hf⟩ := z_b_el hf
    refine y_cSi (Nat.le_trans (Nat.le_of_ble_eq_true rfl) hd) (wX13_in (z_dl rfl hd) hq30) oX13_in lmX13_114 sX13_in _ rfl rfl (Nat.le_of_ble_eq_true rfl) dX13_endsRound_39 ?_
    refine z_if_ne (tgt := 55) dX13_endsRound_42 (by decide) (fun c31 => ?_) (fun c31 => ?_)
    · have hf := z_if_f hf c31
      refine z_aload_n dX13_endsRound_55 rfl rfl (z_okl g_a0) ?_
      obtain ⟨q32, hq32, hf⟩ := z_b_el hf
      refine y_cVi (av := []) (Nat.le_trans (Nat.le_of_ble_eq_true rfl) hd) (wX13_here (z_dl rfl hd) hq32) oX13_here lmX13_156 iX13_here g_a0 rfl _ rfl rfl (Nat.le_of_ble_eq_true rfl) dX13_endsRound_56 ?_
      refine z_bipush dX13_endsRound_59 kb_48 ?_
      refine z_isub dX13_endsRound_61 ?_
      refine y_istore_n (fun t33 => [some (.ref a0), some (.int t33), none, none, none]) dX13_endsRound_62 rfl (by decide) (fun _ => rfl) (fun t33 et33 => ?_)
      have hf := z_l_el hf et33
      refine z_aload_n dX13_endsRound_63 rfl rfl (z_okl g_a0) ?_
      refine z_aload_n dX13_endsRound_64 rfl rfl (z_okl g_a0) ?_
      refine y_getI lfX13_150 rfl g_a0 dX13_endsRound_65 ?_
      refine z_iconst dX13_endsRound_68 kc_1 ?_
      refine z_iadd dX13_endsRound_69 ?_
      refine y_putI lfX13_150 rfl g_a0 rfl rfl rfl dX13_endsRound_70 (fun I34 eI34 => ?_)
      have hf := z_l_el hf eI34
      exact y_sub (wX13_endsRound_j73 hd g_a0 hf hk) (z_le_c rfl (z_le_c rfl (z_le_n (z_le_n (z_le_n z_le_0)))))
    · have hf := z_if_t hf c31
      refine z_aload_n dX13_endsRound_45 rfl rfl (z_okl g_a0) ?_
      refine z_iconst dX13_endsRound_46 kc_1 ?_
      refine z_aload_n dX13_endsRound_47 rfl rfl (z_okl g_a0) ?_
      refine y_getI lfX13_150 rfl g_a0 dX13_endsRound_48 ?_
      obtain ⟨q35, hq35, hf⟩ := z_b_el hf
      refine y_cVi (av := [.int (1 : Int32), .int (I28 a0 12)]) (Nat.le_trans (Nat.le_of_ble_eq_true rfl) hd) (wX13_wrongAt (z_dl rfl hd) hq35) oX13_wrongAt lmX13_162 iX13_wrongAt g_a0 rfl _ rfl rfl (Nat.le_of_ble_eq_true rfl) dX13_endsRound_51 ?_
      obtain ⟨g36, hf⟩ := z_g_el hf
      cases hf
      exact z_iret hk ⟨_, rfl, z_bn g36⟩ dX13_endsRound_54
theorem wX13_endsRound {G : z_G} {d : Nat} {a0 : Nat} {I : Nat → Nat → Int32} {R : Nat → Nat → Nat} {q : Int32 × (Nat → Nat → Int32)} (hd : 1 ≤ d) (hf : fX13_endsRound a0 I R = some q) : z_M G d 0 0 eX13_endsRound [.ref a0] z_SH (I, R) (z_E (some (.int q.1)) (q.2, R)) :=
  y_M_of _ (by decide +kernel) rfl rfl rfl (vX13_endsRound hd hf ⟨rfl, rfl, rfl⟩)
def fX13_readsItem_b0 (a0 : Nat) (R : Nat → Nat → Nat) : ((Nat → Nat → Int32)) → Option (((Nat → Nat → Int32)) ⊕ ((Int32 × (Nat → Nat → Int32)) ⊕ ((Nat → Nat → Int32)))) :=
  fun s => (fun (I : Nat → Nat → Int32) => z_b (fX13_here a0 I R) (fun q1 => if q1 = (40 : Int32) then (if (I a0 41) = (2 : Int32) then (z_b (fX13_wrongAt a0 (5 : Int32) (I a0 12) I) (fun q10 => z_g (q10.1 = 0 ∨ q10.1 = 1) (some (.inr (.inl (q10.1, q10.2)))))) else (z_g (z_ok 1 (R a0 38) (I a0 41)) (z_l (z_u I (R a0 38) (I a0 41).toNatClampNeg (I a0 12)) (fun I5 => z_g (z_ok 1 (R a0 39) (I5 a0 41)) (z_l (z_u I5 (R a0 39) (I5 a0 41).toNatClampNeg (I5 a0 40)) (fun I7 => z_l (z_u I7 a0 41 ((I7 a0 41) + (1 : Int32))) (fun I8 => z_l (z_u I8 a0 12 ((I8 a0 12) + (1 : Int32))) (fun I9 => some (.inl I9))))))))) else (some (.inr (.inr I))))) s
theorem wX13_readsItem_b0 {G : z_G} {d : Nat} {Q : Option Value → z_S → z_H → Prop} {a0 : Nat} {R : Nat → Nat → Nat} (hd : 2 ≤ d) (g_a0 : z_ob a0 13) : ∀ (s : (Nat → Nat → Int32)) (o : ((Nat → Nat → Int32)) ⊕ ((Int32 × (Nat → Nat → Int32)) ⊕ ((Nat → Nat → Int32)))), fX13_readsItem_b0 a0 R s = some o → z_or (fun s : (Nat → Nat → Int32) => z_W G eX13_readsItem d 0 0 0 [some (.ref a0)] [] z_SH (s, R) Q) (z_or (fun r : Int32 × (Nat → Nat → Int32) => Q (some (.int r.1)) z_SH (r.2, R)) (fun x : (Nat → Nat → Int32) => z_W G eX13_readsItem d 0 0 76 [some (.ref a0)] [] z_SH (x, R) Q)) o → (fun s : (Nat → Nat → Int32) => z_W G eX13_readsItem d 0 0 0 [some (.ref a0)] [] z_SH (s, R) Q) s := by
  intro I o hf hk
  show z_W G eX13_readsItem d 0 0 0 [some (.ref a0)] [] z_SH (I, R) Q
  unfold fX13_readsItem_b0 at hf
  try dsimp only at hf
  refine z_aload_n dX13_readsItem_0 rfl rfl (z_okl g_a0) ?_
  obtain ⟨q1, hq1, hf⟩ := z_b_el hf
  refine y_cVi (av := []) (Nat.le_trans (Nat.le_of_ble_eq_true rfl) hd) (wX13_here (z_dl rfl hd) hq1) oX13_here lmX13_156 iX13_here g_a0 rfl _ rfl rfl (Nat.le_of_ble_eq_true rfl) dX13_readsItem_1 ?_
  refine z_bipush dX13_readsItem_4 kb_40 ?_
  refine z_icmp_ne (tgt := 76) dX13_readsItem_6 (by decide) (fun c2 => ?_) (fun c2 => ?_)
  · have hf := z_if_f hf c2
    cases hf
    exact y_sub hk (z_le_c rfl z_le_0)
  · have hf := z_if_t hf c2
    refine z_aload_n dX13_readsItem_9 rfl rfl (z_okl g_a0) ?_
    refine y_getI lfX13_255 rfl g_a0 dX13_readsItem_10 ?_
    refine z_iconst dX13_readsItem_13 kc_2 ?_
    refine z_icmp_ne (tgt := 27) dX13_readsItem_14 (by decide) (fun c3 => ?_) (fun c3 => ?_)
    · have hf := z_if_f hf c3
      refine z_aload_n dX13_readsItem_27 rfl rfl (z_okl g_a0) ?_
      refine y_getR lfX13_89 rfl g_a0 dX13_readsItem_28 ?_
      refine z_aload_n dX13_readsItem_31 rfl rfl (z_okl g_a0) ?_
      refine y_getI lfX13_255 rfl g_a0 dX13_readsItem_32 ?_
      refine z_aload_n dX13_readsItem_35 rfl rfl (z_okl g_a0) ?_
      refine y_getI lfX13_150 rfl g_a0 dX13_readsItem_36 ?_
      obtain ⟨g4, hf⟩ := z_g_el hf
      refine y_iast g4 dX13_readsItem_39 (fun I5 eI5 => ?_)
      have hf := z_l_el hf eI5
      refine z_aload_n dX13_readsItem_40 rfl rfl (z_okl g_a0) ?_
      refine y_getR lfX13_92 rfl g_a0 dX13_readsItem_41 ?_
      refine z_aload_n dX13_readsItem_44 rfl rfl (z_okl g_a0) ?_
      refine y_getI lfX13_255 rfl g_a0 dX13_readsItem_45 ?_
      refine z_aload_n dX13_readsItem_48 rfl rfl (z_okl g_a0) ?_
      refine y_getI lfX13_252 rfl g_a0 dX13_readsItem_49 ?_
      obtain ⟨g6, hf⟩ := z_g_el hf
      refine y_iast g6 dX13_readsItem_52 (fun I7 eI7 => ?_)
      have hf := z_l_el hf eI7
      refine z_aload_n dX13_readsItem_53 rfl rfl (z_okl g_a0) ?_
      refine z_aload_n dX13_readsItem_54 rfl rfl (z_okl g_a0) ?_
      refine y_getI lfX13_255 rfl g_a0 dX13_readsItem_55 ?_
      refine z_iconst dX13_readsItem_58 kc_1 ?_
      refine z_iadd dX13_readsItem_59 ?_
      refine y_putI lfX13_255 rfl g_a0 rfl rfl rfl dX13_readsItem_60 (fun I8 eI8 => ?_)
      have hf := z_l_el hf eI8
      refine z_aload_n dX13_readsItem_63 rfl rfl (z_okl g_a0) ?_
      refine z_aload_n dX13_readsItem_64 rfl rfl (z_okl g_a0) ?_
      refine y_getI lfX13_150 rfl g_a0 dX13_readsItem_65 ?_
      refine z_iconst dX13_readsItem_68 kc_1 ?_
      refine z_iadd dX13_readsItem_69 ?_
      refine y_putI lfX13_150 rfl g_a0 rfl rfl rfl dX13_readsItem_70 (fun I9 eI9 => ?_)
      have hf := z_l_el hf eI9
      refine z_goto (tgt := 0) dX13_readsItem_73 (by decide) ?_
      cases hf
      exact y_sub hk (z_le_c rfl z_le_0)
    · have hf := z_if_t hf c3
      refine z_aload_n dX13_readsItem_17 rfl rfl (z_okl g_a0) ?_
      refine z_iconst dX13_readsItem_18 kc_5 ?_
      refine z_aload_n dX13_readsItem_19 rfl rfl (z_okl g_a0) ?_
      refine y_getI lfX13_150 rfl g_a0 dX13_readsItem_20 ?_
      obtain ⟨q10, hq10, hf⟩ := z_b_el hf
      refine y_cVi (av := [.int (5 : Int32), .int (I a0 12)]) (Nat.le_trans (Nat.le_of_ble_eq_true rfl) hd) (wX13_wrongAt (z_dl rfl hd) hq10) oX13_wrongAt lmX13_162 iX13_wrongAt g_a0 rfl _ rfl rfl (Nat.le_of_ble_eq_true rfl) dX13_readsItem_23 ?_
      obtain ⟨g11, hf⟩ := z_g_el hf
      cases hf
      exact z_iret hk ⟨_, rfl, z_bn g11⟩ dX13_readsItem_26
def fX13_readsItem_b85 (a0 : Nat) (R : Nat → Nat → Nat) : ((Nat → Nat → Int32)) → Option (((Nat → Nat → Int32)) ⊕ ((Int32 × (Nat → Nat → Int32)) ⊕ ((Nat → Nat → Int32)))) :=
  fun s => (fun (I : Nat → Nat → Int32) => z_b (fX13_here a0 I R) (fun q17 => if q17 = (41 : Int32) then (if (I a0 41) ≤ 0 then (some (.inr (.inr I))) else (z_b (fX13_endsRound a0 I R) (fun q20 => if q20.1 = 0 then (some (.inr (.inl ((0 : Int32), q20.2)))) else (some (.inl q20.2))))) else (some (.inr (.inr I))))) s
theorem wX13_readsItem_b85 {G : z_G} {d : Nat} {Q : Option Value → z_S → z_H → Prop} {a0 : Nat} {R : Nat → Nat → Nat} (hd : 2 ≤ d) (g_a0 : z_ob a0 13) : ∀ (s : (Nat → Nat → Int32)) (o : ((Nat → Nat → Int32)) ⊕ ((Int32 × (Nat → Nat → Int32)) ⊕ ((Nat → Nat → Int32)))), fX13_readsItem_b85 a0 R s = some o → z_or (fun s : (Nat → Nat → Int32) => z_W G eX13_readsItem d 0 0 85 [some (.ref a0)] [] z_SH (s, R) Q) (z_or (fun r : Int32 × (Nat → Nat → Int32) => Q (some (.int r.1)) z_SH (r.2, R)) (fun x : (Nat → Nat → Int32) => z_W G eX13_readsItem d 0 0 110 [none] [] z_SH (x, R) Q)) o → (fun s : (Nat → Nat → Int32) => z_W G eX13_readsItem d 0 0 85 [some (.ref a0)] [] z_SH (s, R) Q) s := by
  intro I o hf hk
  show z_W G eX13_readsItem d 0 0 85 [some (.ref a0)] [] z_SH (I, R) Q
  unfold fX13_readsItem_b85 at hf
  try dsimp only at hf
  refine z_aload_n dX13_readsItem_85 rfl rfl (z_okl g_a0) ?_
  obtain ⟨q17, hq17, hf⟩ := z_b_el hf
  refine y_cVi (av := []) (Nat.le_trans (Nat.le_of_ble_eq_true rfl) hd) (wX13_here (z_dl rfl hd) hq17) oX13_here lmX13_156 iX13_here g_a0 rfl _ rfl rfl (Nat.le_of_ble_eq_true rfl) dX13_readsItem_86 ?_
  refine z_bipush dX13_readsItem_89 kb_41 ?_
  refine z_icmp_ne (tgt := 110) dX13_readsItem_91 (by decide) (fun c18 => ?_) (fun c18 => ?_)
  · have hf := z_if_f hf c18
    cases hf
    exact y_sub hk (z_le_n z_le_0)
  · have hf := z_if_t hf c18
    refine z_aload_n dX13_readsItem_94 rfl rfl (z_okl g_a0) ?_
    refine y_getI lfX13_255 rfl g_a0 dX13_readsItem_95 ?_
    refine z_if_le (tgt := 110) dX13_readsItem_98 (by decide) (fun c19 => ?_) (fun c19 => ?_)
    · have hf := z_if_t hf c19
      cases hf
      exact y_sub hk (z_le_n z_le_0)
    · have hf := z_if_f hf c19
      refine z_aload_n dX13_readsItem_101 rfl rfl (z_okl g_a0) ?_
      obtain ⟨q20, hq20, hf⟩ := z_b_el hf
      refine y_cVi (av := []) (Nat.le_trans (Nat.le_of_ble_eq_true rfl) hd) (wX13_endsRound (z_dl rfl hd) hq20) oX13_endsRound lmX13_261 iX13_endsRound g_a0 rfl _ rfl rfl (Nat.le_of_ble_eq_true rfl) dX13_readsItem_102 ?_
      refine z_if_ne (tgt := 85) dX13_readsItem_105 (by decide) (fun c21 => ?_) (fun c21 => ?_)
      · have hf := z_if_f hf c21
        cases hf
        exact y_sub hk (z_le_c rfl z_le_0)
      · have hf := z_if_t hf c21
        refine z_iconst dX13_readsItem_108 kc_0 ?_
        cases hf
        exact z_iret hk ⟨_, rfl, rfl⟩ dX13_readsItem_109
def fX13_readsItem (a0 : Nat) (I : Nat → Nat → Int32) (R : Nat → Nat → Nat) : Option (Int32 × (Nat → Nat → Int32)) :=
  z_g (z_ob a0 13) (z_b (z_lp (fX13_readsItem_b0 a0 R) 300 I) (fun q12 => z_x q12 (fun q14 => some q14) (fun q13 => z_b (fX13_readsNote a0 q13 R) (fun q15 => if q15.1 = 0 then (some ((0 : Int32), q15.2)) else (z_b (z_lp (fX13_readsItem_b85 a0 R) 300 q15.2) (fun q22 => z_x q22 (fun q24 => some q24) (fun q23 => some ((1 : Int32), q23))))))))
theorem vX13_readsItem {G : z_G} {d : Nat} {Q : Option Value → z_S → z_H → Prop} {a0 : Nat} {I : Nat → Nat → Int32} {R : Nat → Nat → Nat} {q : Int32 × (Nat → Nat → Int32)} (hd : 2 ≤ d) (hf : fX13_readsItem a0 I R = some q) (hk : Q (some (.int q.1)) z_SH (q.2, R)) : z_W G eX13_readsItem d 0 0 0 [some (.ref a0)] [] z_SH (I, R) Q := by
  unfold fX13_readsItem at hf
  obtain ⟨g_a0, hf⟩ := z_g_el hf
  obtain ⟨q12, hq12, hf⟩ := z_b_el hf
  refine y_sub (lv' := [some (.ref a0)]) ?_ (z_le_c rfl z_le_0)
  refine z_lp_el (P := (fun s : (Nat → Nat → Int32) => z_W G eX13_readsItem d 0 0 0 [some (.ref a0)] [] z_SH (s, R) Q)) (E := (z_or (fun r : Int32 × (Nat → Nat → Int32) => Q (some (.int r.1)) z_SH (r.2, R)) (fun x : (Nat → Nat → Int32) => z_W G eX13_readsItem d 0 0 76 [some (.ref a0)] [] z_SH (x, R) Q))) (wX13_readsItem_b0 hd g_a0) 300 I q12 hq12 ?_
  rcases q12 with q14 | q13
  · have hf := z_x_l hf
    cases hf
    exact hk
  · have hf := z_x_r hf
    show z_W G eX13_readsItem d 0 0 76 [some (.ref a0)] [] z_SH (q13, R) _
    refine z_aload_n dX13_readsItem_76 rfl rfl (z_okl g_a0) ?_
    obtain ⟨q15, hq15, hf⟩ := z_b_el hf
    refine y_cVi (av := []) (Nat.le_trans (Nat.le_of_ble_eq_true rfl) hd) (wX13_readsNote (z_dl rfl hd) hq15) oX13_readsNote lmX13_258 iX13_readsNote g_a0 rfl _ rfl rfl (Nat.le_of_ble_eq_true rfl) dX13_readsItem_77 ?_
    refine z_if_ne (tgt := 85) dX13_readsItem_80 (by decide) (fun c16 => ?_) (fun c16 => ?_)
    · have hf := z_if_f hf c16
      obtain ⟨q22, hq22, hf⟩ := z_b_el hf
      refine y_sub (lv' := [some (.ref a0)]) ?_ (z_le_c rfl z_le_0)
      refine z_lp_el (P := (fun s : (Nat → Nat → Int32) => z_W G eX13_readsItem d 0 0 85 [some (.ref a0)] [] z_SH (s, R) Q)) (E := (z_or (fun r : Int32 × (Nat → Nat → Int32) => Q (some (.int r.1)) z_SH (r.2, R)) (fun x : (Nat → Nat → Int32) => z_W G eX13_readsItem d 0 0 110 [none] [] z_SH (x, R) Q))) (wX13_readsItem_b85 hd g_a0) 300 q15.2 q22 hq22 ?_
      rcases q22 with q24 | q23
      · have hf := z_x_l hf
        cases hf
        exact hk
      · have hf := z_x_r hf
        show z_W G eX13_readsItem d 0 0 110 [none] [] z_SH (q23, R) _
        refine z_iconst dX13_readsItem_110 kc_1 ?_
        cases hf
        exact z_iret hk ⟨_, rfl, rfl⟩ dX13_readsItem_111
    · have hf := z_if_t hf c16
      refine z_iconst dX13_readsItem_83 kc_0 ?_
      cases hf
      exact z_iret hk ⟨_, rfl, rfl⟩ dX13_readsItem_84
theorem wX13_readsItem {G : z_G} {d : Nat} {a0 : Nat} {I : Nat → Nat → Int32} {R : Nat → Nat → Nat} {q : Int32 × (Nat → Nat → Int32)} (hd : 2 ≤ d) (hf : fX13_readsItem a0 I R = some q) : z_M G d 0 0 eX13_readsItem [.ref a0] z_SH (I, R) (z_E (some (.int q.1)) (q.2, R)) :=
  y_M_of _ (by decide +kernel) rfl rfl rfl (vX13_readsItem hd hf ⟨rfl, rfl, rfl⟩)
def fX13_roll_j72_50 (a0 : Nat) (z1 : Int32) (I : Nat → Nat → Int32) (R : Nat → Nat → Nat) : Option ((Int32 × (Nat → Nat → Int32)) ⊕ (Int32 × (Nat → Nat → Int32))) :=
  z_b (fX13_readsItem a0 I R) (fun q12 => some (.inl (q12.1, q12.2)))
theorem wX13_roll_j72_50 {G : z_G} {d : Nat} {Q : Option Value → z_S → z_H → Prop} {a0 : Nat} {z1 : Int32} {I : Nat → Nat → Int32} {R : Nat → Nat → Nat} {o : (Int32 × (Nat → Nat → Int32)) ⊕ (Int32 × (Nat → Nat → Int32))} (hd : 3 ≤ d) (g_a0 : z_ob a0 13) (hf : fX13_roll_j72_50 a0 z1 I R = some o) (hk : z_or (fun s : Int32 × (Nat → Nat → Int32) => z_W G eX13_roll d 0 0 50 [some (.ref a0), some (.int z1), none, some (.int s.1), none] [] z_SH (s.2, R) Q) (fun x : Int32 × (Nat → Nat → Int32) => z_W G eX13_roll d 0 0 80 [some (.ref a0), some (.int z1), none, some (.int x.1), none] [] z_SH (x.2, R) Q) o) : z_W G eX13_roll d 0 0 72 [some (.ref a0), some (.int z1), none, none, none] [] z_SH (I, R) Q := by
  unfold fX13_roll_j72_50 at hf
  refine z_aload_n dX13_roll_72 rfl rfl (z_okl g_a0) ?_
  obtain ⟨q12, hq12, hf⟩ := z_b_el hf
  refine y_cVi (av := []) (Nat.le_trans (Nat.le_of_ble_eq_true rfl) hd) (wX13_readsItem (z_dl rfl hd) hq12) oX13_readsItem lmX13_264 iX13_readsItem g_a0 rfl _ rfl rfl (Nat.le_of_ble_eq_true rfl) dX13_roll_73 ?_
  refine y_istore_n0 [some (.ref a0), some (.int z1), none, some (.int q12.1), none] dX13_roll_76 rfl (by decide) rfl ?_
  refine z_goto (tgt := 50) dX13_roll_77 (by decide) ?_
  cases hf
  exact y_sub hk (z_le_c rfl (z_le_c rfl (z_le_n (z_le_c rfl (z_le_n z_le_0)))))
def fX13_roll_b50 (a0 : Nat) (z1 : Int32) (R : Nat → Nat → Nat) : (Int32 × (Nat → Nat → Int32)) → Option ((Int32 × (Nat → Nat → Int32)) ⊕ (Int32 × (Nat → Nat → Int32))) :=
  fun s => (fun (p3 : Int32) (I : Nat → Nat → Int32) => if p3 = 0 then (some (.inr (p3, I))) else (if (I a0 12) < (I a0 13) then (fX13_roll_j72_50 a0 z1 I R) else (if (I a0 41) ≤ 0 then (some (.inr (p3, I))) else (fX13_roll_j72_50 a0 z1 I R)))) s.1 s.2
theorem wX13_roll_b50 {G : z_G} {d : Nat} {Q : Option Value → z_S → z_H → Prop} {a0 : Nat} {z1 : Int32} {R : Nat → Nat → Nat} (hd : 3 ≤ d) (g_a0 : z_ob a0 13) : ∀ (s : Int32 × (Nat → Nat → Int32)) (o : (Int32 × (Nat → Nat → Int32)) ⊕ (Int32 × (Nat → Nat → Int32))), fX13_roll_b50 a0 z1 R s = some o → z_or (fun s : Int32 × (Nat → Nat → Int32) => z_W G eX13_roll d 0 0 50 [some (.ref a0), some (.int z1), none, some (.int s.1), none] [] z_SH (s.2, R) Q) (fun x : Int32 × (Nat → Nat → Int32) => z_W G eX13_roll d 0 0 80 [some (.ref a0), some (.int z1), none, some (.int x.1), none] [] z_SH (x.2, R) Q) o → (fun s : Int32 × (Nat → Nat → Int32) => z_W G eX13_roll d 0 0 50 [some (.ref a0), some (.int z1), none, some (.int s.1), none] [] z_SH (s.2, R) Q) s := by
  rintro ⟨p3, I⟩ o hf hk
  show z_W G eX13_roll d 0 0 50 [some (.ref a0), some (.int z1), none, some (.int p3), none] [] z_SH (I, R) Q
  unfold fX13_roll_b50 at hf
  try dsimp only at hf
  refine z_iload_n dX13_roll_50 rfl rfl ?_
  refine z_if_eq (tgt := 80) dX13_roll_51 (by decide) (fun c10 => ?_) (fun c10 => ?_)
  · have hf := z_if_t hf c10
    cases hf
    exact y_sub hk (z_le_c rfl (z_le_c rfl (z_le_n (z_le_c rfl (z_le_n z_le_0)))))
  · have hf := z_if_f hf c10
    refine z_aload_n dX13_roll_54 rfl rfl (z_okl g_a0) ?_
    refine y_getI lfX13_150 rfl g_a0 dX13_roll_55 ?_
    refine z_aload_n dX13_roll_58 rfl rfl (z_okl g_a0) ?_
    refine y_getI lfX13_153 rfl g_a0 dX13_roll_59 ?_
    refine z_icmp_lt (tgt := 72) dX13_roll_62 (by decide) (fun c11 => ?_) (fun c11 => ?_)
    · have hf := z_if_t hf c11
      exact y_sub (wX13_roll_j72_50 hd g_a0 hf hk) (z_le_c rfl (z_le_c rfl (z_le_n (z_le_n (z_le_n z_le_0)))))
    · have hf := z_if_f hf c11
      refine z_aload_n dX13_roll_65 rfl rfl (z_okl g_a0) ?_
      refine y_getI lfX13_255 rfl g_a0 dX13_roll_66 ?_
      refine z_if_le (tgt := 80) dX13_roll_69 (by decide) (fun c13 => ?_) (fun c13 => ?_)
      · have hf := z_if_t hf c13
        cases hf
        exact y_sub hk (z_le_c rfl (z_le_c rfl (z_le_n (z_le_c rfl (z_le_n z_le_0)))))
      · have hf := z_if_f hf c13
        exact y_sub (wX13_roll_j72_50 hd g_a0 hf hk) (z_le_c rfl (z_le_c rfl (z_le_n (z_le_n (z_le_n z_le_0)))))
def fX13_roll_b107 (a0 : Nat) (z1 : Int32) (R : Nat → Nat → Nat) : (Int32 × (Nat → Nat → Int32)) → Option ((Int32 × (Nat → Nat → Int32)) ⊕ ((Nat → Nat → Int32))) :=
  fun s => (fun (p4 : Int32) (I : Nat → Nat → Int32) => if (I a0 40) ≤ p4 then (some (.inr I)) else (z_g (z_ok 1 (R a0 34) p4) (z_g (z_ok 1 (R a0 5) (((60 : Int32) * z1) + p4)) (z_l (z_u I (R a0 5) (((60 : Int32) * z1) + p4).toNatClampNeg (I (R a0 34) p4.toNatClampNeg)) (fun I22 => z_g (z_ok 1 (R a0 35) p4) (z_g (z_ok 1 (R a0 6) (((60 : Int32) * z1) + p4)) (z_l (z_u I22 (R a0 6) (((60 : Int32) * z1) + p4).toNatClampNeg (I22 (R a0 35) p4.toNatClampNeg)) (fun I25 => z_g (z_ok 1 (R a0 36) p4) (z_g (z_ok 1 (R a0 7) (((60 : Int32) * z1) + p4)) (z_l (z_u I25 (R a0 7) (((60 : Int32) * z1) + p4).toNatClampNeg (I25 (R a0 36) p4.toNatClampNeg)) (fun I28 => z_g (z_ok 1 (R a0 37) p4) (z_g (z_ok 1 (R a0 8) (((60 : Int32) * z1) + p4)) (z_l (z_u I28 (R a0 8) (((60 : Int32) * z1) + p4).toNatClampNeg (I28 (R a0 37) p4.toNatClampNeg)) (fun I31 => z_l (p4 + (1 : Int32)) (fun t32 => some (.inl (t32, I31))))))))))))))))) s.1 s.2
theorem wX13_roll_b107 {G : z_G} {d : Nat} {Q : Option Value → z_S → z_H → Prop} {a0 : Nat} {z1 : Int32} {R : Nat → Nat → Nat} (hd : 3 ≤ d) (g_a0 : z_ob a0 13) : ∀ (s : Int32 × (Nat → Nat → Int32)) (o : (Int32 × (Nat → Nat → Int32)) ⊕ ((Nat → Nat → Int32))), fX13_roll_b107 a0 z1 R s = some o → z_or (fun s : Int32 × (Nat → Nat → Int32) => z_W G eX13_roll d 0 0 107 [some (.ref a0), some (.int z1), none, none, some (.int s.1)] [] z_SH (s.2, R) Q) (fun x : (Nat → Nat → Int32) => z_W G eX13_roll d 0 0 198 [some (.ref a0), some (.int z1), none, none, none] [] z_SH (x, R) Q) o → (fun s : Int32 × (Nat → Nat → Int32) => z_W G eX13_roll d 0 0 107 [some (.ref a0), some (.int z1), none, none, some (.int s.1)] [] z_SH (s.2, R) Q) s := by
  rintro ⟨p4, I⟩ o hf hk
  show z_W G eX13_roll d 0 0 107 [some (.ref a0), some (.int z1), none, none, some (.int p4)] [] z_SH (I, R) Q
  unfold fX13_roll_b107 at hf
  try dsimp only at hf
  refine z_iload dX13_roll_107 rfl ?_
  refine z_aload_n dX13_roll_109 rfl rfl (z_okl g_a0) ?_
  refine y_getI lfX13_252 rfl g_a0 dX13_roll_110 ?_
  refine z_icmp_ge (tgt := 198) dX13_roll_113 (by decide) (fun c19 => ?_) (fun c19 => ?_)
  · have hf := z_if_t hf c19
    cases hf
    exact y_sub hk (z_le_c rfl (z_le_c rfl (z_le_n (z_le_n (z_le_n z_le_0)))))
  · have hf := z_if_f hf c19
    refine z_aload_n dX13_roll_116 rfl rfl (z_okl g_a0) ?_
    refine y_getR lfX13_19 rfl g_a0 dX13_roll_117 ?_
    refine z_bipush dX13_roll_120 kb_60 ?_
    refine z_iload_n dX13_roll_122 rfl rfl ?_
    refine z_imul dX13_roll_123 ?_
    refine z_iload dX13_roll_124 rfl ?_
    refine z_iadd dX13_roll_126 ?_
    refine z_aload_n dX13_roll_127 rfl rfl (z_okl g_a0) ?_
    refine y_getR lfX13_77 rfl g_a0 dX13_roll_128 ?_
    refine z_iload dX13_roll_131 rfl ?_
    obtain ⟨g20, hf⟩ := z_g_el hf
    refine y_iald g20 dX13_roll_133 ?_
    obtain ⟨g21, hf⟩ := z_g_el hf
    refine y_iast g21 dX13_roll_134 (fun I22 eI22 => ?_)
    have hf := z_l_el hf eI22
    refine z_aload_n dX13_roll_135 rfl rfl (z_okl g_a0) ?_
    refine y_getR lfX13_22 rfl g_a0 dX13_roll_136 ?_
    refine z_bipush dX13_roll_139 kb_60 ?_
    refine z_iload_n dX13_roll_141 rfl rfl ?_
    refine z_imul dX13_roll_142 ?_
    refine z_iload dX13_roll_143 rfl ?_
    refine z_iadd dX13_roll_145 ?_
    refine z_aload_n dX13_roll_146 rfl rfl (z_okl g_a0) ?_
    refine y_getR lfX13_80 rfl g_a0 dX13_roll_147 ?_
    refine z_iload dX13_roll_150 rfl ?_
    obtain ⟨g23, hf⟩ := z_g_el hf
    refine y_iald g23 dX13_roll_152 ?_
    obtain ⟨g24, hf⟩ := z_g_el hf
    refine y_iast g24 dX13_roll_153 (fun I25 eI25 => ?_)
    have hf := z_l_el hf eI25
    refine z_aload_n dX13_roll_154 rfl rfl (z_okl g_a0) ?_
    refine y_getR lfX13_25 rfl g_a0 dX13_roll_155 ?_
    refine z_bipush dX13_roll_158 kb_60 ?_
    refine z_iload_n dX13_roll_160 rfl rfl ?_
    refine z_imul dX13_roll_161 ?_
    refine z_iload dX13_roll_162 rfl ?_
    refine z_iadd dX13_roll_164 ?_
    refine z_aload_n dX13_roll_165 rfl rfl (z_okl g_a0) ?_
    refine y_getR lfX13_83 rfl g_a0 dX13_roll_166 ?_
    refine z_iload dX13_roll_169 rfl ?_
    obtain ⟨g26, hf⟩ := z_g_el hf
    refine y_iald g26 dX13_roll_171 ?_
    obtain ⟨g27, hf⟩ := z_g_el hf
    refine y_iast g27 dX13_roll_172 (fun I28 eI28 => ?_)
    have hf := z_l_el hf eI28
    refine z_aload_n dX13_roll_173 rfl rfl (z_okl g_a0) ?_
    refine y_getR lfX13_28 rfl g_a0 dX13_roll_174 ?_
    refine z_bipush dX13_roll_177 kb_60 ?_
    refine z_iload_n dX13_roll_179 rfl rfl ?_
    refine z_imul dX13_roll_180 ?_
    refine z_iload dX13_roll_181 rfl ?_
    refine z_iadd dX13_roll_183 ?_
    refine z_aload_n dX13_roll_184 rfl rfl (z_okl g_a0) ?_
    refine y_getR lfX13_86 rfl g_a0 dX13_roll_185 ?_
    refine z_iload dX13_roll_188 rfl ?_
    obtain ⟨g29, hf⟩ := z_g_el hf
    refine y_iald g29 dX13_roll_190 ?_
    obtain ⟨g30, hf⟩ := z_g_el hf
    refine y_iast g30 dX13_roll_191 (fun I31 eI31 => ?_)
    have hf := z_l_el hf eI31
    refine y_iinc (fun t32 => [some (.ref a0), some (.int z1), none, none, some (.int t32)]) dX13_roll_192 rfl kc_1 (by decide) (fun _ => rfl) (fun t32 et32 => ?_)
    have hf := z_l_el hf et32
    refine z_goto (tgt := 107) dX13_roll_195 (by decide) ?_
    cases hf
    exact y_sub hk (z_le_c rfl (z_le_c rfl (z_le_n (z_le_n (z_le_c rfl z_le_0)))))
def fX13_roll_j80 (a0 : Nat) (y1 : Int32) (y3 : Int32) (I : Nat → Nat → Int32) (R : Nat → Nat → Nat) : Option (Int32 × (Nat → Nat → Int32)) :=
  z_l (z_u I a0 11 (0 : Int32)) (fun I15 => if y3 = 0 then (some (I15 a0 14, I15)) else (z_g (z_ok 1 (R a0 9) y1) (z_l (z_u I15 (R a0 9) y1.toNatClampNeg (I15 a0 40)) (fun I18 => z_b (z_lp (fX13_roll_b107 a0 y1 R) 300 ((0 : Int32), I18)) (fun q33 => z_b (fX13_begins a0 y1 q33 R) (fun q34 => some (q34 a0 40, q34)))))))
theorem wX13_roll_j80 {G : z_G} {d : Nat} {Q : Option Value → z_S → z_H → Prop} {a0 : Nat} {y1 : Int32} {y3 : Int32} {I : Nat → Nat → Int32} {R : Nat → Nat → Nat} {o : Int32 × (Nat → Nat → Int32)} (hd : 3 ≤ d) (g_a0 : z_ob a0 13) (hf : fX13_roll_j80 a0 y1 y3 I R = some o) (hk : Q (some (.int o.1)) z_SH (o.2, R)) : z_W G eX13_roll d 0 0 80 [some (.ref a0), some (.int y1), none, some (.int y3), none] [] z_SH (I, R) Q := by
  unfold fX13_roll_j80 at hf
  refine z_aload_n dX13_roll_80 rfl rfl (z_okl g_a0) ?_
  refine z_iconst dX13_roll_81 kc_0 ?_
  refine y_putI lfX13_144 rfl g_a0 rfl rfl rfl dX13_roll_82 (fun I15 eI15 => ?_)
  have hf := z_l_el hf eI15
  refine z_iload_n dX13_roll_85 rfl rfl ?_
  refine z_if_ne (tgt := 94) dX13_roll_86 (by decide) (fun c16 => ?_) (fun c16 => ?_)
  · have hf := z_if_f hf c16
    refine z_aload_n dX13_roll_94 rfl rfl (z_okl g_a0) ?_
    refine y_getR lfX13_31 rfl g_a0 dX13_roll_95 ?_
    refine z_iload_n dX13_roll_98 rfl rfl ?_
    refine z_aload_n dX13_roll_99 rfl rfl (z_okl g_a0) ?_
    refine y_getI lfX13_252 rfl g_a0 dX13_roll_100 ?_
    obtain ⟨g17, hf⟩ := z_g_el hf
    refine y_iast g17 dX13_roll_103 (fun I18 eI18 => ?_)
    have hf := z_l_el hf eI18
    refine z_iconst dX13_roll_104 kc_0 ?_
    refine y_istore0 [some (.ref a0), some (.int y1), none, some (.int y3), some (.int (0 : Int32))] dX13_roll_105 (by decide) rfl ?_
    obtain ⟨q33, hq33, hf⟩ := z_b_el hf
    refine y_sub (lv' := [some (.ref a0), some (.int y1), none, none, some (.int (0 : Int32))]) ?_ (z_le_c rfl (z_le_c rfl (z_le_n (z_le_n (z_le_c rfl z_le_0)))))
    refine z_lp_el (P := (fun s : Int32 × (Nat → Nat → Int32) => z_W G eX13_roll d 0 0 107 [some (.ref a0), some (.int y1), none, none, some (.int s.1)] [] z_SH (s.2, R) Q)) (E := (fun x : (Nat → Nat → Int32) => z_W G eX13_roll d 0 0 198 [some (.ref a0), some (.int y1), none, none, none] [] z_SH (x, R) Q)) (wX13_roll_b107 hd g_a0) 300 ((0 : Int32), I18) q33 hq33 ?_
    show z_W G eX13_roll d 0 0 198 [some (.ref a0), some (.int y1), none, none, none] [] z_SH (q33, R) _
    refine z_aload_n dX13_roll_198 rfl rfl (z_okl g_a0) ?_
    refine z_iload_n dX13_roll_199 rfl rfl ?_
    obtain ⟨q34, hq34, hf⟩ := z_b_el hf
    refine y_cVv (av := [.int y1]) (Nat.le_trans (Nat.le_of_ble_eq_true rfl) hd) (wX13_begins (z_dl rfl hd) hq34) oX13_begins lmX13_122 iX13_begins g_a0 rfl _ rfl rfl (Nat.le_of_ble_eq_true rfl) dX13_roll_200 ?_
    refine z_aload_n dX13_roll_203 rfl rfl (z_okl g_a0) ?_
    refine y_getI lfX13_252 rfl g_a0 dX13_roll_204 ?_
    cases hf
    exact z_iret hk ⟨_, rfl, rfl⟩ dX13_roll_207
  · have hf := z_if_t hf c16
    refine z_aload_n dX13_roll_89 rfl rfl (z_okl g_a0) ?_
    refine y_getI lfX13_159 rfl g_a0 dX13_roll_90 ?_
    cases hf
    exact z_iret hk ⟨_, rfl, rfl⟩ dX13_roll_93
def fX13_roll (a0 : Nat) (x1 : Int32) (x2 : Int32) (I : Nat → Nat → Int32) (R : Nat → Nat → Nat) : Option (Int32 × (Nat → Nat → Int32)) :=
  z_g (z_ob a0 13) (z_b (fX13_in x1 (0 : Int32) (7 : Int32)) (fun q1 => if q1 = 0 then (some ((-1 : Int32), I)) else (z_b (fX13_in x2 (1 : Int32) (60 : Int32)) (fun q3 => if q3 = 0 then (some ((-1 : Int32), I)) else (if x2 ≤ (I a0 11) then (z_b (fX13_beginsText a0 x2 I) (fun q6 => z_l (z_u q6 a0 40 (0 : Int32)) (fun I7 => z_l (z_u I7 a0 41 (0 : Int32)) (fun I8 => z_b (fX13_readsItem a0 I8 R) (fun q9 => z_b (z_lp (fX13_roll_b50 a0 x1 R) 300 (q9.1, q9.2)) (fun q14 => fX13_roll_j80 a0 x1 q14.1 q14.2 R)))))) else (some ((-1 : Int32), I)))))))
set_option maxRecDepth 20000 in
theorem vX13_roll {G : z_G} {d : Nat} {Q : Option Value → z_S → z_H → Prop} {a0 : Nat} {x1 : Int32} {x2 : Int32} {I : Nat → Nat → Int32} {R : Nat → Nat → Nat} {q : Int32 × (Nat → Nat → Int32)} (hd : 3 ≤ d) (hf : fX13_roll a0 x1 x2 I R = some q) (hk : Q (some (.int q.1)) z_SH (q.2, R)) : z_W G eX13_roll d 0 0 0 [some (.ref a0), some (.int x1), some (.int x2), none, none] [] z_SH (I, R) Q := by
  unfold fX13_roll at hf
  obtain ⟨g_a0, hf⟩ := z_g_el hf
  refine z_iload_n dX13_roll_0 rfl rfl ?_
  refine z_iconst dX13_roll_1 kc_0 ?_
  refine z_bipush dX13_roll_2 kb_7 ?_
  obtain ⟨q1, hq1, hf⟩ := z_b_el hf
  refine y_cSi (Nat.le_trans (Nat.le_of_ble_eq_true rfl) hd) (wX13_in (z_dl rfl hd) hq1) oX13_in lmX13_114 sX13_in _ rfl rfl (Nat.le_of_ble_eq_true rfl) dX13_roll_4 ?_
  refine z_if_eq (tgt := 28) dX13_roll_7 (by decide) (fun c2 => ?_) (fun c2 => ?_)
  · have hf := z_if_t hf c2
    refine z_iconst dX13_roll_28 kc_m1 ?_
    cases hf
    exact z_iret hk ⟨_, rfl, rfl⟩ dX13_roll_29
  · have hf := z_if_f hf c2
    refine z_iload_n dX13_roll_10 rfl rfl ?_
    refine z_iconst dX13_roll_11 kc_1 ?_
    refine z_bipush dX13_roll_12 kb_60 ?_
    obtain ⟨q3, hq3, hf⟩ := z_b_el hf
    refine y_cSi (Nat.le_trans (Nat.le_of_ble_eq_true rfl) hd) (wX13_in (z_dl rfl hd) hq3) oX13_in lmX13_114 sX13_in _ rfl rfl (Nat.le_of_ble_eq_true rfl) dX13_roll_14 ?_
    refine z_if_eq (tgt := 28) dX13_roll_17 (by decide) (fun c4 => ?_) (fun c4 => ?_)
    · have hf := z_if_t hf c4
      refine z_iconst dX13_roll_28 kc_m1 ?_
      cases hf
      exact z_iret hk ⟨_, rfl, rfl⟩ dX13_roll_29
    · have hf := z_if_f hf c4
      refine z_iload_n dX13_roll_20 rfl rfl ?_
      refine z_aload_n dX13_roll_21 rfl rfl (z_okl g_a0) ?_
      refine y_getI lfX13_144 rfl g_a0 dX13_roll_22 ?_
      refine z_icmp_le (tgt := 30) dX13_roll_25 (by decide) (fun c5 => ?_) (fun c5 => ?_)
      · have hf := z_if_t hf c5
        refine z_aload_n dX13_roll_30 rfl rfl (z_okl g_a0) ?_
        refine z_iload_n dX13_roll_31 rfl rfl ?_
        obtain ⟨q6, hq6, hf⟩ := z_b_el hf
        refine y_cVv (av := [.int x2]) (Nat.le_trans (Nat.le_of_ble_eq_true rfl) hd) (wX13_beginsText (z_dl rfl hd) hq6) oX13_beginsText lmX13_232 iX13_beginsText g_a0 rfl _ rfl rfl (Nat.le_of_ble_eq_true rfl) dX13_roll_32 ?_
        refine z_aload_n dX13_roll_35 rfl rfl (z_okl g_a0) ?_
        refine z_iconst dX13_roll_36 kc_0 ?_
        refine y_putI lfX13_252 rfl g_a0 rfl rfl rfl dX13_roll_37 (fun I7 eI7 => ?_)
        have hf := z_l_el hf eI7
        refine z_aload_n dX13_roll_40 rfl rfl (z_okl g_a0) ?_
        refine z_iconst dX13_roll_41 kc_0 ?_
        refine y_putI lfX13_255 rfl g_a0 rfl rfl rfl dX13_roll_42 (fun I8 eI8 => ?_)
        have hf := z_l_el hf eI8
        refine z_aload_n dX13_roll_45 rfl rfl (z_okl g_a0) ?_
        obtain ⟨q9, hq9, hf⟩ := z_b_el hf
        refine y_cVi (av := []) (Nat.le_trans (Nat.le_of_ble_eq_true rfl) hd) (wX13_readsItem (z_dl rfl hd) hq9) oX13_readsItem lmX13_264 iX13_readsItem g_a0 rfl _ rfl rfl (Nat.le_of_ble_eq_true rfl) dX13_roll_46 ?_
        refine y_istore_n0 [some (.ref a0), some (.int x1), some (.int x2), some (.int q9.1), none] dX13_roll_49 rfl (by decide) rfl ?_
        obtain ⟨q14, hq14, hf⟩ := z_b_el hf
        refine y_sub (lv' := [some (.ref a0), some (.int x1), none, some (.int q9.1), none]) ?_ (z_le_c rfl (z_le_c rfl (z_le_n (z_le_c rfl (z_le_n z_le_0)))))
        refine z_lp_el (P := (fun s : Int32 × (Nat → Nat → Int32) => z_W G eX13_roll d 0 0 50 [some (.ref a0), some (.int x1), none, some (.int s.1), none] [] z_SH (s.2, R) Q)) (E := (fun x : Int32 × (Nat → Nat → Int32) => z_W G eX13_roll d 0 0 80 [some (.ref a0), some (.int x1), none, some (.int x.1), none] [] z_SH (x.2, R) Q)) (wX13_roll_b50 hd g_a0) 300 (q9.1, q9.2) q14 hq14 ?_
        show z_W G eX13_roll d 0 0 80 [some (.ref a0), some (.int x1), none, some (.int q14.1), none] [] z_SH (q14.2, R) _
        exact y_sub (wX13_roll_j80 hd g_a0 hf hk) (z_le_c rfl (z_le_c rfl (z_le_n (z_le_c rfl (z_le_n z_le_0)))))
      · have hf := z_if_f hf c5
        refine z_iconst dX13_roll_28 kc_m1 ?_
        cases hf
        exact z_iret hk ⟨_, rfl, rfl⟩ dX13_roll_29
theorem wX13_roll {G : z_G} {d : Nat} {a0 : Nat} {x1 : Int32} {x2 : Int32} {I : Nat → Nat → Int32} {R : Nat → Nat → Nat} {q : Int32 × (Nat → Nat → Int32)} (hd : 3 ≤ d) (hf : fX13_roll a0 x1 x2 I R = some q) : z_M G d 0 0 eX13_roll [.ref a0, .int x1, .int x2] z_SH (I, R) (z_E (some (.int q.1)) (q.2, R)) :=
  y_M_of _ (by decide +kernel) rfl rfl rfl (vX13_roll hd hf ⟨rfl, rfl, rfl⟩)
def fX13_aheadOf_b17 (a0 : Nat) (z1 : Int32) (z2 : Int32) (I : Nat → Nat → Int32) (R : Nat → Nat → Nat) : (Int32 × Int32) → Option ((Int32 × Int32) ⊕ (Int32)) :=
  fun s => (fun (p3 : Int32) (p4 : Int32) => if (8 : Int32) ≤ p4 then (some (.inr p3)) else (z_b (fX13_has z2 p4) (fun q4 => if q4 = 0 then (z_l (p4 + (1 : Int32)) (fun t6 => some (.inl (p3, t6)))) else (z_g (z_ok 1 (R a0 42) p4) (z_l (p3 + (I (R a0 42) p4.toNatClampNeg)) (fun t8 => z_l (p4 + (1 : Int32)) (fun t9 => some (.inl (t8, t9))))))))) s.1 s.2
theorem wX13_aheadOf_b17 {G : z_G} {d : Nat} {Q : Option Value → z_S → z_H → Prop} {a0 : Nat} {z1 : Int32} {z2 : Int32} {I : Nat → Nat → Int32} {R : Nat → Nat → Nat} (hd : 4 ≤ d) (g_a0 : z_ob a0 13) : ∀ (s : Int32 × Int32) (o : (Int32 × Int32) ⊕ (Int32)), fX13_aheadOf_b17 a0 z1 z2 I R s = some o → z_or (fun s : Int32 × Int32 => z_W G eX13_aheadOf d 0 0 17 [some (.ref a0), some (.int z1), some (.int z2), some (.int s.1), some (.int s.2)] [] z_SH (I, R) Q) (fun x : Int32 => z_W G eX13_aheadOf d 0 0 49 [some (.ref a0), some (.int z1), some (.int z2), some (.int x), none] [] z_SH (I, R) Q) o → (fun s : Int32 × Int32 => z_W G eX13_aheadOf d 0 0 17 [some (.ref a0), some (.int z1), some (.int z2), some (.int s.1), some (.int s.2)] [] z_SH (I, R) Q) s := by
  rintro ⟨p3, p4⟩ o hf hk
  show z_W G eX13_aheadOf d 0 0 17 [some (.ref a0), some (.int z1), some (.int z2), some (.int p3), some (.int p4)] [] z_SH (I, R) Q
  unfold fX13_aheadOf_b17 at hf
  try dsimp only at hf
  refine z_iload dX13_aheadOf_17 rfl ?_
  refine z_bipush dX13_aheadOf_19 kb_8 ?_
  refine z_icmp_ge (tgt := 49) dX13_aheadOf_21 (by decide) (fun c3 => ?_) (fun c3 => ?_)
  · have hf := z_if_t hf c3
    cases hf
    exact y_sub hk (z_le_c rfl (z_le_c rfl (z_le_c rfl (z_le_c rfl (z_le_n z_le_0)))))
  · have hf := z_if_f hf c3
    refine z_iload_n dX13_aheadOf_24 rfl rfl ?_
    refine z_iload dX13_aheadOf_25 rfl ?_
    obtain ⟨q4, hq4, hf⟩ := z_b_el hf
    refine y_cSi (Nat.le_trans (Nat.le_of_ble_eq_true rfl) hd) (wX13_has (z_dl rfl hd) hq4) oX13_has lmX13_137 sX13_has _ rfl rfl (Nat.le_of_ble_eq_true rfl) dX13_aheadOf_27 ?_
    refine z_if_eq (tgt := 43) dX13_aheadOf_30 (by decide) (fun c5 => ?_) (fun c5 => ?_)
    · have hf := z_if_t hf c5
      refine y_iinc (fun t6 => [some (.ref a0), some (.int z1), some (.int z2), some (.int p3), some (.int t6)]) dX13_aheadOf_43 rfl kc_1 (by decide) (fun _ => rfl) (fun t6 et6 => ?_)
      have hf := z_l_el hf et6
      refine z_goto (tgt := 17) dX13_aheadOf_46 (by decide) ?_
      cases hf
      exact y_sub hk (z_le_c rfl (z_le_c rfl (z_le_c rfl (z_le_c rfl (z_le_c rfl z_le_0)))))
    · have hf := z_if_f hf c5
      refine z_iload_n dX13_aheadOf_33 rfl rfl ?_
      refine z_aload_n dX13_aheadOf_34 rfl rfl (z_okl g_a0) ?_
      refine y_getR lfX13_95 rfl g_a0 dX13_aheadOf_35 ?_
      refine z_iload dX13_aheadOf_38 rfl ?_
      obtain ⟨g7, hf⟩ := z_g_el hf
      refine y_iald g7 dX13_aheadOf_40 ?_
      refine z_iadd dX13_aheadOf_41 ?_
      refine y_istore_n (fun t8 => [some (.ref a0), some (.int z1), some (.int z2), some (.int t8), some (.int p4)]) dX13_aheadOf_42 rfl (by decide) (fun _ => rfl) (fun t8 et8 => ?_)
      have hf := z_l_el hf et8
      refine y_iinc (fun t9 => [some (.ref a0), some (.int z1), some (.int z2), some (.int t8), some (.int t9)]) dX13_aheadOf_43 rfl kc_1 (by decide) (fun _ => rfl) (fun t9 et9 => ?_)
      have hf := z_l_el hf et9
      refine z_goto (tgt := 17) dX13_aheadOf_46 (by decide) ?_
      cases hf
      exact y_sub hk (z_le_c rfl (z_le_c rfl (z_le_c rfl (z_le_c rfl (z_le_c rfl z_le_0)))))
def fX13_aheadOf (a0 : Nat) (x1 : Int32) (I : Nat → Nat → Int32) (R : Nat → Nat → Nat) : Option (Int32) :=
  z_g (z_ob a0 13) (z_b (fX13_heardBy a0 x1 I R) (fun q1 => if q1 = 0 then (some (0 : Int32)) else (z_b (z_lp (fX13_aheadOf_b17 a0 x1 q1 I R) 300 ((0 : Int32), (0 : Int32))) (fun q10 => z_b (fX13_bits q1) (fun q11 => z_g (¬ q11 = 0) (z_g (z_ok 1 (R a0 42) x1) (some ((q10 / q11) - (I (R a0 42) x1.toNatClampNeg)))))))))
theorem vX13_aheadOf {G : z_G} {d : Nat} {Q : Option Value → z_S → z_H → Prop} {a0 : Nat} {x1 : Int32} {I : Nat → Nat → Int32} {R : Nat → Nat → Nat} {q : Int32} (hd : 4 ≤ d) (hf : fX13_aheadOf a0 x1 I R = some q) (hk : Q (some (.int q)) z_SH (I, R)) : z_W G eX13_aheadOf d 0 0 0 [some (.ref a0), some (.int x1), none, none, none] [] z_SH (I, R) Q := by
  unfold fX13_aheadOf at hf
  obtain ⟨g_a0, hf⟩ := z_g_el hf
  refine z_aload_n dX13_aheadOf_0 rfl rfl (z_okl g_a0) ?_
  refine z_iload_n dX13_aheadOf_1 rfl rfl ?_
  obtain ⟨q1, hq1, hf⟩ := z_b_el hf
  refine y_cVi (av := [.int x1]) (Nat.le_trans (Nat.le_of_ble_eq_true rfl) hd) (wX13_heardBy (z_dl rfl hd) hq1) oX13_heardBy lmX13_267 iX13_heardBy g_a0 rfl _ rfl rfl (Nat.le_of_ble_eq_true rfl) dX13_aheadOf_2 ?_
  refine y_istore_n0 [some (.ref a0), some (.int x1), some (.int q1), none, none] dX13_aheadOf_5 rfl (by decide) rfl ?_
  refine z_iload_n dX13_aheadOf_6 rfl rfl ?_
  refine z_if_ne (tgt := 12) dX13_aheadOf_7 (by decide) (fun c2 => ?_) (fun c2 => ?_)
  · have hf := z_if_f hf c2
    refine z_iconst dX13_aheadOf_12 kc_0 ?_
    refine y_istore_n0 [some (.ref a0), some (.int x1), some (.int q1), some (.int (0 : Int32)), none] dX13_aheadOf_13 rfl (by decide) rfl ?_
    refine z_iconst dX13_aheadOf_14 kc_0 ?_
    refine y_istore0 [some (.ref a0), some (.int x1), some (.int q1), some (.int (0 : Int32)), some (.int (0 : Int32))] dX13_aheadOf_15 (by decide) rfl ?_
    obtain ⟨q10, hq10, hf⟩ := z_b_el hf
    refine y_sub (lv' := [some (.ref a0), some (.int x1), some (.int q1), some (.int (0 : Int32)), some (.int (0 : Int32))]) ?_ (z_le_c rfl (z_le_c rfl (z_le_c rfl (z_le_c rfl (z_le_c rfl z_le_0)))))
    refine z_lp_el (P := (fun s : Int32 × Int32 => z_W G eX13_aheadOf d 0 0 17 [some (.ref a0), some (.int x1), some (.int q1), some (.int s.1), some (.int s.2)] [] z_SH (I, R) Q)) (E := (fun x : Int32 => z_W G eX13_aheadOf d 0 0 49 [some (.ref a0), some (.int x1), some (.int q1), some (.int x), none] [] z_SH (I, R) Q)) (wX13_aheadOf_b17 hd g_a0) 300 ((0 : Int32), (0 : Int32)) q10 hq10 ?_
    show z_W G eX13_aheadOf d 0 0 49 [some (.ref a0), some (.int x1), some (.int q1), some (.int q10), none] [] z_SH (I, R) _
    refine z_iload_n dX13_aheadOf_49 rfl rfl ?_
    refine z_iload_n dX13_aheadOf_50 rfl rfl ?_
    obtain ⟨q11, hq11, hf⟩ := z_b_el hf
    refine y_cSi (Nat.le_trans (Nat.le_of_ble_eq_true rfl) hd) (wX13_bits (z_dl rfl hd) hq11) oX13_bits lmX13_130 sX13_bits _ rfl rfl (Nat.le_of_ble_eq_true rfl) dX13_aheadOf_51 ?_
    obtain ⟨g12, hf⟩ := z_g_el hf
    refine z_idiv dX13_aheadOf_54 g12 ?_
    refine z_aload_n dX13_aheadOf_55 rfl rfl (z_okl g_a0) ?_
    refine y_getR lfX13_95 rfl g_a0 dX13_aheadOf_56 ?_
    refine z_iload_n dX13_aheadOf_59 rfl rfl ?_
    obtain ⟨g13, hf⟩ := z_g_el hf
    refine y_iald g13 dX13_aheadOf_60 ?_
    refine z_isub dX13_aheadOf_61 ?_
    cases hf
    exact z_iret hk ⟨_, rfl, rfl⟩ dX13_aheadOf_62
  · have hf := z_if_t hf c2
    refine z_iconst dX13_aheadOf_10 kc_0 ?_
    cases hf
    exact z_iret hk ⟨_, rfl, rfl⟩ dX13_aheadOf_11
theorem wX13_aheadOf {G : z_G} {d : Nat} {a0 : Nat} {x1 : Int32} {I : Nat → Nat → Int32} {R : Nat → Nat → Nat} {q : Int32} (hd : 4 ≤ d) (hf : fX13_aheadOf a0 x1 I R = some q) : z_M G d 0 0 eX13_aheadOf [.ref a0, .int x1] z_SH (I, R) (z_E (some (.int q)) (I, R)) :=
  y_M_of _ (by decide +kernel) rfl rfl rfl (vX13_aheadOf hd hf ⟨rfl, rfl, rfl⟩)
def fX13_noteNow (a0 : Nat) (x1 : Int32) (I : Nat → Nat → Int32) (R : Nat → Nat → Nat) : Option (Int32) :=
  z_g (z_ob a0 13) (z_b (fX13_isDone a0 x1 I R) (fun q1 => if q1 = 0 then (z_g (z_ok 1 (R a0 0) ((40 : Int32) + x1)) (z_g (z_ok 1 (R a0 5) (((60 : Int32) * x1) + (I (R a0 0) ((40 : Int32) + x1).toNatClampNeg))) (some (I (R a0 5) (((60 : Int32) * x1) + (I (R a0 0) ((40 : Int32) + x1).toNatClampNeg)).toNatClampNeg)))) else (some (0 : Int32))))
theorem vX13_noteNow {G : z_G} {d : Nat} {Q : Option Value → z_S → z_H → Prop} {a0 : Nat} {x1 : Int32} {I : Nat → Nat → Int32} {R : Nat → Nat → Nat} {q : Int32} (hd : 1 ≤ d) (hf : fX13_noteNow a0 x1 I R = some q) (hk : Q (some (.int q)) z_SH (I, R)) : z_W G eX13_noteNow d 0 0 0 [some (.ref a0), some (.int x1)] [] z_SH (I, R) Q := by
  unfold fX13_noteNow at hf
  obtain ⟨g_a0, hf⟩ := z_g_el hf
  refine z_aload_n dX13_noteNow_0 rfl rfl (z_okl g_a0) ?_
  refine z_iload_n dX13_noteNow_1 rfl rfl ?_
  obtain ⟨q1, hq1, hf⟩ := z_b_el hf
  refine y_cVi (av := [.int x1]) (Nat.le_trans (Nat.le_of_ble_eq_true rfl) hd) (wX13_isDone (z_dl rfl hd) hq1) oX13_isDone lmX13_270 iX13_isDone g_a0 rfl _ rfl rfl (Nat.le_of_ble_eq_true rfl) dX13_noteNow_2 ?_
  refine z_if_eq (tgt := 12) dX13_noteNow_5 (by decide) (fun c2 => ?_) (fun c2 => ?_)
  · have hf := z_if_t hf c2
    refine z_aload_n dX13_noteNow_12 rfl rfl (z_okl g_a0) ?_
    refine y_getR lfX13_19 rfl g_a0 dX13_noteNow_13 ?_
    refine z_bipush dX13_noteNow_16 kb_60 ?_
    refine z_iload_n dX13_noteNow_18 rfl rfl ?_
    refine z_imul dX13_noteNow_19 ?_
    refine z_aload_n dX13_noteNow_20 rfl rfl (z_okl g_a0) ?_
    refine y_getR lfX13_7 rfl g_a0 dX13_noteNow_21 ?_
    refine z_bipush dX13_noteNow_24 kb_40 ?_
    refine z_iload_n dX13_noteNow_26 rfl rfl ?_
    refine z_iadd dX13_noteNow_27 ?_
    obtain ⟨g3, hf⟩ := z_g_el hf
    refine y_iald g3 dX13_noteNow_28 ?_
    refine z_iadd dX13_noteNow_29 ?_
    obtain ⟨g4, hf⟩ := z_g_el hf
    refine y_iald g4 dX13_noteNow_30 ?_
    cases hf
    exact z_iret hk ⟨_, rfl, rfl⟩ dX13_noteNow_31
  · have hf := z_if_f hf c2
    refine z_iconst dX13_noteNow_8 kc_0 ?_
    refine z_goto (tgt := 31) dX13_noteNow_9 (by decide) ?_
    cases hf
    exact z_iret hk ⟨_, rfl, rfl⟩ dX13_noteNow_31
theorem wX13_noteNow {G : z_G} {d : Nat} {a0 : Nat} {x1 : Int32} {I : Nat → Nat → Int32} {R : Nat → Nat → Nat} {q : Int32} (hd : 1 ≤ d) (hf : fX13_noteNow a0 x1 I R = some q) : z_M G d 0 0 eX13_noteNow [.ref a0, .int x1] z_SH (I, R) (z_E (some (.int q)) (I, R)) :=
  y_M_of _ (by decide +kernel) rfl rfl rfl (vX13_noteNow hd hf ⟨rfl, rfl, rfl⟩)
def fX13_feels (a0 : Nat) (x1 : Int32) (I : Nat → Nat → Int32) (R : Nat → Nat → Nat) : Option ((Nat → Nat → Int32)) :=
  z_g (z_ob a0 13) (z_g (z_ok 1 (R a0 33) (0 : Int32)) (z_l (z_u I (R a0 33) (0 : Int32).toNatClampNeg x1) (fun I2 => z_g (z_ok 1 (R a0 0) ((8 : Int32) + x1)) (z_g (z_ok 1 (R a0 33) (1 : Int32)) (z_l (z_u I2 (R a0 33) (1 : Int32).toNatClampNeg (I2 (R a0 0) ((8 : Int32) + x1).toNatClampNeg)) (fun I5 => z_g (z_ok 1 (R a0 42) x1) (z_g (z_ok 1 (R a0 33) (2 : Int32)) (z_l (z_u I5 (R a0 33) (2 : Int32).toNatClampNeg (I5 (R a0 42) x1.toNatClampNeg)) (fun I8 => z_b (fX13_aheadOf a0 x1 I8 R) (fun q9 => z_g (z_ok 1 (R a0 33) (3 : Int32)) (z_l (z_u I8 (R a0 33) (3 : Int32).toNatClampNeg q9) (fun I11 => z_b (fX13_heardBy a0 x1 I11 R) (fun q12 => z_b (fX13_bits q12) (fun q13 => z_g (z_ok 1 (R a0 33) (4 : Int32)) (z_l (z_u I11 (R a0 33) (4 : Int32).toNatClampNeg q13) (fun I15 => z_g (z_ok 1 (R a0 0) ((56 : Int32) + x1)) (z_g (z_ok 1 (R a0 33) (5 : Int32)) (z_l (z_u I15 (R a0 33) (5 : Int32).toNatClampNeg (I15 (R a0 0) ((56 : Int32) + x1).toNatClampNeg)) (fun I18 => z_b (fX13_noteNow a0 x1 I18 R) (fun q19 => z_g (z_ok 1 (R a0 33) (6 : Int32)) (z_l (z_u I18 (R a0 33) (6 : Int32).toNatClampNeg q19) (fun I21 => z_g (z_ok 1 (R a0 0) (80 : Int32)) (z_g (z_ok 1 (R a0 33) (7 : Int32)) (z_l (z_u I21 (R a0 33) (7 : Int32).toNatClampNeg (z_rem (I21 (R a0 0) (80 : Int32).toNatClampNeg) (100 : Int32))) (fun I24 => some I24)))))))))))))))))))))))))
set_option maxRecDepth 20000 in
theorem vX13_feels {G : z_G} {d : Nat} {Q : Option Value → z_S → z_H → Prop} {a0 : Nat} {x1 : Int32} {I : Nat → Nat → Int32} {R : Nat → Nat → Nat} {q : (Nat → Nat → Int32)} (hd : 5 ≤ d) (hf : fX13_feels a0 x1 I R = some q) (hk : Q none z_SH (q, R)) : z_W G eX13_feels d 0 0 0 [some (.ref a0), some (.int x1)] [] z_SH (I, R) Q := by
  unfold fX13_feels at hf
  obtain ⟨g_a0, hf⟩ := z_g_el hf
  refine z_aload_n dX13_feels_0 rfl rfl (z_okl g_a0) ?_
  refine y_getR lfX13_74 rfl g_a0 dX13_feels_1 ?_
  refine z_iconst dX13_feels_4 kc_0 ?_
  refine z_iload_n dX13_feels_5 rfl rfl ?_
  obtain ⟨g1, hf⟩ := z_g_el hf
  refine y_iast g1 dX13_feels_6 (fun I2 eI2 => ?_)
  have hf := z_l_el hf eI2
  refine z_aload_n dX13_feels_7 rfl rfl (z_okl g_a0) ?_
  refine y_getR lfX13_74 rfl g_a0 dX13_feels_8 ?_
  refine z_iconst dX13_feels_11 kc_1 ?_
  refine z_aload_n dX13_feels_12 rfl rfl (z_okl g_a0) ?_
  refine y_getR lfX13_7 rfl g_a0 dX13_feels_13 ?_
  refine z_bipush dX13_feels_16 kb_8 ?_
  refine z_iload_n dX13_feels_18 rfl rfl ?_
  refine z_iadd dX13_feels_19 ?_
  obtain ⟨g3, hf⟩ := z_g_el hf
  refine y_iald g3 dX13_feels_20 ?_
  obtain ⟨g4, hf⟩ := z_g_el hf
  refine y_iast g4 dX13_feels_21 (fun I5 eI5 => ?_)
  have hf := z_l_el hf eI5
  refine z_aload_n dX13_feels_22 rfl rfl (z_okl g_a0) ?_
  refine y_getR lfX13_74 rfl g_a0 dX13_feels_23 ?_
  refine z_iconst dX13_feels_26 kc_2 ?_
  refine z_aload_n dX13_feels_27 rfl rfl (z_okl g_a0) ?_
  refine y_getR lfX13_95 rfl g_a0 dX13_feels_28 ?_
  refine z_iload_n dX13_feels_31 rfl rfl ?_
  obtain ⟨g6, hf⟩ := z_g_el hf
  refine y_iald g6 dX13_feels_32 ?_
  obtain ⟨g7, hf⟩ := z_g_el hf
  refine y_iast g7 dX13_feels_33 (fun I8 eI8 => ?_)
  have hf := z_l_el hf eI8
  refine z_aload_n dX13_feels_34 rfl rfl (z_okl g_a0) ?_
  refine y_getR lfX13_74 rfl g_a0 dX13_feels_35 ?_
  refine z_iconst dX13_feels_38 kc_3 ?_
  refine z_aload_n dX13_feels_39 rfl rfl (z_okl g_a0) ?_
  refine z_iload_n dX13_feels_40 rfl rfl ?_
  obtain ⟨q9, hq9, hf⟩ := z_b_el hf
  refine y_cVi (av := [.int x1]) (Nat.le_trans (Nat.le_of_ble_eq_true rfl) hd) (wX13_aheadOf (z_dl rfl hd) hq9) oX13_aheadOf lmX13_273 iX13_aheadOf g_a0 rfl _ rfl rfl (Nat.le_of_ble_eq_true rfl) dX13_feels_41 ?_
  obtain ⟨g10, hf⟩ := z_g_el hf
  refine y_iast g10 dX13_feels_44 (fun I11 eI11 => ?_)
  have hf := z_l_el hf eI11
  refine z_aload_n dX13_feels_45 rfl rfl (z_okl g_a0) ?_
  refine y_getR lfX13_74 rfl g_a0 dX13_feels_46 ?_
  refine z_iconst dX13_feels_49 kc_4 ?_
  refine z_aload_n dX13_feels_50 rfl rfl (z_okl g_a0) ?_
  refine z_iload_n dX13_feels_51 rfl rfl ?_
  obtain ⟨q12, hq12, hf⟩ := z_b_el hf
  refine y_cVi (av := [.int x1]) (Nat.le_trans (Nat.le_of_ble_eq_true rfl) hd) (wX13_heardBy (z_dl rfl hd) hq12) oX13_heardBy lmX13_267 iX13_heardBy g_a0 rfl _ rfl rfl (Nat.le_of_ble_eq_true rfl) dX13_feels_52 ?_
  obtain ⟨q13, hq13, hf⟩ := z_b_el hf
  refine y_cSi (Nat.le_trans (Nat.le_of_ble_eq_true rfl) hd) (wX13_bits (z_dl rfl hd) hq13) oX13_bits lmX13_130 sX13_bits _ rfl rfl (Nat.le_of_ble_eq_true rfl) dX13_feels_55 ?_
  obtain ⟨g14, hf⟩ := z_g_el hf
  refine y_iast g14 dX13_feels_58 (fun I15 eI15 => ?_)
  have hf := z_l_el hf eI15
  refine z_aload_n dX13_feels_59 rfl rfl (z_okl g_a0) ?_
  refine y_getR lfX13_74 rfl g_a0 dX13_feels_60 ?_
  refine z_iconst dX13_feels_63 kc_5 ?_
  refine z_aload_n dX13_feels_64 rfl rfl (z_okl g_a0) ?_
  refine y_getR lfX13_7 rfl g_a0 dX13_feels_65 ?_
  refine z_bipush dX13_feels_68 kb_56 ?_
  refine z_iload_n dX13_feels_70 rfl rfl ?_
  refine z_iadd dX13_feels_71 ?_
  obtain ⟨g16, hf⟩ := z_g_el hf
  refine y_iald g16 dX13_feels_72 ?_
  obtain ⟨g17, hf⟩ := z_g_el hf
  refine y_iast g17 dX13_feels_73 (fun I18 eI18 => ?_)
  have hf := z_l_el hf eI18
  refine z_aload_n dX13_feels_74 rfl rfl (z_okl g_a0) ?_
  refine y_getR lfX13_74 rfl g_a0 dX13_feels_75 ?_
  refine z_bipush dX13_feels_78 kb_6 ?_
  refine z_aload_n dX13_feels_80 rfl rfl (z_okl g_a0) ?_
  refine z_iload_n dX13_feels_81 rfl rfl ?_
  obtain ⟨q19, hq19, hf⟩ := z_b_el hf
  refine y_cVi (av := [.int x1]) (Nat.le_trans (Nat.le_of_ble_eq_true rfl) hd) (wX13_noteNow (z_dl rfl hd) hq19) oX13_noteNow lmX13_276 iX13_noteNow g_a0 rfl _ rfl rfl (Nat.le_of_ble_eq_true rfl) dX13_feels_82 ?_
  obtain ⟨g20, hf⟩ := z_g_el hf
  refine y_iast g20 dX13_feels_85 (fun I21 eI21 => ?_)
  have hf := z_l_el hf eI21
  refine z_aload_n dX13_feels_86 rfl rfl (z_okl g_a0) ?_
  refine y_getR lfX13_74 rfl g_a0 dX13_feels_87 ?_
  refine z_bipush dX13_feels_90 kb_7 ?_
  refine z_aload_n dX13_feels_92 rfl rfl (z_okl g_a0) ?_
  refine y_getR lfX13_7 rfl g_a0 dX13_feels_93 ?_
  refine z_bipush dX13_feels_96 kb_80 ?_
  obtain ⟨g22, hf⟩ := z_g_el hf
  refine y_iald g22 dX13_feels_98 ?_
  refine z_bipush dX13_feels_99 kb_100 ?_
  refine y_irem dX13_feels_101 (by decide) ?_
  obtain ⟨g23, hf⟩ := z_g_el hf
  refine y_iast g23 dX13_feels_102 (fun I24 eI24 => ?_)
  have hf := z_l_el hf eI24
  cases hf
  exact z_vret hk rfl dX13_feels_103
theorem wX13_feels {G : z_G} {d : Nat} {a0 : Nat} {x1 : Int32} {I : Nat → Nat → Int32} {R : Nat → Nat → Nat} {q : (Nat → Nat → Int32)} (hd : 5 ≤ d) (hf : fX13_feels a0 x1 I R = some q) : z_M G d 0 0 eX13_feels [.ref a0, .int x1] z_SH (I, R) (z_E none (q, R)) :=
  y_M_of _ (by decide +kernel) rfl rfl rfl (vX13_feels hd hf ⟨rfl, rfl, rfl⟩)
def fX13_allCame_b14 (a0 : Nat) (z2 : Int32) (I : Nat → Nat → Int32) (R : Nat → Nat → Nat) : (Int32) → Option ((Int32) ⊕ ((Int32) ⊕ (Unit))) :=
  fun s => (fun (p3 : Int32) => if (8 : Int32) ≤ p3 then (some (.inr (.inr (())))) else (z_b (fX13_isTold a0 p3 I R) (fun q4 => if q4 = 0 then (z_l (p3 + (1 : Int32)) (fun t6 => some (.inl t6))) else (z_g (z_ok 1 (R a0 9) p3) (z_b (fX13_holdsTo a0 p3 (I (R a0 9) p3.toNatClampNeg) I R) (fun q8 => if z2 ≤ q8 then (z_g (z_ok 1 (R a0 42) p3) (z_b (fX13_min (I (R a0 42) p3.toNatClampNeg) (I (R a0 9) p3.toNatClampNeg)) (fun q11 => z_b (fX13_holdsTo a0 p3 q11 I R) (fun q12 => if z2 ≤ q12 then (z_l (p3 + (1 : Int32)) (fun t14 => some (.inl t14))) else (some (.inr (.inl (0 : Int32)))))))) else (z_l (p3 + (1 : Int32)) (fun t15 => some (.inl t15))))))))) s
theorem wX13_allCame_b14 {G : z_G} {d : Nat} {Q : Option Value → z_S → z_H → Prop} {a0 : Nat} {z2 : Int32} {I : Nat → Nat → Int32} {R : Nat → Nat → Nat} (hd : 2 ≤ d) (g_a0 : z_ob a0 13) : ∀ (s : Int32) (o : (Int32) ⊕ ((Int32) ⊕ (Unit))), fX13_allCame_b14 a0 z2 I R s = some o → z_or (fun s : Int32 => z_W G eX13_allCame d 0 0 14 [some (.ref a0), none, some (.int z2), some (.int s)] [] z_SH (I, R) Q) (z_or (fun r : Int32 => Q (some (.int r)) z_SH (I, R)) (fun x : Unit => z_W G eX13_allCame d 0 0 78 [none, none, none, none] [] z_SH (I, R) Q)) o → (fun s : Int32 => z_W G eX13_allCame d 0 0 14 [some (.ref a0), none, some (.int z2), some (.int s)] [] z_SH (I, R) Q) s := by
  intro p3 o hf hk
  show z_W G eX13_allCame d 0 0 14 [some (.ref a0), none, some (.int z2), some (.int p3)] [] z_SH (I, R) Q
  unfold fX13_allCame_b14 at hf
  try dsimp only at hf
  refine z_iload_n dX13_allCame_14 rfl rfl ?_
  refine z_bipush dX13_allCame_15 kb_8 ?_
  refine z_icmp_ge (tgt := 78) dX13_allCame_17 (by decide) (fun c3 => ?_) (fun c3 => ?_)
  · have hf := z_if_t hf c3
    cases hf
    exact y_sub hk (z_le_n (z_le_n (z_le_n (z_le_n z_le_0))))
  · have hf := z_if_f hf c3
    refine z_aload_n dX13_allCame_20 rfl rfl (z_okl g_a0) ?_
    refine z_iload_n dX13_allCame_21 rfl rfl ?_
    obtain ⟨q4, hq4, hf⟩ := z_b_el hf
    refine y_cVi (av := [.int p3]) (Nat.le_trans (Nat.le_of_ble_eq_true rfl) hd) (wX13_isTold (z_dl rfl hd) hq4) oX13_isTold lmX13_118 iX13_isTold g_a0 rfl _ rfl rfl (Nat.le_of_ble_eq_true rfl) dX13_allCame_22 ?_
    refine z_if_eq (tgt := 72) dX13_allCame_25 (by decide) (fun c5 => ?_) (fun c5 => ?_)
    · have hf := z_if_t hf c5
      refine y_iinc (fun t6 => [some (.ref a0), none, some (.int z2), some (.int t6)]) dX13_allCame_72 rfl kc_1 (by decide) (fun _ => rfl) (fun t6 et6 => ?_)
      have hf := z_l_el hf et6
      refine z_goto (tgt := 14) dX13_allCame_75 (by decide) ?_
      cases hf
      exact y_sub hk (z_le_c rfl (z_le_n (z_le_c rfl (z_le_c rfl z_le_0))))
    · have hf := z_if_f hf c5
      refine z_aload_n dX13_allCame_28 rfl rfl (z_okl g_a0) ?_
      refine z_iload_n dX13_allCame_29 rfl rfl ?_
      refine z_aload_n dX13_allCame_30 rfl rfl (z_okl g_a0) ?_
      refine y_getR lfX13_31 rfl g_a0 dX13_allCame_31 ?_
      refine z_iload_n dX13_allCame_34 rfl rfl ?_
      obtain ⟨g7, hf⟩ := z_g_el hf
      refine y_iald g7 dX13_allCame_35 ?_
      obtain ⟨q8, hq8, hf⟩ := z_b_el hf
      refine y_cVi (av := [.int p3, .int (I (R a0 9) p3.toNatClampNeg)]) (Nat.le_trans (Nat.le_of_ble_eq_true rfl) hd) (wX13_holdsTo (z_dl rfl hd) hq8) oX13_holdsTo lmX13_279 iX13_holdsTo g_a0 rfl _ rfl rfl (Nat.le_of_ble_eq_true rfl) dX13_allCame_36 ?_
      refine z_iload_n dX13_allCame_39 rfl rfl ?_
      refine z_icmp_ge (tgt := 46) dX13_allCame_40 (by decide) (fun c9 => ?_) (fun c9 => ?_)
      · have hf := z_if_t hf c9
        refine z_aload_n dX13_allCame_46 rfl rfl (z_okl g_a0) ?_
        refine z_iload_n dX13_allCame_47 rfl rfl ?_
        refine z_aload_n dX13_allCame_48 rfl rfl (z_okl g_a0) ?_
        refine y_getR lfX13_95 rfl g_a0 dX13_allCame_49 ?_
        refine z_iload_n dX13_allCame_52 rfl rfl ?_
        obtain ⟨g10, hf⟩ := z_g_el hf
        refine y_iald g10 dX13_allCame_53 ?_
        refine z_aload_n dX13_allCame_54 rfl rfl (z_okl g_a0) ?_
        refine y_getR lfX13_31 rfl g_a0 dX13_allCame_55 ?_
        refine z_iload_n dX13_allCame_58 rfl rfl ?_
        refine y_iald g7 dX13_allCame_59 ?_
        obtain ⟨q11, hq11, hf⟩ := z_b_el hf
        refine y_cSi (Nat.le_trans (Nat.le_of_ble_eq_true rfl) hd) (wX13_min (z_dl rfl hd) hq11) oX13_min lmX13_282 sX13_min _ rfl rfl (Nat.le_of_ble_eq_true rfl) dX13_allCame_60 ?_
        obtain ⟨q12, hq12, hf⟩ := z_b_el hf
        refine y_cVi (av := [.int p3, .int q11]) (Nat.le_trans (Nat.le_of_ble_eq_true rfl) hd) (wX13_holdsTo (z_dl rfl hd) hq12) oX13_holdsTo lmX13_279 iX13_holdsTo g_a0 rfl _ rfl rfl (Nat.le_of_ble_eq_true rfl) dX13_allCame_63 ?_
        refine z_iload_n dX13_allCame_66 rfl rfl ?_
        refine z_icmp_ge (tgt := 72) dX13_allCame_67 (by decide) (fun c13 => ?_) (fun c13 => ?_)
        · have hf := z_if_t hf c13
          refine y_iinc (fun t14 => [some (.ref a0), none, some (.int z2), some (.int t14)]) dX13_allCame_72 rfl kc_1 (by decide) (fun _ => rfl) (fun t14 et14 => ?_)
          have hf := z_l_el hf et14
          refine z_goto (tgt := 14) dX13_allCame_75 (by decide) ?_
          cases hf
          exact y_sub hk (z_le_c rfl (z_le_n (z_le_c rfl (z_le_c rfl z_le_0))))
        · have hf := z_if_f hf c13
          refine z_iconst dX13_allCame_70 kc_0 ?_
          cases hf
          exact z_iret hk ⟨_, rfl, rfl⟩ dX13_allCame_71
      · have hf := z_if_f hf c9
        refine z_goto (tgt := 72) dX13_allCame_43 (by decide) ?_
        refine y_iinc (fun t15 => [some (.ref a0), none, some (.int z2), some (.int t15)]) dX13_allCame_72 rfl kc_1 (by decide) (fun _ => rfl) (fun t15 et15 => ?_)
        have hf := z_l_el hf et15
        refine z_goto (tgt := 14) dX13_allCame_75 (by decide) ?_
        cases hf
        exact y_sub hk (z_le_c rfl (z_le_n (z_le_c rfl (z_le_c rfl z_le_0))))
def fX13_allCame (a0 : Nat) (x1 : Int32) (I : Nat → Nat → Int32) (R : Nat → Nat → Nat) : Option (Int32) :=
  z_g (z_ob a0 13) (z_g (z_ok 1 (R a0 42) x1) (z_b (fX13_holdsTo a0 x1 (I (R a0 42) x1.toNatClampNeg) I R) (fun q2 => z_b (z_lp (fX13_allCame_b14 a0 q2 I R) 300 (0 : Int32)) (fun q16 => z_x q16 (fun q18 => some q18) (fun q17 => some (1 : Int32))))))
theorem vX13_allCame {G : z_G} {d : Nat} {Q : Option Value → z_S → z_H → Prop} {a0 : Nat} {x1 : Int32} {I : Nat → Nat → Int32} {R : Nat → Nat → Nat} {q : Int32} (hd : 2 ≤ d) (hf : fX13_allCame a0 x1 I R = some q) (hk : Q (some (.int q)) z_SH (I, R)) : z_W G eX13_allCame d 0 0 0 [some (.ref a0), some (.int x1), none, none] [] z_SH (I, R) Q := by
  unfold fX13_allCame at hf
  obtain ⟨g_a0, hf⟩ := z_g_el hf
  refine z_aload_n dX13_allCame_0 rfl rfl (z_okl g_a0) ?_
  refine z_iload_n dX13_allCame_1 rfl rfl ?_
  refine z_aload_n dX13_allCame_2 rfl rfl (z_okl g_a0) ?_
  refine y_getR lfX13_95 rfl g_a0 dX13_allCame_3 ?_
  refine z_iload_n dX13_allCame_6 rfl rfl ?_
  obtain ⟨g1, hf⟩ := z_g_el hf
  refine y_iald g1 dX13_allCame_7 ?_
  obtain ⟨q2, hq2, hf⟩ := z_b_el hf
  refine y_cVi (av := [.int x1, .int (I (R a0 42) x1.toNatClampNeg)]) (Nat.le_trans (Nat.le_of_ble_eq_true rfl) hd) (wX13_holdsTo (z_dl rfl hd) hq2) oX13_holdsTo lmX13_279 iX13_holdsTo g_a0 rfl _ rfl rfl (Nat.le_of_ble_eq_true rfl) dX13_allCame_8 ?_
  refine y_istore_n0 [some (.ref a0), some (.int x1), some (.int q2), none] dX13_allCame_11 rfl (by decide) rfl ?_
  refine z_iconst dX13_allCame_12 kc_0 ?_
  refine y_istore_n0 [some (.ref a0), some (.int x1), some (.int q2), some (.int (0 : Int32))] dX13_allCame_13 rfl (by decide) rfl ?_
  obtain ⟨q16, hq16, hf⟩ := z_b_el hf
  refine y_sub (lv' := [some (.ref a0), none, some (.int q2), some (.int (0 : Int32))]) ?_ (z_le_c rfl (z_le_n (z_le_c rfl (z_le_c rfl z_le_0))))
  refine z_lp_el (P := (fun s : Int32 => z_W G eX13_allCame d 0 0 14 [some (.ref a0), none, some (.int q2), some (.int s)] [] z_SH (I, R) Q)) (E := (z_or (fun r : Int32 => Q (some (.int r)) z_SH (I, R)) (fun x : Unit => z_W G eX13_allCame d 0 0 78 [none, none, none, none] [] z_SH (I, R) Q))) (wX13_allCame_b14 hd g_a0) 300 (0 : Int32) q16 hq16 ?_
  rcases q16 with q18 | q17
  · have hf := z_x_l hf
    cases hf
    exact hk
  · have hf := z_x_r hf
    show z_W G eX13_allCame d 0 0 78 [none, none, none, none] [] z_SH (I, R) _
    refine z_iconst dX13_allCame_78 kc_1 ?_
    cases hf
    exact z_iret hk ⟨_, rfl, rfl⟩ dX13_allCame_79
theorem wX13_allCame {G : z_G} {d : Nat} {a0 : Nat} {x1 : Int32} {I : Nat → Nat → Int32} {R : Nat → Nat → Nat} {q : Int32} (hd : 2 ≤ d) (hf : fX13_allCame a0 x1 I R = some q) : z_M G d 0 0 eX13_allCame [.ref a0, .int x1] z_SH (I, R) (z_E (some (.int q)) (I, R)) :=
  y_M_of _ (by decide +kernel) rfl rfl rfl (vX13_allCame hd hf ⟨rfl, rfl, rfl⟩)
def fX13_sings_j195 (a0 : Nat) (y1 : Int32) (y2 : Int32) (I : Nat → Nat → Int32) (R : Nat → Nat → Nat) : Option ((Nat → Nat → Int32)) :=
  z_b (fX13_isDone a0 y1 I R) (fun q12 => if q12 = 0 then (z_g (z_ok 1 (R a0 6) y2) (if (I (R a0 6) y2.toNatClampNeg) = (1 : Int32) then (z_g (z_ok 1 (R a0 0) ((48 : Int32) + y1)) (z_l (z_u I (R a0 0) ((48 : Int32) + y1).toNatClampNeg (0 : Int32)) (fun I17 => z_g (z_ok 1 (R a0 0) ((72 : Int32) + y1)) (z_l (z_u I17 (R a0 0) ((72 : Int32) + y1).toNatClampNeg (1 : Int32)) (fun I19 => if (I19 a0 50) = (-1 : Int32) then (z_l (z_u I19 a0 50 y1) (fun I21 => z_l (z_u I21 a0 51 (I21 a0 46)) (fun I22 => some I22))) else (some I19)))))) else (some I))) else (z_g (z_ok 1 (R a0 0) ((48 : Int32) + y1)) (z_l (z_u I (R a0 0) ((48 : Int32) + y1).toNatClampNeg (0 : Int32)) (fun I24 => z_l (z_u I24 a0 48 y1) (fun I25 => z_l (z_u I25 a0 49 (I25 a0 46)) (fun I26 => some I26))))))
theorem wX13_sings_j195 {G : z_G} {d : Nat} {Q : Option Value → z_S → z_H → Prop} {a0 : Nat} {y1 : Int32} {y2 : Int32} {I : Nat → Nat → Int32} {R : Nat → Nat → Nat} {o : (Nat → Nat → Int32)} (hd : 3 ≤ d) (g_a0 : z_ob a0 13) (hf : fX13_sings_j195 a0 y1 y2 I R = some o) (hk : Q none z_SH (o, R)) : z_W G eX13_sings d 0 0 195 [some (.ref a0), some (.int y1), some (.int y2)] [] z_SH (I, R) Q := by
  unfold fX13_sings_j195 at hf
  refine z_aload_n dX13_sings_195 rfl rfl (z_okl g_a0) ?_
  refine z_iload_n dX13_sings_196 rfl rfl ?_
  obtain ⟨q12, hq12, hf⟩ := z_b_el hf
  refine y_cVi (av := [.int y1]) (Nat.le_trans (Nat.le_of_ble_eq_true rfl) hd) (wX13_isDone (z_dl rfl hd) hq12) oX13_isDone lmX13_270 iX13_isDone g_a0 rfl _ rfl rfl (Nat.le_of_ble_eq_true rfl) dX13_sings_197 ?_
  refine z_if_eq (tgt := 229) dX13_sings_200 (by decide) (fun c13 => ?_) (fun c13 => ?_)
  · have hf := z_if_t hf c13
    refine z_aload_n dX13_sings_229 rfl rfl (z_okl g_a0) ?_
    refine y_getR lfX13_22 rfl g_a0 dX13_sings_230 ?_
    refine z_iload_n dX13_sings_233 rfl rfl ?_
    obtain ⟨g14, hf⟩ := z_g_el hf
    refine y_iald g14 dX13_sings_234 ?_
    refine z_iconst dX13_sings_235 kc_1 ?_
    refine z_icmp_ne (tgt := 281) dX13_sings_236 (by decide) (fun c15 => ?_) (fun c15 => ?_)
    · have hf := z_if_f hf c15
      cases hf
      exact z_vret hk rfl dX13_sings_281
    · have hf := z_if_t hf c15
      refine z_aload_n dX13_sings_239 rfl rfl (z_okl g_a0) ?_
      refine y_getR lfX13_7 rfl g_a0 dX13_sings_240 ?_
      refine z_bipush dX13_sings_243 kb_48 ?_
      refine z_iload_n dX13_sings_245 rfl rfl ?_
      refine z_iadd dX13_sings_246 ?_
      refine z_iconst dX13_sings_247 kc_0 ?_
      obtain ⟨g16, hf⟩ := z_g_el hf
      refine y_iast g16 dX13_sings_248 (fun I17 eI17 => ?_)
      have hf := z_l_el hf eI17
      refine z_aload_n dX13_sings_249 rfl rfl (z_okl g_a0) ?_
      refine y_getR lfX13_7 rfl g_a0 dX13_sings_250 ?_
      refine z_bipush dX13_sings_253 kb_72 ?_
      refine z_iload_n dX13_sings_255 rfl rfl ?_
      refine z_iadd dX13_sings_256 ?_
      refine z_iconst dX13_sings_257 kc_1 ?_
      obtain ⟨g18, hf⟩ := z_g_el hf
      refine y_iast g18 dX13_sings_258 (fun I19 eI19 => ?_)
      have hf := z_l_el hf eI19
      refine z_aload_n dX13_sings_259 rfl rfl (z_okl g_a0) ?_
      refine y_getI lfX13_306 rfl g_a0 dX13_sings_260 ?_
      refine z_iconst dX13_sings_263 kc_m1 ?_
      refine z_icmp_eq (tgt := 268) dX13_sings_264 (by decide) (fun c20 => ?_) (fun c20 => ?_)
      · have hf := z_if_t hf c20
        refine z_aload_n dX13_sings_268 rfl rfl (z_okl g_a0) ?_
        refine z_iload_n dX13_sings_269 rfl rfl ?_
        refine y_putI lfX13_306 rfl g_a0 rfl rfl rfl dX13_sings_270 (fun I21 eI21 => ?_)
        have hf := z_l_el hf eI21
        refine z_aload_n dX13_sings_273 rfl rfl (z_okl g_a0) ?_
        refine z_aload_n dX13_sings_274 rfl rfl (z_okl g_a0) ?_
        refine y_getI lfX13_300 rfl g_a0 dX13_sings_275 ?_
        refine y_putI lfX13_309 rfl g_a0 rfl rfl rfl dX13_sings_278 (fun I22 eI22 => ?_)
        have hf := z_l_el hf eI22
        cases hf
        exact z_vret hk rfl dX13_sings_281
      · have hf := z_if_f hf c20
        cases hf
        exact z_vret hk rfl dX13_sings_267
  · have hf := z_if_f hf c13
    refine z_aload_n dX13_sings_203 rfl rfl (z_okl g_a0) ?_
    refine y_getR lfX13_7 rfl g_a0 dX13_sings_204 ?_
    refine z_bipush dX13_sings_207 kb_48 ?_
    refine z_iload_n dX13_sings_209 rfl rfl ?_
    refine z_iadd dX13_sings_210 ?_
    refine z_iconst dX13_sings_211 kc_0 ?_
    obtain ⟨g23, hf⟩ := z_g_el hf
    refine y_iast g23 dX13_sings_212 (fun I24 eI24 => ?_)
    have hf := z_l_el hf eI24
    refine z_aload_n dX13_sings_213 rfl rfl (z_okl g_a0) ?_
    refine z_iload_n dX13_sings_214 rfl rfl ?_
    refine y_putI lfX13_297 rfl g_a0 rfl rfl rfl dX13_sings_215 (fun I25 eI25 => ?_)
    have hf := z_l_el hf eI25
    refine z_aload_n dX13_sings_218 rfl rfl (z_okl g_a0) ?_
    refine z_aload_n dX13_sings_219 rfl rfl (z_okl g_a0) ?_
    refine y_getI lfX13_300 rfl g_a0 dX13_sings_220 ?_
    refine y_putI lfX13_303 rfl g_a0 rfl rfl rfl dX13_sings_223 (fun I26 eI26 => ?_)
    have hf := z_l_el hf eI26
    refine z_goto (tgt := 281) dX13_sings_226 (by decide) ?_
    cases hf
    exact z_vret hk rfl dX13_sings_281
def fX13_sings_j147 (a0 : Nat) (y1 : Int32) (y2 : Int32) (I : Nat → Nat → Int32) (R : Nat → Nat → Nat) : Option ((Nat → Nat → Int32)) :=
  z_g (z_ok 1 (R a0 0) ((40 : Int32) + y1)) (z_l (z_u I (R a0 0) ((40 : Int32) + y1).toNatClampNeg ((I (R a0 0) ((40 : Int32) + y1).toNatClampNeg) + (1 : Int32))) (fun I9 => z_g (z_ok 1 (R a0 7) y2) (if (I9 (R a0 7) y2.toNatClampNeg) = (1 : Int32) then (z_g (z_ok 1 (R a0 0) ((32 : Int32) + y1)) (z_g (z_ok 1 (R a0 0) ((56 : Int32) + y1)) (z_l (z_u I9 (R a0 0) ((56 : Int32) + y1).toNatClampNeg (I9 (R a0 0) ((32 : Int32) + y1).toNatClampNeg)) (fun I29 => fX13_sings_j195 a0 y1 y2 I29 R)))) else (fX13_sings_j195 a0 y1 y2 I9 R))))
theorem wX13_sings_j147 {G : z_G} {d : Nat} {Q : Option Value → z_S → z_H → Prop} {a0 : Nat} {y1 : Int32} {y2 : Int32} {I : Nat → Nat → Int32} {R : Nat → Nat → Nat} {o : (Nat → Nat → Int32)} (hd : 3 ≤ d) (g_a0 : z_ob a0 13) (hf : fX13_sings_j147 a0 y1 y2 I R = some o) (hk : Q none z_SH (o, R)) : z_W G eX13_sings d 0 0 147 [some (.ref a0), some (.int y1), some (.int y2)] [] z_SH (I, R) Q := by
  unfold fX13_sings_j147 at hf
  refine z_aload_n dX13_sings_147 rfl rfl (z_okl g_a0) ?_
  refine y_getR lfX13_7 rfl g_a0 dX13_sings_148 ?_
  refine z_bipush dX13_sings_151 kb_40 ?_
  refine z_iload_n dX13_sings_153 rfl rfl ?_
  refine z_iadd dX13_sings_154 ?_
  refine z_aload_n dX13_sings_155 rfl rfl (z_okl g_a0) ?_
  refine y_getR lfX13_7 rfl g_a0 dX13_sings_156 ?_
  refine z_bipush dX13_sings_159 kb_40 ?_
  refine z_iload_n dX13_sings_161 rfl rfl ?_
  refine z_iadd dX13_sings_162 ?_
  obtain ⟨g8, hf⟩ := z_g_el hf
  refine y_iald g8 dX13_sings_163 ?_
  refine z_iconst dX13_sings_164 kc_1 ?_
  refine z_iadd dX13_sings_165 ?_
  refine y_iast g8 dX13_sings_166 (fun I9 eI9 => ?_)
  have hf := z_l_el hf eI9
  refine z_aload_n dX13_sings_167 rfl rfl (z_okl g_a0) ?_
  refine y_getR lfX13_25 rfl g_a0 dX13_sings_168 ?_
  refine z_iload_n dX13_sings_171 rfl rfl ?_
  obtain ⟨g10, hf⟩ := z_g_el hf
  refine y_iald g10 dX13_sings_172 ?_
  refine z_iconst dX13_sings_173 kc_1 ?_
  refine z_icmp_ne (tgt := 195) dX13_sings_174 (by decide) (fun c11 => ?_) (fun c11 => ?_)
  · have hf := z_if_f hf c11
    exact y_sub (wX13_sings_j195 hd g_a0 hf hk) (z_le_c rfl (z_le_c rfl (z_le_c rfl z_le_0)))
  · have hf := z_if_t hf c11
    refine z_aload_n dX13_sings_177 rfl rfl (z_okl g_a0) ?_
    refine y_getR lfX13_7 rfl g_a0 dX13_sings_178 ?_
    refine z_bipush dX13_sings_181 kb_56 ?_
    refine z_iload_n dX13_sings_183 rfl rfl ?_
    refine z_iadd dX13_sings_184 ?_
    refine z_aload_n dX13_sings_185 rfl rfl (z_okl g_a0) ?_
    refine y_getR lfX13_7 rfl g_a0 dX13_sings_186 ?_
    refine z_bipush dX13_sings_189 kb_32 ?_
    refine z_iload_n dX13_sings_191 rfl rfl ?_
    refine z_iadd dX13_sings_192 ?_
    obtain ⟨g27, hf⟩ := z_g_el hf
    refine y_iald g27 dX13_sings_193 ?_
    obtain ⟨g28, hf⟩ := z_g_el hf
    refine y_iast g28 dX13_sings_194 (fun I29 eI29 => ?_)
    have hf := z_l_el hf eI29
    exact y_sub (wX13_sings_j195 hd g_a0 hf hk) (z_le_c rfl (z_le_c rfl (z_le_c rfl z_le_0)))
def fX13_sings_j79 (a0 : Nat) (y1 : Int32) (y2 : Int32) (I : Nat → Nat → Int32) (R : Nat → Nat → Nat) : Option ((Nat → Nat → Int32)) :=
  z_g (z_ok 1 (R a0 5) y2) (if (I (R a0 5) y2.toNatClampNeg) ≤ 0 then (fX13_sings_j147 a0 y1 y2 I R) else (z_g (z_ok 1 (R a0 0) ((56 : Int32) + y1)) (z_g (z_ok 1 (R a0 33) (5 : Int32)) (z_l (z_u I (R a0 33) (5 : Int32).toNatClampNeg (I (R a0 0) ((56 : Int32) + y1).toNatClampNeg)) (fun I32 => z_g (z_ok 1 (R a0 33) (6 : Int32)) (z_l (z_u I32 (R a0 33) (6 : Int32).toNatClampNeg (I32 (R a0 5) y2.toNatClampNeg)) (fun I34 => z_b (fX13_byLaw a0 (98 : Int32) (20 : Int32) I34 R) (fun q35 => z_b (fX13_max (0 : Int32) ((I34 (R a0 0) ((56 : Int32) + y1).toNatClampNeg) - q35.1)) (fun q36 => z_l (z_u q35.2 (R a0 0) ((56 : Int32) + y1).toNatClampNeg q36) (fun I37 => fX13_sings_j147 a0 y1 y2 I37 R))))))))))
theorem wX13_sings_j79 {G : z_G} {d : Nat} {Q : Option Value → z_S → z_H → Prop} {a0 : Nat} {y1 : Int32} {y2 : Int32} {I : Nat → Nat → Int32} {R : Nat → Nat → Nat} {o : (Nat → Nat → Int32)} (hd : 3 ≤ d) (g_a0 : z_ob a0 13) (hf : fX13_sings_j79 a0 y1 y2 I R = some o) (hk : Q none z_SH (o, R)) : z_W G eX13_sings d 0 0 79 [some (.ref a0), some (.int y1), some (.int y2)] [] z_SH (I, R) Q := by
  unfold fX13_sings_j79 at hf
  refine z_aload_n dX13_sings_79 rfl rfl (z_okl g_a0) ?_
  refine y_getR lfX13_19 rfl g_a0 dX13_sings_80 ?_
  refine z_iload_n dX13_sings_83 rfl rfl ?_
  obtain ⟨g6, hf⟩ := z_g_el hf
  refine y_iald g6 dX13_sings_84 ?_
  refine z_if_le (tgt := 147) dX13_sings_85 (by decide) (fun c7 => ?_) (fun c7 => ?_)
  · have hf := z_if_t hf c7
    exact y_sub (wX13_sings_j147 hd g_a0 hf hk) (z_le_c rfl (z_le_c rfl (z_le_c rfl z_le_0)))
  · have hf := z_if_f hf c7
    refine z_aload_n dX13_sings_88 rfl rfl (z_okl g_a0) ?_
    refine y_getR lfX13_74 rfl g_a0 dX13_sings_89 ?_
    refine z_iconst dX13_sings_92 kc_5 ?_
    refine z_aload_n dX13_sings_93 rfl rfl (z_okl g_a0) ?_
    refine y_getR lfX13_7 rfl g_a0 dX13_sings_94 ?_
    refine z_bipush dX13_sings_97 kb_56 ?_
    refine z_iload_n dX13_sings_99 rfl rfl ?_
    refine z_iadd dX13_sings_100 ?_
    obtain ⟨g30, hf⟩ := z_g_el hf
    refine y_iald g30 dX13_sings_101 ?_
    obtain ⟨g31, hf⟩ := z_g_el hf
    refine y_iast g31 dX13_sings_102 (fun I32 eI32 => ?_)
    have hf := z_l_el hf eI32
    refine z_aload_n dX13_sings_103 rfl rfl (z_okl g_a0) ?_
    refine y_getR lfX13_74 rfl g_a0 dX13_sings_104 ?_
    refine z_bipush dX13_sings_107 kb_6 ?_
    refine z_aload_n dX13_sings_109 rfl rfl (z_okl g_a0) ?_
    refine y_getR lfX13_19 rfl g_a0 dX13_sings_110 ?_
    refine z_iload_n dX13_sings_113 rfl rfl ?_
    refine y_iald g6 dX13_sings_114 ?_
    obtain ⟨g33, hf⟩ := z_g_el hf
    refine y_iast g33 dX13_sings_115 (fun I34 eI34 => ?_)
    have hf := z_l_el hf eI34
    refine z_aload_n dX13_sings_116 rfl rfl (z_okl g_a0) ?_
    refine y_getR lfX13_7 rfl g_a0 dX13_sings_117 ?_
    refine z_bipush dX13_sings_120 kb_56 ?_
    refine z_iload_n dX13_sings_122 rfl rfl ?_
    refine z_iadd dX13_sings_123 ?_
    refine z_iconst dX13_sings_124 kc_0 ?_
    refine z_aload_n dX13_sings_125 rfl rfl (z_okl g_a0) ?_
    refine y_getR lfX13_7 rfl g_a0 dX13_sings_126 ?_
    refine z_bipush dX13_sings_129 kb_56 ?_
    refine z_iload_n dX13_sings_131 rfl rfl ?_
    refine z_iadd dX13_sings_132 ?_
    refine y_iald g30 dX13_sings_133 ?_
    refine z_aload_n dX13_sings_134 rfl rfl (z_okl g_a0) ?_
    refine z_bipush dX13_sings_135 kb_98 ?_
    refine z_bipush dX13_sings_137 kb_20 ?_
    obtain ⟨q35, hq35, hf⟩ := z_b_el hf
    refine y_cVi (av := [.int (98 : Int32), .int (20 : Int32)]) (Nat.le_trans (Nat.le_of_ble_eq_true rfl) hd) (wX13_byLaw (z_dl rfl hd) hq35) oX13_byLaw lmX13_291 iX13_byLaw g_a0 rfl _ rfl rfl (Nat.le_of_ble_eq_true rfl) dX13_sings_139 ?_
    refine z_isub dX13_sings_142 ?_
    obtain ⟨q36, hq36, hf⟩ := z_b_el hf
    refine y_cSi (Nat.le_trans (Nat.le_of_ble_eq_true rfl) hd) (wX13_max (z_dl rfl hd) hq36) oX13_max lmX13_294 sX13_max _ rfl rfl (Nat.le_of_ble_eq_true rfl) dX13_sings_143 ?_
    refine y_iast g30 dX13_sings_146 (fun I37 eI37 => ?_)
    have hf := z_l_el hf eI37
    exact y_sub (wX13_sings_j147 hd g_a0 hf hk) (z_le_c rfl (z_le_c rfl (z_le_c rfl z_le_0)))
def fX13_sings (a0 : Nat) (x1 : Int32) (I : Nat → Nat → Int32) (R : Nat → Nat → Nat) : Option ((Nat → Nat → Int32)) :=
  z_g (z_ob a0 13) (z_g (z_ok 1 (R a0 0) ((40 : Int32) + x1)) (z_l (((60 : Int32) * x1) + (I (R a0 0) ((40 : Int32) + x1).toNatClampNeg)) (fun t2 => z_l (z_u I a0 43 ((I a0 43) + (1 : Int32))) (fun I3 => z_g (z_ok 1 (R a0 5) t2) (if (I3 (R a0 5) t2.toNatClampNeg) ≤ 0 then (fX13_sings_j79 a0 x1 t2 I3 R) else (z_g (z_ok 1 (R a0 0) ((56 : Int32) + x1)) (if (I3 (R a0 0) ((56 : Int32) + x1).toNatClampNeg) = 0 then (z_g (z_ok 1 (R a0 0) ((64 : Int32) + x1)) (z_l (z_u I3 (R a0 0) ((64 : Int32) + x1).toNatClampNeg ((I3 (R a0 0) ((64 : Int32) + x1).toNatClampNeg) + (1 : Int32))) (fun I41 => z_l (z_u I41 a0 44 ((I41 a0 44) + (1 : Int32))) (fun I42 => fX13_sings_j147 a0 x1 t2 I42 R)))) else (fX13_sings_j79 a0 x1 t2 I3 R))))))))
set_option maxRecDepth 20000 in
theorem vX13_sings {G : z_G} {d : Nat} {Q : Option Value → z_S → z_H → Prop} {a0 : Nat} {x1 : Int32} {I : Nat → Nat → Int32} {R : Nat → Nat → Nat} {q : (Nat → Nat → Int32)} (hd : 3 ≤ d) (hf : fX13_sings a0 x1 I R = some q) (hk : Q none z_SH (q, R)) : z_W G eX13_sings d 0 0 0 [some (.ref a0), some (.int x1), none] [] z_SH (I, R) Q := by
  unfold fX13_sings at hf
  obtain ⟨g_a0, hf⟩ := z_g_el hf
  refine z_bipush dX13_sings_0 kb_60 ?_
  refine z_iload_n dX13_sings_2 rfl rfl ?_
  refine z_imul dX13_sings_3 ?_
  refine z_aload_n dX13_sings_4 rfl rfl (z_okl g_a0) ?_
  refine y_getR lfX13_7 rfl g_a0 dX13_sings_5 ?_
  refine z_bipush dX13_sings_8 kb_40 ?_
  refine z_iload_n dX13_sings_10 rfl rfl ?_
  refine z_iadd dX13_sings_11 ?_
  obtain ⟨g1, hf⟩ := z_g_el hf
  refine y_iald g1 dX13_sings_12 ?_
  refine z_iadd dX13_sings_13 ?_
  refine y_istore_n (fun t2 => [some (.ref a0), some (.int x1), some (.int t2)]) dX13_sings_14 rfl (by decide) (fun _ => rfl) (fun t2 et2 => ?_)
  have hf := z_l_el hf et2
  refine z_aload_n dX13_sings_15 rfl rfl (z_okl g_a0) ?_
  refine z_aload_n dX13_sings_16 rfl rfl (z_okl g_a0) ?_
  refine y_getI lfX13_285 rfl g_a0 dX13_sings_17 ?_
  refine z_iconst dX13_sings_20 kc_1 ?_
  refine z_iadd dX13_sings_21 ?_
  refine y_putI lfX13_285 rfl g_a0 rfl rfl rfl dX13_sings_22 (fun I3 eI3 => ?_)
  have hf := z_l_el hf eI3
  refine z_aload_n dX13_sings_25 rfl rfl (z_okl g_a0) ?_
  refine y_getR lfX13_19 rfl g_a0 dX13_sings_26 ?_
  refine z_iload_n dX13_sings_29 rfl rfl ?_
  obtain ⟨g4, hf⟩ := z_g_el hf
  refine y_iald g4 dX13_sings_30 ?_
  refine z_if_le (tgt := 79) dX13_sings_31 (by decide) (fun c5 => ?_) (fun c5 => ?_)
  · have hf := z_if_t hf c5
    exact y_sub (wX13_sings_j79 hd g_a0 hf hk) (z_le_c rfl (z_le_c rfl (z_le_c rfl z_le_0)))
  · have hf := z_if_f hf c5
    refine z_aload_n dX13_sings_34 rfl rfl (z_okl g_a0) ?_
    refine y_getR lfX13_7 rfl g_a0 dX13_sings_35 ?_
    refine z_bipush dX13_sings_38 kb_56 ?_
    refine z_iload_n dX13_sings_40 rfl rfl ?_
    refine z_iadd dX13_sings_41 ?_
    obtain ⟨g38, hf⟩ := z_g_el hf
    refine y_iald g38 dX13_sings_42 ?_
    refine z_if_ne (tgt := 79) dX13_sings_43 (by decide) (fun c39 => ?_) (fun c39 => ?_)
    · have hf := z_if_f hf c39
      exact y_sub (wX13_sings_j79 hd g_a0 hf hk) (z_le_c rfl (z_le_c rfl (z_le_c rfl z_le_0)))
    · have hf := z_if_t hf c39
      refine z_aload_n dX13_sings_46 rfl rfl (z_okl g_a0) ?_
      refine y_getR lfX13_7 rfl g_a0 dX13_sings_47 ?_
      refine z_bipush dX13_sings_50 kb_64 ?_
      refine z_iload_n dX13_sings_52 rfl rfl ?_
      refine z_iadd dX13_sings_53 ?_
      refine z_aload_n dX13_sings_54 rfl rfl (z_okl g_a0) ?_
      refine y_getR lfX13_7 rfl g_a0 dX13_sings_55 ?_
      refine z_bipush dX13_sings_58 kb_64 ?_
      refine z_iload_n dX13_sings_60 rfl rfl ?_
      refine z_iadd dX13_sings_61 ?_
      obtain ⟨g40, hf⟩ := z_g_el hf
      refine y_iald g40 dX13_sings_62 ?_
      refine z_iconst dX13_sings_63 kc_1 ?_
      refine z_iadd dX13_sings_64 ?_
      refine y_iast g40 dX13_sings_65 (fun I41 eI41 => ?_)
      have hf := z_l_el hf eI41
      refine z_aload_n dX13_sings_66 rfl rfl (z_okl g_a0) ?_
      refine z_aload_n dX13_sings_67 rfl rfl (z_okl g_a0) ?_
      refine y_getI lfX13_288 rfl g_a0 dX13_sings_68 ?_
      refine z_iconst dX13_sings_71 kc_1 ?_
      refine z_iadd dX13_sings_72 ?_
      refine y_putI lfX13_288 rfl g_a0 rfl rfl rfl dX13_sings_73 (fun I42 eI42 => ?_)
      have hf := z_l_el hf eI42
      refine z_goto (tgt := 147) dX13_sings_76 (by decide) ?_
      exact y_sub (wX13_sings_j147 hd g_a0 hf hk) (z_le_c rfl (z_le_c rfl (z_le_c rfl z_le_0)))
theorem wX13_sings {G : z_G} {d : Nat} {a0 : Nat} {x1 : Int32} {I : Nat → Nat → Int32} {R : Nat → Nat → Nat} {q : (Nat → Nat → Int32)} (hd : 3 ≤ d) (hf : fX13_sings a0 x1 I R = some q) : z_M G d 0 0 eX13_sings [.ref a0, .int x1] z_SH (I, R) (z_E none (q, R)) :=
  y_M_of _ (by decide +kernel) rfl rfl rfl (vX13_sings hd hf ⟨rfl, rfl, rfl⟩)
