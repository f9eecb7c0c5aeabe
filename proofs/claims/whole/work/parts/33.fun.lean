def fX12_clashesBy_b5 (a0 : Nat) (a1 : Nat) (z2 : Int32) (I : Nat → Nat → Int32) (R : Nat → Nat → Nat) : (Int32 × Int32) → Option ((Int32 × Int32) ⊕ (Int32)) :=
  fun s => (fun (p3 : Int32) (p4 : Int32) => z_b (fX5_length a1 I) (fun q1 => if q1 ≤ p4 then (some (.inr p3)) else (z_b (fX5_noteAt a0 (p4 + z2) I R) (fun q3 => z_b (fX5_noteAt a1 p4 I R) (fun q4 => z_b (fX12_clash q3 q4) (fun q5 => if q5 = 0 then (z_l (p4 + (1 : Int32)) (fun t7 => some (.inl (p3, t7)))) else (z_l (p3 + (1 : Int32)) (fun t8 => z_l (p4 + (1 : Int32)) (fun t9 => some (.inl (t8, t9))))))))))) s.1 s.2
theorem wX12_clashesBy_b5 {G : z_G} {d : Nat} {Q : Option Value → z_S → z_H → Prop} {a0 : Nat} {a1 : Nat} {z2 : Int32} {I : Nat → Nat → Int32} {R : Nat → Nat → Nat} (hd : 2 ≤ d) (g_a0 : z_ob a0 5) (g_a1 : z_ob a1 5) : ∀ (s : Int32 × Int32) (o : (Int32 × Int32) ⊕ (Int32)), fX12_clashesBy_b5 a0 a1 z2 I R s = some o → z_or (fun s : Int32 × Int32 => z_W G eX12_clashesBy d 0 0 5 [some (.ref a0), some (.ref a1), some (.int z2), some (.int s.1), some (.int s.2)] [] z_SH (I, R) Q) (fun x : Int32 => z_W G eX12_clashesBy d 0 0 43 [none, none, none, some (.int x), none] [] z_SH (I, R) Q) o → (fun s : Int32 × Int32 => z_W G eX12_clashesBy d 0 0 5 [some (.ref a0), some (.ref a1), some (.int z2), some (.int s.1), some (.int s.2)] [] z_SH (I, R) Q) s := by
  rintro ⟨p3, p4⟩ o hf hk
  show z_W G eX12_clashesBy d 0 0 5 [some (.ref a0), some (.ref a1), some (.int z2), some (.int p3), some (.int p4)] [] z_SH (I, R) Q
  unfold fX12_clashesBy_b5 at hf
  try dsimp only at hf
  refine z_iload dX12_clashesBy_5 rfl ?_
  refine z_aload_n dX12_clashesBy_7 rfl rfl (z_okl g_a1) ?_
  obtain ⟨q1, hq1, hf⟩ := z_b_el hf
  refine y_cVi (av := []) (Nat.le_trans (Nat.le_of_ble_eq_true rfl) hd) (wX5_length (z_dl rfl hd) hq1) oX5_length lmX12_233 iX5_length g_a1 rfl _ rfl rfl (Nat.le_of_ble_eq_true rfl) dX12_clashesBy_8 ?_
  refine z_icmp_ge (tgt := 43) dX12_clashesBy_11 (by decide) (fun c2 => ?_) (fun c2 => ?_)
  · have hf := z_if_t hf c2
    cases hf
    exact y_sub hk (z_le_n (z_le_n (z_le_n (z_le_c rfl (z_le_n z_le_0)))))
  · have hf := z_if_f hf c2
    refine z_aload_n dX12_clashesBy_14 rfl rfl (z_okl g_a0) ?_
    refine z_iload dX12_clashesBy_15 rfl ?_
    refine z_iload_n dX12_clashesBy_17 rfl rfl ?_
    refine z_iadd dX12_clashesBy_18 ?_
    obtain ⟨q3, hq3, hf⟩ := z_b_el hf
    refine y_cVi (av := [.int (p4 + z2)]) (Nat.le_trans (Nat.le_of_ble_eq_true rfl) hd) (wX5_noteAt (z_dl rfl hd) hq3) oX5_noteAt lmX12_234 iX5_noteAt g_a0 rfl _ rfl rfl (Nat.le_of_ble_eq_true rfl) dX12_clashesBy_19 ?_
    refine z_aload_n dX12_clashesBy_22 rfl rfl (z_okl g_a1) ?_
    refine z_iload dX12_clashesBy_23 rfl ?_
    obtain ⟨q4, hq4, hf⟩ := z_b_el hf
    refine y_cVi (av := [.int p4]) (Nat.le_trans (Nat.le_of_ble_eq_true rfl) hd) (wX5_noteAt (z_dl rfl hd) hq4) oX5_noteAt lmX12_234 iX5_noteAt g_a1 rfl _ rfl rfl (Nat.le_of_ble_eq_true rfl) dX12_clashesBy_25 ?_
    obtain ⟨q5, hq5, hf⟩ := z_b_el hf
    refine y_cSi (Nat.le_trans (Nat.le_of_ble_eq_true rfl) hd) (wX12_clash (z_dl rfl hd) hq5) oX12_clash lmX12_271 sX12_clash _ rfl rfl (Nat.le_of_ble_eq_true rfl) dX12_clashesBy_28 ?_
    refine z_if_eq (tgt := 37) dX12_clashesBy_31 (by decide) (fun c6 => ?_) (fun c6 => ?_)
    · have hf := z_if_t hf c6
      refine y_iinc (fun t7 => [some (.ref a0), some (.ref a1), some (.int z2), some (.int p3), some (.int t7)]) dX12_clashesBy_37 rfl kc_1 (by decide) (fun _ => rfl) (fun t7 et7 => ?_)
      have hf := z_l_el hf et7
      refine z_goto (tgt := 5) dX12_clashesBy_40 (by decide) ?_
      cases hf
      exact y_sub hk (z_le_c rfl (z_le_c rfl (z_le_c rfl (z_le_c rfl (z_le_c rfl z_le_0)))))
    · have hf := z_if_f hf c6
      refine y_iinc (fun t8 => [some (.ref a0), some (.ref a1), some (.int z2), some (.int t8), some (.int p4)]) dX12_clashesBy_34 rfl kc_1 (by decide) (fun _ => rfl) (fun t8 et8 => ?_)
      have hf := z_l_el hf et8
      refine y_iinc (fun t9 => [some (.ref a0), some (.ref a1), some (.int z2), some (.int t8), some (.int t9)]) dX12_clashesBy_37 rfl kc_1 (by decide) (fun _ => rfl) (fun t9 et9 => ?_)
      have hf := z_l_el hf et9
      refine z_goto (tgt := 5) dX12_clashesBy_40 (by decide) ?_
      cases hf
      exact y_sub hk (z_le_c rfl (z_le_c rfl (z_le_c rfl (z_le_c rfl (z_le_c rfl z_le_0)))))
def fX12_clashesBy (a0 : Nat) (a1 : Nat) (x2 : Int32) (I : Nat → Nat → Int32) (R : Nat → Nat → Nat) : Option (Int32) :=
  z_g (z_ob a0 5) (z_g (z_ob a1 5) (z_b (z_lp (fX12_clashesBy_b5 a0 a1 x2 I R) 300 ((0 : Int32), (0 : Int32))) (fun q10 => some q10)))
theorem vX12_clashesBy {G : z_G} {d : Nat} {Q : Option Value → z_S → z_H → Prop} {a0 : Nat} {a1 : Nat} {x2 : Int32} {I : Nat → Nat → Int32} {R : Nat → Nat → Nat} {q : Int32} (hd : 2 ≤ d) (hf : fX12_clashesBy a0 a1 x2 I R = some q) (hk : Q (some (.int q)) z_SH (I, R)) : z_W G eX12_clashesBy d 0 0 0 [some (.ref a0), some (.ref a1), some (.int x2), none, none] [] z_SH (I, R) Q := by
  unfold fX12_clashesBy at hf
  obtain ⟨g_a0, hf⟩ := z_g_el hf
  obtain ⟨g_a1, hf⟩ := z_g_el hf
  refine z_iconst dX12_clashesBy_0 kc_0 ?_
  refine y_istore_n0 [some (.ref a0), some (.ref a1), some (.int x2), some (.int (0 : Int32)), none] dX12_clashesBy_1 rfl (by decide) rfl ?_
  refine z_iconst dX12_clashesBy_2 kc_0 ?_
  refine y_istore0 [some (.ref a0), some (.ref a1), some (.int x2), some (.int (0 : Int32)), some (.int (0 : Int32))] dX12_clashesBy_3 (by decide) rfl ?_
  obtain ⟨q10, hq10, hf⟩ := z_b_el hf
  refine y_sub (lv' := [some (.ref a0), some (.ref a1), some (.int x2), some (.int (0 : Int32)), some (.int (0 : Int32))]) ?_ (z_le_c rfl (z_le_c rfl (z_le_c rfl (z_le_c rfl (z_le_c rfl z_le_0)))))
  refine z_lp_el (P := (fun s : Int32 × Int32 => z_W G eX12_clashesBy d 0 0 5 [some (.ref a0), some (.ref a1), some (.int x2), some (.int s.1), some (.int s.2)] [] z_SH (I, R) Q)) (E := (fun x : Int32 => z_W G eX12_clashesBy d 0 0 43 [none, none, none, some (.int x), none] [] z_SH (I, R) Q)) (wX12_clashesBy_b5 hd g_a0 g_a1) 300 ((0 : Int32), (0 : Int32)) q10 hq10 ?_
  show z_W G eX12_clashesBy d 0 0 43 [none, none, none, some (.int q10), none] [] z_SH (I, R) _
  refine z_iload_n dX12_clashesBy_43 rfl rfl ?_
  cases hf
  exact z_iret hk ⟨_, rfl, rfl⟩ dX12_clashesBy_44
theorem wX12_clashesBy {G : z_G} {d : Nat} {a0 : Nat} {a1 : Nat} {x2 : Int32} {I : Nat → Nat → Int32} {R : Nat → Nat → Nat} {q : Int32} (hd : 2 ≤ d) (hf : fX12_clashesBy a0 a1 x2 I R = some q) : z_M G d 0 0 eX12_clashesBy [.ref a0, .ref a1, .int x2] z_SH (I, R) (z_E (some (.int q)) (I, R)) :=
  y_M_of _ (by decide +kernel) rfl rfl rfl (vX12_clashesBy hd hf ⟨rfl, rfl, rfl⟩)
def fX12_canon_b97 (a0 : Nat) (z3 : Int32) (z6 : Nat) (z7 : Nat) (I : Nat → Nat → Int32) (R : Nat → Nat → Nat) : (Int32 × Int32 × Int32) → Option ((Int32 × Int32 × Int32) ⊕ (Int32 × Int32)) :=
  fun s => (fun (p8 : Int32) (p9 : Int32) (p10 : Int32) => z_g (z_ob z6 5) (z_g (z_ob z7 5) (if (60 : Int32) ≤ p10 then (some (.inr (p8, p9))) else (z_b (fX12_clashesBy z6 z7 p10 I R) (fun q18 => if p9 ≤ q18 then (z_l (p10 + (1 : Int32)) (fun t20 => some (.inl (p8, p9, t20)))) else (z_l (p10 + (1 : Int32)) (fun t21 => some (.inl (p10, q18, t21))))))))) s.1 s.2.1 s.2.2
theorem wX12_canon_b97 {G : z_G} {d : Nat} {Q : Option Value → z_S → z_H → Prop} {a0 : Nat} {z3 : Int32} {z6 : Nat} {z7 : Nat} {I : Nat → Nat → Int32} {R : Nat → Nat → Nat} (hd : 3 ≤ d) (g_a0 : z_ob a0 12) : ∀ (s : Int32 × Int32 × Int32) (o : (Int32 × Int32 × Int32) ⊕ (Int32 × Int32)), fX12_canon_b97 a0 z3 z6 z7 I R s = some o → z_or (fun s : Int32 × Int32 × Int32 => z_W G eX12_canon d 0 0 97 [none, none, none, some (.int z3), none, none, some (.ref z6), some (.ref z7), some (.int s.1), some (.int s.2.1), some (.int s.2.2), none] [] z_SH (I, R) Q) (fun x : Int32 × Int32 => z_W G eX12_canon d 0 0 136 [none, none, none, some (.int z3), none, none, none, none, some (.int x.1), some (.int x.2), none, none] [] z_SH (I, R) Q) o → (fun s : Int32 × Int32 × Int32 => z_W G eX12_canon d 0 0 97 [none, none, none, some (.int z3), none, none, some (.ref z6), some (.ref z7), some (.int s.1), some (.int s.2.1), some (.int s.2.2), none] [] z_SH (I, R) Q) s := by
  rintro ⟨p8, p9, p10⟩ o hf hk
  show z_W G eX12_canon d 0 0 97 [none, none, none, some (.int z3), none, none, some (.ref z6), some (.ref z7), some (.int p8), some (.int p9), some (.int p10), none] [] z_SH (I, R) Q
  unfold fX12_canon_b97 at hf
  try dsimp only at hf
  obtain ⟨g15, hf⟩ := z_g_el hf
  obtain ⟨g16, hf⟩ := z_g_el hf
  refine z_iload dX12_canon_97 rfl ?_
  refine z_bipush dX12_canon_99 kb_60 ?_
  refine z_icmp_ge (tgt := 136) dX12_canon_101 (by decide) (fun c17 => ?_) (fun c17 => ?_)
  · have hf := z_if_t hf c17
    cases hf
    exact y_sub hk (z_le_n (z_le_n (z_le_n (z_le_c rfl (z_le_n (z_le_n (z_le_n (z_le_n (z_le_c rfl (z_le_c rfl (z_le_n (z_le_n z_le_0))))))))))))
  · have hf := z_if_f hf c17
    refine z_aload dX12_canon_104 rfl (z_okl g15) ?_
    refine z_aload dX12_canon_106 rfl (z_okl g16) ?_
    refine z_iload dX12_canon_108 rfl ?_
    obtain ⟨q18, hq18, hf⟩ := z_b_el hf
    refine y_cSi (Nat.le_trans (Nat.le_of_ble_eq_true rfl) hd) (wX12_clashesBy (z_dl rfl hd) hq18) oX12_clashesBy lmX12_275 sX12_clashesBy _ rfl rfl (Nat.le_of_ble_eq_true rfl) dX12_canon_110 ?_
    refine y_istore0 [none, none, none, some (.int z3), none, none, some (.ref z6), some (.ref z7), some (.int p8), some (.int p9), some (.int p10), some (.int q18)] dX12_canon_113 (by decide) rfl ?_
    refine z_iload dX12_canon_115 rfl ?_
    refine z_iload dX12_canon_117 rfl ?_
    refine z_icmp_ge (tgt := 130) dX12_canon_119 (by decide) (fun c19 => ?_) (fun c19 => ?_)
    · have hf := z_if_t hf c19
      refine y_iinc (fun t20 => [none, none, none, some (.int z3), none, none, some (.ref z6), some (.ref z7), some (.int p8), some (.int p9), some (.int t20), some (.int q18)]) dX12_canon_130 rfl kc_1 (by decide) (fun _ => rfl) (fun t20 et20 => ?_)
      have hf := z_l_el hf et20
      refine z_goto (tgt := 97) dX12_canon_133 (by decide) ?_
      cases hf
      exact y_sub hk (z_le_n (z_le_n (z_le_n (z_le_c rfl (z_le_n (z_le_n (z_le_c rfl (z_le_c rfl (z_le_c rfl (z_le_c rfl (z_le_c rfl (z_le_n z_le_0))))))))))))
    · have hf := z_if_f hf c19
      refine z_iload dX12_canon_122 rfl ?_
      refine y_istore0 [none, none, none, some (.int z3), none, none, some (.ref z6), some (.ref z7), some (.int p8), some (.int q18), some (.int p10), some (.int q18)] dX12_canon_124 (by decide) rfl ?_
      refine z_iload dX12_canon_126 rfl ?_
      refine y_istore0 [none, none, none, some (.int z3), none, none, some (.ref z6), some (.ref z7), some (.int p10), some (.int q18), some (.int p10), some (.int q18)] dX12_canon_128 (by decide) rfl ?_
      refine y_iinc (fun t21 => [none, none, none, some (.int z3), none, none, some (.ref z6), some (.ref z7), some (.int p10), some (.int q18), some (.int t21), some (.int q18)]) dX12_canon_130 rfl kc_1 (by decide) (fun _ => rfl) (fun t21 et21 => ?_)
      have hf := z_l_el hf et21
      refine z_goto (tgt := 97) dX12_canon_133 (by decide) ?_
      cases hf
      exact y_sub hk (z_le_n (z_le_n (z_le_n (z_le_c rfl (z_le_n (z_le_n (z_le_c rfl (z_le_c rfl (z_le_c rfl (z_le_c rfl (z_le_c rfl (z_le_n z_le_0))))))))))))
def fX12_canon_j45 (a0 : Nat) (y1 : Int32) (y2 : Int32) (y3 : Int32) (y4 : Int32) (I : Nat → Nat → Int32) (R : Nat → Nat → Nat) : Option (Int32) :=
  z_g (z_ob (R a0 1) 7) (z_g (z_ok 3 (R (R a0 1) 0) y1) (z_g (z_ob (R (R (R a0 1) 0) y1.toNatClampNeg) 5) (z_g (z_ok 3 (R (R a0 1) 0) y2) (z_g (z_ob (R (R (R a0 1) 0) y2.toNatClampNeg) 5) (if y4 = 0 then (z_b (fX12_clashesBy (R (R (R a0 1) 0) y1.toNatClampNeg) (R (R (R a0 1) 0) y2.toNatClampNeg) (0 : Int32) I R) (fun q14 => z_b (z_lp (fX12_canon_b97 a0 y3 (R (R (R a0 1) 0) y1.toNatClampNeg) (R (R (R a0 1) 0) y2.toNatClampNeg) I R) 300 ((0 : Int32), q14, (1 : Int32))) (fun q22 => if y3 = (100 : Int32) then (some q22.1) else (some q22.2)))) else (z_b (fX12_clashesBy (R (R (R a0 1) 0) y1.toNatClampNeg) (R (R (R a0 1) 0) y2.toNatClampNeg) y3 I R) (fun q24 => some q24)))))))
theorem wX12_canon_j45 {G : z_G} {d : Nat} {Q : Option Value → z_S → z_H → Prop} {a0 : Nat} {y1 : Int32} {y2 : Int32} {y3 : Int32} {y4 : Int32} {I : Nat → Nat → Int32} {R : Nat → Nat → Nat} {o : Int32} (hd : 3 ≤ d) (g_a0 : z_ob a0 12) (hf : fX12_canon_j45 a0 y1 y2 y3 y4 I R = some o) (hk : Q (some (.int o)) z_SH (I, R)) : z_W G eX12_canon d 0 0 45 [some (.ref a0), some (.int y1), some (.int y2), some (.int y3), some (.int y4), none, none, none, none, none, none, none] [] z_SH (I, R) Q := by
  unfold fX12_canon_j45 at hf
  refine z_aload_n dX12_canon_45 rfl rfl (z_okl g_a0) ?_
  refine y_getR lfX12_19 rfl g_a0 dX12_canon_46 ?_
  obtain ⟨g8, hf⟩ := z_g_el hf
  refine y_getR lfX12_229 rfl g8 dX12_canon_49 ?_
  refine z_iload_n dX12_canon_52 rfl rfl ?_
  obtain ⟨g9, hf⟩ := z_g_el hf
  refine y_aald (t := 0) (Or.inl rfl) g9 dX12_canon_53 ?_
  obtain ⟨g10, hf⟩ := z_g_el hf
  refine y_astore [some (.ref a0), some (.int y1), some (.int y2), some (.int y3), some (.int y4), none, some (.ref (R (R (R a0 1) 0) y1.toNatClampNeg)), none, none, none, none, none] dX12_canon_54 (by decide) (z_okl g10) rfl ?_
  refine z_aload_n dX12_canon_56 rfl rfl (z_okl g_a0) ?_
  refine y_getR lfX12_19 rfl g_a0 dX12_canon_57 ?_
  refine y_getR lfX12_229 rfl g8 dX12_canon_60 ?_
  refine z_iload_n dX12_canon_63 rfl rfl ?_
  obtain ⟨g11, hf⟩ := z_g_el hf
  refine y_aald (t := 0) (Or.inl rfl) g11 dX12_canon_64 ?_
  obtain ⟨g12, hf⟩ := z_g_el hf
  refine y_astore [some (.ref a0), some (.int y1), some (.int y2), some (.int y3), some (.int y4), none, some (.ref (R (R (R a0 1) 0) y1.toNatClampNeg)), some (.ref (R (R (R a0 1) 0) y2.toNatClampNeg)), none, none, none, none] dX12_canon_65 (by decide) (z_okl g12) rfl ?_
  refine z_iload dX12_canon_67 rfl ?_
  refine z_if_eq (tgt := 81) dX12_canon_69 (by decide) (fun c13 => ?_) (fun c13 => ?_)
  · have hf := z_if_t hf c13
    refine z_iconst dX12_canon_81 kc_0 ?_
    refine y_istore0 [some (.ref a0), some (.int y1), some (.int y2), some (.int y3), some (.int y4), none, some (.ref (R (R (R a0 1) 0) y1.toNatClampNeg)), some (.ref (R (R (R a0 1) 0) y2.toNatClampNeg)), some (.int (0 : Int32)), none, none, none] dX12_canon_82 (by decide) rfl ?_
    refine z_aload dX12_canon_84 rfl (z_okl g10) ?_
    refine z_aload dX12_canon_86 rfl (z_okl g12) ?_
    refine z_iconst dX12_canon_88 kc_0 ?_
    obtain ⟨q14, hq14, hf⟩ := z_b_el hf
    refine y_cSi (Nat.le_trans (Nat.le_of_ble_eq_true rfl) hd) (wX12_clashesBy (z_dl rfl hd) hq14) oX12_clashesBy lmX12_275 sX12_clashesBy _ rfl rfl (Nat.le_of_ble_eq_true rfl) dX12_canon_89 ?_
    refine y_istore0 [some (.ref a0), some (.int y1), some (.int y2), some (.int y3), some (.int y4), none, some (.ref (R (R (R a0 1) 0) y1.toNatClampNeg)), some (.ref (R (R (R a0 1) 0) y2.toNatClampNeg)), some (.int (0 : Int32)), some (.int q14), none, none] dX12_canon_92 (by decide) rfl ?_
    refine z_iconst dX12_canon_94 kc_1 ?_
    refine y_istore0 [some (.ref a0), some (.int y1), some (.int y2), some (.int y3), some (.int y4), none, some (.ref (R (R (R a0 1) 0) y1.toNatClampNeg)), some (.ref (R (R (R a0 1) 0) y2.toNatClampNeg)), some (.int (0 : Int32)), some (.int q14), some (.int (1 : Int32)), none] dX12_canon_95 (by decide) rfl ?_
    obtain ⟨q22, hq22, hf⟩ := z_b_el hf
    refine y_sub (lv' := [none, none, none, some (.int y3), none, none, some (.ref (R (R (R a0 1) 0) y1.toNatClampNeg)), some (.ref (R (R (R a0 1) 0) y2.toNatClampNeg)), some (.int (0 : Int32)), some (.int q14), some (.int (1 : Int32)), none]) ?_ (z_le_n (z_le_n (z_le_n (z_le_c rfl (z_le_n (z_le_n (z_le_c rfl (z_le_c rfl (z_le_c rfl (z_le_c rfl (z_le_c rfl (z_le_n z_le_0))))))))))))
    refine z_lp_el (P := (fun s : Int32 × Int32 × Int32 => z_W G eX12_canon d 0 0 97 [none, none, none, some (.int y3), none, none, some (.ref (R (R (R a0 1) 0) y1.toNatClampNeg)), some (.ref (R (R (R a0 1) 0) y2.toNatClampNeg)), some (.int s.1), some (.int s.2.1), some (.int s.2.2), none] [] z_SH (I, R) Q)) (E := (fun x : Int32 × Int32 => z_W G eX12_canon d 0 0 136 [none, none, none, some (.int y3), none, none, none, none, some (.int x.1), some (.int x.2), none, none] [] z_SH (I, R) Q)) (wX12_canon_b97 hd g_a0) 300 ((0 : Int32), q14, (1 : Int32)) q22 hq22 ?_
    show z_W G eX12_canon d 0 0 136 [none, none, none, some (.int y3), none, none, none, none, some (.int q22.1), some (.int q22.2), none, none] [] z_SH (I, R) _
    refine z_iload_n dX12_canon_136 rfl rfl ?_
    refine z_bipush dX12_canon_137 kb_100 ?_
    refine z_icmp_ne (tgt := 147) dX12_canon_139 (by decide) (fun c23 => ?_) (fun c23 => ?_)
    · have hf := z_if_f hf c23
      refine z_iload dX12_canon_147 rfl ?_
      cases hf
      exact z_iret hk ⟨_, rfl, rfl⟩ dX12_canon_149
    · have hf := z_if_t hf c23
      refine z_iload dX12_canon_142 rfl ?_
      refine z_goto (tgt := 149) dX12_canon_144 (by decide) ?_
      cases hf
      exact z_iret hk ⟨_, rfl, rfl⟩ dX12_canon_149
  · have hf := z_if_f hf c13
    refine z_aload dX12_canon_72 rfl (z_okl g10) ?_
    refine z_aload dX12_canon_74 rfl (z_okl g12) ?_
    refine z_iload_n dX12_canon_76 rfl rfl ?_
    obtain ⟨q24, hq24, hf⟩ := z_b_el hf
    refine y_cSi (Nat.le_trans (Nat.le_of_ble_eq_true rfl) hd) (wX12_clashesBy (z_dl rfl hd) hq24) oX12_clashesBy lmX12_275 sX12_clashesBy _ rfl rfl (Nat.le_of_ble_eq_true rfl) dX12_canon_77 ?_
    cases hf
    exact z_iret hk ⟨_, rfl, rfl⟩ dX12_canon_80
def fX12_canon (a0 : Nat) (x1 : Int32) (x2 : Int32) (x3 : Int32) (I : Nat → Nat → Int32) (R : Nat → Nat → Nat) : Option (Int32) :=
  z_g (z_ob a0 12) (z_b (fX12_within x3 (0 : Int32) (59 : Int32)) (fun q1 => z_b (fX12_within x3 (100 : Int32) (101 : Int32)) (fun q2 => z_b (fX12_isSinger x1) (fun q3 => if q3 = 0 then (some (-1 : Int32)) else (z_b (fX12_isSinger x2) (fun q5 => if q5 = 0 then (some (-1 : Int32)) else (if q1 = 0 then (if q2 = 0 then (some (-1 : Int32)) else (fX12_canon_j45 a0 x1 x2 x3 q1 I R)) else (fX12_canon_j45 a0 x1 x2 x3 q1 I R))))))))
set_option maxRecDepth 20000 in
theorem vX12_canon {G : z_G} {d : Nat} {Q : Option Value → z_S → z_H → Prop} {a0 : Nat} {x1 : Int32} {x2 : Int32} {x3 : Int32} {I : Nat → Nat → Int32} {R : Nat → Nat → Nat} {q : Int32} (hd : 3 ≤ d) (hf : fX12_canon a0 x1 x2 x3 I R = some q) (hk : Q (some (.int q)) z_SH (I, R)) : z_W G eX12_canon d 0 0 0 [some (.ref a0), some (.int x1), some (.int x2), some (.int x3), none, none, none, none, none, none, none, none] [] z_SH (I, R) Q := by
  unfold fX12_canon at hf
  obtain ⟨g_a0, hf⟩ := z_g_el hf
  refine z_iload_n dX12_canon_0 rfl rfl ?_
  refine z_iconst dX12_canon_1 kc_0 ?_
  refine z_bipush dX12_canon_2 kb_59 ?_
  obtain ⟨q1, hq1, hf⟩ := z_b_el hf
  refine y_cSi (Nat.le_trans (Nat.le_of_ble_eq_true rfl) hd) (wX12_within (z_dl rfl hd) hq1) oX12_within lmX12_96 sX12_within _ rfl rfl (Nat.le_of_ble_eq_true rfl) dX12_canon_4 ?_
  refine y_istore0 [some (.ref a0), some (.int x1), some (.int x2), some (.int x3), some (.int q1), none, none, none, none, none, none, none] dX12_canon_7 (by decide) rfl ?_
  refine z_iload_n dX12_canon_9 rfl rfl ?_
  refine z_bipush dX12_canon_10 kb_100 ?_
  refine z_bipush dX12_canon_12 kb_101 ?_
  obtain ⟨q2, hq2, hf⟩ := z_b_el hf
  refine y_cSi (Nat.le_trans (Nat.le_of_ble_eq_true rfl) hd) (wX12_within (z_dl rfl hd) hq2) oX12_within lmX12_96 sX12_within _ rfl rfl (Nat.le_of_ble_eq_true rfl) dX12_canon_14 ?_
  refine y_istore0 [some (.ref a0), some (.int x1), some (.int x2), some (.int x3), some (.int q1), some (.int q2), none, none, none, none, none, none] dX12_canon_17 (by decide) rfl ?_
  refine z_iload_n dX12_canon_19 rfl rfl ?_
  obtain ⟨q3, hq3, hf⟩ := z_b_el hf
  refine y_cSi (Nat.le_trans (Nat.le_of_ble_eq_true rfl) hd) (wX12_isSinger (z_dl rfl hd) hq3) oX12_isSinger lmX12_92 sX12_isSinger _ rfl rfl (Nat.le_of_ble_eq_true rfl) dX12_canon_20 ?_
  refine z_if_eq (tgt := 43) dX12_canon_23 (by decide) (fun c4 => ?_) (fun c4 => ?_)
  · have hf := z_if_t hf c4
    refine z_iconst dX12_canon_43 kc_m1 ?_
    cases hf
    exact z_iret hk ⟨_, rfl, rfl⟩ dX12_canon_44
  · have hf := z_if_f hf c4
    refine z_iload_n dX12_canon_26 rfl rfl ?_
    obtain ⟨q5, hq5, hf⟩ := z_b_el hf
    refine y_cSi (Nat.le_trans (Nat.le_of_ble_eq_true rfl) hd) (wX12_isSinger (z_dl rfl hd) hq5) oX12_isSinger lmX12_92 sX12_isSinger _ rfl rfl (Nat.le_of_ble_eq_true rfl) dX12_canon_27 ?_
    refine z_if_eq (tgt := 43) dX12_canon_30 (by decide) (fun c6 => ?_) (fun c6 => ?_)
    · have hf := z_if_t hf c6
      refine z_iconst dX12_canon_43 kc_m1 ?_
      cases hf
      exact z_iret hk ⟨_, rfl, rfl⟩ dX12_canon_44
    · have hf := z_if_f hf c6
      refine z_iload dX12_canon_33 rfl ?_
      refine z_if_ne (tgt := 45) dX12_canon_35 (by decide) (fun c7 => ?_) (fun c7 => ?_)
      · have hf := z_if_f hf c7
        exact y_sub (wX12_canon_j45 hd g_a0 hf hk) (z_le_c rfl (z_le_c rfl (z_le_c rfl (z_le_c rfl (z_le_c rfl (z_le_n (z_le_n (z_le_n (z_le_n (z_le_n (z_le_n (z_le_n z_le_0))))))))))))
      · have hf := z_if_t hf c7
        refine z_iload dX12_canon_38 rfl ?_
        refine z_if_ne (tgt := 45) dX12_canon_40 (by decide) (fun c25 => ?_) (fun c25 => ?_)
        · have hf := z_if_f hf c25
          exact y_sub (wX12_canon_j45 hd g_a0 hf hk) (z_le_c rfl (z_le_c rfl (z_le_c rfl (z_le_c rfl (z_le_c rfl (z_le_n (z_le_n (z_le_n (z_le_n (z_le_n (z_le_n (z_le_n z_le_0))))))))))))
        · have hf := z_if_t hf c25
          refine z_iconst dX12_canon_43 kc_m1 ?_
          cases hf
          exact z_iret hk ⟨_, rfl, rfl⟩ dX12_canon_44
theorem wX12_canon {G : z_G} {d : Nat} {a0 : Nat} {x1 : Int32} {x2 : Int32} {x3 : Int32} {I : Nat → Nat → Int32} {R : Nat → Nat → Nat} {q : Int32} (hd : 3 ≤ d) (hf : fX12_canon a0 x1 x2 x3 I R = some q) : z_M G d 0 0 eX12_canon [.ref a0, .int x1, .int x2, .int x3] z_SH (I, R) (z_E (some (.int q)) (I, R)) :=
  y_M_of _ (by decide +kernel) rfl rfl rfl (vX12_canon hd hf ⟨rfl, rfl, rfl⟩)
def fX12_attacks_b16 (a0 : Nat) (z1 : Int32) (I : Nat → Nat → Int32) (R : Nat → Nat → Nat) : (Int32 × Int32) → Option ((Int32 × Int32) ⊕ (Int32)) :=
  fun s => (fun (p2 : Int32) (p3 : Int32) => if (8 : Int32) ≤ p3 then (some (.inr p2)) else (z_g (z_ob (R a0 5) 9) (z_b (fX9_isTold (R a0 5) p3 I R) (fun q4 => if q4 = 0 then (z_l (p3 + (1 : Int32)) (fun t7 => some (.inl (p2, t7)))) else (z_g (z_ob (R a0 1) 7) (z_g (z_ok 3 (R (R a0 1) 0) p3) (z_g (z_ob (R (R (R a0 1) 0) p3.toNatClampNeg) 5) (z_b (fX5_beginsSound (R (R (R a0 1) 0) p3.toNatClampNeg) z1 I R) (fun q10 => if q10 = 0 then (z_l (p3 + (1 : Int32)) (fun t13 => some (.inl (p2, t13)))) else (z_l (p2 + (1 : Int32)) (fun t14 => z_l (p3 + (1 : Int32)) (fun t15 => some (.inl (t14, t15)))))))))))))) s.1 s.2
theorem wX12_attacks_b16 {G : z_G} {d : Nat} {Q : Option Value → z_S → z_H → Prop} {a0 : Nat} {z1 : Int32} {I : Nat → Nat → Int32} {R : Nat → Nat → Nat} (hd : 3 ≤ d) (g_a0 : z_ob a0 12) : ∀ (s : Int32 × Int32) (o : (Int32 × Int32) ⊕ (Int32)), fX12_attacks_b16 a0 z1 I R s = some o → z_or (fun s : Int32 × Int32 => z_W G eX12_attacks d 0 0 16 [some (.ref a0), some (.int z1), some (.int s.1), some (.int s.2)] [] z_SH (I, R) Q) (fun x : Int32 => z_W G eX12_attacks d 0 0 58 [none, none, some (.int x), none] [] z_SH (I, R) Q) o → (fun s : Int32 × Int32 => z_W G eX12_attacks d 0 0 16 [some (.ref a0), some (.int z1), some (.int s.1), some (.int s.2)] [] z_SH (I, R) Q) s := by
  rintro ⟨p2, p3⟩ o hf hk
  show z_W G eX12_attacks d 0 0 16 [some (.ref a0), some (.int z1), some (.int p2), some (.int p3)] [] z_SH (I, R) Q
  unfold fX12_attacks_b16 at hf
  try dsimp only at hf
  refine z_iload_n dX12_attacks_16 rfl rfl ?_
  refine z_bipush dX12_attacks_17 kb_8 ?_
  refine z_icmp_ge (tgt := 58) dX12_attacks_19 (by decide) (fun c3 => ?_) (fun c3 => ?_)
  · have hf := z_if_t hf c3
    cases hf
    exact y_sub hk (z_le_n (z_le_n (z_le_c rfl (z_le_n z_le_0))))
  · have hf := z_if_f hf c3
    refine z_aload_n dX12_attacks_22 rfl rfl (z_okl g_a0) ?_
    refine y_getR lfX12_61 rfl g_a0 dX12_attacks_23 ?_
    refine z_iload_n dX12_attacks_26 rfl rfl ?_
    obtain ⟨g5, hf⟩ := z_g_el hf
    obtain ⟨q4, hq4, hf⟩ := z_b_el hf
    refine y_cVi (av := [.int p3]) (Nat.le_trans (Nat.le_of_ble_eq_true rfl) hd) (wX9_isTold (z_dl rfl hd) hq4) oX9_isTold lmX12_186 iX9_isTold g5 rfl _ rfl rfl (Nat.le_of_ble_eq_true rfl) dX12_attacks_27 ?_
    refine z_if_eq (tgt := 52) dX12_attacks_30 (by decide) (fun c6 => ?_) (fun c6 => ?_)
    · have hf := z_if_t hf c6
      refine y_iinc (fun t7 => [some (.ref a0), some (.int z1), some (.int p2), some (.int t7)]) dX12_attacks_52 rfl kc_1 (by decide) (fun _ => rfl) (fun t7 et7 => ?_)
      have hf := z_l_el hf et7
      refine z_goto (tgt := 16) dX12_attacks_55 (by decide) ?_
      cases hf
      exact y_sub hk (z_le_c rfl (z_le_c rfl (z_le_c rfl (z_le_c rfl z_le_0))))
    · have hf := z_if_f hf c6
      refine z_aload_n dX12_attacks_33 rfl rfl (z_okl g_a0) ?_
      refine y_getR lfX12_19 rfl g_a0 dX12_attacks_34 ?_
      obtain ⟨g8, hf⟩ := z_g_el hf
      refine y_getR lfX12_229 rfl g8 dX12_attacks_37 ?_
      refine z_iload_n dX12_attacks_40 rfl rfl ?_
      obtain ⟨g9, hf⟩ := z_g_el hf
      refine y_aald (t := 0) (Or.inl rfl) g9 dX12_attacks_41 ?_
      refine z_iload_n dX12_attacks_42 rfl rfl ?_
      obtain ⟨g11, hf⟩ := z_g_el hf
      obtain ⟨q10, hq10, hf⟩ := z_b_el hf
      refine y_cVi (av := [.int z1]) (Nat.le_trans (Nat.le_of_ble_eq_true rfl) hd) (wX5_beginsSound (z_dl rfl hd) hq10) oX5_beginsSound lmX12_279 iX5_beginsSound g11 rfl _ rfl rfl (Nat.le_of_ble_eq_true rfl) dX12_attacks_43 ?_
      refine z_if_eq (tgt := 52) dX12_attacks_46 (by decide) (fun c12 => ?_) (fun c12 => ?_)
      · have hf := z_if_t hf c12
        refine y_iinc (fun t13 => [some (.ref a0), some (.int z1), some (.int p2), some (.int t13)]) dX12_attacks_52 rfl kc_1 (by decide) (fun _ => rfl) (fun t13 et13 => ?_)
        have hf := z_l_el hf et13
        refine z_goto (tgt := 16) dX12_attacks_55 (by decide) ?_
        cases hf
        exact y_sub hk (z_le_c rfl (z_le_c rfl (z_le_c rfl (z_le_c rfl z_le_0))))
      · have hf := z_if_f hf c12
        refine y_iinc (fun t14 => [some (.ref a0), some (.int z1), some (.int t14), some (.int p3)]) dX12_attacks_49 rfl kc_1 (by decide) (fun _ => rfl) (fun t14 et14 => ?_)
        have hf := z_l_el hf et14
        refine y_iinc (fun t15 => [some (.ref a0), some (.int z1), some (.int t14), some (.int t15)]) dX12_attacks_52 rfl kc_1 (by decide) (fun _ => rfl) (fun t15 et15 => ?_)
        have hf := z_l_el hf et15
        refine z_goto (tgt := 16) dX12_attacks_55 (by decide) ?_
        cases hf
        exact y_sub hk (z_le_c rfl (z_le_c rfl (z_le_c rfl (z_le_c rfl z_le_0))))
def fX12_attacks (a0 : Nat) (x1 : Int32) (I : Nat → Nat → Int32) (R : Nat → Nat → Nat) : Option (Int32) :=
  z_g (z_ob a0 12) (z_b (fX12_within x1 (0 : Int32) (59 : Int32)) (fun q1 => if q1 = 0 then (some (-1 : Int32)) else (z_b (z_lp (fX12_attacks_b16 a0 x1 I R) 300 ((0 : Int32), (0 : Int32))) (fun q16 => some q16))))
theorem vX12_attacks {G : z_G} {d : Nat} {Q : Option Value → z_S → z_H → Prop} {a0 : Nat} {x1 : Int32} {I : Nat → Nat → Int32} {R : Nat → Nat → Nat} {q : Int32} (hd : 3 ≤ d) (hf : fX12_attacks a0 x1 I R = some q) (hk : Q (some (.int q)) z_SH (I, R)) : z_W G eX12_attacks d 0 0 0 [some (.ref a0), some (.int x1), none, none] [] z_SH (I, R) Q := by
  unfold fX12_attacks at hf
  obtain ⟨g_a0, hf⟩ := z_g_el hf
  refine z_iload_n dX12_attacks_0 rfl rfl ?_
  refine z_iconst dX12_attacks_1 kc_0 ?_
  refine z_bipush dX12_attacks_2 kb_59 ?_
  obtain ⟨q1, hq1, hf⟩ := z_b_el hf
  refine y_cSi (Nat.le_trans (Nat.le_of_ble_eq_true rfl) hd) (wX12_within (z_dl rfl hd) hq1) oX12_within lmX12_96 sX12_within _ rfl rfl (Nat.le_of_ble_eq_true rfl) dX12_attacks_4 ?_
  refine z_if_ne (tgt := 12) dX12_attacks_7 (by decide) (fun c2 => ?_) (fun c2 => ?_)
  · have hf := z_if_f hf c2
    refine z_iconst dX12_attacks_12 kc_0 ?_
    refine y_istore_n0 [some (.ref a0), some (.int x1), some (.int (0 : Int32)), none] dX12_attacks_13 rfl (by decide) rfl ?_
    refine z_iconst dX12_attacks_14 kc_0 ?_
    refine y_istore_n0 [some (.ref a0), some (.int x1), some (.int (0 : Int32)), some (.int (0 : Int32))] dX12_attacks_15 rfl (by decide) rfl ?_
    obtain ⟨q16, hq16, hf⟩ := z_b_el hf
    refine y_sub (lv' := [some (.ref a0), some (.int x1), some (.int (0 : Int32)), some (.int (0 : Int32))]) ?_ (z_le_c rfl (z_le_c rfl (z_le_c rfl (z_le_c rfl z_le_0))))
    refine z_lp_el (P := (fun s : Int32 × Int32 => z_W G eX12_attacks d 0 0 16 [some (.ref a0), some (.int x1), some (.int s.1), some (.int s.2)] [] z_SH (I, R) Q)) (E := (fun x : Int32 => z_W G eX12_attacks d 0 0 58 [none, none, some (.int x), none] [] z_SH (I, R) Q)) (wX12_attacks_b16 hd g_a0) 300 ((0 : Int32), (0 : Int32)) q16 hq16 ?_
    show z_W G eX12_attacks d 0 0 58 [none, none, some (.int q16), none] [] z_SH (I, R) _
    refine z_iload_n dX12_attacks_58 rfl rfl ?_
    cases hf
    exact z_iret hk ⟨_, rfl, rfl⟩ dX12_attacks_59
  · have hf := z_if_t hf c2
    refine z_iconst dX12_attacks_10 kc_m1 ?_
    cases hf
    exact z_iret hk ⟨_, rfl, rfl⟩ dX12_attacks_11
theorem wX12_attacks {G : z_G} {d : Nat} {a0 : Nat} {x1 : Int32} {I : Nat → Nat → Int32} {R : Nat → Nat → Nat} {q : Int32} (hd : 3 ≤ d) (hf : fX12_attacks a0 x1 I R = some q) : z_M G d 0 0 eX12_attacks [.ref a0, .int x1] z_SH (I, R) (z_E (some (.int q)) (I, R)) :=
  y_M_of _ (by decide +kernel) rfl rfl rfl (vX12_attacks hd hf ⟨rfl, rfl, rfl⟩)
def fX12_returns (a0 : Nat) (x1 : Int32) (x2 : Int32) (x3 : Int32) (I : Nat → Nat → Int32) (R : Nat → Nat → Nat) : Option (Int32 × (Nat → Nat → Int32)) :=
  z_g (z_ob a0 12) (z_b (fX12_isSinger x1) (fun q1 => if q1 = 0 then (some ((-1000 : Int32), I)) else (z_b (fX12_isSinger x2) (fun q3 => if q3 = 0 then (some ((-1000 : Int32), I)) else (z_b (fX12_within x3 (0 : Int32) (3 : Int32)) (fun q5 => if q5 = 0 then (some ((-1000 : Int32), I)) else (z_g (z_ob (R a0 1) 7) (z_g (z_ok 3 (R (R a0 1) 0) x1) (z_g (z_ok 3 (R (R a0 1) 0) x2) (z_g (z_ob (R a0 10) 11) (z_b (fX11_compare (R a0 10) (R (R (R a0 1) 0) x1.toNatClampNeg) (R (R (R a0 1) 0) x2.toNatClampNeg) I R) (fun q10 => if x3 = 0 then (some (q10 (R a0 10) 4, q10)) else (if (q10 (R a0 10) 4) = 0 then (some ((-2000 : Int32), q10)) else (if x3 = (1 : Int32) then (some (q10 (R a0 10) 5, q10)) else (if x3 = (2 : Int32) then (some (q10 (R a0 10) 6, q10)) else (some (q10 (R a0 10) 7, q10)))))))))))))))))
theorem vX12_returns {G : z_G} {d : Nat} {Q : Option Value → z_S → z_H → Prop} {a0 : Nat} {x1 : Int32} {x2 : Int32} {x3 : Int32} {I : Nat → Nat → Int32} {R : Nat → Nat → Nat} {q : Int32 × (Nat → Nat → Int32)} (hd : 6 ≤ d) (hf : fX12_returns a0 x1 x2 x3 I R = some q) (hk : Q (some (.int q.1)) z_SH (q.2, R)) : z_W G eX12_returns d 0 0 0 [some (.ref a0), some (.int x1), some (.int x2), some (.int x3)] [] z_SH (I, R) Q := by
  unfold fX12_returns at hf
  obtain ⟨g_a0, hf⟩ := z_g_el hf
  refine z_iload_n dX12_returns_0 rfl rfl ?_
  obtain ⟨q1, hq1, hf⟩ := z_b_el hf
  refine y_cSi (Nat.le_trans (Nat.le_of_ble_eq_true rfl) hd) (wX12_isSinger (z_dl rfl hd) hq1) oX12_isSinger lmX12_92 sX12_isSinger _ rfl rfl (Nat.le_of_ble_eq_true rfl) dX12_returns_1 ?_
  refine z_if_eq (tgt := 23) dX12_returns_4 (by decide) (fun c2 => ?_) (fun c2 => ?_)
  · have hf := z_if_t hf c2
    refine z_sipush dX12_returns_23 ks_m1000 ?_
    cases hf
    exact z_iret hk ⟨_, rfl, rfl⟩ dX12_returns_26
  · have hf := z_if_f hf c2
    refine z_iload_n dX12_returns_7 rfl rfl ?_
    obtain ⟨q3, hq3, hf⟩ := z_b_el hf
    refine y_cSi (Nat.le_trans (Nat.le_of_ble_eq_true rfl) hd) (wX12_isSinger (z_dl rfl hd) hq3) oX12_isSinger lmX12_92 sX12_isSinger _ rfl rfl (Nat.le_of_ble_eq_true rfl) dX12_returns_8 ?_
    refine z_if_eq (tgt := 23) dX12_returns_11 (by decide) (fun c4 => ?_) (fun c4 => ?_)
    · have hf := z_if_t hf c4
      refine z_sipush dX12_returns_23 ks_m1000 ?_
      cases hf
      exact z_iret hk ⟨_, rfl, rfl⟩ dX12_returns_26
    · have hf := z_if_f hf c4
      refine z_iload_n dX12_returns_14 rfl rfl ?_
      refine z_iconst dX12_returns_15 kc_0 ?_
      refine z_iconst dX12_returns_16 kc_3 ?_
      obtain ⟨q5, hq5, hf⟩ := z_b_el hf
      refine y_cSi (Nat.le_trans (Nat.le_of_ble_eq_true rfl) hd) (wX12_within (z_dl rfl hd) hq5) oX12_within lmX12_96 sX12_within _ rfl rfl (Nat.le_of_ble_eq_true rfl) dX12_returns_17 ?_
      refine z_if_ne (tgt := 27) dX12_returns_20 (by decide) (fun c6 => ?_) (fun c6 => ?_)
      · have hf := z_if_f hf c6
        refine z_aload_n dX12_returns_27 rfl rfl (z_okl g_a0) ?_
        refine y_getR lfX12_81 rfl g_a0 dX12_returns_28 ?_
        refine z_aload_n dX12_returns_31 rfl rfl (z_okl g_a0) ?_
        refine y_getR lfX12_19 rfl g_a0 dX12_returns_32 ?_
        obtain ⟨g7, hf⟩ := z_g_el hf
        refine y_getR lfX12_229 rfl g7 dX12_returns_35 ?_
        refine z_iload_n dX12_returns_38 rfl rfl ?_
        obtain ⟨g8, hf⟩ := z_g_el hf
        refine y_aald (t := 0) (Or.inl rfl) g8 dX12_returns_39 ?_
        refine z_aload_n dX12_returns_40 rfl rfl (z_okl g_a0) ?_
        refine y_getR lfX12_19 rfl g_a0 dX12_returns_41 ?_
        refine y_getR lfX12_229 rfl g7 dX12_returns_44 ?_
        refine z_iload_n dX12_returns_47 rfl rfl ?_
        obtain ⟨g9, hf⟩ := z_g_el hf
        refine y_aald (t := 0) (Or.inl rfl) g9 dX12_returns_48 ?_
        obtain ⟨g11, hf⟩ := z_g_el hf
        obtain ⟨q10, hq10, hf⟩ := z_b_el hf
        refine y_cVv (av := [.ref (R (R (R a0 1) 0) x1.toNatClampNeg), .ref (R (R (R a0 1) 0) x2.toNatClampNeg)]) (Nat.le_trans (Nat.le_of_ble_eq_true rfl) hd) (wX11_compare (z_dl rfl hd) hq10) oX11_compare lmX12_282 iX11_compare g11 rfl _ rfl rfl (Nat.le_of_ble_eq_true rfl) dX12_returns_49 ?_
        refine z_iload_n dX12_returns_52 rfl rfl ?_
        refine z_if_ne (tgt := 64) dX12_returns_53 (by decide) (fun c12 => ?_) (fun c12 => ?_)
        · have hf := z_if_f hf c12
          refine z_aload_n dX12_returns_64 rfl rfl (z_okl g_a0) ?_
          refine y_getR lfX12_81 rfl g_a0 dX12_returns_65 ?_
          refine y_getI lfX12_286 rfl g11 dX12_returns_68 ?_
          refine z_if_ne (tgt := 78) dX12_returns_71 (by decide) (fun c13 => ?_) (fun c13 => ?_)
          · have hf := z_if_f hf c13
            refine z_iload_n dX12_returns_78 rfl rfl ?_
            by_cases c14 : x3 = (1 : Int32)
            · have hf := z_if_t hf c14
              refine z_look (off := 25) (tgt := 104) dX12_returns_79 (by decide) (by rw [c14]; rfl) (by decide) ?_
              refine z_aload_n dX12_returns_104 rfl rfl (z_okl g_a0) ?_
              refine y_getR lfX12_81 rfl g_a0 dX12_returns_105 ?_
              refine y_getI lfX12_289 rfl g11 dX12_returns_108 ?_
              cases hf
              exact z_iret hk ⟨_, rfl, rfl⟩ dX12_returns_111
            · have hf := z_if_f hf c14
              by_cases c15 : x3 = (2 : Int32)
              · have hf := z_if_t hf c15
                refine z_look (off := 33) (tgt := 112) dX12_returns_79 (by decide) (by rw [c15]; rfl) (by decide) ?_
                refine z_aload_n dX12_returns_112 rfl rfl (z_okl g_a0) ?_
                refine y_getR lfX12_81 rfl g_a0 dX12_returns_113 ?_
                refine y_getI lfX12_292 rfl g11 dX12_returns_116 ?_
                cases hf
                exact z_iret hk ⟨_, rfl, rfl⟩ dX12_returns_119
              · have hf := z_if_f hf c15
                have nc14 : ¬ (x3).toInt = 1 := z_toInt_ne c14
                have nc15 : ¬ (x3).toInt = 2 := z_toInt_ne c15
                refine z_look (off := 41) (tgt := 120) dX12_returns_79 (by decide) (by simp [Op.lookupswitch.offset, Ne.symm nc14, nc14, Ne.symm nc15, nc15]) (by decide) ?_
                refine z_aload_n dX12_returns_120 rfl rfl (z_okl g_a0) ?_
                refine y_getR lfX12_81 rfl g_a0 dX12_returns_121 ?_
                refine y_getI lfX12_295 rfl g11 dX12_returns_124 ?_
                cases hf
                exact z_iret hk ⟨_, rfl, rfl⟩ dX12_returns_127
          · have hf := z_if_t hf c13
            refine z_sipush dX12_returns_74 ks_m2000 ?_
            cases hf
            exact z_iret hk ⟨_, rfl, rfl⟩ dX12_returns_77
        · have hf := z_if_t hf c12
          refine z_aload_n dX12_returns_56 rfl rfl (z_okl g_a0) ?_
          refine y_getR lfX12_81 rfl g_a0 dX12_returns_57 ?_
          refine y_getI lfX12_286 rfl g11 dX12_returns_60 ?_
          cases hf
          exact z_iret hk ⟨_, rfl, rfl⟩ dX12_returns_63
      · have hf := z_if_t hf c6
        refine z_sipush dX12_returns_23 ks_m1000 ?_
        cases hf
        exact z_iret hk ⟨_, rfl, rfl⟩ dX12_returns_26
theorem wX12_returns {G : z_G} {d : Nat} {a0 : Nat} {x1 : Int32} {x2 : Int32} {x3 : Int32} {I : Nat → Nat → Int32} {R : Nat → Nat → Nat} {q : Int32 × (Nat → Nat → Int32)} (hd : 6 ≤ d) (hf : fX12_returns a0 x1 x2 x3 I R = some q) : z_M G d 0 0 eX12_returns [.ref a0, .int x1, .int x2, .int x3] z_SH (I, R) (z_E (some (.int q.1)) (q.2, R)) :=
  y_M_of _ (by decide +kernel) rfl rfl rfl (vX12_returns hd hf ⟨rfl, rfl, rfl⟩)
def fX12_backwards (a0 : Nat) (x1 : Int32) (x2 : Int32) (I : Nat → Nat → Int32) (R : Nat → Nat → Nat) : Option (Int32 × (Nat → Nat → Int32)) :=
  z_g (z_ob a0 12) (z_b (fX12_isSinger x1) (fun q1 => if q1 = 0 then (some ((-1 : Int32), I)) else (z_b (fX12_isSinger x2) (fun q3 => if q3 = 0 then (some ((-1 : Int32), I)) else (z_g (z_ob (R a0 1) 7) (z_g (z_ok 3 (R (R a0 1) 0) x1) (z_g (z_ok 3 (R (R a0 1) 0) x2) (z_g (z_ob (R a0 10) 11) (z_b (fX11_areMirrored (R a0 10) (R (R (R a0 1) 0) x1.toNatClampNeg) (R (R (R a0 1) 0) x2.toNatClampNeg) I R) (fun q8 => if q8.1 = 0 then (some ((0 : Int32), q8.2)) else (some ((1 : Int32), q8.2))))))))))))
theorem vX12_backwards {G : z_G} {d : Nat} {Q : Option Value → z_S → z_H → Prop} {a0 : Nat} {x1 : Int32} {x2 : Int32} {I : Nat → Nat → Int32} {R : Nat → Nat → Nat} {q : Int32 × (Nat → Nat → Int32)} (hd : 6 ≤ d) (hf : fX12_backwards a0 x1 x2 I R = some q) (hk : Q (some (.int q.1)) z_SH (q.2, R)) : z_W G eX12_backwards d 0 0 0 [some (.ref a0), some (.int x1), some (.int x2)] [] z_SH (I, R) Q := by
  unfold fX12_backwards at hf
  obtain ⟨g_a0, hf⟩ := z_g_el hf
  refine z_iload_n dX12_backwards_0 rfl rfl ?_
  obtain ⟨q1, hq1, hf⟩ := z_b_el hf
  refine y_cSi (Nat.le_trans (Nat.le_of_ble_eq_true rfl) hd) (wX12_isSinger (z_dl rfl hd) hq1) oX12_isSinger lmX12_92 sX12_isSinger _ rfl rfl (Nat.le_of_ble_eq_true rfl) dX12_backwards_1 ?_
  refine z_if_eq (tgt := 14) dX12_backwards_4 (by decide) (fun c2 => ?_) (fun c2 => ?_)
  · have hf := z_if_t hf c2
    refine z_iconst dX12_backwards_14 kc_m1 ?_
    cases hf
    exact z_iret hk ⟨_, rfl, rfl⟩ dX12_backwards_15
  · have hf := z_if_f hf c2
    refine z_iload_n dX12_backwards_7 rfl rfl ?_
    obtain ⟨q3, hq3, hf⟩ := z_b_el hf
    refine y_cSi (Nat.le_trans (Nat.le_of_ble_eq_true rfl) hd) (wX12_isSinger (z_dl rfl hd) hq3) oX12_isSinger lmX12_92 sX12_isSinger _ rfl rfl (Nat.le_of_ble_eq_true rfl) dX12_backwards_8 ?_
    refine z_if_ne (tgt := 16) dX12_backwards_11 (by decide) (fun c4 => ?_) (fun c4 => ?_)
    · have hf := z_if_f hf c4
      refine z_aload_n dX12_backwards_16 rfl rfl (z_okl g_a0) ?_
      refine y_getR lfX12_81 rfl g_a0 dX12_backwards_17 ?_
      refine z_aload_n dX12_backwards_20 rfl rfl (z_okl g_a0) ?_
      refine y_getR lfX12_19 rfl g_a0 dX12_backwards_21 ?_
      obtain ⟨g5, hf⟩ := z_g_el hf
      refine y_getR lfX12_229 rfl g5 dX12_backwards_24 ?_
      refine z_iload_n dX12_backwards_27 rfl rfl ?_
      obtain ⟨g6, hf⟩ := z_g_el hf
      refine y_aald (t := 0) (Or.inl rfl) g6 dX12_backwards_28 ?_
      refine z_aload_n dX12_backwards_29 rfl rfl (z_okl g_a0) ?_
      refine y_getR lfX12_19 rfl g_a0 dX12_backwards_30 ?_
      refine y_getR lfX12_229 rfl g5 dX12_backwards_33 ?_
      refine z_iload_n dX12_backwards_36 rfl rfl ?_
      obtain ⟨g7, hf⟩ := z_g_el hf
      refine y_aald (t := 0) (Or.inl rfl) g7 dX12_backwards_37 ?_
      obtain ⟨g9, hf⟩ := z_g_el hf
      obtain ⟨q8, hq8, hf⟩ := z_b_el hf
      refine y_cVi (av := [.ref (R (R (R a0 1) 0) x1.toNatClampNeg), .ref (R (R (R a0 1) 0) x2.toNatClampNeg)]) (Nat.le_trans (Nat.le_of_ble_eq_true rfl) hd) (wX11_areMirrored (z_dl rfl hd) hq8) oX11_areMirrored lmX12_298 iX11_areMirrored g9 rfl _ rfl rfl (Nat.le_of_ble_eq_true rfl) dX12_backwards_38 ?_
      refine z_if_eq (tgt := 48) dX12_backwards_41 (by decide) (fun c10 => ?_) (fun c10 => ?_)
      · have hf := z_if_t hf c10
        refine z_iconst dX12_backwards_48 kc_0 ?_
        cases hf
        exact z_iret hk ⟨_, rfl, rfl⟩ dX12_backwards_49
      · have hf := z_if_f hf c10
        refine z_iconst dX12_backwards_44 kc_1 ?_
        refine z_goto (tgt := 49) dX12_backwards_45 (by decide) ?_
        cases hf
        exact z_iret hk ⟨_, rfl, rfl⟩ dX12_backwards_49
    · have hf := z_if_t hf c4
      refine z_iconst dX12_backwards_14 kc_m1 ?_
      cases hf
      exact z_iret hk ⟨_, rfl, rfl⟩ dX12_backwards_15
theorem wX12_backwards {G : z_G} {d : Nat} {a0 : Nat} {x1 : Int32} {x2 : Int32} {I : Nat → Nat → Int32} {R : Nat → Nat → Nat} {q : Int32 × (Nat → Nat → Int32)} (hd : 6 ≤ d) (hf : fX12_backwards a0 x1 x2 I R = some q) : z_M G d 0 0 eX12_backwards [.ref a0, .int x1, .int x2] z_SH (I, R) (z_E (some (.int q.1)) (q.2, R)) :=
  y_M_of _ (by decide +kernel) rfl rfl rfl (vX12_backwards hd hf ⟨rfl, rfl, rfl⟩)
def fX12_range_b28 (a0 : Nat) (z2 : Nat) (I : Nat → Nat → Int32) (R : Nat → Nat → Nat) : (Int32 × Int32 × Int32) → Option ((Int32 × Int32 × Int32) ⊕ (Int32 × Int32)) :=
  fun s => (fun (p3 : Int32) (p4 : Int32) (p5 : Int32) => z_g (z_ob z2 5) (z_b (fX5_length z2 I) (fun q7 => if q7 ≤ p5 then (some (.inr (p3, p4))) else (z_b (fX5_noteAt z2 p5 I R) (fun q9 => if q9 = 0 then (z_l (p5 + (1 : Int32)) (fun t11 => some (.inl (p3, p4, t11)))) else (z_l (z_max p3 q9) (fun t12 => z_l (z_min p4 q9) (fun t13 => z_l (p5 + (1 : Int32)) (fun t14 => some (.inl (t12, t13, t14))))))))))) s.1 s.2.1 s.2.2
theorem wX12_range_b28 {G : z_G} {d : Nat} {Q : Option Value → z_S → z_H → Prop} {a0 : Nat} {z2 : Nat} {I : Nat → Nat → Int32} {R : Nat → Nat → Nat} (hd : 2 ≤ d) (g_a0 : z_ob a0 12) : ∀ (s : Int32 × Int32 × Int32) (o : (Int32 × Int32 × Int32) ⊕ (Int32 × Int32)), fX12_range_b28 a0 z2 I R s = some o → z_or (fun s : Int32 × Int32 × Int32 => z_W G eX12_range d 0 0 28 [none, none, some (.ref z2), some (.int s.1), some (.int s.2.1), some (.int s.2.2), none] [] z_SH (I, R) Q) (fun x : Int32 × Int32 => z_W G eX12_range d 0 0 72 [none, none, none, some (.int x.1), some (.int x.2), none, none] [] z_SH (I, R) Q) o → (fun s : Int32 × Int32 × Int32 => z_W G eX12_range d 0 0 28 [none, none, some (.ref z2), some (.int s.1), some (.int s.2.1), some (.int s.2.2), none] [] z_SH (I, R) Q) s := by
  rintro ⟨p3, p4, p5⟩ o hf hk
  show z_W G eX12_range d 0 0 28 [none, none, some (.ref z2), some (.int p3), some (.int p4), some (.int p5), none] [] z_SH (I, R) Q
  unfold fX12_range_b28 at hf
  try dsimp only at hf
  obtain ⟨g6, hf⟩ := z_g_el hf
  refine z_iload dX12_range_28 rfl ?_
  refine z_aload_n dX12_range_30 rfl rfl (z_okl g6) ?_
  obtain ⟨q7, hq7, hf⟩ := z_b_el hf
  refine y_cVi (av := []) (Nat.le_trans (Nat.le_of_ble_eq_true rfl) hd) (wX5_length (z_dl rfl hd) hq7) oX5_length lmX12_233 iX5_length g6 rfl _ rfl rfl (Nat.le_of_ble_eq_true rfl) dX12_range_31 ?_
  refine z_icmp_ge (tgt := 72) dX12_range_34 (by decide) (fun c8 => ?_) (fun c8 => ?_)
  · have hf := z_if_t hf c8
    cases hf
    exact y_sub hk (z_le_n (z_le_n (z_le_n (z_le_c rfl (z_le_c rfl (z_le_n (z_le_n z_le_0)))))))
  · have hf := z_if_f hf c8
    refine z_aload_n dX12_range_37 rfl rfl (z_okl g6) ?_
    refine z_iload dX12_range_38 rfl ?_
    obtain ⟨q9, hq9, hf⟩ := z_b_el hf
    refine y_cVi (av := [.int p5]) (Nat.le_trans (Nat.le_of_ble_eq_true rfl) hd) (wX5_noteAt (z_dl rfl hd) hq9) oX5_noteAt lmX12_234 iX5_noteAt g6 rfl _ rfl rfl (Nat.le_of_ble_eq_true rfl) dX12_range_40 ?_
    refine y_istore0 [none, none, some (.ref z2), some (.int p3), some (.int p4), some (.int p5), some (.int q9)] dX12_range_43 (by decide) rfl ?_
    refine z_iload dX12_range_45 rfl ?_
    refine z_if_eq (tgt := 66) dX12_range_47 (by decide) (fun c10 => ?_) (fun c10 => ?_)
    · have hf := z_if_t hf c10
      refine y_iinc (fun t11 => [none, none, some (.ref z2), some (.int p3), some (.int p4), some (.int t11), some (.int q9)]) dX12_range_66 rfl kc_1 (by decide) (fun _ => rfl) (fun t11 et11 => ?_)
      have hf := z_l_el hf et11
      refine z_goto (tgt := 28) dX12_range_69 (by decide) ?_
      cases hf
      exact y_sub hk (z_le_n (z_le_n (z_le_c rfl (z_le_c rfl (z_le_c rfl (z_le_c rfl (z_le_n z_le_0)))))))
    · have hf := z_if_f hf c10
      refine z_iload_n dX12_range_50 rfl rfl ?_
      refine z_iload dX12_range_51 rfl ?_
      refine y_max (Nat.le_trans (Nat.le_of_ble_eq_true rfl) hd) lmX12_256 (Nat.le_of_ble_eq_true rfl) dX12_range_53 ?_
      refine y_istore_n (fun t12 => [none, none, some (.ref z2), some (.int t12), some (.int p4), some (.int p5), some (.int q9)]) dX12_range_56 rfl (by decide) (fun _ => rfl) (fun t12 et12 => ?_)
      have hf := z_l_el hf et12
      refine z_iload dX12_range_57 rfl ?_
      refine z_iload dX12_range_59 rfl ?_
      refine y_min (Nat.le_trans (Nat.le_of_ble_eq_true rfl) hd) lmX12_302 (Nat.le_of_ble_eq_true rfl) dX12_range_61 ?_
      refine y_istore (fun t13 => [none, none, some (.ref z2), some (.int t12), some (.int t13), some (.int p5), some (.int q9)]) dX12_range_64 (by decide) (fun _ => rfl) (fun t13 et13 => ?_)
      have hf := z_l_el hf et13
      refine y_iinc (fun t14 => [none, none, some (.ref z2), some (.int t12), some (.int t13), some (.int t14), some (.int q9)]) dX12_range_66 rfl kc_1 (by decide) (fun _ => rfl) (fun t14 et14 => ?_)
      have hf := z_l_el hf et14
      refine z_goto (tgt := 28) dX12_range_69 (by decide) ?_
      cases hf
      exact y_sub hk (z_le_n (z_le_n (z_le_c rfl (z_le_c rfl (z_le_c rfl (z_le_c rfl (z_le_n z_le_0)))))))
def fX12_range (a0 : Nat) (x1 : Int32) (I : Nat → Nat → Int32) (R : Nat → Nat → Nat) : Option (Int32) :=
  z_g (z_ob a0 12) (z_b (fX12_isSinger x1) (fun q1 => if q1 = 0 then (some (-1 : Int32)) else (z_g (z_ob (R a0 1) 7) (z_g (z_ok 3 (R (R a0 1) 0) x1) (z_g (z_ob (R (R (R a0 1) 0) x1.toNatClampNeg) 5) (z_b (z_lp (fX12_range_b28 a0 (R (R (R a0 1) 0) x1.toNatClampNeg) I R) 300 ((0 : Int32), (8 : Int32), (0 : Int32))) (fun q15 => if q15.1 = 0 then (some (-2 : Int32)) else (some (q15.1 - q15.2)))))))))
theorem vX12_range {G : z_G} {d : Nat} {Q : Option Value → z_S → z_H → Prop} {a0 : Nat} {x1 : Int32} {I : Nat → Nat → Int32} {R : Nat → Nat → Nat} {q : Int32} (hd : 2 ≤ d) (hf : fX12_range a0 x1 I R = some q) (hk : Q (some (.int q)) z_SH (I, R)) : z_W G eX12_range d 0 0 0 [some (.ref a0), some (.int x1), none, none, none, none, none] [] z_SH (I, R) Q := by
  unfold fX12_range at hf
  obtain ⟨g_a0, hf⟩ := z_g_el hf
  refine z_iload_n dX12_range_0 rfl rfl ?_
  obtain ⟨q1, hq1, hf⟩ := z_b_el hf
  refine y_cSi (Nat.le_trans (Nat.le_of_ble_eq_true rfl) hd) (wX12_isSinger (z_dl rfl hd) hq1) oX12_isSinger lmX12_92 sX12_isSinger _ rfl rfl (Nat.le_of_ble_eq_true rfl) dX12_range_1 ?_
  refine z_if_ne (tgt := 9) dX12_range_4 (by decide) (fun c2 => ?_) (fun c2 => ?_)
  · have hf := z_if_f hf c2
    refine z_aload_n dX12_range_9 rfl rfl (z_okl g_a0) ?_
    refine y_getR lfX12_19 rfl g_a0 dX12_range_10 ?_
    obtain ⟨g3, hf⟩ := z_g_el hf
    refine y_getR lfX12_229 rfl g3 dX12_range_13 ?_
    refine z_iload_n dX12_range_16 rfl rfl ?_
    obtain ⟨g4, hf⟩ := z_g_el hf
    refine y_aald (t := 0) (Or.inl rfl) g4 dX12_range_17 ?_
    obtain ⟨g5, hf⟩ := z_g_el hf
    refine y_astore_n [some (.ref a0), some (.int x1), some (.ref (R (R (R a0 1) 0) x1.toNatClampNeg)), none, none, none, none] dX12_range_18 rfl (by decide) (z_okl g5) rfl ?_
    refine z_iconst dX12_range_19 kc_0 ?_
    refine y_istore_n0 [some (.ref a0), some (.int x1), some (.ref (R (R (R a0 1) 0) x1.toNatClampNeg)), some (.int (0 : Int32)), none, none, none] dX12_range_20 rfl (by decide) rfl ?_
    refine z_bipush dX12_range_21 kb_8 ?_
    refine y_istore0 [some (.ref a0), some (.int x1), some (.ref (R (R (R a0 1) 0) x1.toNatClampNeg)), some (.int (0 : Int32)), some (.int (8 : Int32)), none, none] dX12_range_23 (by decide) rfl ?_
    refine z_iconst dX12_range_25 kc_0 ?_
    refine y_istore0 [some (.ref a0), some (.int x1), some (.ref (R (R (R a0 1) 0) x1.toNatClampNeg)), some (.int (0 : Int32)), some (.int (8 : Int32)), some (.int (0 : Int32)), none] dX12_range_26 (by decide) rfl ?_
    obtain ⟨q15, hq15, hf⟩ := z_b_el hf
    refine y_sub (lv' := [none, none, some (.ref (R (R (R a0 1) 0) x1.toNatClampNeg)), some (.int (0 : Int32)), some (.int (8 : Int32)), some (.int (0 : Int32)), none]) ?_ (z_le_n (z_le_n (z_le_c rfl (z_le_c rfl (z_le_c rfl (z_le_c rfl (z_le_n z_le_0)))))))
    refine z_lp_el (P := (fun s : Int32 × Int32 × Int32 => z_W G eX12_range d 0 0 28 [none, none, some (.ref (R (R (R a0 1) 0) x1.toNatClampNeg)), some (.int s.1), some (.int s.2.1), some (.int s.2.2), none] [] z_SH (I, R) Q)) (E := (fun x : Int32 × Int32 => z_W G eX12_range d 0 0 72 [none, none, none, some (.int x.1), some (.int x.2), none, none] [] z_SH (I, R) Q)) (wX12_range_b28 hd g_a0) 300 ((0 : Int32), (8 : Int32), (0 : Int32)) q15 hq15 ?_
    show z_W G eX12_range d 0 0 72 [none, none, none, some (.int q15.1), some (.int q15.2), none, none] [] z_SH (I, R) _
    refine z_iload_n dX12_range_72 rfl rfl ?_
    refine z_if_ne (tgt := 81) dX12_range_73 (by decide) (fun c16 => ?_) (fun c16 => ?_)
    · have hf := z_if_f hf c16
      refine z_iload_n dX12_range_81 rfl rfl ?_
      refine z_iload dX12_range_82 rfl ?_
      refine z_isub dX12_range_84 ?_
      cases hf
      exact z_iret hk ⟨_, rfl, rfl⟩ dX12_range_85
    · have hf := z_if_t hf c16
      refine z_bipush dX12_range_76 kb_m2 ?_
      refine z_goto (tgt := 85) dX12_range_78 (by decide) ?_
      cases hf
      exact z_iret hk ⟨_, rfl, rfl⟩ dX12_range_85
  · have hf := z_if_t hf c2
    refine z_iconst dX12_range_7 kc_m1 ?_
    cases hf
    exact z_iret hk ⟨_, rfl, rfl⟩ dX12_range_8
theorem wX12_range {G : z_G} {d : Nat} {a0 : Nat} {x1 : Int32} {I : Nat → Nat → Int32} {R : Nat → Nat → Nat} {q : Int32} (hd : 2 ≤ d) (hf : fX12_range a0 x1 I R = some q) : z_M G d 0 0 eX12_range [.ref a0, .int x1] z_SH (I, R) (z_E (some (.int q)) (I, R)) :=
  y_M_of _ (by decide +kernel) rfl rfl rfl (vX12_range hd hf ⟨rfl, rfl, rfl⟩)
def fX12_key_b27 (a0 : Nat) (z1 : Int32) (z2 : Int32) (I : Nat → Nat → Int32) (R : Nat → Nat → Nat) : (Int32 × Int32 × Int32) → Option ((Int32 × Int32 × Int32) ⊕ (Int32 × Int32)) :=
  fun s => (fun (p3 : Int32) (p4 : Int32) (p5 : Int32) => if (7 : Int32) < p5 then (some (.inr (p3, p4))) else (z_g (z_ob (R a0 1) 7) (z_g (z_ok 3 (R (R a0 1) 0) z1) (z_g (z_ob (R (R (R a0 1) 0) z1.toNatClampNeg) 5) (z_b (fX5_beatsOf (R (R (R a0 1) 0) z1.toNatClampNeg) p5 I R) (fun q8 => if q8 ≤ p4 then (z_l (p5 + (1 : Int32)) (fun t11 => some (.inl (p3, p4, t11)))) else (z_l (p5 + (1 : Int32)) (fun t12 => some (.inl (p5, q8, t12)))))))))) s.1 s.2.1 s.2.2
theorem wX12_key_b27 {G : z_G} {d : Nat} {Q : Option Value → z_S → z_H → Prop} {a0 : Nat} {z1 : Int32} {z2 : Int32} {I : Nat → Nat → Int32} {R : Nat → Nat → Nat} (hd : 2 ≤ d) (g_a0 : z_ob a0 12) : ∀ (s : Int32 × Int32 × Int32) (o : (Int32 × Int32 × Int32) ⊕ (Int32 × Int32)), fX12_key_b27 a0 z1 z2 I R s = some o → z_or (fun s : Int32 × Int32 × Int32 => z_W G eX12_key d 0 0 27 [some (.ref a0), some (.int z1), some (.int z2), some (.int s.1), some (.int s.2.1), some (.int s.2.2), none] [] z_SH (I, R) Q) (fun x : Int32 × Int32 => z_W G eX12_key d 0 0 70 [none, none, some (.int z2), some (.int x.1), some (.int x.2), none, none] [] z_SH (I, R) Q) o → (fun s : Int32 × Int32 × Int32 => z_W G eX12_key d 0 0 27 [some (.ref a0), some (.int z1), some (.int z2), some (.int s.1), some (.int s.2.1), some (.int s.2.2), none] [] z_SH (I, R) Q) s := by
  rintro ⟨p3, p4, p5⟩ o hf hk
  show z_W G eX12_key d 0 0 27 [some (.ref a0), some (.int z1), some (.int z2), some (.int p3), some (.int p4), some (.int p5), none] [] z_SH (I, R) Q
  unfold fX12_key_b27 at hf
  try dsimp only at hf
  refine z_iload dX12_key_27 rfl ?_
  refine z_bipush dX12_key_29 kb_7 ?_
  refine z_icmp_gt (tgt := 70) dX12_key_31 (by decide) (fun c5 => ?_) (fun c5 => ?_)
  · have hf := z_if_t hf c5
    cases hf
    exact y_sub hk (z_le_n (z_le_n (z_le_c rfl (z_le_c rfl (z_le_c rfl (z_le_n (z_le_n z_le_0)))))))
  · have hf := z_if_f hf c5
    refine z_aload_n dX12_key_34 rfl rfl (z_okl g_a0) ?_
    refine y_getR lfX12_19 rfl g_a0 dX12_key_35 ?_
    obtain ⟨g6, hf⟩ := z_g_el hf
    refine y_getR lfX12_229 rfl g6 dX12_key_38 ?_
    refine z_iload_n dX12_key_41 rfl rfl ?_
    obtain ⟨g7, hf⟩ := z_g_el hf
    refine y_aald (t := 0) (Or.inl rfl) g7 dX12_key_42 ?_
    refine z_iload dX12_key_43 rfl ?_
    obtain ⟨g9, hf⟩ := z_g_el hf
    obtain ⟨q8, hq8, hf⟩ := z_b_el hf
    refine y_cVi (av := [.int p5]) (Nat.le_trans (Nat.le_of_ble_eq_true rfl) hd) (wX5_beatsOf (z_dl rfl hd) hq8) oX5_beatsOf lmX12_305 iX5_beatsOf g9 rfl _ rfl rfl (Nat.le_of_ble_eq_true rfl) dX12_key_45 ?_
    refine y_istore0 [some (.ref a0), some (.int z1), some (.int z2), some (.int p3), some (.int p4), some (.int p5), some (.int q8)] dX12_key_48 (by decide) rfl ?_
    refine z_iload dX12_key_50 rfl ?_
    refine z_iload dX12_key_52 rfl ?_
    refine z_icmp_le (tgt := 64) dX12_key_54 (by decide) (fun c10 => ?_) (fun c10 => ?_)
    · have hf := z_if_t hf c10
      refine y_iinc (fun t11 => [some (.ref a0), some (.int z1), some (.int z2), some (.int p3), some (.int p4), some (.int t11), some (.int q8)]) dX12_key_64 rfl kc_1 (by decide) (fun _ => rfl) (fun t11 et11 => ?_)
      have hf := z_l_el hf et11
      refine z_goto (tgt := 27) dX12_key_67 (by decide) ?_
      cases hf
      exact y_sub hk (z_le_c rfl (z_le_c rfl (z_le_c rfl (z_le_c rfl (z_le_c rfl (z_le_c rfl (z_le_n z_le_0)))))))
    · have hf := z_if_f hf c10
      refine z_iload dX12_key_57 rfl ?_
      refine y_istore0 [some (.ref a0), some (.int z1), some (.int z2), some (.int p3), some (.int q8), some (.int p5), some (.int q8)] dX12_key_59 (by decide) rfl ?_
      refine z_iload dX12_key_61 rfl ?_
      refine y_istore_n0 [some (.ref a0), some (.int z1), some (.int z2), some (.int p5), some (.int q8), some (.int p5), some (.int q8)] dX12_key_63 rfl (by decide) rfl ?_
      refine y_iinc (fun t12 => [some (.ref a0), some (.int z1), some (.int z2), some (.int p5), some (.int q8), some (.int t12), some (.int q8)]) dX12_key_64 rfl kc_1 (by decide) (fun _ => rfl) (fun t12 et12 => ?_)
      have hf := z_l_el hf et12
      refine z_goto (tgt := 27) dX12_key_67 (by decide) ?_
      cases hf
      exact y_sub hk (z_le_c rfl (z_le_c rfl (z_le_c rfl (z_le_c rfl (z_le_c rfl (z_le_c rfl (z_le_n z_le_0)))))))
def fX12_key (a0 : Nat) (x1 : Int32) (x2 : Int32) (I : Nat → Nat → Int32) (R : Nat → Nat → Nat) : Option (Int32) :=
  z_g (z_ob a0 12) (z_b (fX12_isSinger x1) (fun q1 => if q1 = 0 then (some (-1 : Int32)) else (z_b (fX12_within x2 (0 : Int32) (1 : Int32)) (fun q3 => if q3 = 0 then (some (-1 : Int32)) else (z_b (z_lp (fX12_key_b27 a0 x1 x2 I R) 300 ((-2 : Int32), (0 : Int32), (1 : Int32))) (fun q13 => if x2 = 0 then (some q13.1) else (some q13.2)))))))
theorem vX12_key {G : z_G} {d : Nat} {Q : Option Value → z_S → z_H → Prop} {a0 : Nat} {x1 : Int32} {x2 : Int32} {I : Nat → Nat → Int32} {R : Nat → Nat → Nat} {q : Int32} (hd : 2 ≤ d) (hf : fX12_key a0 x1 x2 I R = some q) (hk : Q (some (.int q)) z_SH (I, R)) : z_W G eX12_key d 0 0 0 [some (.ref a0), some (.int x1), some (.int x2), none, none, none, none] [] z_SH (I, R) Q := by
  unfold fX12_key at hf
  obtain ⟨g_a0, hf⟩ := z_g_el hf
  refine z_iload_n dX12_key_0 rfl rfl ?_
  obtain ⟨q1, hq1, hf⟩ := z_b_el hf
  refine y_cSi (Nat.le_trans (Nat.le_of_ble_eq_true rfl) hd) (wX12_isSinger (z_dl rfl hd) hq1) oX12_isSinger lmX12_92 sX12_isSinger _ rfl rfl (Nat.le_of_ble_eq_true rfl) dX12_key_1 ?_
  refine z_if_eq (tgt := 16) dX12_key_4 (by decide) (fun c2 => ?_) (fun c2 => ?_)
  · have hf := z_if_t hf c2
    refine z_iconst dX12_key_16 kc_m1 ?_
    cases hf
    exact z_iret hk ⟨_, rfl, rfl⟩ dX12_key_17
  · have hf := z_if_f hf c2
    refine z_iload_n dX12_key_7 rfl rfl ?_
    refine z_iconst dX12_key_8 kc_0 ?_
    refine z_iconst dX12_key_9 kc_1 ?_
    obtain ⟨q3, hq3, hf⟩ := z_b_el hf
    refine y_cSi (Nat.le_trans (Nat.le_of_ble_eq_true rfl) hd) (wX12_within (z_dl rfl hd) hq3) oX12_within lmX12_96 sX12_within _ rfl rfl (Nat.le_of_ble_eq_true rfl) dX12_key_10 ?_
    refine z_if_ne (tgt := 18) dX12_key_13 (by decide) (fun c4 => ?_) (fun c4 => ?_)
    · have hf := z_if_f hf c4
      refine z_bipush dX12_key_18 kb_m2 ?_
      refine y_istore_n0 [some (.ref a0), some (.int x1), some (.int x2), some (.int (-2 : Int32)), none, none, none] dX12_key_20 rfl (by decide) rfl ?_
      refine z_iconst dX12_key_21 kc_0 ?_
      refine y_istore0 [some (.ref a0), some (.int x1), some (.int x2), some (.int (-2 : Int32)), some (.int (0 : Int32)), none, none] dX12_key_22 (by decide) rfl ?_
      refine z_iconst dX12_key_24 kc_1 ?_
      refine y_istore0 [some (.ref a0), some (.int x1), some (.int x2), some (.int (-2 : Int32)), some (.int (0 : Int32)), some (.int (1 : Int32)), none] dX12_key_25 (by decide) rfl ?_
      obtain ⟨q13, hq13, hf⟩ := z_b_el hf
      refine y_sub (lv' := [some (.ref a0), some (.int x1), some (.int x2), some (.int (-2 : Int32)), some (.int (0 : Int32)), some (.int (1 : Int32)), none]) ?_ (z_le_c rfl (z_le_c rfl (z_le_c rfl (z_le_c rfl (z_le_c rfl (z_le_c rfl (z_le_n z_le_0)))))))
      refine z_lp_el (P := (fun s : Int32 × Int32 × Int32 => z_W G eX12_key d 0 0 27 [some (.ref a0), some (.int x1), some (.int x2), some (.int s.1), some (.int s.2.1), some (.int s.2.2), none] [] z_SH (I, R) Q)) (E := (fun x : Int32 × Int32 => z_W G eX12_key d 0 0 70 [none, none, some (.int x2), some (.int x.1), some (.int x.2), none, none] [] z_SH (I, R) Q)) (wX12_key_b27 hd g_a0) 300 ((-2 : Int32), (0 : Int32), (1 : Int32)) q13 hq13 ?_
      show z_W G eX12_key d 0 0 70 [none, none, some (.int x2), some (.int q13.1), some (.int q13.2), none, none] [] z_SH (I, R) _
      refine z_iload_n dX12_key_70 rfl rfl ?_
      refine z_if_ne (tgt := 78) dX12_key_71 (by decide) (fun c14 => ?_) (fun c14 => ?_)
      · have hf := z_if_f hf c14
        refine z_iload dX12_key_78 rfl ?_
        cases hf
        exact z_iret hk ⟨_, rfl, rfl⟩ dX12_key_80
      · have hf := z_if_t hf c14
        refine z_iload_n dX12_key_74 rfl rfl ?_
        refine z_goto (tgt := 80) dX12_key_75 (by decide) ?_
        cases hf
        exact z_iret hk ⟨_, rfl, rfl⟩ dX12_key_80
    · have hf := z_if_t hf c4
      refine z_iconst dX12_key_16 kc_m1 ?_
      cases hf
      exact z_iret hk ⟨_, rfl, rfl⟩ dX12_key_17
theorem wX12_key {G : z_G} {d : Nat} {a0 : Nat} {x1 : Int32} {x2 : Int32} {I : Nat → Nat → Int32} {R : Nat → Nat → Nat} {q : Int32} (hd : 2 ≤ d) (hf : fX12_key a0 x1 x2 I R = some q) : z_M G d 0 0 eX12_key [.ref a0, .int x1, .int x2] z_SH (I, R) (z_E (some (.int q)) (I, R)) :=
  y_M_of _ (by decide +kernel) rfl rfl rfl (vX12_key hd hf ⟨rfl, rfl, rfl⟩)
def fX12_tune_b29 (a0 : Nat) (z2 : Int32) (z3 : Nat) (I : Nat → Nat → Int32) (R : Nat → Nat → Nat) : (Int32 × Int32) → Option ((Int32 × Int32) ⊕ ((Int32) ⊕ (Int32))) :=
  fun s => (fun (p4 : Int32) (p5 : Int32) => z_g (z_ob z3 5) (z_b (fX5_length z3 I) (fun q8 => if q8 ≤ p5 then (some (.inr (.inl (-2 : Int32)))) else (z_b (fX5_beginsSound z3 p5 I R) (fun q10 => if q10 = 0 then (z_l (p5 + (1 : Int32)) (fun t12 => some (.inl (p4, t12)))) else (if p4 = z2 then (some (.inr (.inr p5))) else (z_l (p4 + (1 : Int32)) (fun t14 => z_l (p5 + (1 : Int32)) (fun t15 => some (.inl (t14, t15))))))))))) s.1 s.2
theorem wX12_tune_b29 {G : z_G} {d : Nat} {Q : Option Value → z_S → z_H → Prop} {a0 : Nat} {z2 : Int32} {z3 : Nat} {I : Nat → Nat → Int32} {R : Nat → Nat → Nat} (hd : 3 ≤ d) (g_a0 : z_ob a0 12) : ∀ (s : Int32 × Int32) (o : (Int32 × Int32) ⊕ ((Int32) ⊕ (Int32))), fX12_tune_b29 a0 z2 z3 I R s = some o → z_or (fun s : Int32 × Int32 => z_W G eX12_tune d 0 0 29 [none, none, some (.int z2), some (.ref z3), some (.int s.1), some (.int s.2)] [] z_SH (I, R) Q) (z_or (fun r : Int32 => Q (some (.int r)) z_SH (I, R)) (fun x : Int32 => z_W G eX12_tune d 0 0 53 [none, none, none, some (.ref z3), none, some (.int x)] [] z_SH (I, R) Q)) o → (fun s : Int32 × Int32 => z_W G eX12_tune d 0 0 29 [none, none, some (.int z2), some (.ref z3), some (.int s.1), some (.int s.2)] [] z_SH (I, R) Q) s := by
  rintro ⟨p4, p5⟩ o hf hk
  show z_W G eX12_tune d 0 0 29 [none, none, some (.int z2), some (.ref z3), some (.int p4), some (.int p5)] [] z_SH (I, R) Q
  unfold fX12_tune_b29 at hf
  try dsimp only at hf
  obtain ⟨g7, hf⟩ := z_g_el hf
  refine z_iload dX12_tune_29 rfl ?_
  refine z_aload_n dX12_tune_31 rfl rfl (z_okl g7) ?_
  obtain ⟨q8, hq8, hf⟩ := z_b_el hf
  refine y_cVi (av := []) (Nat.le_trans (Nat.le_of_ble_eq_true rfl) hd) (wX5_length (z_dl rfl hd) hq8) oX5_length lmX12_233 iX5_length g7 rfl _ rfl rfl (Nat.le_of_ble_eq_true rfl) dX12_tune_32 ?_
  refine z_icmp_ge (tgt := 69) dX12_tune_35 (by decide) (fun c9 => ?_) (fun c9 => ?_)
  · have hf := z_if_t hf c9
    refine z_bipush dX12_tune_69 kb_m2 ?_
    cases hf
    exact z_iret hk ⟨_, rfl, rfl⟩ dX12_tune_71
  · have hf := z_if_f hf c9
    refine z_aload_n dX12_tune_38 rfl rfl (z_okl g7) ?_
    refine z_iload dX12_tune_39 rfl ?_
    obtain ⟨q10, hq10, hf⟩ := z_b_el hf
    refine y_cVi (av := [.int p5]) (Nat.le_trans (Nat.le_of_ble_eq_true rfl) hd) (wX5_beginsSound (z_dl rfl hd) hq10) oX5_beginsSound lmX12_279 iX5_beginsSound g7 rfl _ rfl rfl (Nat.le_of_ble_eq_true rfl) dX12_tune_41 ?_
    refine z_if_eq (tgt := 63) dX12_tune_44 (by decide) (fun c11 => ?_) (fun c11 => ?_)
    · have hf := z_if_t hf c11
      refine y_iinc (fun t12 => [none, none, some (.int z2), some (.ref z3), some (.int p4), some (.int t12)]) dX12_tune_63 rfl kc_1 (by decide) (fun _ => rfl) (fun t12 et12 => ?_)
      have hf := z_l_el hf et12
      refine z_goto (tgt := 29) dX12_tune_66 (by decide) ?_
      cases hf
      exact y_sub hk (z_le_n (z_le_n (z_le_c rfl (z_le_c rfl (z_le_c rfl (z_le_c rfl z_le_0))))))
    · have hf := z_if_f hf c11
      refine z_iload dX12_tune_47 rfl ?_
      refine z_iload_n dX12_tune_49 rfl rfl ?_
      refine z_icmp_ne (tgt := 60) dX12_tune_50 (by decide) (fun c13 => ?_) (fun c13 => ?_)
      · have hf := z_if_f hf c13
        refine y_iinc (fun t14 => [none, none, some (.int z2), some (.ref z3), some (.int t14), some (.int p5)]) dX12_tune_60 rfl kc_1 (by decide) (fun _ => rfl) (fun t14 et14 => ?_)
        have hf := z_l_el hf et14
        refine y_iinc (fun t15 => [none, none, some (.int z2), some (.ref z3), some (.int t14), some (.int t15)]) dX12_tune_63 rfl kc_1 (by decide) (fun _ => rfl) (fun t15 et15 => ?_)
        have hf := z_l_el hf et15
        refine z_goto (tgt := 29) dX12_tune_66 (by decide) ?_
        cases hf
        exact y_sub hk (z_le_n (z_le_n (z_le_c rfl (z_le_c rfl (z_le_c rfl (z_le_c rfl z_le_0))))))
      · have hf := z_if_t hf c13
        cases hf
        exact y_sub hk (z_le_n (z_le_n (z_le_n (z_le_c rfl (z_le_n (z_le_c rfl z_le_0))))))
def fX12_tune (a0 : Nat) (x1 : Int32) (x2 : Int32) (I : Nat → Nat → Int32) (R : Nat → Nat → Nat) : Option (Int32) :=
  z_g (z_ob a0 12) (z_b (fX12_isSinger x1) (fun q1 => if q1 = 0 then (some (-1 : Int32)) else (if 0 ≤ x2 then (z_g (z_ob (R a0 1) 7) (z_g (z_ok 3 (R (R a0 1) 0) x1) (z_g (z_ob (R (R (R a0 1) 0) x1.toNatClampNeg) 5) (z_b (z_lp (fX12_tune_b29 a0 x2 (R (R (R a0 1) 0) x1.toNatClampNeg) I R) 300 ((0 : Int32), (0 : Int32))) (fun q16 => z_x q16 (fun q18 => some q18) (fun q17 => z_b (fX5_noteAt (R (R (R a0 1) 0) x1.toNatClampNeg) q17 I R) (fun q19 => some q19))))))) else (some (-1 : Int32)))))
theorem vX12_tune {G : z_G} {d : Nat} {Q : Option Value → z_S → z_H → Prop} {a0 : Nat} {x1 : Int32} {x2 : Int32} {I : Nat → Nat → Int32} {R : Nat → Nat → Nat} {q : Int32} (hd : 3 ≤ d) (hf : fX12_tune a0 x1 x2 I R = some q) (hk : Q (some (.int q)) z_SH (I, R)) : z_W G eX12_tune d 0 0 0 [some (.ref a0), some (.int x1), some (.int x2), none, none, none] [] z_SH (I, R) Q := by
  unfold fX12_tune at hf
  obtain ⟨g_a0, hf⟩ := z_g_el hf
  refine z_iload_n dX12_tune_0 rfl rfl ?_
  obtain ⟨q1, hq1, hf⟩ := z_b_el hf
  refine y_cSi (Nat.le_trans (Nat.le_of_ble_eq_true rfl) hd) (wX12_isSinger (z_dl rfl hd) hq1) oX12_isSinger lmX12_92 sX12_isSinger _ rfl rfl (Nat.le_of_ble_eq_true rfl) dX12_tune_1 ?_
  refine z_if_eq (tgt := 11) dX12_tune_4 (by decide) (fun c2 => ?_) (fun c2 => ?_)
  · have hf := z_if_t hf c2
    refine z_iconst dX12_tune_11 kc_m1 ?_
    cases hf
    exact z_iret hk ⟨_, rfl, rfl⟩ dX12_tune_12
  · have hf := z_if_f hf c2
    refine z_iload_n dX12_tune_7 rfl rfl ?_
    refine z_if_ge (tgt := 13) dX12_tune_8 (by decide) (fun c3 => ?_) (fun c3 => ?_)
    · have hf := z_if_t hf c3
      refine z_aload_n dX12_tune_13 rfl rfl (z_okl g_a0) ?_
      refine y_getR lfX12_19 rfl g_a0 dX12_tune_14 ?_
      obtain ⟨g4, hf⟩ := z_g_el hf
      refine y_getR lfX12_229 rfl g4 dX12_tune_17 ?_
      refine z_iload_n dX12_tune_20 rfl rfl ?_
      obtain ⟨g5, hf⟩ := z_g_el hf
      refine y_aald (t := 0) (Or.inl rfl) g5 dX12_tune_21 ?_
      obtain ⟨g6, hf⟩ := z_g_el hf
      refine y_astore_n [some (.ref a0), some (.int x1), some (.int x2), some (.ref (R (R (R a0 1) 0) x1.toNatClampNeg)), none, none] dX12_tune_22 rfl (by decide) (z_okl g6) rfl ?_
      refine z_iconst dX12_tune_23 kc_0 ?_
      refine y_istore0 [some (.ref a0), some (.int x1), some (.int x2), some (.ref (R (R (R a0 1) 0) x1.toNatClampNeg)), some (.int (0 : Int32)), none] dX12_tune_24 (by decide) rfl ?_
      refine z_iconst dX12_tune_26 kc_0 ?_
      refine y_istore0 [some (.ref a0), some (.int x1), some (.int x2), some (.ref (R (R (R a0 1) 0) x1.toNatClampNeg)), some (.int (0 : Int32)), some (.int (0 : Int32))] dX12_tune_27 (by decide) rfl ?_
      obtain ⟨q16, hq16, hf⟩ := z_b_el hf
      refine y_sub (lv' := [none, none, some (.int x2), some (.ref (R (R (R a0 1) 0) x1.toNatClampNeg)), some (.int (0 : Int32)), some (.int (0 : Int32))]) ?_ (z_le_n (z_le_n (z_le_c rfl (z_le_c rfl (z_le_c rfl (z_le_c rfl z_le_0))))))
      refine z_lp_el (P := (fun s : Int32 × Int32 => z_W G eX12_tune d 0 0 29 [none, none, some (.int x2), some (.ref (R (R (R a0 1) 0) x1.toNatClampNeg)), some (.int s.1), some (.int s.2)] [] z_SH (I, R) Q)) (E := (z_or (fun r : Int32 => Q (some (.int r)) z_SH (I, R)) (fun x : Int32 => z_W G eX12_tune d 0 0 53 [none, none, none, some (.ref (R (R (R a0 1) 0) x1.toNatClampNeg)), none, some (.int x)] [] z_SH (I, R) Q))) (wX12_tune_b29 hd g_a0) 300 ((0 : Int32), (0 : Int32)) q16 hq16 ?_
      rcases q16 with q18 | q17
      · have hf := z_x_l hf
        cases hf
        exact hk
      · have hf := z_x_r hf
        show z_W G eX12_tune d 0 0 53 [none, none, none, some (.ref (R (R (R a0 1) 0) x1.toNatClampNeg)), none, some (.int q17)] [] z_SH (I, R) _
        refine z_aload_n dX12_tune_53 rfl rfl (z_okl g6) ?_
        refine z_iload dX12_tune_54 rfl ?_
        obtain ⟨q19, hq19, hf⟩ := z_b_el hf
        refine y_cVi (av := [.int q17]) (Nat.le_trans (Nat.le_of_ble_eq_true rfl) hd) (wX5_noteAt (z_dl rfl hd) hq19) oX5_noteAt lmX12_234 iX5_noteAt g6 rfl _ rfl rfl (Nat.le_of_ble_eq_true rfl) dX12_tune_56 ?_
        cases hf
        exact z_iret hk ⟨_, rfl, rfl⟩ dX12_tune_59
    · have hf := z_if_f hf c3
      refine z_iconst dX12_tune_11 kc_m1 ?_
      cases hf
      exact z_iret hk ⟨_, rfl, rfl⟩ dX12_tune_12
theorem wX12_tune {G : z_G} {d : Nat} {a0 : Nat} {x1 : Int32} {x2 : Int32} {I : Nat → Nat → Int32} {R : Nat → Nat → Nat} {q : Int32} (hd : 3 ≤ d) (hf : fX12_tune a0 x1 x2 I R = some q) : z_M G d 0 0 eX12_tune [.ref a0, .int x1, .int x2] z_SH (I, R) (z_E (some (.int q)) (I, R)) :=
  y_M_of _ (by decide +kernel) rfl rfl rfl (vX12_tune hd hf ⟨rfl, rfl, rfl⟩)
def fX12_breaths_j35 (a0 : Nat) (y1 : Int32) (y2 : Int32) (y3 : Int32) (I : Nat → Nat → Int32) (R : Nat → Nat → Nat) : Option (Int32 × (Nat → Nat → Int32)) :=
  z_g (z_ob (R a0 1) 7) (z_g (z_ok 3 (R (R a0 1) 0) y1) (z_g (z_ob (R a0 11) 0) (z_b (fX0_plan (R a0 11) (R (R (R a0 1) 0) y1.toNatClampNeg) y2 I R) (fun q9 => if q9.1 = 0 then (some ((-2 : Int32), q9.2)) else (if y3 = (100 : Int32) then (z_b (fX0_fewest (R a0 11) q9.2) (fun q16 => some (q16, q9.2))) else (z_b (fX0_fewest (R a0 11) q9.2) (fun q13 => if q13 ≤ y3 then (some ((-4 : Int32), q9.2)) else (z_b (fX0_placeOf (R a0 11) y3 q9.2 R) (fun q15 => some (q15, q9.2))))))))))
theorem wX12_breaths_j35 {G : z_G} {d : Nat} {Q : Option Value → z_S → z_H → Prop} {a0 : Nat} {y1 : Int32} {y2 : Int32} {y3 : Int32} {I : Nat → Nat → Int32} {R : Nat → Nat → Nat} {o : Int32 × (Nat → Nat → Int32)} (hd : 5 ≤ d) (g_a0 : z_ob a0 12) (hf : fX12_breaths_j35 a0 y1 y2 y3 I R = some o) (hk : Q (some (.int o.1)) z_SH (o.2, R)) : z_W G eX12_breaths d 0 0 35 [some (.ref a0), some (.int y1), some (.int y2), some (.int y3)] [] z_SH (I, R) Q := by
  unfold fX12_breaths_j35 at hf
  refine z_aload_n dX12_breaths_35 rfl rfl (z_okl g_a0) ?_
  refine y_getR lfX12_88 rfl g_a0 dX12_breaths_36 ?_
  refine z_aload_n dX12_breaths_39 rfl rfl (z_okl g_a0) ?_
  refine y_getR lfX12_19 rfl g_a0 dX12_breaths_40 ?_
  obtain ⟨g7, hf⟩ := z_g_el hf
  refine y_getR lfX12_229 rfl g7 dX12_breaths_43 ?_
  refine z_iload_n dX12_breaths_46 rfl rfl ?_
  obtain ⟨g8, hf⟩ := z_g_el hf
  refine y_aald (t := 0) (Or.inl rfl) g8 dX12_breaths_47 ?_
  refine z_iload_n dX12_breaths_48 rfl rfl ?_
  obtain ⟨g10, hf⟩ := z_g_el hf
  obtain ⟨q9, hq9, hf⟩ := z_b_el hf
  refine y_cVi (av := [.ref (R (R (R a0 1) 0) y1.toNatClampNeg), .int y2]) (Nat.le_trans (Nat.le_of_ble_eq_true rfl) hd) (wX0_plan (z_dl rfl hd) hq9) oX0_plan lmX12_308 iX0_plan g10 rfl _ rfl rfl (Nat.le_of_ble_eq_true rfl) dX12_breaths_49 ?_
  refine z_if_ne (tgt := 58) dX12_breaths_52 (by decide) (fun c11 => ?_) (fun c11 => ?_)
  · have hf := z_if_f hf c11
    refine z_iload_n dX12_breaths_58 rfl rfl ?_
    refine z_bipush dX12_breaths_59 kb_100 ?_
    refine z_icmp_ne (tgt := 72) dX12_breaths_61 (by decide) (fun c12 => ?_) (fun c12 => ?_)
    · have hf := z_if_f hf c12
      refine z_iload_n dX12_breaths_72 rfl rfl ?_
      refine z_aload_n dX12_breaths_73 rfl rfl (z_okl g_a0) ?_
      refine y_getR lfX12_88 rfl g_a0 dX12_breaths_74 ?_
      obtain ⟨q13, hq13, hf⟩ := z_b_el hf
      refine y_cVi (av := []) (Nat.le_trans (Nat.le_of_ble_eq_true rfl) hd) (wX0_fewest (z_dl rfl hd) hq13) oX0_fewest lmX12_312 iX0_fewest g10 rfl _ rfl rfl (Nat.le_of_ble_eq_true rfl) dX12_breaths_77 ?_
      refine z_icmp_ge (tgt := 94) dX12_breaths_80 (by decide) (fun c14 => ?_) (fun c14 => ?_)
      · have hf := z_if_t hf c14
        refine z_bipush dX12_breaths_94 kb_m4 ?_
        cases hf
        exact z_iret hk ⟨_, rfl, rfl⟩ dX12_breaths_96
      · have hf := z_if_f hf c14
        refine z_aload_n dX12_breaths_83 rfl rfl (z_okl g_a0) ?_
        refine y_getR lfX12_88 rfl g_a0 dX12_breaths_84 ?_
        refine z_iload_n dX12_breaths_87 rfl rfl ?_
        obtain ⟨q15, hq15, hf⟩ := z_b_el hf
        refine y_cVi (av := [.int y3]) (Nat.le_trans (Nat.le_of_ble_eq_true rfl) hd) (wX0_placeOf (z_dl rfl hd) hq15) oX0_placeOf lmX12_315 iX0_placeOf g10 rfl _ rfl rfl (Nat.le_of_ble_eq_true rfl) dX12_breaths_88 ?_
        refine z_goto (tgt := 96) dX12_breaths_91 (by decide) ?_
        cases hf
        exact z_iret hk ⟨_, rfl, rfl⟩ dX12_breaths_96
    · have hf := z_if_t hf c12
      refine z_aload_n dX12_breaths_64 rfl rfl (z_okl g_a0) ?_
      refine y_getR lfX12_88 rfl g_a0 dX12_breaths_65 ?_
      obtain ⟨q16, hq16, hf⟩ := z_b_el hf
      refine y_cVi (av := []) (Nat.le_trans (Nat.le_of_ble_eq_true rfl) hd) (wX0_fewest (z_dl rfl hd) hq16) oX0_fewest lmX12_312 iX0_fewest g10 rfl _ rfl rfl (Nat.le_of_ble_eq_true rfl) dX12_breaths_68 ?_
      cases hf
      exact z_iret hk ⟨_, rfl, rfl⟩ dX12_breaths_71
  · have hf := z_if_t hf c11
    refine z_bipush dX12_breaths_55 kb_m2 ?_
    cases hf
    exact z_iret hk ⟨_, rfl, rfl⟩ dX12_breaths_57
def fX12_breaths (a0 : Nat) (x1 : Int32) (x2 : Int32) (x3 : Int32) (I : Nat → Nat → Int32) (R : Nat → Nat → Nat) : Option (Int32 × (Nat → Nat → Int32)) :=
  z_g (z_ob a0 12) (z_b (fX12_isSinger x1) (fun q1 => if q1 = 0 then (some ((-1 : Int32), I)) else (z_b (fX12_within x2 (1 : Int32) (20 : Int32)) (fun q3 => if q3 = 0 then (some ((-1 : Int32), I)) else (z_b (fX12_within x3 (0 : Int32) (59 : Int32)) (fun q5 => if q5 = 0 then (if x3 = (100 : Int32) then (fX12_breaths_j35 a0 x1 x2 x3 I R) else (some ((-1 : Int32), I))) else (fX12_breaths_j35 a0 x1 x2 x3 I R)))))))
theorem vX12_breaths {G : z_G} {d : Nat} {Q : Option Value → z_S → z_H → Prop} {a0 : Nat} {x1 : Int32} {x2 : Int32} {x3 : Int32} {I : Nat → Nat → Int32} {R : Nat → Nat → Nat} {q : Int32 × (Nat → Nat → Int32)} (hd : 5 ≤ d) (hf : fX12_breaths a0 x1 x2 x3 I R = some q) (hk : Q (some (.int q.1)) z_SH (q.2, R)) : z_W G eX12_breaths d 0 0 0 [some (.ref a0), some (.int x1), some (.int x2), some (.int x3)] [] z_SH (I, R) Q := by
  unfold fX12_breaths at hf
  obtain ⟨g_a0, hf⟩ := z_g_el hf
  refine z_iload_n dX12_breaths_0 rfl rfl ?_
  obtain ⟨q1, hq1, hf⟩ := z_b_el hf
  refine y_cSi (Nat.le_trans (Nat.le_of_ble_eq_true rfl) hd) (wX12_isSinger (z_dl rfl hd) hq1) oX12_isSinger lmX12_92 sX12_isSinger _ rfl rfl (Nat.le_of_ble_eq_true rfl) dX12_breaths_1 ?_
  refine z_if_eq (tgt := 33) dX12_breaths_4 (by decide) (fun c2 => ?_) (fun c2 => ?_)
  · have hf := z_if_t hf c2
    refine z_iconst dX12_breaths_33 kc_m1 ?_
    cases hf
    exact z_iret hk ⟨_, rfl, rfl⟩ dX12_breaths_34
  · have hf := z_if_f hf c2
    refine z_iload_n dX12_breaths_7 rfl rfl ?_
    refine z_iconst dX12_breaths_8 kc_1 ?_
    refine z_bipush dX12_breaths_9 kb_20 ?_
    obtain ⟨q3, hq3, hf⟩ := z_b_el hf
    refine y_cSi (Nat.le_trans (Nat.le_of_ble_eq_true rfl) hd) (wX12_within (z_dl rfl hd) hq3) oX12_within lmX12_96 sX12_within _ rfl rfl (Nat.le_of_ble_eq_true rfl) dX12_breaths_11 ?_
    refine z_if_eq (tgt := 33) dX12_breaths_14 (by decide) (fun c4 => ?_) (fun c4 => ?_)
    · have hf := z_if_t hf c4
      refine z_iconst dX12_breaths_33 kc_m1 ?_
      cases hf
      exact z_iret hk ⟨_, rfl, rfl⟩ dX12_breaths_34
    · have hf := z_if_f hf c4
      refine z_iload_n dX12_breaths_17 rfl rfl ?_
      refine z_iconst dX12_breaths_18 kc_0 ?_
      refine z_bipush dX12_breaths_19 kb_59 ?_
      obtain ⟨q5, hq5, hf⟩ := z_b_el hf
      refine y_cSi (Nat.le_trans (Nat.le_of_ble_eq_true rfl) hd) (wX12_within (z_dl rfl hd) hq5) oX12_within lmX12_96 sX12_within _ rfl rfl (Nat.le_of_ble_eq_true rfl) dX12_breaths_21 ?_
      refine z_if_ne (tgt := 35) dX12_breaths_24 (by decide) (fun c6 => ?_) (fun c6 => ?_)
      · have hf := z_if_f hf c6
        exact y_sub (wX12_breaths_j35 hd g_a0 hf hk) (z_le_c rfl (z_le_c rfl (z_le_c rfl (z_le_c rfl z_le_0))))
      · have hf := z_if_t hf c6
        refine z_iload_n dX12_breaths_27 rfl rfl ?_
        refine z_bipush dX12_breaths_28 kb_100 ?_
        refine z_icmp_eq (tgt := 35) dX12_breaths_30 (by decide) (fun c17 => ?_) (fun c17 => ?_)
        · have hf := z_if_t hf c17
          exact y_sub (wX12_breaths_j35 hd g_a0 hf hk) (z_le_c rfl (z_le_c rfl (z_le_c rfl (z_le_c rfl z_le_0))))
        · have hf := z_if_f hf c17
          refine z_iconst dX12_breaths_33 kc_m1 ?_
          cases hf
          exact z_iret hk ⟨_, rfl, rfl⟩ dX12_breaths_34
theorem wX12_breaths {G : z_G} {d : Nat} {a0 : Nat} {x1 : Int32} {x2 : Int32} {x3 : Int32} {I : Nat → Nat → Int32} {R : Nat → Nat → Nat} {q : Int32 × (Nat → Nat → Int32)} (hd : 5 ≤ d) (hf : fX12_breaths a0 x1 x2 x3 I R = some q) : z_M G d 0 0 eX12_breaths [.ref a0, .int x1, .int x2, .int x3] z_SH (I, R) (z_E (some (.int q.1)) (q.2, R)) :=
  y_M_of _ (by decide +kernel) rfl rfl rfl (vX12_breaths hd hf ⟨rfl, rfl, rfl⟩)
def fX12_clock (a0 : Nat) (x1 : Int32) (x2 : Int32) (I : Nat → Nat → Int32) (R : Nat → Nat → Nat) : Option (Int32) :=
  z_g (z_ob a0 12) (z_g (z_ob (R a0 5) 9) (z_b (fX9_isTold (R a0 5) x1 I R) (fun q1 => if q1 = 0 then (some (-1 : Int32)) else (z_b (fX12_within x2 (0 : Int32) (100000 : Int32)) (fun q4 => if q4 = 0 then (some (-1 : Int32)) else (z_g (z_ok 4 (R (R a0 5) 0) x1) (z_g (z_ob (R (R (R a0 5) 0) x1.toNatClampNeg) 8) (z_b (fX8_secondsShown (R (R (R a0 5) 0) x1.toNatClampNeg) x2 I) (fun q7 => some (z_rem q7 (43200 : Int32)))))))))))
theorem vX12_clock {G : z_G} {d : Nat} {Q : Option Value → z_S → z_H → Prop} {a0 : Nat} {x1 : Int32} {x2 : Int32} {I : Nat → Nat → Int32} {R : Nat → Nat → Nat} {q : Int32} (hd : 3 ≤ d) (hf : fX12_clock a0 x1 x2 I R = some q) (hk : Q (some (.int q)) z_SH (I, R)) : z_W G eX12_clock d 0 0 0 [some (.ref a0), some (.int x1), some (.int x2)] [] z_SH (I, R) Q := by
  unfold fX12_clock at hf
  obtain ⟨g_a0, hf⟩ := z_g_el hf
  refine z_aload_n dX12_clock_0 rfl rfl (z_okl g_a0) ?_
  refine y_getR lfX12_61 rfl g_a0 dX12_clock_1 ?_
  refine z_iload_n dX12_clock_4 rfl rfl ?_
  obtain ⟨g2, hf⟩ := z_g_el hf
  obtain ⟨q1, hq1, hf⟩ := z_b_el hf
  refine y_cVi (av := [.int x1]) (Nat.le_trans (Nat.le_of_ble_eq_true rfl) hd) (wX9_isTold (z_dl rfl hd) hq1) oX9_isTold lmX12_186 iX9_isTold g2 rfl _ rfl rfl (Nat.le_of_ble_eq_true rfl) dX12_clock_5 ?_
  refine z_if_eq (tgt := 22) dX12_clock_8 (by decide) (fun c3 => ?_) (fun c3 => ?_)
  · have hf := z_if_t hf c3
    refine z_iconst dX12_clock_22 kc_m1 ?_
    cases hf
    exact z_iret hk ⟨_, rfl, rfl⟩ dX12_clock_23
  · have hf := z_if_f hf c3
    refine z_iload_n dX12_clock_11 rfl rfl ?_
    refine z_iconst dX12_clock_12 kc_0 ?_
    refine z_ldcw dX12_clock_13 lkX12_318 ?_
    obtain ⟨q4, hq4, hf⟩ := z_b_el hf
    refine y_cSi (Nat.le_trans (Nat.le_of_ble_eq_true rfl) hd) (wX12_within (z_dl rfl hd) hq4) oX12_within lmX12_96 sX12_within _ rfl rfl (Nat.le_of_ble_eq_true rfl) dX12_clock_16 ?_
    refine z_if_ne (tgt := 24) dX12_clock_19 (by decide) (fun c5 => ?_) (fun c5 => ?_)
    · have hf := z_if_f hf c5
      refine z_aload_n dX12_clock_24 rfl rfl (z_okl g_a0) ?_
      refine y_getR lfX12_61 rfl g_a0 dX12_clock_25 ?_
      refine y_getR lfX12_100 rfl g2 dX12_clock_28 ?_
      refine z_iload_n dX12_clock_31 rfl rfl ?_
      obtain ⟨g6, hf⟩ := z_g_el hf
      refine y_aald (t := 1) (Or.inr rfl) g6 dX12_clock_32 ?_
      refine z_iload_n dX12_clock_33 rfl rfl ?_
      obtain ⟨g8, hf⟩ := z_g_el hf
      obtain ⟨q7, hq7, hf⟩ := z_b_el hf
      refine y_cVi (av := [.int x2]) (Nat.le_trans (Nat.le_of_ble_eq_true rfl) hd) (wX8_secondsShown (z_dl rfl hd) hq7) oX8_secondsShown lmX12_319 iX8_secondsShown g8 rfl _ rfl rfl (Nat.le_of_ble_eq_true rfl) dX12_clock_34 ?_
      refine z_ldcw dX12_clock_37 lkX12_322 ?_
      refine y_irem dX12_clock_40 (by decide) ?_
      cases hf
      exact z_iret hk ⟨_, rfl, rfl⟩ dX12_clock_41
    · have hf := z_if_t hf c5
      refine z_iconst dX12_clock_22 kc_m1 ?_
      cases hf
      exact z_iret hk ⟨_, rfl, rfl⟩ dX12_clock_23
theorem wX12_clock {G : z_G} {d : Nat} {a0 : Nat} {x1 : Int32} {x2 : Int32} {I : Nat → Nat → Int32} {R : Nat → Nat → Nat} {q : Int32} (hd : 3 ≤ d) (hf : fX12_clock a0 x1 x2 I R = some q) : z_M G d 0 0 eX12_clock [.ref a0, .int x1, .int x2] z_SH (I, R) (z_E (some (.int q)) (I, R)) :=
  y_M_of _ (by decide +kernel) rfl rfl rfl (vX12_clock hd hf ⟨rfl, rfl, rfl⟩)
def fX12_commonDivisor_b7  : (Int32 × Int32 × Int32) → Option ((Int32 × Int32 × Int32) ⊕ (Int32)) :=
  fun s => (fun (p2 : Int32) (p3 : Int32) (p4 : Int32) => if (64 : Int32) ≤ p4 then (some (.inr p2)) else (if p3 = 0 then (some (.inr p2)) else (z_g (¬ p3 = 0) (z_l (z_rem p2 p3) (fun t4 => z_l (p4 + (1 : Int32)) (fun t5 => some (.inl (p3, t4, t5)))))))) s.1 s.2.1 s.2.2
theorem wX12_commonDivisor_b7 {G : z_G} {d : Nat} {Q : Option Value → z_S → z_H → Prop} {I : Nat → Nat → Int32} {R : Nat → Nat → Nat} (hd : 0 ≤ d)  : ∀ (s : Int32 × Int32 × Int32) (o : (Int32 × Int32 × Int32) ⊕ (Int32)), fX12_commonDivisor_b7  s = some o → z_or (fun s : Int32 × Int32 × Int32 => z_W G eX12_commonDivisor d 0 0 7 [none, none, some (.int s.1), some (.int s.2.1), some (.int s.2.2), none] [] z_SH (I, R) Q) (fun x : Int32 => z_W G eX12_commonDivisor d 0 0 34 [none, none, some (.int x), none, none, none] [] z_SH (I, R) Q) o → (fun s : Int32 × Int32 × Int32 => z_W G eX12_commonDivisor d 0 0 7 [none, none, some (.int s.1), some (.int s.2.1), some (.int s.2.2), none] [] z_SH (I, R) Q) s := by
  rintro ⟨p2, p3, p4⟩ o hf hk
  show z_W G eX12_commonDivisor d 0 0 7 [none, none, some (.int p2), some (.int p3), some (.int p4), none] [] z_SH (I, R) Q
  unfold fX12_commonDivisor_b7 at hf
  try dsimp only at hf
  refine z_iload dX12_commonDivisor_7 rfl ?_
  refine z_bipush dX12_commonDivisor_9 kb_64 ?_
  refine z_icmp_ge (tgt := 34) dX12_commonDivisor_11 (by decide) (fun c1 => ?_) (fun c1 => ?_)
  · have hf := z_if_t hf c1
    cases hf
    exact y_sub hk (z_le_n (z_le_n (z_le_c rfl (z_le_n (z_le_n (z_le_n z_le_0))))))
  · have hf := z_if_f hf c1
    refine z_iload_n dX12_commonDivisor_14 rfl rfl ?_
    refine z_if_eq (tgt := 34) dX12_commonDivisor_15 (by decide) (fun c2 => ?_) (fun c2 => ?_)
    · have hf := z_if_t hf c2
      cases hf
      exact y_sub hk (z_le_n (z_le_n (z_le_c rfl (z_le_n (z_le_n (z_le_n z_le_0))))))
    · have hf := z_if_f hf c2
      refine z_iload_n dX12_commonDivisor_18 rfl rfl ?_
      refine z_iload_n dX12_commonDivisor_19 rfl rfl ?_
      obtain ⟨g3, hf⟩ := z_g_el hf
      refine y_irem dX12_commonDivisor_20 g3 ?_
      refine y_istore (fun t4 => [none, none, some (.int p2), some (.int p3), some (.int p4), some (.int t4)]) dX12_commonDivisor_21 (by decide) (fun _ => rfl) (fun t4 et4 => ?_)
      have hf := z_l_el hf et4
      refine z_iload_n dX12_commonDivisor_23 rfl rfl ?_
      refine y_istore_n0 [none, none, some (.int p3), some (.int p3), some (.int p4), some (.int t4)] dX12_commonDivisor_24 rfl (by decide) rfl ?_
      refine z_iload dX12_commonDivisor_25 rfl ?_
      refine y_istore_n0 [none, none, some (.int p3), some (.int t4), some (.int p4), some (.int t4)] dX12_commonDivisor_27 rfl (by decide) rfl ?_
      refine y_iinc (fun t5 => [none, none, some (.int p3), some (.int t4), some (.int t5), some (.int t4)]) dX12_commonDivisor_28 rfl kc_1 (by decide) (fun _ => rfl) (fun t5 et5 => ?_)
      have hf := z_l_el hf et5
      refine z_goto (tgt := 7) dX12_commonDivisor_31 (by decide) ?_
      cases hf
      exact y_sub hk (z_le_n (z_le_n (z_le_c rfl (z_le_c rfl (z_le_c rfl (z_le_n z_le_0))))))
def fX12_commonDivisor (x0 : Int32) (x1 : Int32) : Option (Int32) :=
  z_b (z_lp (fX12_commonDivisor_b7 ) 300 (x0, x1, (0 : Int32))) (fun q6 => some q6)
theorem vX12_commonDivisor {G : z_G} {d : Nat} {Q : Option Value → z_S → z_H → Prop} {x0 : Int32} {x1 : Int32} {I : Nat → Nat → Int32} {R : Nat → Nat → Nat} {q : Int32} (hd : 0 ≤ d) (hf : fX12_commonDivisor x0 x1 = some q) (hk : Q (some (.int q)) z_SH (I, R)) : z_W G eX12_commonDivisor d 0 0 0 [some (.int x0), some (.int x1), none, none, none, none] [] z_SH (I, R) Q := by
  unfold fX12_commonDivisor at hf
  refine z_iload_n dX12_commonDivisor_0 rfl rfl ?_
  refine y_istore_n0 [some (.int x0), some (.int x1), some (.int x0), none, none, none] dX12_commonDivisor_1 rfl (by decide) rfl ?_
  refine z_iload_n dX12_commonDivisor_2 rfl rfl ?_
  refine y_istore_n0 [some (.int x0), some (.int x1), some (.int x0), some (.int x1), none, none] dX12_commonDivisor_3 rfl (by decide) rfl ?_
  refine z_iconst dX12_commonDivisor_4 kc_0 ?_
  refine y_istore0 [some (.int x0), some (.int x1), some (.int x0), some (.int x1), some (.int (0 : Int32)), none] dX12_commonDivisor_5 (by decide) rfl ?_
  obtain ⟨q6, hq6, hf⟩ := z_b_el hf
  refine y_sub (lv' := [none, none, some (.int x0), some (.int x1), some (.int (0 : Int32)), none]) ?_ (z_le_n (z_le_n (z_le_c rfl (z_le_c rfl (z_le_c rfl (z_le_n z_le_0))))))
  refine z_lp_el (P := (fun s : Int32 × Int32 × Int32 => z_W G eX12_commonDivisor d 0 0 7 [none, none, some (.int s.1), some (.int s.2.1), some (.int s.2.2), none] [] z_SH (I, R) Q)) (E := (fun x : Int32 => z_W G eX12_commonDivisor d 0 0 34 [none, none, some (.int x), none, none, none] [] z_SH (I, R) Q)) (wX12_commonDivisor_b7 hd ) 300 (x0, x1, (0 : Int32)) q6 hq6 ?_
  show z_W G eX12_commonDivisor d 0 0 34 [none, none, some (.int q6), none, none, none] [] z_SH (I, R) _
  refine z_iload_n dX12_commonDivisor_34 rfl rfl ?_
  cases hf
  exact z_iret hk ⟨_, rfl, rfl⟩ dX12_commonDivisor_35
theorem wX12_commonDivisor {G : z_G} {d : Nat} {x0 : Int32} {x1 : Int32} {I : Nat → Nat → Int32} {R : Nat → Nat → Nat} {q : Int32} (hd : 0 ≤ d) (hf : fX12_commonDivisor x0 x1 = some q) : z_M G d 0 0 eX12_commonDivisor [.int x0, .int x1] z_SH (I, R) (z_E (some (.int q)) (I, R)) :=
  y_M_of _ (by decide +kernel) rfl rfl rfl (vX12_commonDivisor hd hf ⟨rfl, rfl, rfl⟩)
def fX12_meet (a0 : Nat) (x1 : Int32) (x2 : Int32) (I : Nat → Nat → Int32) (R : Nat → Nat → Nat) : Option (Int32) :=
  z_g (z_ob a0 12) (z_g (z_ob (R a0 5) 9) (z_b (fX9_isTold (R a0 5) x1 I R) (fun q1 => if q1 = 0 then (some (-1 : Int32)) else (z_b (fX9_isTold (R a0 5) x2 I R) (fun q4 => if q4 = 0 then (some (-1 : Int32)) else (if x1 = x2 then (some (-1 : Int32)) else (z_g (z_ok 4 (R (R a0 5) 0) x1) (z_g (z_ob (R (R (R a0 5) 0) x1.toNatClampNeg) 8) (z_g (z_ok 4 (R (R a0 5) 0) x2) (z_g (z_ob (R (R (R a0 5) 0) x2.toNatClampNeg) 8) (z_l (z_abs ((I (R (R (R a0 5) 0) x1.toNatClampNeg) 1) - (I (R (R (R a0 5) 0) x2.toNatClampNeg) 1))) (fun t11 => z_b (fX12_commonDivisor (2592000 : Int32) t11) (fun q12 => if (1 : Int32) ≤ q12 then (z_g (¬ q12 = 0) (some ((2592000 : Int32) / q12))) else (some (-1 : Int32)))))))))))))))
theorem vX12_meet {G : z_G} {d : Nat} {Q : Option Value → z_S → z_H → Prop} {a0 : Nat} {x1 : Int32} {x2 : Int32} {I : Nat → Nat → Int32} {R : Nat → Nat → Nat} {q : Int32} (hd : 3 ≤ d) (hf : fX12_meet a0 x1 x2 I R = some q) (hk : Q (some (.int q)) z_SH (I, R)) : z_W G eX12_meet d 0 0 0 [some (.ref a0), some (.int x1), some (.int x2), none, none, none] [] z_SH (I, R) Q := by
  unfold fX12_meet at hf
  obtain ⟨g_a0, hf⟩ := z_g_el hf
  refine z_aload_n dX12_meet_0 rfl rfl (z_okl g_a0) ?_
  refine y_getR lfX12_61 rfl g_a0 dX12_meet_1 ?_
  refine z_iload_n dX12_meet_4 rfl rfl ?_
  obtain ⟨g2, hf⟩ := z_g_el hf
  obtain ⟨q1, hq1, hf⟩ := z_b_el hf
  refine y_cVi (av := [.int x1]) (Nat.le_trans (Nat.le_of_ble_eq_true rfl) hd) (wX9_isTold (z_dl rfl hd) hq1) oX9_isTold lmX12_186 iX9_isTold g2 rfl _ rfl rfl (Nat.le_of_ble_eq_true rfl) dX12_meet_5 ?_
  refine z_if_eq (tgt := 27) dX12_meet_8 (by decide) (fun c3 => ?_) (fun c3 => ?_)
  · have hf := z_if_t hf c3
    refine z_iconst dX12_meet_27 kc_m1 ?_
    cases hf
    exact z_iret hk ⟨_, rfl, rfl⟩ dX12_meet_28
  · have hf := z_if_f hf c3
    refine z_aload_n dX12_meet_11 rfl rfl (z_okl g_a0) ?_
    refine y_getR lfX12_61 rfl g_a0 dX12_meet_12 ?_
    refine z_iload_n dX12_meet_15 rfl rfl ?_
    obtain ⟨q4, hq4, hf⟩ := z_b_el hf
    refine y_cVi (av := [.int x2]) (Nat.le_trans (Nat.le_of_ble_eq_true rfl) hd) (wX9_isTold (z_dl rfl hd) hq4) oX9_isTold lmX12_186 iX9_isTold g2 rfl _ rfl rfl (Nat.le_of_ble_eq_true rfl) dX12_meet_16 ?_
    refine z_if_eq (tgt := 27) dX12_meet_19 (by decide) (fun c5 => ?_) (fun c5 => ?_)
    · have hf := z_if_t hf c5
      refine z_iconst dX12_meet_27 kc_m1 ?_
      cases hf
      exact z_iret hk ⟨_, rfl, rfl⟩ dX12_meet_28
    · have hf := z_if_f hf c5
      refine z_iload_n dX12_meet_22 rfl rfl ?_
      refine z_iload_n dX12_meet_23 rfl rfl ?_
      refine z_icmp_ne (tgt := 29) dX12_meet_24 (by decide) (fun c6 => ?_) (fun c6 => ?_)
      · have hf := z_if_f hf c6
        refine z_ldcw dX12_meet_29 lkX12_323 ?_
        refine y_istore_n0 [some (.ref a0), some (.int x1), some (.int x2), some (.int (2592000 : Int32)), none, none] dX12_meet_32 rfl (by decide) rfl ?_
        refine z_aload_n dX12_meet_33 rfl rfl (z_okl g_a0) ?_
        refine y_getR lfX12_61 rfl g_a0 dX12_meet_34 ?_
        refine y_getR lfX12_100 rfl g2 dX12_meet_37 ?_
        refine z_iload_n dX12_meet_40 rfl rfl ?_
        obtain ⟨g7, hf⟩ := z_g_el hf
        refine y_aald (t := 1) (Or.inr rfl) g7 dX12_meet_41 ?_
        obtain ⟨g8, hf⟩ := z_g_el hf
        refine y_getI lfX12_110 rfl g8 dX12_meet_42 ?_
        refine z_aload_n dX12_meet_45 rfl rfl (z_okl g_a0) ?_
        refine y_getR lfX12_61 rfl g_a0 dX12_meet_46 ?_
        refine y_getR lfX12_100 rfl g2 dX12_meet_49 ?_
        refine z_iload_n dX12_meet_52 rfl rfl ?_
        obtain ⟨g9, hf⟩ := z_g_el hf
        refine y_aald (t := 1) (Or.inr rfl) g9 dX12_meet_53 ?_
        obtain ⟨g10, hf⟩ := z_g_el hf
        refine y_getI lfX12_110 rfl g10 dX12_meet_54 ?_
        refine z_isub dX12_meet_57 ?_
        refine y_abs (Nat.le_trans (Nat.le_of_ble_eq_true rfl) hd) lmX12_324 (Nat.le_of_ble_eq_true rfl) dX12_meet_58 ?_
        refine y_istore (fun t11 => [some (.ref a0), some (.int x1), some (.int x2), some (.int (2592000 : Int32)), some (.int t11), none]) dX12_meet_61 (by decide) (fun _ => rfl) (fun t11 et11 => ?_)
        have hf := z_l_el hf et11
        refine z_iload_n dX12_meet_63 rfl rfl ?_
        refine z_iload dX12_meet_64 rfl ?_
        obtain ⟨q12, hq12, hf⟩ := z_b_el hf
        refine y_cSi (Nat.le_trans (Nat.le_of_ble_eq_true rfl) hd) (wX12_commonDivisor (z_dl rfl hd) hq12) oX12_commonDivisor lmX12_327 sX12_commonDivisor _ rfl rfl (Nat.le_of_ble_eq_true rfl) dX12_meet_66 ?_
        refine y_istore0 [some (.ref a0), some (.int x1), some (.int x2), some (.int (2592000 : Int32)), some (.int t11), some (.int q12)] dX12_meet_69 (by decide) rfl ?_
        refine z_iload dX12_meet_71 rfl ?_
        refine z_iconst dX12_meet_73 kc_1 ?_
        refine z_icmp_ge (tgt := 81) dX12_meet_74 (by decide) (fun c13 => ?_) (fun c13 => ?_)
        · have hf := z_if_t hf c13
          refine z_iload_n dX12_meet_81 rfl rfl ?_
          refine z_iload dX12_meet_82 rfl ?_
          obtain ⟨g14, hf⟩ := z_g_el hf
          refine z_idiv dX12_meet_84 g14 ?_
          cases hf
          exact z_iret hk ⟨_, rfl, rfl⟩ dX12_meet_85
        · have hf := z_if_f hf c13
          refine z_iconst dX12_meet_77 kc_m1 ?_
          refine z_goto (tgt := 85) dX12_meet_78 (by decide) ?_
          cases hf
          exact z_iret hk ⟨_, rfl, rfl⟩ dX12_meet_85
      · have hf := z_if_t hf c6
        refine z_iconst dX12_meet_27 kc_m1 ?_
        cases hf
        exact z_iret hk ⟨_, rfl, rfl⟩ dX12_meet_28
theorem wX12_meet {G : z_G} {d : Nat} {a0 : Nat} {x1 : Int32} {x2 : Int32} {I : Nat → Nat → Int32} {R : Nat → Nat → Nat} {q : Int32} (hd : 3 ≤ d) (hf : fX12_meet a0 x1 x2 I R = some q) : z_M G d 0 0 eX12_meet [.ref a0, .int x1, .int x2] z_SH (I, R) (z_E (some (.int q)) (I, R)) :=
  y_M_of _ (by decide +kernel) rfl rfl rfl (vX12_meet hd hf ⟨rfl, rfl, rfl⟩)
def fX12_clocksApart_b10 (a0 : Nat) (z1 : Int32) (z2 : Int32) (I : Nat → Nat → Int32) (R : Nat → Nat → Nat) : (Int32 × Int32 × Int32) → Option ((Int32 × Int32 × Int32) ⊕ (Int32 × Int32)) :=
  fun s => (fun (p3 : Int32) (p4 : Int32) (p5 : Int32) => if (8 : Int32) ≤ p5 then (some (.inr (p3, p4))) else (if ((z_shr z1 p5) &&& (1 : Int32)) = 0 then (z_l (p5 + (1 : Int32)) (fun t3 => some (.inl (p3, p4, t3)))) else (z_g (z_ob (R a0 5) 9) (z_g (z_ok 4 (R (R a0 5) 0) p5) (z_g (z_ob (R (R (R a0 5) 0) p5.toNatClampNeg) 8) (z_b (fX8_secondsShown (R (R (R a0 5) 0) p5.toNatClampNeg) z2 I) (fun q6 => z_l (z_min p3 q6) (fun t8 => z_l (z_max p4 q6) (fun t9 => z_l (p5 + (1 : Int32)) (fun t10 => some (.inl (t8, t9, t10)))))))))))) s.1 s.2.1 s.2.2
theorem wX12_clocksApart_b10 {G : z_G} {d : Nat} {Q : Option Value → z_S → z_H → Prop} {a0 : Nat} {z1 : Int32} {z2 : Int32} {I : Nat → Nat → Int32} {R : Nat → Nat → Nat} (hd : 2 ≤ d) (g_a0 : z_ob a0 12) : ∀ (s : Int32 × Int32 × Int32) (o : (Int32 × Int32 × Int32) ⊕ (Int32 × Int32)), fX12_clocksApart_b10 a0 z1 z2 I R s = some o → z_or (fun s : Int32 × Int32 × Int32 => z_W G eX12_clocksApart d 0 0 10 [some (.ref a0), some (.int z1), some (.int z2), some (.int s.1), some (.int s.2.1), some (.int s.2.2), none] [] z_SH (I, R) Q) (fun x : Int32 × Int32 => z_W G eX12_clocksApart d 0 0 64 [none, none, none, some (.int x.1), some (.int x.2), none, none] [] z_SH (I, R) Q) o → (fun s : Int32 × Int32 × Int32 => z_W G eX12_clocksApart d 0 0 10 [some (.ref a0), some (.int z1), some (.int z2), some (.int s.1), some (.int s.2.1), some (.int s.2.2), none] [] z_SH (I, R) Q) s := by
  rintro ⟨p3, p4, p5⟩ o hf hk
  show z_W G eX12_clocksApart d 0 0 10 [some (.ref a0), some (.int z1), some (.int z2), some (.int p3), some (.int p4), some (.int p5), none] [] z_SH (I, R) Q
  unfold fX12_clocksApart_b10 at hf
  try dsimp only at hf
  refine z_iload dX12_clocksApart_10 rfl ?_
  refine z_bipush dX12_clocksApart_12 kb_8 ?_
  refine z_icmp_ge (tgt := 64) dX12_clocksApart_14 (by decide) (fun c1 => ?_) (fun c1 => ?_)
  · have hf := z_if_t hf c1
    cases hf
    exact y_sub hk (z_le_n (z_le_n (z_le_n (z_le_c rfl (z_le_c rfl (z_le_n (z_le_n z_le_0)))))))
  · have hf := z_if_f hf c1
    refine z_iload_n dX12_clocksApart_17 rfl rfl ?_
    refine z_iload dX12_clocksApart_18 rfl ?_
    refine y_ishr dX12_clocksApart_20 ?_
    refine z_iconst dX12_clocksApart_21 kc_1 ?_
    refine z_iand dX12_clocksApart_22 ?_
    refine z_if_eq (tgt := 58) dX12_clocksApart_23 (by decide) (fun c2 => ?_) (fun c2 => ?_)
    · have hf := z_if_t hf c2
      refine y_iinc (fun t3 => [some (.ref a0), some (.int z1), some (.int z2), some (.int p3), some (.int p4), some (.int t3), none]) dX12_clocksApart_58 rfl kc_1 (by decide) (fun _ => rfl) (fun t3 et3 => ?_)
      have hf := z_l_el hf et3
      refine z_goto (tgt := 10) dX12_clocksApart_61 (by decide) ?_
      cases hf
      exact y_sub hk (z_le_c rfl (z_le_c rfl (z_le_c rfl (z_le_c rfl (z_le_c rfl (z_le_c rfl (z_le_n z_le_0)))))))
    · have hf := z_if_f hf c2
      refine z_aload_n dX12_clocksApart_26 rfl rfl (z_okl g_a0) ?_
      refine y_getR lfX12_61 rfl g_a0 dX12_clocksApart_27 ?_
      obtain ⟨g4, hf⟩ := z_g_el hf
      refine y_getR lfX12_100 rfl g4 dX12_clocksApart_30 ?_
      refine z_iload dX12_clocksApart_33 rfl ?_
      obtain ⟨g5, hf⟩ := z_g_el hf
      refine y_aald (t := 1) (Or.inr rfl) g5 dX12_clocksApart_35 ?_
      refine z_iload_n dX12_clocksApart_36 rfl rfl ?_
      obtain ⟨g7, hf⟩ := z_g_el hf
      obtain ⟨q6, hq6, hf⟩ := z_b_el hf
      refine y_cVi (av := [.int z2]) (Nat.le_trans (Nat.le_of_ble_eq_true rfl) hd) (wX8_secondsShown (z_dl rfl hd) hq6) oX8_secondsShown lmX12_319 iX8_secondsShown g7 rfl _ rfl rfl (Nat.le_of_ble_eq_true rfl) dX12_clocksApart_37 ?_
      refine y_istore0 [some (.ref a0), some (.int z1), some (.int z2), some (.int p3), some (.int p4), some (.int p5), some (.int q6)] dX12_clocksApart_40 (by decide) rfl ?_
      refine z_iload_n dX12_clocksApart_42 rfl rfl ?_
      refine z_iload dX12_clocksApart_43 rfl ?_
      refine y_min (Nat.le_trans (Nat.le_of_ble_eq_true rfl) hd) lmX12_302 (Nat.le_of_ble_eq_true rfl) dX12_clocksApart_45 ?_
      refine y_istore_n (fun t8 => [some (.ref a0), some (.int z1), some (.int z2), some (.int t8), some (.int p4), some (.int p5), some (.int q6)]) dX12_clocksApart_48 rfl (by decide) (fun _ => rfl) (fun t8 et8 => ?_)
      have hf := z_l_el hf et8
      refine z_iload dX12_clocksApart_49 rfl ?_
      refine z_iload dX12_clocksApart_51 rfl ?_
      refine y_max (Nat.le_trans (Nat.le_of_ble_eq_true rfl) hd) lmX12_256 (Nat.le_of_ble_eq_true rfl) dX12_clocksApart_53 ?_
      refine y_istore (fun t9 => [some (.ref a0), some (.int z1), some (.int z2), some (.int t8), some (.int t9), some (.int p5), some (.int q6)]) dX12_clocksApart_56 (by decide) (fun _ => rfl) (fun t9 et9 => ?_)
      have hf := z_l_el hf et9
      refine y_iinc (fun t10 => [some (.ref a0), some (.int z1), some (.int z2), some (.int t8), some (.int t9), some (.int t10), some (.int q6)]) dX12_clocksApart_58 rfl kc_1 (by decide) (fun _ => rfl) (fun t10 et10 => ?_)
      have hf := z_l_el hf et10
      refine z_goto (tgt := 10) dX12_clocksApart_61 (by decide) ?_
      cases hf
      exact y_sub hk (z_le_c rfl (z_le_c rfl (z_le_c rfl (z_le_c rfl (z_le_c rfl (z_le_c rfl (z_le_n z_le_0)))))))
def fX12_clocksApart (a0 : Nat) (x1 : Int32) (x2 : Int32) (I : Nat → Nat → Int32) (R : Nat → Nat → Nat) : Option (Int32) :=
  z_g (z_ob a0 12) (z_b (z_lp (fX12_clocksApart_b10 a0 x1 x2 I R) 300 ((200000 : Int32), (0 : Int32), (0 : Int32))) (fun q11 => some (q11.2 - q11.1)))
theorem vX12_clocksApart {G : z_G} {d : Nat} {Q : Option Value → z_S → z_H → Prop} {a0 : Nat} {x1 : Int32} {x2 : Int32} {I : Nat → Nat → Int32} {R : Nat → Nat → Nat} {q : Int32} (hd : 2 ≤ d) (hf : fX12_clocksApart a0 x1 x2 I R = some q) (hk : Q (some (.int q)) z_SH (I, R)) : z_W G eX12_clocksApart d 0 0 0 [some (.ref a0), some (.int x1), some (.int x2), none, none, none, none] [] z_SH (I, R) Q := by
  unfold fX12_clocksApart at hf
  obtain ⟨g_a0, hf⟩ := z_g_el hf
  refine z_ldcw dX12_clocksApart_0 lkX12_333 ?_
  refine y_istore_n0 [some (.ref a0), some (.int x1), some (.int x2), some (.int (200000 : Int32)), none, none, none] dX12_clocksApart_3 rfl (by decide) rfl ?_
  refine z_iconst dX12_clocksApart_4 kc_0 ?_
  refine y_istore0 [some (.ref a0), some (.int x1), some (.int x2), some (.int (200000 : Int32)), some (.int (0 : Int32)), none, none] dX12_clocksApart_5 (by decide) rfl ?_
  refine z_iconst dX12_clocksApart_7 kc_0 ?_
  refine y_istore0 [some (.ref a0), some (.int x1), some (.int x2), some (.int (200000 : Int32)), some (.int (0 : Int32)), some (.int (0 : Int32)), none] dX12_clocksApart_8 (by decide) rfl ?_
  obtain ⟨q11, hq11, hf⟩ := z_b_el hf
  refine y_sub (lv' := [some (.ref a0), some (.int x1), some (.int x2), some (.int (200000 : Int32)), some (.int (0 : Int32)), some (.int (0 : Int32)), none]) ?_ (z_le_c rfl (z_le_c rfl (z_le_c rfl (z_le_c rfl (z_le_c rfl (z_le_c rfl (z_le_n z_le_0)))))))
  refine z_lp_el (P := (fun s : Int32 × Int32 × Int32 => z_W G eX12_clocksApart d 0 0 10 [some (.ref a0), some (.int x1), some (.int x2), some (.int s.1), some (.int s.2.1), some (.int s.2.2), none] [] z_SH (I, R) Q)) (E := (fun x : Int32 × Int32 => z_W G eX12_clocksApart d 0 0 64 [none, none, none, some (.int x.1), some (.int x.2), none, none] [] z_SH (I, R) Q)) (wX12_clocksApart_b10 hd g_a0) 300 ((200000 : Int32), (0 : Int32), (0 : Int32)) q11 hq11 ?_
  show z_W G eX12_clocksApart d 0 0 64 [none, none, none, some (.int q11.1), some (.int q11.2), none, none] [] z_SH (I, R) _
  refine z_iload dX12_clocksApart_64 rfl ?_
  refine z_iload_n dX12_clocksApart_66 rfl rfl ?_
  refine z_isub dX12_clocksApart_67 ?_
  cases hf
  exact z_iret hk ⟨_, rfl, rfl⟩ dX12_clocksApart_68
theorem wX12_clocksApart {G : z_G} {d : Nat} {a0 : Nat} {x1 : Int32} {x2 : Int32} {I : Nat → Nat → Int32} {R : Nat → Nat → Nat} {q : Int32} (hd : 2 ≤ d) (hf : fX12_clocksApart a0 x1 x2 I R = some q) : z_M G d 0 0 eX12_clocksApart [.ref a0, .int x1, .int x2] z_SH (I, R) (z_E (some (.int q)) (I, R)) :=
  y_M_of _ (by decide +kernel) rfl rfl rfl (vX12_clocksApart hd hf ⟨rfl, rfl, rfl⟩)
def fX12_agree_j74_48 (a0 : Nat) (z1 : Int32) (z2 : Int32) (z3 : Int32) (z4 : Int32) (y5 : Int32) (y6 : Int32) (v0 : Int32) (I : Nat → Nat → Int32) (R : Nat → Nat → Nat) : Option ((Int32 × Int32) ⊕ (Int32)) :=
  if v0 = 0 then (z_l (y6 + (1 : Int32)) (fun t14 => some (.inl (y5, t14)))) else (if (y6 &&& (z4 ^^^ (-1 : Int32))) = 0 then (z_b (fX12_clocksApart a0 y6 z1 I R) (fun q17 => if z2 < q17 then (z_l (y6 + (1 : Int32)) (fun t19 => some (.inl (y5, t19)))) else (z_l (y6 + (1 : Int32)) (fun t20 => some (.inl (y6, t20)))))) else (z_l (y6 + (1 : Int32)) (fun t16 => some (.inl (y5, t16)))))
theorem wX12_agree_j74_48 {G : z_G} {d : Nat} {Q : Option Value → z_S → z_H → Prop} {a0 : Nat} {z1 : Int32} {z2 : Int32} {z3 : Int32} {z4 : Int32} {y5 : Int32} {y6 : Int32} {v0 : Int32} {I : Nat → Nat → Int32} {R : Nat → Nat → Nat} {o : (Int32 × Int32) ⊕ (Int32)} (hd : 3 ≤ d) (g_a0 : z_ob a0 12) (hf : fX12_agree_j74_48 a0 z1 z2 z3 z4 y5 y6 v0 I R = some o) (hk : z_or (fun s : Int32 × Int32 => z_W G eX12_agree d 0 0 48 [some (.ref a0), some (.int z1), some (.int z2), some (.int z3), some (.int z4), some (.int s.1), some (.int s.2), none] [] z_SH (I, R) Q) (fun x : Int32 => z_W G eX12_agree d 0 0 112 [none, none, none, some (.int z3), none, some (.int x), none, none] [] z_SH (I, R) Q) o) : z_W G eX12_agree d 0 0 74 [some (.ref a0), some (.int z1), some (.int z2), some (.int z3), some (.int z4), some (.int y5), some (.int y6), none] [.int v0] z_SH (I, R) Q := by
  unfold fX12_agree_j74_48 at hf
  refine y_istore0 [some (.ref a0), some (.int z1), some (.int z2), some (.int z3), some (.int z4), some (.int y5), some (.int y6), some (.int v0)] dX12_agree_74 (by decide) rfl ?_
  refine z_iload dX12_agree_76 rfl ?_
  refine z_if_eq (tgt := 106) dX12_agree_78 (by decide) (fun c13 => ?_) (fun c13 => ?_)
  · have hf := z_if_t hf c13
    refine y_iinc (fun t14 => [some (.ref a0), some (.int z1), some (.int z2), some (.int z3), some (.int z4), some (.int y5), some (.int t14), some (.int v0)]) dX12_agree_106 rfl kc_1 (by decide) (fun _ => rfl) (fun t14 et14 => ?_)
    have hf := z_l_el hf et14
    refine z_goto (tgt := 48) dX12_agree_109 (by decide) ?_
    cases hf
    exact y_sub hk (z_le_c rfl (z_le_c rfl (z_le_c rfl (z_le_c rfl (z_le_c rfl (z_le_c rfl (z_le_c rfl (z_le_n z_le_0))))))))
  · have hf := z_if_f hf c13
    refine z_iload dX12_agree_81 rfl ?_
    refine z_iload dX12_agree_83 rfl ?_
    refine z_iconst dX12_agree_85 kc_m1 ?_
    refine z_ixor dX12_agree_86 ?_
    refine z_iand dX12_agree_87 ?_
    refine z_if_ne (tgt := 106) dX12_agree_88 (by decide) (fun c15 => ?_) (fun c15 => ?_)
    · have hf := z_if_f hf c15
      refine y_iinc (fun t16 => [some (.ref a0), some (.int z1), some (.int z2), some (.int z3), some (.int z4), some (.int y5), some (.int t16), some (.int v0)]) dX12_agree_106 rfl kc_1 (by decide) (fun _ => rfl) (fun t16 et16 => ?_)
      have hf := z_l_el hf et16
      refine z_goto (tgt := 48) dX12_agree_109 (by decide) ?_
      cases hf
      exact y_sub hk (z_le_c rfl (z_le_c rfl (z_le_c rfl (z_le_c rfl (z_le_c rfl (z_le_c rfl (z_le_c rfl (z_le_n z_le_0))))))))
    · have hf := z_if_t hf c15
      refine z_aload_n dX12_agree_91 rfl rfl (z_okl g_a0) ?_
      refine z_iload dX12_agree_92 rfl ?_
      refine z_iload_n dX12_agree_94 rfl rfl ?_
      obtain ⟨q17, hq17, hf⟩ := z_b_el hf
      refine y_cVi (av := [.int y6, .int z1]) (Nat.le_trans (Nat.le_of_ble_eq_true rfl) hd) (wX12_clocksApart (z_dl rfl hd) hq17) oX12_clocksApart lmX12_330 iX12_clocksApart g_a0 rfl _ rfl rfl (Nat.le_of_ble_eq_true rfl) dX12_agree_95 ?_
      refine z_iload_n dX12_agree_98 rfl rfl ?_
      refine z_icmp_gt (tgt := 106) dX12_agree_99 (by decide) (fun c18 => ?_) (fun c18 => ?_)
      · have hf := z_if_t hf c18
        refine y_iinc (fun t19 => [some (.ref a0), some (.int z1), some (.int z2), some (.int z3), some (.int z4), some (.int y5), some (.int t19), some (.int v0)]) dX12_agree_106 rfl kc_1 (by decide) (fun _ => rfl) (fun t19 et19 => ?_)
        have hf := z_l_el hf et19
        refine z_goto (tgt := 48) dX12_agree_109 (by decide) ?_
        cases hf
        exact y_sub hk (z_le_c rfl (z_le_c rfl (z_le_c rfl (z_le_c rfl (z_le_c rfl (z_le_c rfl (z_le_c rfl (z_le_n z_le_0))))))))
      · have hf := z_if_f hf c18
        refine z_iload dX12_agree_102 rfl ?_
        refine y_istore0 [some (.ref a0), some (.int z1), some (.int z2), some (.int z3), some (.int z4), some (.int y6), some (.int y6), some (.int v0)] dX12_agree_104 (by decide) rfl ?_
        refine y_iinc (fun t20 => [some (.ref a0), some (.int z1), some (.int z2), some (.int z3), some (.int z4), some (.int y6), some (.int t20), some (.int v0)]) dX12_agree_106 rfl kc_1 (by decide) (fun _ => rfl) (fun t20 et20 => ?_)
        have hf := z_l_el hf et20
        refine z_goto (tgt := 48) dX12_agree_109 (by decide) ?_
        cases hf
        exact y_sub hk (z_le_c rfl (z_le_c rfl (z_le_c rfl (z_le_c rfl (z_le_c rfl (z_le_c rfl (z_le_c rfl (z_le_n z_le_0))))))))
def fX12_agree_b48 (a0 : Nat) (z1 : Int32) (z2 : Int32) (z3 : Int32) (z4 : Int32) (I : Nat → Nat → Int32) (R : Nat → Nat → Nat) : (Int32 × Int32) → Option ((Int32 × Int32) ⊕ (Int32)) :=
  fun s => (fun (p5 : Int32) (p6 : Int32) => if (256 : Int32) ≤ p6 then (some (.inr p5)) else (z_b (fJ6_bitCount_0f7a4 p6) (fun q10 => z_b (fJ6_bitCount_0f7a4 p5) (fun q11 => if q10 ≤ q11 then (fX12_agree_j74_48 a0 z1 z2 z3 z4 p5 p6 (0 : Int32) I R) else (fX12_agree_j74_48 a0 z1 z2 z3 z4 p5 p6 (1 : Int32) I R))))) s.1 s.2
theorem wX12_agree_b48 {G : z_G} {d : Nat} {Q : Option Value → z_S → z_H → Prop} {a0 : Nat} {z1 : Int32} {z2 : Int32} {z3 : Int32} {z4 : Int32} {I : Nat → Nat → Int32} {R : Nat → Nat → Nat} (hd : 3 ≤ d) (g_a0 : z_ob a0 12) : ∀ (s : Int32 × Int32) (o : (Int32 × Int32) ⊕ (Int32)), fX12_agree_b48 a0 z1 z2 z3 z4 I R s = some o → z_or (fun s : Int32 × Int32 => z_W G eX12_agree d 0 0 48 [some (.ref a0), some (.int z1), some (.int z2), some (.int z3), some (.int z4), some (.int s.1), some (.int s.2), none] [] z_SH (I, R) Q) (fun x : Int32 => z_W G eX12_agree d 0 0 112 [none, none, none, some (.int z3), none, some (.int x), none, none] [] z_SH (I, R) Q) o → (fun s : Int32 × Int32 => z_W G eX12_agree d 0 0 48 [some (.ref a0), some (.int z1), some (.int z2), some (.int z3), some (.int z4), some (.int s.1), some (.int s.2), none] [] z_SH (I, R) Q) s := by
  rintro ⟨p5, p6⟩ o hf hk
  show z_W G eX12_agree d 0 0 48 [some (.ref a0), some (.int z1), some (.int z2), some (.int z3), some (.int z4), some (.int p5), some (.int p6), none] [] z_SH (I, R) Q
  unfold fX12_agree_b48 at hf
  try dsimp only at hf
  refine z_iload dX12_agree_48 rfl ?_
  refine z_sipush dX12_agree_50 ks_256 ?_
  refine z_icmp_ge (tgt := 112) dX12_agree_53 (by decide) (fun c9 => ?_) (fun c9 => ?_)
  · have hf := z_if_t hf c9
    cases hf
    exact y_sub hk (z_le_n (z_le_n (z_le_n (z_le_c rfl (z_le_n (z_le_c rfl (z_le_n (z_le_n z_le_0))))))))
  · have hf := z_if_f hf c9
    refine z_iload dX12_agree_56 rfl ?_
    obtain ⟨q10, hq10, hf⟩ := z_b_el hf
    refine y_cSi (Nat.le_trans (Nat.le_of_ble_eq_true rfl) hd) (wJ6_bitCount_0f7a4 (z_dl rfl hd) hq10) oJ6_bitCount_0f7a4 lmX12_136 sJ6_bitCount_0f7a4 _ rfl rfl (Nat.le_of_ble_eq_true rfl) dX12_agree_58 ?_
    refine z_iload dX12_agree_61 rfl ?_
    obtain ⟨q11, hq11, hf⟩ := z_b_el hf
    refine y_cSi (Nat.le_trans (Nat.le_of_ble_eq_true rfl) hd) (wJ6_bitCount_0f7a4 (z_dl rfl hd) hq11) oJ6_bitCount_0f7a4 lmX12_136 sJ6_bitCount_0f7a4 _ rfl rfl (Nat.le_of_ble_eq_true rfl) dX12_agree_63 ?_
    refine z_icmp_le (tgt := 73) dX12_agree_66 (by decide) (fun c12 => ?_) (fun c12 => ?_)
    · have hf := z_if_t hf c12
      refine z_iconst dX12_agree_73 kc_0 ?_
      exact y_sub (wX12_agree_j74_48 hd g_a0 hf hk) (z_le_c rfl (z_le_c rfl (z_le_c rfl (z_le_c rfl (z_le_c rfl (z_le_c rfl (z_le_c rfl (z_le_n z_le_0))))))))
    · have hf := z_if_f hf c12
      refine z_iconst dX12_agree_69 kc_1 ?_
      refine z_goto (tgt := 74) dX12_agree_70 (by decide) ?_
      exact y_sub (wX12_agree_j74_48 hd g_a0 hf hk) (z_le_c rfl (z_le_c rfl (z_le_c rfl (z_le_c rfl (z_le_c rfl (z_le_c rfl (z_le_c rfl (z_le_n z_le_0))))))))
def fX12_agree (a0 : Nat) (x1 : Int32) (x2 : Int32) (x3 : Int32) (I : Nat → Nat → Int32) (R : Nat → Nat → Nat) : Option (Int32) :=
  z_g (z_ob a0 12) (z_b (fX12_within x1 (0 : Int32) (100000 : Int32)) (fun q1 => if q1 = 0 then (some (-1 : Int32)) else (z_b (fX12_within x2 (0 : Int32) (9999 : Int32)) (fun q3 => if q3 = 0 then (some (-1 : Int32)) else (z_b (fX12_within x3 (0 : Int32) (1 : Int32)) (fun q5 => if q5 = 0 then (some (-1 : Int32)) else (z_g (z_ob (R a0 5) 9) (z_b (fX9_toldBits (R a0 5) I R) (fun q7 => z_b (z_lp (fX12_agree_b48 a0 x1 x2 x3 q7 I R) 300 ((0 : Int32), (1 : Int32))) (fun q21 => if x3 = 0 then (z_b (fJ6_bitCount_0f7a4 q21) (fun q23 => some q23)) else (some q21)))))))))))
set_option maxRecDepth 20000 in
theorem vX12_agree {G : z_G} {d : Nat} {Q : Option Value → z_S → z_H → Prop} {a0 : Nat} {x1 : Int32} {x2 : Int32} {x3 : Int32} {I : Nat → Nat → Int32} {R : Nat → Nat → Nat} {q : Int32} (hd : 3 ≤ d) (hf : fX12_agree a0 x1 x2 x3 I R = some q) (hk : Q (some (.int q)) z_SH (I, R)) : z_W G eX12_agree d 0 0 0 [some (.ref a0), some (.int x1), some (.int x2), some (.int x3), none, none, none, none] [] z_SH (I, R) Q := by
  unfold fX12_agree at hf
  obtain ⟨g_a0, hf⟩ := z_g_el hf
  refine z_iload_n dX12_agree_0 rfl rfl ?_
  refine z_iconst dX12_agree_1 kc_0 ?_
  refine z_ldcw dX12_agree_2 lkX12_318 ?_
  obtain ⟨q1, hq1, hf⟩ := z_b_el hf
  refine y_cSi (Nat.le_trans (Nat.le_of_ble_eq_true rfl) hd) (wX12_within (z_dl rfl hd) hq1) oX12_within lmX12_96 sX12_within _ rfl rfl (Nat.le_of_ble_eq_true rfl) dX12_agree_5 ?_
  refine z_if_eq (tgt := 31) dX12_agree_8 (by decide) (fun c2 => ?_) (fun c2 => ?_)
  · have hf := z_if_t hf c2
    refine z_iconst dX12_agree_31 kc_m1 ?_
    cases hf
    exact z_iret hk ⟨_, rfl, rfl⟩ dX12_agree_32
  · have hf := z_if_f hf c2
    refine z_iload_n dX12_agree_11 rfl rfl ?_
    refine z_iconst dX12_agree_12 kc_0 ?_
    refine z_sipush dX12_agree_13 ks_9999 ?_
    obtain ⟨q3, hq3, hf⟩ := z_b_el hf
    refine y_cSi (Nat.le_trans (Nat.le_of_ble_eq_true rfl) hd) (wX12_within (z_dl rfl hd) hq3) oX12_within lmX12_96 sX12_within _ rfl rfl (Nat.le_of_ble_eq_true rfl) dX12_agree_16 ?_
    refine z_if_eq (tgt := 31) dX12_agree_19 (by decide) (fun c4 => ?_) (fun c4 => ?_)
    · have hf := z_if_t hf c4
      refine z_iconst dX12_agree_31 kc_m1 ?_
      cases hf
      exact z_iret hk ⟨_, rfl, rfl⟩ dX12_agree_32
    · have hf := z_if_f hf c4
      refine z_iload_n dX12_agree_22 rfl rfl ?_
      refine z_iconst dX12_agree_23 kc_0 ?_
      refine z_iconst dX12_agree_24 kc_1 ?_
      obtain ⟨q5, hq5, hf⟩ := z_b_el hf
      refine y_cSi (Nat.le_trans (Nat.le_of_ble_eq_true rfl) hd) (wX12_within (z_dl rfl hd) hq5) oX12_within lmX12_96 sX12_within _ rfl rfl (Nat.le_of_ble_eq_true rfl) dX12_agree_25 ?_
      refine z_if_ne (tgt := 33) dX12_agree_28 (by decide) (fun c6 => ?_) (fun c6 => ?_)
      · have hf := z_if_f hf c6
        refine z_aload_n dX12_agree_33 rfl rfl (z_okl g_a0) ?_
        refine y_getR lfX12_61 rfl g_a0 dX12_agree_34 ?_
        obtain ⟨g8, hf⟩ := z_g_el hf
        obtain ⟨q7, hq7, hf⟩ := z_b_el hf
        refine y_cVi (av := []) (Nat.le_trans (Nat.le_of_ble_eq_true rfl) hd) (wX9_toldBits (z_dl rfl hd) hq7) oX9_toldBits lmX12_132 iX9_toldBits g8 rfl _ rfl rfl (Nat.le_of_ble_eq_true rfl) dX12_agree_37 ?_
        refine y_istore0 [some (.ref a0), some (.int x1), some (.int x2), some (.int x3), some (.int q7), none, none, none] dX12_agree_40 (by decide) rfl ?_
        refine z_iconst dX12_agree_42 kc_0 ?_
        refine y_istore0 [some (.ref a0), some (.int x1), some (.int x2), some (.int x3), some (.int q7), some (.int (0 : Int32)), none, none] dX12_agree_43 (by decide) rfl ?_
        refine z_iconst dX12_agree_45 kc_1 ?_
        refine y_istore0 [some (.ref a0), some (.int x1), some (.int x2), some (.int x3), some (.int q7), some (.int (0 : Int32)), some (.int (1 : Int32)), none] dX12_agree_46 (by decide) rfl ?_
        obtain ⟨q21, hq21, hf⟩ := z_b_el hf
        refine y_sub (lv' := [some (.ref a0), some (.int x1), some (.int x2), some (.int x3), some (.int q7), some (.int (0 : Int32)), some (.int (1 : Int32)), none]) ?_ (z_le_c rfl (z_le_c rfl (z_le_c rfl (z_le_c rfl (z_le_c rfl (z_le_c rfl (z_le_c rfl (z_le_n z_le_0))))))))
        refine z_lp_el (P := (fun s : Int32 × Int32 => z_W G eX12_agree d 0 0 48 [some (.ref a0), some (.int x1), some (.int x2), some (.int x3), some (.int q7), some (.int s.1), some (.int s.2), none] [] z_SH (I, R) Q)) (E := (fun x : Int32 => z_W G eX12_agree d 0 0 112 [none, none, none, some (.int x3), none, some (.int x), none, none] [] z_SH (I, R) Q)) (wX12_agree_b48 hd g_a0) 300 ((0 : Int32), (1 : Int32)) q21 hq21 ?_
        show z_W G eX12_agree d 0 0 112 [none, none, none, some (.int x3), none, some (.int q21), none, none] [] z_SH (I, R) _
        refine z_iload_n dX12_agree_112 rfl rfl ?_
        refine z_if_ne (tgt := 124) dX12_agree_113 (by decide) (fun c22 => ?_) (fun c22 => ?_)
        · have hf := z_if_f hf c22
          refine z_iload dX12_agree_124 rfl ?_
          cases hf
          exact z_iret hk ⟨_, rfl, rfl⟩ dX12_agree_126
        · have hf := z_if_t hf c22
          refine z_iload dX12_agree_116 rfl ?_
          obtain ⟨q23, hq23, hf⟩ := z_b_el hf
          refine y_cSi (Nat.le_trans (Nat.le_of_ble_eq_true rfl) hd) (wJ6_bitCount_0f7a4 (z_dl rfl hd) hq23) oJ6_bitCount_0f7a4 lmX12_136 sJ6_bitCount_0f7a4 _ rfl rfl (Nat.le_of_ble_eq_true rfl) dX12_agree_118 ?_
          refine z_goto (tgt := 126) dX12_agree_121 (by decide) ?_
          cases hf
          exact z_iret hk ⟨_, rfl, rfl⟩ dX12_agree_126
      · have hf := z_if_t hf c6
        refine z_iconst dX12_agree_31 kc_m1 ?_
        cases hf
        exact z_iret hk ⟨_, rfl, rfl⟩ dX12_agree_32
theorem wX12_agree {G : z_G} {d : Nat} {a0 : Nat} {x1 : Int32} {x2 : Int32} {x3 : Int32} {I : Nat → Nat → Int32} {R : Nat → Nat → Nat} {q : Int32} (hd : 3 ≤ d) (hf : fX12_agree a0 x1 x2 x3 I R = some q) : z_M G d 0 0 eX12_agree [.ref a0, .int x1, .int x2, .int x3] z_SH (I, R) (z_E (some (.int q)) (I, R)) :=
  y_M_of _ (by decide +kernel) rfl rfl rfl (vX12_agree hd hf ⟨rfl, rfl, rfl⟩)
def fX12_leads (a0 : Nat) (x1 : Int32) (I : Nat → Nat → Int32) (R : Nat → Nat → Nat) : Option (Int32 × (Nat → Nat → Int32)) :=
  z_g (z_ob a0 12) (z_g (z_ob (R a0 5) 9) (z_b (fX9_isTold (R a0 5) x1 I R) (fun q1 => if q1 = 0 then (some ((-1 : Int32), I)) else (z_g (z_ob (R a0 1) 7) (z_g (z_ob (R a0 9) 1) (z_b (fX1_listen (R a0 9) (R a0 5) (I (R a0 1) 4) I R) (fun q5 => z_b (fX1_followersOf (R a0 9) x1 q5 R) (fun q7 => some (q7, q5)))))))))
theorem vX12_leads {G : z_G} {d : Nat} {Q : Option Value → z_S → z_H → Prop} {a0 : Nat} {x1 : Int32} {I : Nat → Nat → Int32} {R : Nat → Nat → Nat} {q : Int32 × (Nat → Nat → Int32)} (hd : 4 ≤ d) (hf : fX12_leads a0 x1 I R = some q) (hk : Q (some (.int q.1)) z_SH (q.2, R)) : z_W G eX12_leads d 0 0 0 [some (.ref a0), some (.int x1)] [] z_SH (I, R) Q := by
  unfold fX12_leads at hf
  obtain ⟨g_a0, hf⟩ := z_g_el hf
  refine z_aload_n dX12_leads_0 rfl rfl (z_okl g_a0) ?_
  refine y_getR lfX12_61 rfl g_a0 dX12_leads_1 ?_
  refine z_iload_n dX12_leads_4 rfl rfl ?_
  obtain ⟨g2, hf⟩ := z_g_el hf
  obtain ⟨q1, hq1, hf⟩ := z_b_el hf
  refine y_cVi (av := [.int x1]) (Nat.le_trans (Nat.le_of_ble_eq_true rfl) hd) (wX9_isTold (z_dl rfl hd) hq1) oX9_isTold lmX12_186 iX9_isTold g2 rfl _ rfl rfl (Nat.le_of_ble_eq_true rfl) dX12_leads_5 ?_
  refine z_if_ne (tgt := 13) dX12_leads_8 (by decide) (fun c3 => ?_) (fun c3 => ?_)
  · have hf := z_if_f hf c3
    refine z_aload_n dX12_leads_13 rfl rfl (z_okl g_a0) ?_
    refine y_getR lfX12_74 rfl g_a0 dX12_leads_14 ?_
    refine z_aload_n dX12_leads_17 rfl rfl (z_okl g_a0) ?_
    refine y_getR lfX12_61 rfl g_a0 dX12_leads_18 ?_
    refine z_aload_n dX12_leads_21 rfl rfl (z_okl g_a0) ?_
    refine y_getR lfX12_19 rfl g_a0 dX12_leads_22 ?_
    obtain ⟨g4, hf⟩ := z_g_el hf
    refine y_getI lfX12_126 rfl g4 dX12_leads_25 ?_
    obtain ⟨g6, hf⟩ := z_g_el hf
    obtain ⟨q5, hq5, hf⟩ := z_b_el hf
    refine y_cVv (av := [.ref (R a0 5), .int (I (R a0 1) 4)]) (Nat.le_trans (Nat.le_of_ble_eq_true rfl) hd) (wX1_listen (z_dl rfl hd) hq5) oX1_listen lmX12_334 iX1_listen g6 rfl _ rfl rfl (Nat.le_of_ble_eq_true rfl) dX12_leads_28 ?_
    refine z_aload_n dX12_leads_31 rfl rfl (z_okl g_a0) ?_
    refine y_getR lfX12_74 rfl g_a0 dX12_leads_32 ?_
    refine z_iload_n dX12_leads_35 rfl rfl ?_
    obtain ⟨q7, hq7, hf⟩ := z_b_el hf
    refine y_cVi (av := [.int x1]) (Nat.le_trans (Nat.le_of_ble_eq_true rfl) hd) (wX1_followersOf (z_dl rfl hd) hq7) oX1_followersOf lmX12_338 iX1_followersOf g6 rfl _ rfl rfl (Nat.le_of_ble_eq_true rfl) dX12_leads_36 ?_
    cases hf
    exact z_iret hk ⟨_, rfl, rfl⟩ dX12_leads_39
  · have hf := z_if_t hf c3
    refine z_iconst dX12_leads_11 kc_m1 ?_
    cases hf
    exact z_iret hk ⟨_, rfl, rfl⟩ dX12_leads_12
theorem wX12_leads {G : z_G} {d : Nat} {a0 : Nat} {x1 : Int32} {I : Nat → Nat → Int32} {R : Nat → Nat → Nat} {q : Int32 × (Nat → Nat → Int32)} (hd : 4 ≤ d) (hf : fX12_leads a0 x1 I R = some q) : z_M G d 0 0 eX12_leads [.ref a0, .int x1] z_SH (I, R) (z_E (some (.int q.1)) (q.2, R)) :=
  y_M_of _ (by decide +kernel) rfl rfl rfl (vX12_leads hd hf ⟨rfl, rfl, rfl⟩)
def fX12_groups_b56 (a0 : Nat) (I : Nat → Nat → Int32) (R : Nat → Nat → Nat) : (Int32 × Int32) → Option ((Int32 × Int32) ⊕ (Int32)) :=
  fun s => (fun (p2 : Int32) (p3 : Int32) => if (8 : Int32) ≤ p3 then (some (.inr p2)) else (z_g (z_ob (R a0 5) 9) (z_b (fX9_isTold (R a0 5) p3 I R) (fun q7 => if q7 = 0 then (z_l (p3 + (1 : Int32)) (fun t10 => some (.inl (p2, t10)))) else (z_g (z_ob (R a0 9) 1) (z_b (fX1_groupOf (R a0 9) p3 I R) (fun q11 => z_b (fX12_lowest q11) (fun q13 => if q13 = p3 then (z_l (p2 + (1 : Int32)) (fun t16 => z_l (p3 + (1 : Int32)) (fun t17 => some (.inl (t16, t17))))) else (z_l (p3 + (1 : Int32)) (fun t15 => some (.inl (p2, t15)))))))))))) s.1 s.2
theorem wX12_groups_b56 {G : z_G} {d : Nat} {Q : Option Value → z_S → z_H → Prop} {a0 : Nat} {I : Nat → Nat → Int32} {R : Nat → Nat → Nat} (hd : 4 ≤ d) (g_a0 : z_ob a0 12) : ∀ (s : Int32 × Int32) (o : (Int32 × Int32) ⊕ (Int32)), fX12_groups_b56 a0 I R s = some o → z_or (fun s : Int32 × Int32 => z_W G eX12_groups d 0 0 56 [some (.ref a0), none, some (.int s.1), some (.int s.2)] [] z_SH (I, R) Q) (fun x : Int32 => z_W G eX12_groups d 0 0 97 [none, none, some (.int x), none] [] z_SH (I, R) Q) o → (fun s : Int32 × Int32 => z_W G eX12_groups d 0 0 56 [some (.ref a0), none, some (.int s.1), some (.int s.2)] [] z_SH (I, R) Q) s := by
  rintro ⟨p2, p3⟩ o hf hk
  show z_W G eX12_groups d 0 0 56 [some (.ref a0), none, some (.int p2), some (.int p3)] [] z_SH (I, R) Q
  unfold fX12_groups_b56 at hf
  try dsimp only at hf
  refine z_iload_n dX12_groups_56 rfl rfl ?_
  refine z_bipush dX12_groups_57 kb_8 ?_
  refine z_icmp_ge (tgt := 97) dX12_groups_59 (by decide) (fun c6 => ?_) (fun c6 => ?_)
  · have hf := z_if_t hf c6
    cases hf
    exact y_sub hk (z_le_n (z_le_n (z_le_c rfl (z_le_n z_le_0))))
  · have hf := z_if_f hf c6
    refine z_aload_n dX12_groups_62 rfl rfl (z_okl g_a0) ?_
    refine y_getR lfX12_61 rfl g_a0 dX12_groups_63 ?_
    refine z_iload_n dX12_groups_66 rfl rfl ?_
    obtain ⟨g8, hf⟩ := z_g_el hf
    obtain ⟨q7, hq7, hf⟩ := z_b_el hf
    refine y_cVi (av := [.int p3]) (Nat.le_trans (Nat.le_of_ble_eq_true rfl) hd) (wX9_isTold (z_dl rfl hd) hq7) oX9_isTold lmX12_186 iX9_isTold g8 rfl _ rfl rfl (Nat.le_of_ble_eq_true rfl) dX12_groups_67 ?_
    refine z_if_eq (tgt := 91) dX12_groups_70 (by decide) (fun c9 => ?_) (fun c9 => ?_)
    · have hf := z_if_t hf c9
      refine y_iinc (fun t10 => [some (.ref a0), none, some (.int p2), some (.int t10)]) dX12_groups_91 rfl kc_1 (by decide) (fun _ => rfl) (fun t10 et10 => ?_)
      have hf := z_l_el hf et10
      refine z_goto (tgt := 56) dX12_groups_94 (by decide) ?_
      cases hf
      exact y_sub hk (z_le_c rfl (z_le_n (z_le_c rfl (z_le_c rfl z_le_0))))
    · have hf := z_if_f hf c9
      refine z_aload_n dX12_groups_73 rfl rfl (z_okl g_a0) ?_
      refine y_getR lfX12_74 rfl g_a0 dX12_groups_74 ?_
      refine z_iload_n dX12_groups_77 rfl rfl ?_
      obtain ⟨g12, hf⟩ := z_g_el hf
      obtain ⟨q11, hq11, hf⟩ := z_b_el hf
      refine y_cVi (av := [.int p3]) (Nat.le_trans (Nat.le_of_ble_eq_true rfl) hd) (wX1_groupOf (z_dl rfl hd) hq11) oX1_groupOf lmX12_341 iX1_groupOf g12 rfl _ rfl rfl (Nat.le_of_ble_eq_true rfl) dX12_groups_78 ?_
      obtain ⟨q13, hq13, hf⟩ := z_b_el hf
      refine y_cSi (Nat.le_trans (Nat.le_of_ble_eq_true rfl) hd) (wX12_lowest (z_dl rfl hd) hq13) oX12_lowest lmX12_261 sX12_lowest _ rfl rfl (Nat.le_of_ble_eq_true rfl) dX12_groups_81 ?_
      refine z_iload_n dX12_groups_84 rfl rfl ?_
      refine z_icmp_ne (tgt := 91) dX12_groups_85 (by decide) (fun c14 => ?_) (fun c14 => ?_)
      · have hf := z_if_f hf c14
        refine y_iinc (fun t15 => [some (.ref a0), none, some (.int p2), some (.int t15)]) dX12_groups_91 rfl kc_1 (by decide) (fun _ => rfl) (fun t15 et15 => ?_)
        have hf := z_l_el hf et15
        refine z_goto (tgt := 56) dX12_groups_94 (by decide) ?_
        cases hf
        exact y_sub hk (z_le_c rfl (z_le_n (z_le_c rfl (z_le_c rfl z_le_0))))
      · have hf := z_if_t hf c14
        refine y_iinc (fun t16 => [some (.ref a0), none, some (.int t16), some (.int p3)]) dX12_groups_88 rfl kc_1 (by decide) (fun _ => rfl) (fun t16 et16 => ?_)
        have hf := z_l_el hf et16
        refine y_iinc (fun t17 => [some (.ref a0), none, some (.int t16), some (.int t17)]) dX12_groups_91 rfl kc_1 (by decide) (fun _ => rfl) (fun t17 et17 => ?_)
        have hf := z_l_el hf et17
        refine z_goto (tgt := 56) dX12_groups_94 (by decide) ?_
        cases hf
        exact y_sub hk (z_le_c rfl (z_le_n (z_le_c rfl (z_le_c rfl z_le_0))))
def fX12_groups_j19 (a0 : Nat) (y1 : Int32) (I : Nat → Nat → Int32) (R : Nat → Nat → Nat) : Option (Int32 × (Nat → Nat → Int32)) :=
  z_g (z_ob (R a0 1) 7) (z_g (z_ob (R a0 9) 1) (z_b (fX1_listen (R a0 9) (R a0 5) (I (R a0 1) 4) I R) (fun q3 => if y1 = (100 : Int32) then (z_b (z_lp (fX12_groups_b56 a0 q3 R) 300 ((0 : Int32), (0 : Int32))) (fun q18 => some (q18, q3))) else (z_b (fX1_groupOf (R a0 9) y1 q3 R) (fun q19 => some (q19, q3))))))
theorem wX12_groups_j19 {G : z_G} {d : Nat} {Q : Option Value → z_S → z_H → Prop} {a0 : Nat} {y1 : Int32} {I : Nat → Nat → Int32} {R : Nat → Nat → Nat} {o : Int32 × (Nat → Nat → Int32)} (hd : 4 ≤ d) (g_a0 : z_ob a0 12) (hf : fX12_groups_j19 a0 y1 I R = some o) (hk : Q (some (.int o.1)) z_SH (o.2, R)) : z_W G eX12_groups d 0 0 19 [some (.ref a0), some (.int y1), none, none] [] z_SH (I, R) Q := by
  unfold fX12_groups_j19 at hf
  refine z_aload_n dX12_groups_19 rfl rfl (z_okl g_a0) ?_
  refine y_getR lfX12_74 rfl g_a0 dX12_groups_20 ?_
  refine z_aload_n dX12_groups_23 rfl rfl (z_okl g_a0) ?_
  refine y_getR lfX12_61 rfl g_a0 dX12_groups_24 ?_
  refine z_aload_n dX12_groups_27 rfl rfl (z_okl g_a0) ?_
  refine y_getR lfX12_19 rfl g_a0 dX12_groups_28 ?_
  obtain ⟨g2, hf⟩ := z_g_el hf
  refine y_getI lfX12_126 rfl g2 dX12_groups_31 ?_
  obtain ⟨g4, hf⟩ := z_g_el hf
  obtain ⟨q3, hq3, hf⟩ := z_b_el hf
  refine y_cVv (av := [.ref (R a0 5), .int (I (R a0 1) 4)]) (Nat.le_trans (Nat.le_of_ble_eq_true rfl) hd) (wX1_listen (z_dl rfl hd) hq3) oX1_listen lmX12_334 iX1_listen g4 rfl _ rfl rfl (Nat.le_of_ble_eq_true rfl) dX12_groups_34 ?_
  refine z_iload_n dX12_groups_37 rfl rfl ?_
  refine z_bipush dX12_groups_38 kb_100 ?_
  refine z_icmp_eq (tgt := 52) dX12_groups_40 (by decide) (fun c5 => ?_) (fun c5 => ?_)
  · have hf := z_if_t hf c5
    refine z_iconst dX12_groups_52 kc_0 ?_
    refine y_istore_n0 [some (.ref a0), some (.int y1), some (.int (0 : Int32)), none] dX12_groups_53 rfl (by decide) rfl ?_
    refine z_iconst dX12_groups_54 kc_0 ?_
    refine y_istore_n0 [some (.ref a0), some (.int y1), some (.int (0 : Int32)), some (.int (0 : Int32))] dX12_groups_55 rfl (by decide) rfl ?_
    obtain ⟨q18, hq18, hf⟩ := z_b_el hf
    refine y_sub (lv' := [some (.ref a0), none, some (.int (0 : Int32)), some (.int (0 : Int32))]) ?_ (z_le_c rfl (z_le_n (z_le_c rfl (z_le_c rfl z_le_0))))
    refine z_lp_el (P := (fun s : Int32 × Int32 => z_W G eX12_groups d 0 0 56 [some (.ref a0), none, some (.int s.1), some (.int s.2)] [] z_SH (q3, R) Q)) (E := (fun x : Int32 => z_W G eX12_groups d 0 0 97 [none, none, some (.int x), none] [] z_SH (q3, R) Q)) (wX12_groups_b56 hd g_a0) 300 ((0 : Int32), (0 : Int32)) q18 hq18 ?_
    show z_W G eX12_groups d 0 0 97 [none, none, some (.int q18), none] [] z_SH (q3, R) _
    refine z_iload_n dX12_groups_97 rfl rfl ?_
    cases hf
    exact z_iret hk ⟨_, rfl, rfl⟩ dX12_groups_98
  · have hf := z_if_f hf c5
    refine z_aload_n dX12_groups_43 rfl rfl (z_okl g_a0) ?_
    refine y_getR lfX12_74 rfl g_a0 dX12_groups_44 ?_
    refine z_iload_n dX12_groups_47 rfl rfl ?_
    obtain ⟨q19, hq19, hf⟩ := z_b_el hf
    refine y_cVi (av := [.int y1]) (Nat.le_trans (Nat.le_of_ble_eq_true rfl) hd) (wX1_groupOf (z_dl rfl hd) hq19) oX1_groupOf lmX12_341 iX1_groupOf g4 rfl _ rfl rfl (Nat.le_of_ble_eq_true rfl) dX12_groups_48 ?_
    cases hf
    exact z_iret hk ⟨_, rfl, rfl⟩ dX12_groups_51
def fX12_groups (a0 : Nat) (x1 : Int32) (I : Nat → Nat → Int32) (R : Nat → Nat → Nat) : Option (Int32 × (Nat → Nat → Int32)) :=
  z_g (z_ob a0 12) (if x1 = (100 : Int32) then (fX12_groups_j19 a0 x1 I R) else (z_g (z_ob (R a0 5) 9) (z_b (fX9_isTold (R a0 5) x1 I R) (fun q20 => if q20 = 0 then (some ((-1 : Int32), I)) else (fX12_groups_j19 a0 x1 I R)))))
theorem vX12_groups {G : z_G} {d : Nat} {Q : Option Value → z_S → z_H → Prop} {a0 : Nat} {x1 : Int32} {I : Nat → Nat → Int32} {R : Nat → Nat → Nat} {q : Int32 × (Nat → Nat → Int32)} (hd : 4 ≤ d) (hf : fX12_groups a0 x1 I R = some q) (hk : Q (some (.int q.1)) z_SH (q.2, R)) : z_W G eX12_groups d 0 0 0 [some (.ref a0), some (.int x1), none, none] [] z_SH (I, R) Q := by
  unfold fX12_groups at hf
  obtain ⟨g_a0, hf⟩ := z_g_el hf
  refine z_iload_n dX12_groups_0 rfl rfl ?_
  refine z_bipush dX12_groups_1 kb_100 ?_
  refine z_icmp_eq (tgt := 19) dX12_groups_3 (by decide) (fun c1 => ?_) (fun c1 => ?_)
  · have hf := z_if_t hf c1
    exact y_sub (wX12_groups_j19 hd g_a0 hf hk) (z_le_c rfl (z_le_c rfl (z_le_n (z_le_n z_le_0))))
  · have hf := z_if_f hf c1
    refine z_aload_n dX12_groups_6 rfl rfl (z_okl g_a0) ?_
    refine y_getR lfX12_61 rfl g_a0 dX12_groups_7 ?_
    refine z_iload_n dX12_groups_10 rfl rfl ?_
    obtain ⟨g21, hf⟩ := z_g_el hf
    obtain ⟨q20, hq20, hf⟩ := z_b_el hf
    refine y_cVi (av := [.int x1]) (Nat.le_trans (Nat.le_of_ble_eq_true rfl) hd) (wX9_isTold (z_dl rfl hd) hq20) oX9_isTold lmX12_186 iX9_isTold g21 rfl _ rfl rfl (Nat.le_of_ble_eq_true rfl) dX12_groups_11 ?_
    refine z_if_ne (tgt := 19) dX12_groups_14 (by decide) (fun c22 => ?_) (fun c22 => ?_)
    · have hf := z_if_f hf c22
      exact y_sub (wX12_groups_j19 hd g_a0 hf hk) (z_le_c rfl (z_le_c rfl (z_le_n (z_le_n z_le_0))))
    · have hf := z_if_t hf c22
      refine z_iconst dX12_groups_17 kc_m1 ?_
      cases hf
      exact z_iret hk ⟨_, rfl, rfl⟩ dX12_groups_18
theorem wX12_groups {G : z_G} {d : Nat} {a0 : Nat} {x1 : Int32} {I : Nat → Nat → Int32} {R : Nat → Nat → Nat} {q : Int32 × (Nat → Nat → Int32)} (hd : 4 ≤ d) (hf : fX12_groups a0 x1 I R = some q) : z_M G d 0 0 eX12_groups [.ref a0, .int x1] z_SH (I, R) (z_E (some (.int q.1)) (q.2, R)) :=
  y_M_of _ (by decide +kernel) rfl rfl rfl (vX12_groups hd hf ⟨rfl, rfl, rfl⟩)
def fX12_order_b28 (a0 : Nat) (z1 : Int32) (z4 : Int32) (I : Nat → Nat → Int32) (R : Nat → Nat → Nat) : (Int32 × Int32 × Int32) → Option ((Int32 × Int32 × Int32) ⊕ (Int32 × Int32)) :=
  fun s => (fun (p2 : Int32) (p3 : Int32) (p5 : Int32) => if (8 : Int32) ≤ p5 then (some (.inr (p2, p3))) else (z_g (z_ob (R a0 5) 9) (z_b (fX9_isTold (R a0 5) z4 I R) (fun q5 => if q5 = 0 then (z_l (p5 + (1 : Int32)) (fun t8 => some (.inl (p2, p3, t8)))) else (z_b (fX9_isTold (R a0 5) p5 I R) (fun q9 => if q9 = 0 then (z_l (p5 + (1 : Int32)) (fun t11 => some (.inl (p2, p3, t11)))) else (z_g (z_ok 4 (R (R a0 5) 0) z4) (z_g (z_ob (R (R (R a0 5) 0) z4.toNatClampNeg) 8) (z_g (z_ok 4 (R (R a0 5) 0) p5) (z_g (z_ob (R (R (R a0 5) 0) p5.toNatClampNeg) 8) (z_l ((I (R (R (R a0 5) 0) z4.toNatClampNeg) 1) - (I (R (R (R a0 5) 0) p5.toNatClampNeg) 1)) (fun t16 => z_l (z_max p2 t16) (fun t17 => if t16 ≤ 0 then (z_l (p5 + (1 : Int32)) (fun t19 => some (.inl (t17, p3, t19)))) else (z_b (fX9_sitsAhead (R a0 5) z4 p5 I R) (fun q20 => if q20 = 0 then (z_l (p5 + (1 : Int32)) (fun t22 => some (.inl (t17, p3, t22)))) else (z_l (p3 + (1 : Int32)) (fun t23 => z_l (p5 + (1 : Int32)) (fun t24 => some (.inl (t17, t23, t24)))))))))))))))))))) s.1 s.2.1 s.2.2
theorem wX12_order_b28 {G : z_G} {d : Nat} {Q : Option Value → z_S → z_H → Prop} {a0 : Nat} {z1 : Int32} {z4 : Int32} {I : Nat → Nat → Int32} {R : Nat → Nat → Nat} (hd : 3 ≤ d) (g_a0 : z_ob a0 12) : ∀ (s : Int32 × Int32 × Int32) (o : (Int32 × Int32 × Int32) ⊕ (Int32 × Int32)), fX12_order_b28 a0 z1 z4 I R s = some o → z_or (fun s : Int32 × Int32 × Int32 => z_W G eX12_order d 0 0 28 [some (.ref a0), some (.int z1), some (.int s.1), some (.int s.2.1), some (.int z4), some (.int s.2.2), none] [] z_SH (I, R) Q) (fun x : Int32 × Int32 => z_W G eX12_order d 0 0 123 [some (.ref a0), some (.int z1), some (.int x.1), some (.int x.2), some (.int z4), none, none] [] z_SH (I, R) Q) o → (fun s : Int32 × Int32 × Int32 => z_W G eX12_order d 0 0 28 [some (.ref a0), some (.int z1), some (.int s.1), some (.int s.2.1), some (.int z4), some (.int s.2.2), none] [] z_SH (I, R) Q) s := by
  rintro ⟨p2, p3, p5⟩ o hf hk
  show z_W G eX12_order d 0 0 28 [some (.ref a0), some (.int z1), some (.int p2), some (.int p3), some (.int z4), some (.int p5), none] [] z_SH (I, R) Q
  unfold fX12_order_b28 at hf
  try dsimp only at hf
  refine z_iload dX12_order_28 rfl ?_
  refine z_bipush dX12_order_30 kb_8 ?_
  refine z_icmp_ge (tgt := 123) dX12_order_32 (by decide) (fun c4 => ?_) (fun c4 => ?_)
  · have hf := z_if_t hf c4
    cases hf
    exact y_sub hk (z_le_c rfl (z_le_c rfl (z_le_c rfl (z_le_c rfl (z_le_c rfl (z_le_n (z_le_n z_le_0)))))))
  · have hf := z_if_f hf c4
    refine z_aload_n dX12_order_35 rfl rfl (z_okl g_a0) ?_
    refine y_getR lfX12_61 rfl g_a0 dX12_order_36 ?_
    refine z_iload dX12_order_39 rfl ?_
    obtain ⟨g6, hf⟩ := z_g_el hf
    obtain ⟨q5, hq5, hf⟩ := z_b_el hf
    refine y_cVi (av := [.int z4]) (Nat.le_trans (Nat.le_of_ble_eq_true rfl) hd) (wX9_isTold (z_dl rfl hd) hq5) oX9_isTold lmX12_186 iX9_isTold g6 rfl _ rfl rfl (Nat.le_of_ble_eq_true rfl) dX12_order_41 ?_
    refine z_if_eq (tgt := 117) dX12_order_44 (by decide) (fun c7 => ?_) (fun c7 => ?_)
    · have hf := z_if_t hf c7
      refine y_iinc (fun t8 => [some (.ref a0), some (.int z1), some (.int p2), some (.int p3), some (.int z4), some (.int t8), none]) dX12_order_117 rfl kc_1 (by decide) (fun _ => rfl) (fun t8 et8 => ?_)
      have hf := z_l_el hf et8
      refine z_goto (tgt := 28) dX12_order_120 (by decide) ?_
      cases hf
      exact y_sub hk (z_le_c rfl (z_le_c rfl (z_le_c rfl (z_le_c rfl (z_le_c rfl (z_le_c rfl (z_le_n z_le_0)))))))
    · have hf := z_if_f hf c7
      refine z_aload_n dX12_order_47 rfl rfl (z_okl g_a0) ?_
      refine y_getR lfX12_61 rfl g_a0 dX12_order_48 ?_
      refine z_iload dX12_order_51 rfl ?_
      obtain ⟨q9, hq9, hf⟩ := z_b_el hf
      refine y_cVi (av := [.int p5]) (Nat.le_trans (Nat.le_of_ble_eq_true rfl) hd) (wX9_isTold (z_dl rfl hd) hq9) oX9_isTold lmX12_186 iX9_isTold g6 rfl _ rfl rfl (Nat.le_of_ble_eq_true rfl) dX12_order_53 ?_
      refine z_if_eq (tgt := 117) dX12_order_56 (by decide) (fun c10 => ?_) (fun c10 => ?_)
      · have hf := z_if_t hf c10
        refine y_iinc (fun t11 => [some (.ref a0), some (.int z1), some (.int p2), some (.int p3), some (.int z4), some (.int t11), none]) dX12_order_117 rfl kc_1 (by decide) (fun _ => rfl) (fun t11 et11 => ?_)
        have hf := z_l_el hf et11
        refine z_goto (tgt := 28) dX12_order_120 (by decide) ?_
        cases hf
        exact y_sub hk (z_le_c rfl (z_le_c rfl (z_le_c rfl (z_le_c rfl (z_le_c rfl (z_le_c rfl (z_le_n z_le_0)))))))
      · have hf := z_if_f hf c10
        refine z_aload_n dX12_order_59 rfl rfl (z_okl g_a0) ?_
        refine y_getR lfX12_61 rfl g_a0 dX12_order_60 ?_
        refine y_getR lfX12_100 rfl g6 dX12_order_63 ?_
        refine z_iload dX12_order_66 rfl ?_
        obtain ⟨g12, hf⟩ := z_g_el hf
        refine y_aald (t := 1) (Or.inr rfl) g12 dX12_order_68 ?_
        obtain ⟨g13, hf⟩ := z_g_el hf
        refine y_getI lfX12_110 rfl g13 dX12_order_69 ?_
        refine z_aload_n dX12_order_72 rfl rfl (z_okl g_a0) ?_
        refine y_getR lfX12_61 rfl g_a0 dX12_order_73 ?_
        refine y_getR lfX12_100 rfl g6 dX12_order_76 ?_
        refine z_iload dX12_order_79 rfl ?_
        obtain ⟨g14, hf⟩ := z_g_el hf
        refine y_aald (t := 1) (Or.inr rfl) g14 dX12_order_81 ?_
        obtain ⟨g15, hf⟩ := z_g_el hf
        refine y_getI lfX12_110 rfl g15 dX12_order_82 ?_
        refine z_isub dX12_order_85 ?_
        refine y_istore (fun t16 => [some (.ref a0), some (.int z1), some (.int p2), some (.int p3), some (.int z4), some (.int p5), some (.int t16)]) dX12_order_86 (by decide) (fun _ => rfl) (fun t16 et16 => ?_)
        have hf := z_l_el hf et16
        refine z_iload_n dX12_order_88 rfl rfl ?_
        refine z_iload dX12_order_89 rfl ?_
        refine y_max (Nat.le_trans (Nat.le_of_ble_eq_true rfl) hd) lmX12_256 (Nat.le_of_ble_eq_true rfl) dX12_order_91 ?_
        refine y_istore_n (fun t17 => [some (.ref a0), some (.int z1), some (.int t17), some (.int p3), some (.int z4), some (.int p5), some (.int t16)]) dX12_order_94 rfl (by decide) (fun _ => rfl) (fun t17 et17 => ?_)
        have hf := z_l_el hf et17
        refine z_iload dX12_order_95 rfl ?_
        refine z_if_le (tgt := 117) dX12_order_97 (by decide) (fun c18 => ?_) (fun c18 => ?_)
        · have hf := z_if_t hf c18
          refine y_iinc (fun t19 => [some (.ref a0), some (.int z1), some (.int t17), some (.int p3), some (.int z4), some (.int t19), some (.int t16)]) dX12_order_117 rfl kc_1 (by decide) (fun _ => rfl) (fun t19 et19 => ?_)
          have hf := z_l_el hf et19
          refine z_goto (tgt := 28) dX12_order_120 (by decide) ?_
          cases hf
          exact y_sub hk (z_le_c rfl (z_le_c rfl (z_le_c rfl (z_le_c rfl (z_le_c rfl (z_le_c rfl (z_le_n z_le_0)))))))
        · have hf := z_if_f hf c18
          refine z_aload_n dX12_order_100 rfl rfl (z_okl g_a0) ?_
          refine y_getR lfX12_61 rfl g_a0 dX12_order_101 ?_
          refine z_iload dX12_order_104 rfl ?_
          refine z_iload dX12_order_106 rfl ?_
          obtain ⟨q20, hq20, hf⟩ := z_b_el hf
          refine y_cVi (av := [.int z4, .int p5]) (Nat.le_trans (Nat.le_of_ble_eq_true rfl) hd) (wX9_sitsAhead (z_dl rfl hd) hq20) oX9_sitsAhead lmX12_344 iX9_sitsAhead g6 rfl _ rfl rfl (Nat.le_of_ble_eq_true rfl) dX12_order_108 ?_
          refine z_if_eq (tgt := 117) dX12_order_111 (by decide) (fun c21 => ?_) (fun c21 => ?_)
          · have hf := z_if_t hf c21
            refine y_iinc (fun t22 => [some (.ref a0), some (.int z1), some (.int t17), some (.int p3), some (.int z4), some (.int t22), some (.int t16)]) dX12_order_117 rfl kc_1 (by decide) (fun _ => rfl) (fun t22 et22 => ?_)
            have hf := z_l_el hf et22
            refine z_goto (tgt := 28) dX12_order_120 (by decide) ?_
            cases hf
            exact y_sub hk (z_le_c rfl (z_le_c rfl (z_le_c rfl (z_le_c rfl (z_le_c rfl (z_le_c rfl (z_le_n z_le_0)))))))
          · have hf := z_if_f hf c21
            refine y_iinc (fun t23 => [some (.ref a0), some (.int z1), some (.int t17), some (.int t23), some (.int z4), some (.int p5), some (.int t16)]) dX12_order_114 rfl kc_1 (by decide) (fun _ => rfl) (fun t23 et23 => ?_)
            have hf := z_l_el hf et23
            refine y_iinc (fun t24 => [some (.ref a0), some (.int z1), some (.int t17), some (.int t23), some (.int z4), some (.int t24), some (.int t16)]) dX12_order_117 rfl kc_1 (by decide) (fun _ => rfl) (fun t24 et24 => ?_)
            have hf := z_l_el hf et24
            refine z_goto (tgt := 28) dX12_order_120 (by decide) ?_
            cases hf
            exact y_sub hk (z_le_c rfl (z_le_c rfl (z_le_c rfl (z_le_c rfl (z_le_c rfl (z_le_c rfl (z_le_n z_le_0)))))))
def fX12_order_b18 (a0 : Nat) (z1 : Int32) (I : Nat → Nat → Int32) (R : Nat → Nat → Nat) : (Int32 × Int32 × Int32) → Option ((Int32 × Int32 × Int32) ⊕ (Int32 × Int32)) :=
  fun s => (fun (p2 : Int32) (p3 : Int32) (p4 : Int32) => if (8 : Int32) ≤ p4 then (some (.inr (p2, p3))) else (z_b (z_lp (fX12_order_b28 a0 z1 p4 I R) 300 (p2, p3, (0 : Int32))) (fun q25 => z_l (p4 + (1 : Int32)) (fun t26 => some (.inl (q25.1, q25.2, t26)))))) s.1 s.2.1 s.2.2
theorem wX12_order_b18 {G : z_G} {d : Nat} {Q : Option Value → z_S → z_H → Prop} {a0 : Nat} {z1 : Int32} {I : Nat → Nat → Int32} {R : Nat → Nat → Nat} (hd : 3 ≤ d) (g_a0 : z_ob a0 12) : ∀ (s : Int32 × Int32 × Int32) (o : (Int32 × Int32 × Int32) ⊕ (Int32 × Int32)), fX12_order_b18 a0 z1 I R s = some o → z_or (fun s : Int32 × Int32 × Int32 => z_W G eX12_order d 0 0 18 [some (.ref a0), some (.int z1), some (.int s.1), some (.int s.2.1), some (.int s.2.2), none, none] [] z_SH (I, R) Q) (fun x : Int32 × Int32 => z_W G eX12_order d 0 0 129 [none, some (.int z1), some (.int x.1), some (.int x.2), none, none, none] [] z_SH (I, R) Q) o → (fun s : Int32 × Int32 × Int32 => z_W G eX12_order d 0 0 18 [some (.ref a0), some (.int z1), some (.int s.1), some (.int s.2.1), some (.int s.2.2), none, none] [] z_SH (I, R) Q) s := by
  rintro ⟨p2, p3, p4⟩ o hf hk
  show z_W G eX12_order d 0 0 18 [some (.ref a0), some (.int z1), some (.int p2), some (.int p3), some (.int p4), none, none] [] z_SH (I, R) Q
  unfold fX12_order_b18 at hf
  try dsimp only at hf
  refine z_iload dX12_order_18 rfl ?_
  refine z_bipush dX12_order_20 kb_8 ?_
  refine z_icmp_ge (tgt := 129) dX12_order_22 (by decide) (fun c3 => ?_) (fun c3 => ?_)
  · have hf := z_if_t hf c3
    cases hf
    exact y_sub hk (z_le_n (z_le_c rfl (z_le_c rfl (z_le_c rfl (z_le_n (z_le_n (z_le_n z_le_0)))))))
  · have hf := z_if_f hf c3
    refine z_iconst dX12_order_25 kc_0 ?_
    refine y_istore0 [some (.ref a0), some (.int z1), some (.int p2), some (.int p3), some (.int p4), some (.int (0 : Int32)), none] dX12_order_26 (by decide) rfl ?_
    obtain ⟨q25, hq25, hf⟩ := z_b_el hf
    refine y_sub (lv' := [some (.ref a0), some (.int z1), some (.int p2), some (.int p3), some (.int p4), some (.int (0 : Int32)), none]) ?_ (z_le_c rfl (z_le_c rfl (z_le_c rfl (z_le_c rfl (z_le_c rfl (z_le_c rfl (z_le_n z_le_0)))))))
    refine z_lp_el (P := (fun s : Int32 × Int32 × Int32 => z_W G eX12_order d 0 0 28 [some (.ref a0), some (.int z1), some (.int s.1), some (.int s.2.1), some (.int p4), some (.int s.2.2), none] [] z_SH (I, R) Q)) (E := (fun x : Int32 × Int32 => z_W G eX12_order d 0 0 123 [some (.ref a0), some (.int z1), some (.int x.1), some (.int x.2), some (.int p4), none, none] [] z_SH (I, R) Q)) (wX12_order_b28 hd g_a0) 300 (p2, p3, (0 : Int32)) q25 hq25 ?_
    show z_W G eX12_order d 0 0 123 [some (.ref a0), some (.int z1), some (.int q25.1), some (.int q25.2), some (.int p4), none, none] [] z_SH (I, R) _
    refine y_iinc (fun t26 => [some (.ref a0), some (.int z1), some (.int q25.1), some (.int q25.2), some (.int t26), none, none]) dX12_order_123 rfl kc_1 (by decide) (fun _ => rfl) (fun t26 et26 => ?_)
    have hf := z_l_el hf et26
    refine z_goto (tgt := 18) dX12_order_126 (by decide) ?_
    cases hf
    exact y_sub hk (z_le_c rfl (z_le_c rfl (z_le_c rfl (z_le_c rfl (z_le_c rfl (z_le_n (z_le_n z_le_0)))))))
def fX12_order (a0 : Nat) (x1 : Int32) (I : Nat → Nat → Int32) (R : Nat → Nat → Nat) : Option (Int32) :=
  z_g (z_ob a0 12) (z_b (fX12_within x1 (0 : Int32) (1 : Int32)) (fun q1 => if q1 = 0 then (some (-1 : Int32)) else (z_b (z_lp (fX12_order_b18 a0 x1 I R) 300 ((0 : Int32), (0 : Int32), (0 : Int32))) (fun q27 => if x1 = 0 then (some q27.1) else (some q27.2)))))
set_option maxRecDepth 20000 in
theorem vX12_order {G : z_G} {d : Nat} {Q : Option Value → z_S → z_H → Prop} {a0 : Nat} {x1 : Int32} {I : Nat → Nat → Int32} {R : Nat → Nat → Nat} {q : Int32} (hd : 3 ≤ d) (hf : fX12_order a0 x1 I R = some q) (hk : Q (some (.int q)) z_SH (I, R)) : z_W G eX12_order d 0 0 0 [some (.ref a0), some (.int x1), none, none, none, none, none] [] z_SH (I, R) Q := by
  unfold fX12_order at hf
  obtain ⟨g_a0, hf⟩ := z_g_el hf
  refine z_iload_n dX12_order_0 rfl rfl ?_
  refine z_iconst dX12_order_1 kc_0 ?_
  refine z_iconst dX12_order_2 kc_1 ?_
  obtain ⟨q1, hq1, hf⟩ := z_b_el hf
  refine y_cSi (Nat.le_trans (Nat.le_of_ble_eq_true rfl) hd) (wX12_within (z_dl rfl hd) hq1) oX12_within lmX12_96 sX12_within _ rfl rfl (Nat.le_of_ble_eq_true rfl) dX12_order_3 ?_
  refine z_if_ne (tgt := 11) dX12_order_6 (by decide) (fun c2 => ?_) (fun c2 => ?_)
  · have hf := z_if_f hf c2
    refine z_iconst dX12_order_11 kc_0 ?_
    refine y_istore_n0 [some (.ref a0), some (.int x1), some (.int (0 : Int32)), none, none, none, none] dX12_order_12 rfl (by decide) rfl ?_
    refine z_iconst dX12_order_13 kc_0 ?_
    refine y_istore_n0 [some (.ref a0), some (.int x1), some (.int (0 : Int32)), some (.int (0 : Int32)), none, none, none] dX12_order_14 rfl (by decide) rfl ?_
    refine z_iconst dX12_order_15 kc_0 ?_
    refine y_istore0 [some (.ref a0), some (.int x1), some (.int (0 : Int32)), some (.int (0 : Int32)), some (.int (0 : Int32)), none, none] dX12_order_16 (by decide) rfl ?_
    obtain ⟨q27, hq27, hf⟩ := z_b_el hf
    refine y_sub (lv' := [some (.ref a0), some (.int x1), some (.int (0 : Int32)), some (.int (0 : Int32)), some (.int (0 : Int32)), none, none]) ?_ (z_le_c rfl (z_le_c rfl (z_le_c rfl (z_le_c rfl (z_le_c rfl (z_le_n (z_le_n z_le_0)))))))
    refine z_lp_el (P := (fun s : Int32 × Int32 × Int32 => z_W G eX12_order d 0 0 18 [some (.ref a0), some (.int x1), some (.int s.1), some (.int s.2.1), some (.int s.2.2), none, none] [] z_SH (I, R) Q)) (E := (fun x : Int32 × Int32 => z_W G eX12_order d 0 0 129 [none, some (.int x1), some (.int x.1), some (.int x.2), none, none, none] [] z_SH (I, R) Q)) (wX12_order_b18 hd g_a0) 300 ((0 : Int32), (0 : Int32), (0 : Int32)) q27 hq27 ?_
    show z_W G eX12_order d 0 0 129 [none, some (.int x1), some (.int q27.1), some (.int q27.2), none, none, none] [] z_SH (I, R) _
    refine z_iload_n dX12_order_129 rfl rfl ?_
    refine z_if_ne (tgt := 137) dX12_order_130 (by decide) (fun c28 => ?_) (fun c28 => ?_)
    · have hf := z_if_f hf c28
      refine z_iload_n dX12_order_137 rfl rfl ?_
      cases hf
      exact z_iret hk ⟨_, rfl, rfl⟩ dX12_order_138
    · have hf := z_if_t hf c28
      refine z_iload_n dX12_order_133 rfl rfl ?_
      refine z_goto (tgt := 138) dX12_order_134 (by decide) ?_
      cases hf
      exact z_iret hk ⟨_, rfl, rfl⟩ dX12_order_138
  · have hf := z_if_t hf c2
    refine z_iconst dX12_order_9 kc_m1 ?_
    cases hf
    exact z_iret hk ⟨_, rfl, rfl⟩ dX12_order_10
theorem wX12_order {G : z_G} {d : Nat} {a0 : Nat} {x1 : Int32} {I : Nat → Nat → Int32} {R : Nat → Nat → Nat} {q : Int32} (hd : 3 ≤ d) (hf : fX12_order a0 x1 I R = some q) : z_M G d 0 0 eX12_order [.ref a0, .int x1] z_SH (I, R) (z_E (some (.int q)) (I, R)) :=
  y_M_of _ (by decide +kernel) rfl rfl rfl (vX12_order hd hf ⟨rfl, rfl, rfl⟩)
def fX12_seed (a0 : Nat) (x1 : Int32) (I : Nat → Nat → Int32) (R : Nat → Nat → Nat) : Option (Int32 × (Nat → Nat → Int32)) :=
  z_g (z_ob a0 12) (z_b (fX12_within x1 (0 : Int32) (65535 : Int32)) (fun q1 => if q1 = 0 then (some ((0 : Int32), I)) else (z_g (z_ob (R a0 5) 9) (z_l (z_u I (R a0 5) 2 x1) (fun I4 => some ((1 : Int32), I4))))))
theorem vX12_seed {G : z_G} {d : Nat} {Q : Option Value → z_S → z_H → Prop} {a0 : Nat} {x1 : Int32} {I : Nat → Nat → Int32} {R : Nat → Nat → Nat} {q : Int32 × (Nat → Nat → Int32)} (hd : 1 ≤ d) (hf : fX12_seed a0 x1 I R = some q) (hk : Q (some (.int q.1)) z_SH (q.2, R)) : z_W G eX12_seed d 0 0 0 [some (.ref a0), some (.int x1)] [] z_SH (I, R) Q := by
  unfold fX12_seed at hf
  obtain ⟨g_a0, hf⟩ := z_g_el hf
  refine z_iload_n dX12_seed_0 rfl rfl ?_
  refine z_iconst dX12_seed_1 kc_0 ?_
  refine z_ldcw dX12_seed_2 lkX12_347 ?_
  obtain ⟨q1, hq1, hf⟩ := z_b_el hf
  refine y_cSi (Nat.le_trans (Nat.le_of_ble_eq_true rfl) hd) (wX12_within (z_dl rfl hd) hq1) oX12_within lmX12_96 sX12_within _ rfl rfl (Nat.le_of_ble_eq_true rfl) dX12_seed_5 ?_
  refine z_if_ne (tgt := 13) dX12_seed_8 (by decide) (fun c2 => ?_) (fun c2 => ?_)
  · have hf := z_if_f hf c2
    refine z_aload_n dX12_seed_13 rfl rfl (z_okl g_a0) ?_
    refine y_getR lfX12_61 rfl g_a0 dX12_seed_14 ?_
    refine z_iload_n dX12_seed_17 rfl rfl ?_
    obtain ⟨g3, hf⟩ := z_g_el hf
    refine y_putI lfX12_348 rfl g3 rfl rfl rfl dX12_seed_18 (fun I4 eI4 => ?_)
    have hf := z_l_el hf eI4
    refine z_iconst dX12_seed_21 kc_1 ?_
    cases hf
    exact z_iret hk ⟨_, rfl, rfl⟩ dX12_seed_22
  · have hf := z_if_t hf c2
    refine z_iconst dX12_seed_11 kc_0 ?_
    cases hf
    exact z_iret hk ⟨_, rfl, rfl⟩ dX12_seed_12
theorem wX12_seed {G : z_G} {d : Nat} {a0 : Nat} {x1 : Int32} {I : Nat → Nat → Int32} {R : Nat → Nat → Nat} {q : Int32 × (Nat → Nat → Int32)} (hd : 1 ≤ d) (hf : fX12_seed a0 x1 I R = some q) : z_M G d 0 0 eX12_seed [.ref a0, .int x1] z_SH (I, R) (z_E (some (.int q.1)) (q.2, R)) :=
  y_M_of _ (by decide +kernel) rfl rfl rfl (vX12_seed hd hf ⟨rfl, rfl, rfl⟩)
def fX12_keep (a0 : Nat) (I : Nat → Nat → Int32) (R : Nat → Nat → Nat) : Option (Int32 × (Nat → Nat → Int32)) :=
  z_g (z_ob a0 12) (z_g (z_ob (R a0 7) 9) (z_b (fX9_copyFrom (R a0 7) (R a0 5) I R) (fun q1 => z_l (z_u q1 a0 8 (1 : Int32)) (fun I3 => z_g (z_ob (R a0 5) 9) (some (I3 (R a0 5) 1, I3))))))
theorem vX12_keep {G : z_G} {d : Nat} {Q : Option Value → z_S → z_H → Prop} {a0 : Nat} {I : Nat → Nat → Int32} {R : Nat → Nat → Nat} {q : Int32 × (Nat → Nat → Int32)} (hd : 2 ≤ d) (hf : fX12_keep a0 I R = some q) (hk : Q (some (.int q.1)) z_SH (q.2, R)) : z_W G eX12_keep d 0 0 0 [some (.ref a0)] [] z_SH (I, R) Q := by
  unfold fX12_keep at hf
  obtain ⟨g_a0, hf⟩ := z_g_el hf
  refine z_aload_n dX12_keep_0 rfl rfl (z_okl g_a0) ?_
  refine y_getR lfX12_68 rfl g_a0 dX12_keep_1 ?_
  refine z_aload_n dX12_keep_4 rfl rfl (z_okl g_a0) ?_
  refine y_getR lfX12_61 rfl g_a0 dX12_keep_5 ?_
  obtain ⟨g2, hf⟩ := z_g_el hf
  obtain ⟨q1, hq1, hf⟩ := z_b_el hf
  refine y_cVv (av := [.ref (R a0 5)]) (Nat.le_trans (Nat.le_of_ble_eq_true rfl) hd) (wX9_copyFrom (z_dl rfl hd) hq1) oX9_copyFrom lmX12_189 iX9_copyFrom g2 rfl _ rfl rfl (Nat.le_of_ble_eq_true rfl) dX12_keep_8 ?_
  refine z_aload_n dX12_keep_11 rfl rfl (z_okl g_a0) ?_
  refine z_iconst dX12_keep_12 kc_1 ?_
  refine y_putI lfX12_351 rfl g_a0 rfl rfl rfl dX12_keep_13 (fun I3 eI3 => ?_)
  have hf := z_l_el hf eI3
  refine z_aload_n dX12_keep_16 rfl rfl (z_okl g_a0) ?_
  refine y_getR lfX12_61 rfl g_a0 dX12_keep_17 ?_
  obtain ⟨g4, hf⟩ := z_g_el hf
  refine y_getI lfX12_354 rfl g4 dX12_keep_20 ?_
  cases hf
  exact z_iret hk ⟨_, rfl, rfl⟩ dX12_keep_23
theorem wX12_keep {G : z_G} {d : Nat} {a0 : Nat} {I : Nat → Nat → Int32} {R : Nat → Nat → Nat} {q : Int32 × (Nat → Nat → Int32)} (hd : 2 ≤ d) (hf : fX12_keep a0 I R = some q) : z_M G d 0 0 eX12_keep [.ref a0] z_SH (I, R) (z_E (some (.int q.1)) (q.2, R)) :=
  y_M_of _ (by decide +kernel) rfl rfl rfl (vX12_keep hd hf ⟨rfl, rfl, rfl⟩)
def fX12_undo_b22 (a0 : Nat) (R : Nat → Nat → Nat) : (Int32 × (Nat → Nat → Int32)) → Option ((Int32 × (Nat → Nat → Int32)) ⊕ ((Nat → Nat → Int32))) :=
  fun s => (fun (p1 : Int32) (I : Nat → Nat → Int32) => if (8 : Int32) ≤ p1 then (some (.inr I)) else (z_g (z_ob (R a0 5) 9) (z_g (z_ok 4 (R (R a0 5) 0) p1) (z_g (z_ob (R (R (R a0 5) 0) p1.toNatClampNeg) 8) (z_g (z_ob (R a0 1) 7) (z_g (z_ok 3 (R (R a0 1) 0) p1) (z_g (z_ob (R (R (R a0 1) 0) p1.toNatClampNeg) 5) (z_b (fX5_length (R (R (R a0 1) 0) p1.toNatClampNeg) I) (fun q10 => z_l (z_u I (R (R (R a0 5) 0) p1.toNatClampNeg) 5 (z_min (I (R (R (R a0 5) 0) p1.toNatClampNeg) 5) q10)) (fun I12 => z_g (z_ob (R a0 4) 2) (z_b (fX2_isDone (R a0 4) (R a0 5) p1 I12 R) (fun q13 => if q13 = 0 then (z_l (p1 + (1 : Int32)) (fun t16 => some (.inl (t16, I12)))) else (z_l (z_u I12 (R (R (R a0 5) 0) p1.toNatClampNeg) 9 (0 : Int32)) (fun I17 => z_l (p1 + (1 : Int32)) (fun t18 => some (.inl (t18, I17))))))))))))))))) s.1 s.2
theorem wX12_undo_b22 {G : z_G} {d : Nat} {Q : Option Value → z_S → z_H → Prop} {a0 : Nat} {R : Nat → Nat → Nat} (hd : 3 ≤ d) (g_a0 : z_ob a0 12) : ∀ (s : Int32 × (Nat → Nat → Int32)) (o : (Int32 × (Nat → Nat → Int32)) ⊕ ((Nat → Nat → Int32))), fX12_undo_b22 a0 R s = some o → z_or (fun s : Int32 × (Nat → Nat → Int32) => z_W G eX12_undo d 0 0 22 [some (.ref a0), some (.int s.1), none] [] z_SH (s.2, R) Q) (fun x : (Nat → Nat → Int32) => z_W G eX12_undo d 0 0 87 [none, none, none] [] z_SH (x, R) Q) o → (fun s : Int32 × (Nat → Nat → Int32) => z_W G eX12_undo d 0 0 22 [some (.ref a0), some (.int s.1), none] [] z_SH (s.2, R) Q) s := by
  rintro ⟨p1, I⟩ o hf hk
  show z_W G eX12_undo d 0 0 22 [some (.ref a0), some (.int p1), none] [] z_SH (I, R) Q
  unfold fX12_undo_b22 at hf
  try dsimp only at hf
  refine z_iload_n dX12_undo_22 rfl rfl ?_
  refine z_bipush dX12_undo_23 kb_8 ?_
  refine z_icmp_ge (tgt := 87) dX12_undo_25 (by decide) (fun c4 => ?_) (fun c4 => ?_)
  · have hf := z_if_t hf c4
    cases hf
    exact y_sub hk (z_le_n (z_le_n (z_le_n z_le_0)))
  · have hf := z_if_f hf c4
    refine z_aload_n dX12_undo_28 rfl rfl (z_okl g_a0) ?_
    refine y_getR lfX12_61 rfl g_a0 dX12_undo_29 ?_
    obtain ⟨g5, hf⟩ := z_g_el hf
    refine y_getR lfX12_100 rfl g5 dX12_undo_32 ?_
    refine z_iload_n dX12_undo_35 rfl rfl ?_
    obtain ⟨g6, hf⟩ := z_g_el hf
    refine y_aald (t := 1) (Or.inr rfl) g6 dX12_undo_36 ?_
    obtain ⟨g7, hf⟩ := z_g_el hf
    refine y_astore_n [some (.ref a0), some (.int p1), some (.ref (R (R (R a0 5) 0) p1.toNatClampNeg))] dX12_undo_37 rfl (by decide) (z_okl g7) rfl ?_
    refine z_aload_n dX12_undo_38 rfl rfl (z_okl g7) ?_
    refine z_aload_n dX12_undo_39 rfl rfl (z_okl g7) ?_
    refine y_getI lfX12_209 rfl g7 dX12_undo_40 ?_
    refine z_aload_n dX12_undo_43 rfl rfl (z_okl g_a0) ?_
    refine y_getR lfX12_19 rfl g_a0 dX12_undo_44 ?_
    obtain ⟨g8, hf⟩ := z_g_el hf
    refine y_getR lfX12_229 rfl g8 dX12_undo_47 ?_
    refine z_iload_n dX12_undo_50 rfl rfl ?_
    obtain ⟨g9, hf⟩ := z_g_el hf
    refine y_aald (t := 0) (Or.inl rfl) g9 dX12_undo_51 ?_
    obtain ⟨g11, hf⟩ := z_g_el hf
    obtain ⟨q10, hq10, hf⟩ := z_b_el hf
    refine y_cVi (av := []) (Nat.le_trans (Nat.le_of_ble_eq_true rfl) hd) (wX5_length (z_dl rfl hd) hq10) oX5_length lmX12_233 iX5_length g11 rfl _ rfl rfl (Nat.le_of_ble_eq_true rfl) dX12_undo_52 ?_
    refine y_min (Nat.le_trans (Nat.le_of_ble_eq_true rfl) hd) lmX12_302 (Nat.le_of_ble_eq_true rfl) dX12_undo_55 ?_
    refine y_putI lfX12_209 rfl g7 rfl rfl rfl dX12_undo_58 (fun I12 eI12 => ?_)
    have hf := z_l_el hf eI12
    refine z_aload_n dX12_undo_61 rfl rfl (z_okl g_a0) ?_
    refine y_getR lfX12_54 rfl g_a0 dX12_undo_62 ?_
    refine z_aload_n dX12_undo_65 rfl rfl (z_okl g_a0) ?_
    refine y_getR lfX12_61 rfl g_a0 dX12_undo_66 ?_
    refine z_iload_n dX12_undo_69 rfl rfl ?_
    obtain ⟨g14, hf⟩ := z_g_el hf
    obtain ⟨q13, hq13, hf⟩ := z_b_el hf
    refine y_cVi (av := [.ref (R a0 5), .int p1]) (Nat.le_trans (Nat.le_of_ble_eq_true rfl) hd) (wX2_isDone (z_dl rfl hd) hq13) oX2_isDone lmX12_222 iX2_isDone g14 rfl _ rfl rfl (Nat.le_of_ble_eq_true rfl) dX12_undo_70 ?_
    refine z_if_eq (tgt := 81) dX12_undo_73 (by decide) (fun c15 => ?_) (fun c15 => ?_)
    · have hf := z_if_t hf c15
      refine y_iinc (fun t16 => [some (.ref a0), some (.int t16), some (.ref (R (R (R a0 5) 0) p1.toNatClampNeg))]) dX12_undo_81 rfl kc_1 (by decide) (fun _ => rfl) (fun t16 et16 => ?_)
      have hf := z_l_el hf et16
      refine z_goto (tgt := 22) dX12_undo_84 (by decide) ?_
      cases hf
      exact y_sub hk (z_le_c rfl (z_le_c rfl (z_le_n z_le_0)))
    · have hf := z_if_f hf c15
      refine z_aload_n dX12_undo_76 rfl rfl (z_okl g7) ?_
      refine z_iconst dX12_undo_77 kc_0 ?_
      refine y_putI lfX12_219 rfl g7 rfl rfl rfl dX12_undo_78 (fun I17 eI17 => ?_)
      have hf := z_l_el hf eI17
      refine y_iinc (fun t18 => [some (.ref a0), some (.int t18), some (.ref (R (R (R a0 5) 0) p1.toNatClampNeg))]) dX12_undo_81 rfl kc_1 (by decide) (fun _ => rfl) (fun t18 et18 => ?_)
      have hf := z_l_el hf et18
      refine z_goto (tgt := 22) dX12_undo_84 (by decide) ?_
      cases hf
      exact y_sub hk (z_le_c rfl (z_le_c rfl (z_le_n z_le_0)))
def fX12_undo (a0 : Nat) (I : Nat → Nat → Int32) (R : Nat → Nat → Nat) : Option (Int32 × (Nat → Nat → Int32)) :=
  z_g (z_ob a0 12) (if (I a0 8) = 0 then (some ((0 : Int32), I)) else (z_g (z_ob (R a0 5) 9) (z_b (fX9_copyFrom (R a0 5) (R a0 7) I R) (fun q2 => z_b (z_lp (fX12_undo_b22 a0 R) 300 ((0 : Int32), q2)) (fun q19 => some ((1 : Int32), q19))))))
theorem vX12_undo {G : z_G} {d : Nat} {Q : Option Value → z_S → z_H → Prop} {a0 : Nat} {I : Nat → Nat → Int32} {R : Nat → Nat → Nat} {q : Int32 × (Nat → Nat → Int32)} (hd : 3 ≤ d) (hf : fX12_undo a0 I R = some q) (hk : Q (some (.int q.1)) z_SH (q.2, R)) : z_W G eX12_undo d 0 0 0 [some (.ref a0), none, none] [] z_SH (I, R) Q := by
  unfold fX12_undo at hf
  obtain ⟨g_a0, hf⟩ := z_g_el hf
  refine z_aload_n dX12_undo_0 rfl rfl (z_okl g_a0) ?_
  refine y_getI lfX12_351 rfl g_a0 dX12_undo_1 ?_
  refine z_if_ne (tgt := 9) dX12_undo_4 (by decide) (fun c1 => ?_) (fun c1 => ?_)
  · have hf := z_if_f hf c1
    refine z_aload_n dX12_undo_9 rfl rfl (z_okl g_a0) ?_
    refine y_getR lfX12_61 rfl g_a0 dX12_undo_10 ?_
    refine z_aload_n dX12_undo_13 rfl rfl (z_okl g_a0) ?_
    refine y_getR lfX12_68 rfl g_a0 dX12_undo_14 ?_
    obtain ⟨g3, hf⟩ := z_g_el hf
    obtain ⟨q2, hq2, hf⟩ := z_b_el hf
    refine y_cVv (av := [.ref (R a0 7)]) (Nat.le_trans (Nat.le_of_ble_eq_true rfl) hd) (wX9_copyFrom (z_dl rfl hd) hq2) oX9_copyFrom lmX12_189 iX9_copyFrom g3 rfl _ rfl rfl (Nat.le_of_ble_eq_true rfl) dX12_undo_17 ?_
    refine z_iconst dX12_undo_20 kc_0 ?_
    refine y_istore_n0 [some (.ref a0), some (.int (0 : Int32)), none] dX12_undo_21 rfl (by decide) rfl ?_
    obtain ⟨q19, hq19, hf⟩ := z_b_el hf
    refine y_sub (lv' := [some (.ref a0), some (.int (0 : Int32)), none]) ?_ (z_le_c rfl (z_le_c rfl (z_le_n z_le_0)))
    refine z_lp_el (P := (fun s : Int32 × (Nat → Nat → Int32) => z_W G eX12_undo d 0 0 22 [some (.ref a0), some (.int s.1), none] [] z_SH (s.2, R) Q)) (E := (fun x : (Nat → Nat → Int32) => z_W G eX12_undo d 0 0 87 [none, none, none] [] z_SH (x, R) Q)) (wX12_undo_b22 hd g_a0) 300 ((0 : Int32), q2) q19 hq19 ?_
    show z_W G eX12_undo d 0 0 87 [none, none, none] [] z_SH (q19, R) _
    refine z_iconst dX12_undo_87 kc_1 ?_
    cases hf
    exact z_iret hk ⟨_, rfl, rfl⟩ dX12_undo_88
  · have hf := z_if_t hf c1
    refine z_iconst dX12_undo_7 kc_0 ?_
    cases hf
    exact z_iret hk ⟨_, rfl, rfl⟩ dX12_undo_8
theorem wX12_undo {G : z_G} {d : Nat} {a0 : Nat} {I : Nat → Nat → Int32} {R : Nat → Nat → Nat} {q : Int32 × (Nat → Nat → Int32)} (hd : 3 ≤ d) (hf : fX12_undo a0 I R = some q) : z_M G d 0 0 eX12_undo [.ref a0] z_SH (I, R) (z_E (some (.int q.1)) (q.2, R)) :=
  y_M_of _ (by decide +kernel) rfl rfl rfl (vX12_undo hd hf ⟨rfl, rfl, rfl⟩)
def fX12_check_j61_30 (a0 : Nat) (y2 : Int32) (y3 : Int32) (v0 : Int32) (I : Nat → Nat → Int32) (R : Nat → Nat → Nat) : Option ((Int32 × Int32) ⊕ (Int32)) :=
  z_g (z_ob (R a0 0) 10) (z_b (fX10_byteAt (R a0 0) y3 I R) (fun q11 => if q11 = v0 then (z_l (y3 + (-1 : Int32)) (fun t14 => some (.inl (y2, t14)))) else (z_l (y3 + (-1 : Int32)) (fun t15 => some (.inl (y3, t15))))))
theorem wX12_check_j61_30 {G : z_G} {d : Nat} {Q : Option Value → z_S → z_H → Prop} {a0 : Nat} {y2 : Int32} {y3 : Int32} {v0 : Int32} {I : Nat → Nat → Int32} {R : Nat → Nat → Nat} {o : (Int32 × Int32) ⊕ (Int32)} (hd : 3 ≤ d) (g_a0 : z_ob a0 12) (hf : fX12_check_j61_30 a0 y2 y3 v0 I R = some o) (hk : z_or (fun s : Int32 × Int32 => z_W G eX12_check d 0 0 30 [some (.ref a0), none, some (.int s.1), some (.int s.2), none] [] z_SH (I, R) Q) (fun x : Int32 => z_W G eX12_check d 0 0 84 [some (.ref a0), none, some (.int x), none, none] [] z_SH (I, R) Q) o) : z_W G eX12_check d 0 0 61 [some (.ref a0), none, some (.int y2), some (.int y3), none] [.int v0] z_SH (I, R) Q := by
  unfold fX12_check_j61_30 at hf
  refine y_istore0 [some (.ref a0), none, some (.int y2), some (.int y3), some (.int v0)] dX12_check_61 (by decide) rfl ?_
  refine z_aload_n dX12_check_63 rfl rfl (z_okl g_a0) ?_
  refine y_getR lfX12_10 rfl g_a0 dX12_check_64 ?_
  refine z_iload_n dX12_check_67 rfl rfl ?_
  obtain ⟨g12, hf⟩ := z_g_el hf
  obtain ⟨q11, hq11, hf⟩ := z_b_el hf
  refine y_cVi (av := [.int y3]) (Nat.le_trans (Nat.le_of_ble_eq_true rfl) hd) (wX10_byteAt (z_dl rfl hd) hq11) oX10_byteAt lmX12_357 iX10_byteAt g12 rfl _ rfl rfl (Nat.le_of_ble_eq_true rfl) dX12_check_68 ?_
  refine z_iload dX12_check_71 rfl ?_
  refine z_icmp_eq (tgt := 78) dX12_check_73 (by decide) (fun c13 => ?_) (fun c13 => ?_)
  · have hf := z_if_t hf c13
    refine y_iinc (fun t14 => [some (.ref a0), none, some (.int y2), some (.int t14), some (.int v0)]) dX12_check_78 rfl kc_m1 (by decide) (fun _ => rfl) (fun t14 et14 => ?_)
    have hf := z_l_el hf et14
    refine z_goto (tgt := 30) dX12_check_81 (by decide) ?_
    cases hf
    exact y_sub hk (z_le_c rfl (z_le_n (z_le_c rfl (z_le_c rfl (z_le_n z_le_0)))))
  · have hf := z_if_f hf c13
    refine z_iload_n dX12_check_76 rfl rfl ?_
    refine y_istore_n0 [some (.ref a0), none, some (.int y3), some (.int y3), some (.int v0)] dX12_check_77 rfl (by decide) rfl ?_
    refine y_iinc (fun t15 => [some (.ref a0), none, some (.int y3), some (.int t15), some (.int v0)]) dX12_check_78 rfl kc_m1 (by decide) (fun _ => rfl) (fun t15 et15 => ?_)
    have hf := z_l_el hf et15
    refine z_goto (tgt := 30) dX12_check_81 (by decide) ?_
    cases hf
    exact y_sub hk (z_le_c rfl (z_le_n (z_le_c rfl (z_le_c rfl (z_le_n z_le_0)))))
def fX12_check_b30 (a0 : Nat) (I : Nat → Nat → Int32) (R : Nat → Nat → Nat) : (Int32 × Int32) → Option ((Int32 × Int32) ⊕ (Int32)) :=
  fun s => (fun (p2 : Int32) (p3 : Int32) => if p3 < 0 then (some (.inr p2)) else (z_g (z_ob (R a0 5) 9) (z_b (fX9_isTold (R a0 5) p3 I R) (fun q8 => if q8 = 0 then (fX12_check_j61_30 a0 p2 p3 (0 : Int32) I R) else (z_g (z_ok 4 (R (R a0 5) 0) p3) (z_g (z_ob (R (R (R a0 5) 0) p3.toNatClampNeg) 8) (fX12_check_j61_30 a0 p2 p3 (I (R (R (R a0 5) 0) p3.toNatClampNeg) 5) I R))))))) s.1 s.2
theorem wX12_check_b30 {G : z_G} {d : Nat} {Q : Option Value → z_S → z_H → Prop} {a0 : Nat} {I : Nat → Nat → Int32} {R : Nat → Nat → Nat} (hd : 3 ≤ d) (g_a0 : z_ob a0 12) : ∀ (s : Int32 × Int32) (o : (Int32 × Int32) ⊕ (Int32)), fX12_check_b30 a0 I R s = some o → z_or (fun s : Int32 × Int32 => z_W G eX12_check d 0 0 30 [some (.ref a0), none, some (.int s.1), some (.int s.2), none] [] z_SH (I, R) Q) (fun x : Int32 => z_W G eX12_check d 0 0 84 [some (.ref a0), none, some (.int x), none, none] [] z_SH (I, R) Q) o → (fun s : Int32 × Int32 => z_W G eX12_check d 0 0 30 [some (.ref a0), none, some (.int s.1), some (.int s.2), none] [] z_SH (I, R) Q) s := by
  rintro ⟨p2, p3⟩ o hf hk
  show z_W G eX12_check d 0 0 30 [some (.ref a0), none, some (.int p2), some (.int p3), none] [] z_SH (I, R) Q
  unfold fX12_check_b30 at hf
  try dsimp only at hf
  refine z_iload_n dX12_check_30 rfl rfl ?_
  refine z_if_lt (tgt := 84) dX12_check_31 (by decide) (fun c7 => ?_) (fun c7 => ?_)
  · have hf := z_if_t hf c7
    cases hf
    exact y_sub hk (z_le_c rfl (z_le_n (z_le_c rfl (z_le_n (z_le_n z_le_0)))))
  · have hf := z_if_f hf c7
    refine z_aload_n dX12_check_34 rfl rfl (z_okl g_a0) ?_
    refine y_getR lfX12_61 rfl g_a0 dX12_check_35 ?_
    refine z_iload_n dX12_check_38 rfl rfl ?_
    obtain ⟨g9, hf⟩ := z_g_el hf
    obtain ⟨q8, hq8, hf⟩ := z_b_el hf
    refine y_cVi (av := [.int p3]) (Nat.le_trans (Nat.le_of_ble_eq_true rfl) hd) (wX9_isTold (z_dl rfl hd) hq8) oX9_isTold lmX12_186 iX9_isTold g9 rfl _ rfl rfl (Nat.le_of_ble_eq_true rfl) dX12_check_39 ?_
    refine z_if_eq (tgt := 60) dX12_check_42 (by decide) (fun c10 => ?_) (fun c10 => ?_)
    · have hf := z_if_t hf c10
      refine z_iconst dX12_check_60 kc_0 ?_
      exact y_sub (wX12_check_j61_30 hd g_a0 hf hk) (z_le_c rfl (z_le_n (z_le_c rfl (z_le_c rfl (z_le_n z_le_0)))))
    · have hf := z_if_f hf c10
      refine z_aload_n dX12_check_45 rfl rfl (z_okl g_a0) ?_
      refine y_getR lfX12_61 rfl g_a0 dX12_check_46 ?_
      refine y_getR lfX12_100 rfl g9 dX12_check_49 ?_
      refine z_iload_n dX12_check_52 rfl rfl ?_
      obtain ⟨g16, hf⟩ := z_g_el hf
      refine y_aald (t := 1) (Or.inr rfl) g16 dX12_check_53 ?_
      obtain ⟨g17, hf⟩ := z_g_el hf
      refine y_getI lfX12_209 rfl g17 dX12_check_54 ?_
      refine z_goto (tgt := 61) dX12_check_57 (by decide) ?_
      exact y_sub (wX12_check_j61_30 hd g_a0 hf hk) (z_le_c rfl (z_le_n (z_le_c rfl (z_le_c rfl (z_le_n z_le_0)))))
def fX12_check (a0 : Nat) (x1 : Int32) (I : Nat → Nat → Int32) (R : Nat → Nat → Nat) : Option (Int32 × (Nat → Nat → Int32)) :=
  z_g (z_ob a0 12) (z_b (fX12_within x1 (0 : Int32) (8 : Int32)) (fun q1 => if q1 = 0 then (some ((-2 : Int32), I)) else (z_g (z_ob (R a0 0) 10) (z_b (fX10_length (R a0 0) I) (fun q3 => if x1 ≤ q3 then (z_l (x1 - (1 : Int32)) (fun t6 => z_b (z_lp (fX12_check_b30 a0 I R) 300 ((-1 : Int32), t6)) (fun q18 => z_b (fX10_clear (R a0 0) I) (fun q19 => some (q18, q19))))) else (some ((-2 : Int32), I)))))))
theorem vX12_check {G : z_G} {d : Nat} {Q : Option Value → z_S → z_H → Prop} {a0 : Nat} {x1 : Int32} {I : Nat → Nat → Int32} {R : Nat → Nat → Nat} {q : Int32 × (Nat → Nat → Int32)} (hd : 3 ≤ d) (hf : fX12_check a0 x1 I R = some q) (hk : Q (some (.int q.1)) z_SH (q.2, R)) : z_W G eX12_check d 0 0 0 [some (.ref a0), some (.int x1), none, none, none] [] z_SH (I, R) Q := by
  unfold fX12_check at hf
  obtain ⟨g_a0, hf⟩ := z_g_el hf
  refine z_iload_n dX12_check_0 rfl rfl ?_
  refine z_iconst dX12_check_1 kc_0 ?_
  refine z_bipush dX12_check_2 kb_8 ?_
  obtain ⟨q1, hq1, hf⟩ := z_b_el hf
  refine y_cSi (Nat.le_trans (Nat.le_of_ble_eq_true rfl) hd) (wX12_within (z_dl rfl hd) hq1) oX12_within lmX12_96 sX12_within _ rfl rfl (Nat.le_of_ble_eq_true rfl) dX12_check_4 ?_
  refine z_if_eq (tgt := 21) dX12_check_7 (by decide) (fun c2 => ?_) (fun c2 => ?_)
  · have hf := z_if_t hf c2
    refine z_bipush dX12_check_21 kb_m2 ?_
    cases hf
    exact z_iret hk ⟨_, rfl, rfl⟩ dX12_check_23
  · have hf := z_if_f hf c2
    refine z_iload_n dX12_check_10 rfl rfl ?_
    refine z_aload_n dX12_check_11 rfl rfl (z_okl g_a0) ?_
    refine y_getR lfX12_10 rfl g_a0 dX12_check_12 ?_
    obtain ⟨g4, hf⟩ := z_g_el hf
    obtain ⟨q3, hq3, hf⟩ := z_b_el hf
    refine y_cVi (av := []) (Nat.le_trans (Nat.le_of_ble_eq_true rfl) hd) (wX10_length (z_dl rfl hd) hq3) oX10_length lmX12_149 iX10_length g4 rfl _ rfl rfl (Nat.le_of_ble_eq_true rfl) dX12_check_15 ?_
    refine z_icmp_le (tgt := 24) dX12_check_18 (by decide) (fun c5 => ?_) (fun c5 => ?_)
    · have hf := z_if_t hf c5
      refine z_iconst dX12_check_24 kc_m1 ?_
      refine y_istore_n0 [some (.ref a0), some (.int x1), some (.int (-1 : Int32)), none, none] dX12_check_25 rfl (by decide) rfl ?_
      refine z_iload_n dX12_check_26 rfl rfl ?_
      refine z_iconst dX12_check_27 kc_1 ?_
      refine z_isub dX12_check_28 ?_
      refine y_istore_n (fun t6 => [some (.ref a0), some (.int x1), some (.int (-1 : Int32)), some (.int t6), none]) dX12_check_29 rfl (by decide) (fun _ => rfl) (fun t6 et6 => ?_)
      have hf := z_l_el hf et6
      obtain ⟨q18, hq18, hf⟩ := z_b_el hf
      refine y_sub (lv' := [some (.ref a0), none, some (.int (-1 : Int32)), some (.int t6), none]) ?_ (z_le_c rfl (z_le_n (z_le_c rfl (z_le_c rfl (z_le_n z_le_0)))))
      refine z_lp_el (P := (fun s : Int32 × Int32 => z_W G eX12_check d 0 0 30 [some (.ref a0), none, some (.int s.1), some (.int s.2), none] [] z_SH (I, R) Q)) (E := (fun x : Int32 => z_W G eX12_check d 0 0 84 [some (.ref a0), none, some (.int x), none, none] [] z_SH (I, R) Q)) (wX12_check_b30 hd g_a0) 300 ((-1 : Int32), t6) q18 hq18 ?_
      show z_W G eX12_check d 0 0 84 [some (.ref a0), none, some (.int q18), none, none] [] z_SH (I, R) _
      refine z_aload_n dX12_check_84 rfl rfl (z_okl g_a0) ?_
      refine y_getR lfX12_10 rfl g_a0 dX12_check_85 ?_
      obtain ⟨q19, hq19, hf⟩ := z_b_el hf
      refine y_cVv (av := []) (Nat.le_trans (Nat.le_of_ble_eq_true rfl) hd) (wX10_clear (z_dl rfl hd) hq19) oX10_clear lmX12_158 iX10_clear g4 rfl _ rfl rfl (Nat.le_of_ble_eq_true rfl) dX12_check_88 ?_
      refine z_iload_n dX12_check_91 rfl rfl ?_
      cases hf
      exact z_iret hk ⟨_, rfl, rfl⟩ dX12_check_92
    · have hf := z_if_f hf c5
      refine z_bipush dX12_check_21 kb_m2 ?_
      cases hf
      exact z_iret hk ⟨_, rfl, rfl⟩ dX12_check_23
theorem wX12_check {G : z_G} {d : Nat} {a0 : Nat} {x1 : Int32} {I : Nat → Nat → Int32} {R : Nat → Nat → Nat} {q : Int32 × (Nat → Nat → Int32)} (hd : 3 ≤ d) (hf : fX12_check a0 x1 I R = some q) : z_M G d 0 0 eX12_check [.ref a0, .int x1] z_SH (I, R) (z_E (some (.int q.1)) (q.2, R)) :=
  y_M_of _ (by decide +kernel) rfl rfl rfl (vX12_check hd hf ⟨rfl, rfl, rfl⟩)
def fX12_count (a0 : Nat) (x1 : Int32) (I : Nat → Nat → Int32) (R : Nat → Nat → Nat) : Option (Int32) :=
  z_g (z_ob a0 12) (z_b (fX12_within x1 (10 : Int32) (17 : Int32)) (fun q1 => if q1 = 0 then (z_b (fX12_within x1 (20 : Int32) (27 : Int32)) (fun q3 => if q3 = 0 then (if x1 = (0 : Int32) then (z_g (z_ob (R a0 5) 9) (some (I (R a0 5) 1))) else (if x1 = (1 : Int32) then (z_g (z_ob (R a0 5) 9) (z_b (fX9_toldBits (R a0 5) I R) (fun q8 => some q8))) else (if x1 = (2 : Int32) then (z_g (z_ob (R a0 4) 2) (z_b (fX2_doneBits (R a0 4) (R a0 5) I R) (fun q11 => some q11))) else (if x1 = (3 : Int32) then (z_g (z_ob (R a0 5) 9) (z_b (fX9_waitingBits (R a0 5) I R) (fun q14 => some q14))) else (if x1 = (4 : Int32) then (z_g (z_ob (R a0 1) 7) (some (I (R a0 1) 4))) else (if x1 = (5 : Int32) then (z_g (z_ob (R a0 1) 7) (some (I (R a0 1) 5))) else (if x1 = (6 : Int32) then (z_g (z_ob (R a0 1) 7) (z_g (z_ob (R (R a0 1) 2) 3) (z_b (fX3_ruleCount (R (R a0 1) 2) I) (fun q22 => some q22)))) else (if x1 = (7 : Int32) then (z_g (z_ob (R a0 0) 10) (z_b (fX10_length (R a0 0) I) (fun q25 => some q25))) else (if x1 = (8 : Int32) then (z_g (z_ob (R a0 5) 9) (some (I (R a0 5) 2))) else (some (-1 : Int32))))))))))) else (z_g (z_ob (R a0 1) 7) (z_g (z_ok 3 (R (R a0 1) 0) (x1 - (20 : Int32))) (z_g (z_ob (R (R (R a0 1) 0) (x1 - (20 : Int32)).toNatClampNeg) 5) (z_b (fX5_fermatas (R (R (R a0 1) 0) (x1 - (20 : Int32)).toNatClampNeg) I R) (fun q31 => some q31))))))) else (z_g (z_ob (R a0 1) 7) (z_g (z_ok 3 (R (R a0 1) 0) (x1 - (10 : Int32))) (z_g (z_ob (R (R (R a0 1) 0) (x1 - (10 : Int32)).toNatClampNeg) 5) (z_b (fX5_length (R (R (R a0 1) 0) (x1 - (10 : Int32)).toNatClampNeg) I) (fun q35 => some q35)))))))
set_option maxRecDepth 20000 in
theorem vX12_count {G : z_G} {d : Nat} {Q : Option Value → z_S → z_H → Prop} {a0 : Nat} {x1 : Int32} {I : Nat → Nat → Int32} {R : Nat → Nat → Nat} {q : Int32} (hd : 4 ≤ d) (hf : fX12_count a0 x1 I R = some q) (hk : Q (some (.int q)) z_SH (I, R)) : z_W G eX12_count d 0 0 0 [some (.ref a0), some (.int x1)] [] z_SH (I, R) Q := by
  unfold fX12_count at hf
  obtain ⟨g_a0, hf⟩ := z_g_el hf
  refine z_iload_n dX12_count_0 rfl rfl ?_
  refine z_bipush dX12_count_1 kb_10 ?_
  refine z_bipush dX12_count_3 kb_17 ?_
  obtain ⟨q1, hq1, hf⟩ := z_b_el hf
  refine y_cSi (Nat.le_trans (Nat.le_of_ble_eq_true rfl) hd) (wX12_within (z_dl rfl hd) hq1) oX12_within lmX12_96 sX12_within _ rfl rfl (Nat.le_of_ble_eq_true rfl) dX12_count_5 ?_
  refine z_if_eq (tgt := 27) dX12_count_8 (by decide) (fun c2 => ?_) (fun c2 => ?_)
  · have hf := z_if_t hf c2
    refine z_iload_n dX12_count_27 rfl rfl ?_
    refine z_bipush dX12_count_28 kb_20 ?_
    refine z_bipush dX12_count_30 kb_27 ?_
    obtain ⟨q3, hq3, hf⟩ := z_b_el hf
    refine y_cSi (Nat.le_trans (Nat.le_of_ble_eq_true rfl) hd) (wX12_within (z_dl rfl hd) hq3) oX12_within lmX12_96 sX12_within _ rfl rfl (Nat.le_of_ble_eq_true rfl) dX12_count_32 ?_
    refine z_if_eq (tgt := 54) dX12_count_35 (by decide) (fun c4 => ?_) (fun c4 => ?_)
    · have hf := z_if_t hf c4
      refine z_iload_n dX12_count_54 rfl rfl ?_
      by_cases c5 : x1 = (0 : Int32)
      · have hf := z_if_t hf c5
        refine z_tabIn (off := 49) (tgt := 104) dX12_count_55 (by rw [c5]; decide) (by rw [c5]; decide) (by rw [c5]; rfl) (by decide) ?_
        refine z_aload_n dX12_count_104 rfl rfl (z_okl g_a0) ?_
        refine y_getR lfX12_61 rfl g_a0 dX12_count_105 ?_
        obtain ⟨g6, hf⟩ := z_g_el hf
        refine y_getI lfX12_354 rfl g6 dX12_count_108 ?_
        cases hf
        exact z_iret hk ⟨_, rfl, rfl⟩ dX12_count_111
      · have hf := z_if_f hf c5
        by_cases c7 : x1 = (1 : Int32)
        · have hf := z_if_t hf c7
          refine z_tabIn (off := 57) (tgt := 112) dX12_count_55 (by rw [c7]; decide) (by rw [c7]; decide) (by rw [c7]; rfl) (by decide) ?_
          refine z_aload_n dX12_count_112 rfl rfl (z_okl g_a0) ?_
          refine y_getR lfX12_61 rfl g_a0 dX12_count_113 ?_
          obtain ⟨g9, hf⟩ := z_g_el hf
          obtain ⟨q8, hq8, hf⟩ := z_b_el hf
          refine y_cVi (av := []) (Nat.le_trans (Nat.le_of_ble_eq_true rfl) hd) (wX9_toldBits (z_dl rfl hd) hq8) oX9_toldBits lmX12_132 iX9_toldBits g9 rfl _ rfl rfl (Nat.le_of_ble_eq_true rfl) dX12_count_116 ?_
          cases hf
          exact z_iret hk ⟨_, rfl, rfl⟩ dX12_count_119
        · have hf := z_if_f hf c7
          by_cases c10 : x1 = (2 : Int32)
          · have hf := z_if_t hf c10
            refine z_tabIn (off := 65) (tgt := 120) dX12_count_55 (by rw [c10]; decide) (by rw [c10]; decide) (by rw [c10]; rfl) (by decide) ?_
            refine z_aload_n dX12_count_120 rfl rfl (z_okl g_a0) ?_
            refine y_getR lfX12_54 rfl g_a0 dX12_count_121 ?_
            refine z_aload_n dX12_count_124 rfl rfl (z_okl g_a0) ?_
            refine y_getR lfX12_61 rfl g_a0 dX12_count_125 ?_
            obtain ⟨g12, hf⟩ := z_g_el hf
            obtain ⟨q11, hq11, hf⟩ := z_b_el hf
            refine y_cVi (av := [.ref (R a0 5)]) (Nat.le_trans (Nat.le_of_ble_eq_true rfl) hd) (wX2_doneBits (z_dl rfl hd) hq11) oX2_doneBits lmX12_246 iX2_doneBits g12 rfl _ rfl rfl (Nat.le_of_ble_eq_true rfl) dX12_count_128 ?_
            cases hf
            exact z_iret hk ⟨_, rfl, rfl⟩ dX12_count_131
          · have hf := z_if_f hf c10
            by_cases c13 : x1 = (3 : Int32)
            · have hf := z_if_t hf c13
              refine z_tabIn (off := 77) (tgt := 132) dX12_count_55 (by rw [c13]; decide) (by rw [c13]; decide) (by rw [c13]; rfl) (by decide) ?_
              refine z_aload_n dX12_count_132 rfl rfl (z_okl g_a0) ?_
              refine y_getR lfX12_61 rfl g_a0 dX12_count_133 ?_
              obtain ⟨g15, hf⟩ := z_g_el hf
              obtain ⟨q14, hq14, hf⟩ := z_b_el hf
              refine y_cVi (av := []) (Nat.le_trans (Nat.le_of_ble_eq_true rfl) hd) (wX9_waitingBits (z_dl rfl hd) hq14) oX9_waitingBits lmX12_206 iX9_waitingBits g15 rfl _ rfl rfl (Nat.le_of_ble_eq_true rfl) dX12_count_136 ?_
              cases hf
              exact z_iret hk ⟨_, rfl, rfl⟩ dX12_count_139
            · have hf := z_if_f hf c13
              by_cases c16 : x1 = (4 : Int32)
              · have hf := z_if_t hf c16
                refine z_tabIn (off := 85) (tgt := 140) dX12_count_55 (by rw [c16]; decide) (by rw [c16]; decide) (by rw [c16]; rfl) (by decide) ?_
                refine z_aload_n dX12_count_140 rfl rfl (z_okl g_a0) ?_
                refine y_getR lfX12_19 rfl g_a0 dX12_count_141 ?_
                obtain ⟨g17, hf⟩ := z_g_el hf
                refine y_getI lfX12_126 rfl g17 dX12_count_144 ?_
                cases hf
                exact z_iret hk ⟨_, rfl, rfl⟩ dX12_count_147
              · have hf := z_if_f hf c16
                by_cases c18 : x1 = (5 : Int32)
                · have hf := z_if_t hf c18
                  refine z_tabIn (off := 93) (tgt := 148) dX12_count_55 (by rw [c18]; decide) (by rw [c18]; decide) (by rw [c18]; rfl) (by decide) ?_
                  refine z_aload_n dX12_count_148 rfl rfl (z_okl g_a0) ?_
                  refine y_getR lfX12_19 rfl g_a0 dX12_count_149 ?_
                  obtain ⟨g19, hf⟩ := z_g_el hf
                  refine y_getI lfX12_129 rfl g19 dX12_count_152 ?_
                  cases hf
                  exact z_iret hk ⟨_, rfl, rfl⟩ dX12_count_155
                · have hf := z_if_f hf c18
                  by_cases c20 : x1 = (6 : Int32)
                  · have hf := z_if_t hf c20
                    refine z_tabIn (off := 101) (tgt := 156) dX12_count_55 (by rw [c20]; decide) (by rw [c20]; decide) (by rw [c20]; rfl) (by decide) ?_
                    refine z_aload_n dX12_count_156 rfl rfl (z_okl g_a0) ?_
                    refine y_getR lfX12_19 rfl g_a0 dX12_count_157 ?_
                    obtain ⟨g21, hf⟩ := z_g_el hf
                    refine y_getR lfX12_363 rfl g21 dX12_count_160 ?_
                    obtain ⟨g23, hf⟩ := z_g_el hf
                    obtain ⟨q22, hq22, hf⟩ := z_b_el hf
                    refine y_cVi (av := []) (Nat.le_trans (Nat.le_of_ble_eq_true rfl) hd) (wX3_ruleCount (z_dl rfl hd) hq22) oX3_ruleCount lmX12_366 iX3_ruleCount g23 rfl _ rfl rfl (Nat.le_of_ble_eq_true rfl) dX12_count_163 ?_
                    cases hf
                    exact z_iret hk ⟨_, rfl, rfl⟩ dX12_count_166
                  · have hf := z_if_f hf c20
                    by_cases c24 : x1 = (7 : Int32)
                    · have hf := z_if_t hf c24
                      refine z_tabIn (off := 112) (tgt := 167) dX12_count_55 (by rw [c24]; decide) (by rw [c24]; decide) (by rw [c24]; rfl) (by decide) ?_
                      refine z_aload_n dX12_count_167 rfl rfl (z_okl g_a0) ?_
                      refine y_getR lfX12_10 rfl g_a0 dX12_count_168 ?_
                      obtain ⟨g26, hf⟩ := z_g_el hf
                      obtain ⟨q25, hq25, hf⟩ := z_b_el hf
                      refine y_cVi (av := []) (Nat.le_trans (Nat.le_of_ble_eq_true rfl) hd) (wX10_length (z_dl rfl hd) hq25) oX10_length lmX12_149 iX10_length g26 rfl _ rfl rfl (Nat.le_of_ble_eq_true rfl) dX12_count_171 ?_
                      cases hf
                      exact z_iret hk ⟨_, rfl, rfl⟩ dX12_count_174
                    · have hf := z_if_f hf c24
                      by_cases c27 : x1 = (8 : Int32)
                      · have hf := z_if_t hf c27
                        refine z_tabIn (off := 120) (tgt := 175) dX12_count_55 (by rw [c27]; decide) (by rw [c27]; decide) (by rw [c27]; rfl) (by decide) ?_
                        refine z_aload_n dX12_count_175 rfl rfl (z_okl g_a0) ?_
                        refine y_getR lfX12_61 rfl g_a0 dX12_count_176 ?_
                        obtain ⟨g28, hf⟩ := z_g_el hf
                        refine y_getI lfX12_348 rfl g28 dX12_count_179 ?_
                        cases hf
                        exact z_iret hk ⟨_, rfl, rfl⟩ dX12_count_182
                      · have hf := z_if_f hf c27
                        have nc5 : ¬ (x1).toInt = 0 := z_toInt_ne c5
                        have nc7 : ¬ (x1).toInt = 1 := z_toInt_ne c7
                        have nc10 : ¬ (x1).toInt = 2 := z_toInt_ne c10
                        have nc13 : ¬ (x1).toInt = 3 := z_toInt_ne c13
                        have nc16 : ¬ (x1).toInt = 4 := z_toInt_ne c16
                        have nc18 : ¬ (x1).toInt = 5 := z_toInt_ne c18
                        have nc20 : ¬ (x1).toInt = 6 := z_toInt_ne c20
                        have nc24 : ¬ (x1).toInt = 7 := z_toInt_ne c24
                        have nc27 : ¬ (x1).toInt = 8 := z_toInt_ne c27
                        refine z_tabOut (tgt := 183) dX12_count_55 (by omega) (by decide) ?_
                        refine z_iconst dX12_count_183 kc_m1 ?_
                        cases hf
                        exact z_iret hk ⟨_, rfl, rfl⟩ dX12_count_184
    · have hf := z_if_f hf c4
      refine z_aload_n dX12_count_38 rfl rfl (z_okl g_a0) ?_
      refine y_getR lfX12_19 rfl g_a0 dX12_count_39 ?_
      obtain ⟨g29, hf⟩ := z_g_el hf
      refine y_getR lfX12_229 rfl g29 dX12_count_42 ?_
      refine z_iload_n dX12_count_45 rfl rfl ?_
      refine z_bipush dX12_count_46 kb_20 ?_
      refine z_isub dX12_count_48 ?_
      obtain ⟨g30, hf⟩ := z_g_el hf
      refine y_aald (t := 0) (Or.inl rfl) g30 dX12_count_49 ?_
      obtain ⟨g32, hf⟩ := z_g_el hf
      obtain ⟨q31, hq31, hf⟩ := z_b_el hf
      refine y_cVi (av := []) (Nat.le_trans (Nat.le_of_ble_eq_true rfl) hd) (wX5_fermatas (z_dl rfl hd) hq31) oX5_fermatas lmX12_360 iX5_fermatas g32 rfl _ rfl rfl (Nat.le_of_ble_eq_true rfl) dX12_count_50 ?_
      cases hf
      exact z_iret hk ⟨_, rfl, rfl⟩ dX12_count_53
  · have hf := z_if_f hf c2
    refine z_aload_n dX12_count_11 rfl rfl (z_okl g_a0) ?_
    refine y_getR lfX12_19 rfl g_a0 dX12_count_12 ?_
    obtain ⟨g33, hf⟩ := z_g_el hf
    refine y_getR lfX12_229 rfl g33 dX12_count_15 ?_
    refine z_iload_n dX12_count_18 rfl rfl ?_
    refine z_bipush dX12_count_19 kb_10 ?_
    refine z_isub dX12_count_21 ?_
    obtain ⟨g34, hf⟩ := z_g_el hf
    refine y_aald (t := 0) (Or.inl rfl) g34 dX12_count_22 ?_
    obtain ⟨g36, hf⟩ := z_g_el hf
    obtain ⟨q35, hq35, hf⟩ := z_b_el hf
    refine y_cVi (av := []) (Nat.le_trans (Nat.le_of_ble_eq_true rfl) hd) (wX5_length (z_dl rfl hd) hq35) oX5_length lmX12_233 iX5_length g36 rfl _ rfl rfl (Nat.le_of_ble_eq_true rfl) dX12_count_23 ?_
    cases hf
    exact z_iret hk ⟨_, rfl, rfl⟩ dX12_count_26
theorem wX12_count {G : z_G} {d : Nat} {a0 : Nat} {x1 : Int32} {I : Nat → Nat → Int32} {R : Nat → Nat → Nat} {q : Int32} (hd : 4 ≤ d) (hf : fX12_count a0 x1 I R = some q) : z_M G d 0 0 eX12_count [.ref a0, .int x1] z_SH (I, R) (z_E (some (.int q)) (I, R)) :=
  y_M_of _ (by decide +kernel) rfl rfl rfl (vX12_count hd hf ⟨rfl, rfl, rfl⟩)
