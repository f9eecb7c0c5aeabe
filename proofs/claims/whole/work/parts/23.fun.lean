def fX13_attacks_b16 (a0 : Nat) (z1 : Int32) (I : Nat → Nat → Int32) (R : Nat → Nat → Nat) : (Int32 × Int32) → Option ((Int32 × Int32) ⊕ (Int32)) :=
  fun s => (fun (p2 : Int32) (p3 : Int32) => if (8 : Int32) ≤ p3 then (some (.inr p2)) else (z_b (fX13_isTold a0 p3 I R) (fun q4 => if q4 = 0 then (z_l (p3 + (1 : Int32)) (fun t6 => some (.inl (p2, t6)))) else (z_g (z_ok 1 (R a0 9) p3) (if (I (R a0 9) p3.toNatClampNeg) ≤ z1 then (z_l (p3 + (1 : Int32)) (fun t9 => some (.inl (p2, t9)))) else (z_g (z_ok 1 (R a0 8) (((60 : Int32) * p3) + z1)) (if (I (R a0 8) (((60 : Int32) * p3) + z1).toNatClampNeg) = (1 : Int32) then (z_g (z_ok 1 (R a0 5) (((60 : Int32) * p3) + z1)) (if (I (R a0 5) (((60 : Int32) * p3) + z1).toNatClampNeg) ≤ 0 then (z_l (p3 + (1 : Int32)) (fun t15 => some (.inl (p2, t15)))) else (z_l (p2 + (1 : Int32)) (fun t16 => z_l (p3 + (1 : Int32)) (fun t17 => some (.inl (t16, t17))))))) else (z_l (p3 + (1 : Int32)) (fun t12 => some (.inl (p2, t12))))))))))) s.1 s.2
theorem wX13_attacks_b16 {G : z_G} {d : Nat} {Q : Option Value → z_S → z_H → Prop} {a0 : Nat} {z1 : Int32} {I : Nat → Nat → Int32} {R : Nat → Nat → Nat} (hd : 2 ≤ d) (g_a0 : z_ob a0 13) : ∀ (s : Int32 × Int32) (o : (Int32 × Int32) ⊕ (Int32)), fX13_attacks_b16 a0 z1 I R s = some o → z_or (fun s : Int32 × Int32 => z_W G eX13_attacks d 0 0 16 [some (.ref a0), some (.int z1), some (.int s.1), some (.int s.2)] [] z_SH (I, R) Q) (fun x : Int32 => z_W G eX13_attacks d 0 0 79 [none, none, some (.int x), none] [] z_SH (I, R) Q) o → (fun s : Int32 × Int32 => z_W G eX13_attacks d 0 0 16 [some (.ref a0), some (.int z1), some (.int s.1), some (.int s.2)] [] z_SH (I, R) Q) s := by
  rintro ⟨p2, p3⟩ o hf hk
  show z_W G eX13_attacks d 0 0 16 [some (.ref a0), some (.int z1), some (.int p2), some (.int p3)] [] z_SH (I, R) Q
  unfold fX13_attacks_b16 at hf
  try dsimp only at hf
  refine z_iload_n dX13_attacks_16 rfl rfl ?_
  refine z_bipush dX13_attacks_17 kb_8 ?_
  refine z_icmp_ge (tgt := 79) dX13_attacks_19 (by decide) (fun c3 => ?_) (fun c3 => ?_)
  · have hf := z_if_t hf c3
    cases hf
    exact y_sub hk (z_le_n (z_le_n (z_le_c rfl (z_le_n z_le_0))))
  · have hf := z_if_f hf c3
    refine z_aload_n dX13_attacks_22 rfl rfl (z_okl g_a0) ?_
    refine z_iload_n dX13_attacks_23 rfl rfl ?_
    obtain ⟨q4, hq4, hf⟩ := z_b_el hf
    refine y_cVi (av := [.int p3]) (Nat.le_trans (Nat.le_of_ble_eq_true rfl) hd) (wX13_isTold (z_dl rfl hd) hq4) oX13_isTold lmX13_118 iX13_isTold g_a0 rfl _ rfl rfl (Nat.le_of_ble_eq_true rfl) dX13_attacks_24 ?_
    refine z_if_eq (tgt := 73) dX13_attacks_27 (by decide) (fun c5 => ?_) (fun c5 => ?_)
    · have hf := z_if_t hf c5
      refine y_iinc (fun t6 => [some (.ref a0), some (.int z1), some (.int p2), some (.int t6)]) dX13_attacks_73 rfl kc_1 (by decide) (fun _ => rfl) (fun t6 et6 => ?_)
      have hf := z_l_el hf et6
      refine z_goto (tgt := 16) dX13_attacks_76 (by decide) ?_
      cases hf
      exact y_sub hk (z_le_c rfl (z_le_c rfl (z_le_c rfl (z_le_c rfl z_le_0))))
    · have hf := z_if_f hf c5
      refine z_iload_n dX13_attacks_30 rfl rfl ?_
      refine z_aload_n dX13_attacks_31 rfl rfl (z_okl g_a0) ?_
      refine y_getR lfX13_31 rfl g_a0 dX13_attacks_32 ?_
      refine z_iload_n dX13_attacks_35 rfl rfl ?_
      obtain ⟨g7, hf⟩ := z_g_el hf
      refine y_iald g7 dX13_attacks_36 ?_
      refine z_icmp_ge (tgt := 73) dX13_attacks_37 (by decide) (fun c8 => ?_) (fun c8 => ?_)
      · have hf := z_if_t hf c8
        refine y_iinc (fun t9 => [some (.ref a0), some (.int z1), some (.int p2), some (.int t9)]) dX13_attacks_73 rfl kc_1 (by decide) (fun _ => rfl) (fun t9 et9 => ?_)
        have hf := z_l_el hf et9
        refine z_goto (tgt := 16) dX13_attacks_76 (by decide) ?_
        cases hf
        exact y_sub hk (z_le_c rfl (z_le_c rfl (z_le_c rfl (z_le_c rfl z_le_0))))
      · have hf := z_if_f hf c8
        refine z_aload_n dX13_attacks_40 rfl rfl (z_okl g_a0) ?_
        refine y_getR lfX13_28 rfl g_a0 dX13_attacks_41 ?_
        refine z_bipush dX13_attacks_44 kb_60 ?_
        refine z_iload_n dX13_attacks_46 rfl rfl ?_
        refine z_imul dX13_attacks_47 ?_
        refine z_iload_n dX13_attacks_48 rfl rfl ?_
        refine z_iadd dX13_attacks_49 ?_
        obtain ⟨g10, hf⟩ := z_g_el hf
        refine y_iald g10 dX13_attacks_50 ?_
        refine z_iconst dX13_attacks_51 kc_1 ?_
        refine z_icmp_ne (tgt := 73) dX13_attacks_52 (by decide) (fun c11 => ?_) (fun c11 => ?_)
        · have hf := z_if_f hf c11
          refine y_iinc (fun t12 => [some (.ref a0), some (.int z1), some (.int p2), some (.int t12)]) dX13_attacks_73 rfl kc_1 (by decide) (fun _ => rfl) (fun t12 et12 => ?_)
          have hf := z_l_el hf et12
          refine z_goto (tgt := 16) dX13_attacks_76 (by decide) ?_
          cases hf
          exact y_sub hk (z_le_c rfl (z_le_c rfl (z_le_c rfl (z_le_c rfl z_le_0))))
        · have hf := z_if_t hf c11
          refine z_aload_n dX13_attacks_55 rfl rfl (z_okl g_a0) ?_
          refine y_getR lfX13_19 rfl g_a0 dX13_attacks_56 ?_
          refine z_bipush dX13_attacks_59 kb_60 ?_
          refine z_iload_n dX13_attacks_61 rfl rfl ?_
          refine z_imul dX13_attacks_62 ?_
          refine z_iload_n dX13_attacks_63 rfl rfl ?_
          refine z_iadd dX13_attacks_64 ?_
          obtain ⟨g13, hf⟩ := z_g_el hf
          refine y_iald g13 dX13_attacks_65 ?_
          refine z_if_le (tgt := 73) dX13_attacks_66 (by decide) (fun c14 => ?_) (fun c14 => ?_)
          · have hf := z_if_t hf c14
            refine y_iinc (fun t15 => [some (.ref a0), some (.int z1), some (.int p2), some (.int t15)]) dX13_attacks_73 rfl kc_1 (by decide) (fun _ => rfl) (fun t15 et15 => ?_)
            have hf := z_l_el hf et15
            refine z_goto (tgt := 16) dX13_attacks_76 (by decide) ?_
            cases hf
            exact y_sub hk (z_le_c rfl (z_le_c rfl (z_le_c rfl (z_le_c rfl z_le_0))))
          · have hf := z_if_f hf c14
            refine z_iload_n dX13_attacks_69 rfl rfl ?_
            refine z_iconst dX13_attacks_70 kc_1 ?_
            refine z_iadd dX13_attacks_71 ?_
            refine y_istore_n (fun t16 => [some (.ref a0), some (.int z1), some (.int t16), some (.int p3)]) dX13_attacks_72 rfl (by decide) (fun _ => rfl) (fun t16 et16 => ?_)
            have hf := z_l_el hf et16
            refine y_iinc (fun t17 => [some (.ref a0), some (.int z1), some (.int t16), some (.int t17)]) dX13_attacks_73 rfl kc_1 (by decide) (fun _ => rfl) (fun t17 et17 => ?_)
            have hf := z_l_el hf et17
            refine z_goto (tgt := 16) dX13_attacks_76 (by decide) ?_
            cases hf
            exact y_sub hk (z_le_c rfl (z_le_c rfl (z_le_c rfl (z_le_c rfl z_le_0))))
def fX13_attacks (a0 : Nat) (x1 : Int32) (I : Nat → Nat → Int32) (R : Nat → Nat → Nat) : Option (Int32) :=
  z_g (z_ob a0 13) (z_b (fX13_in x1 (0 : Int32) (59 : Int32)) (fun q1 => if q1 = 0 then (some (-1 : Int32)) else (z_b (z_lp (fX13_attacks_b16 a0 x1 I R) 300 ((0 : Int32), (0 : Int32))) (fun q18 => some q18))))
theorem vX13_attacks {G : z_G} {d : Nat} {Q : Option Value → z_S → z_H → Prop} {a0 : Nat} {x1 : Int32} {I : Nat → Nat → Int32} {R : Nat → Nat → Nat} {q : Int32} (hd : 2 ≤ d) (hf : fX13_attacks a0 x1 I R = some q) (hk : Q (some (.int q)) z_SH (I, R)) : z_W G eX13_attacks d 0 0 0 [some (.ref a0), some (.int x1), none, none] [] z_SH (I, R) Q := by
  unfold fX13_attacks at hf
  obtain ⟨g_a0, hf⟩ := z_g_el hf
  refine z_iload_n dX13_attacks_0 rfl rfl ?_
  refine z_iconst dX13_attacks_1 kc_0 ?_
  refine z_bipush dX13_attacks_2 kb_59 ?_
  obtain ⟨q1, hq1, hf⟩ := z_b_el hf
  refine y_cSi (Nat.le_trans (Nat.le_of_ble_eq_true rfl) hd) (wX13_in (z_dl rfl hd) hq1) oX13_in lmX13_114 sX13_in _ rfl rfl (Nat.le_of_ble_eq_true rfl) dX13_attacks_4 ?_
  refine z_if_ne (tgt := 12) dX13_attacks_7 (by decide) (fun c2 => ?_) (fun c2 => ?_)
  · have hf := z_if_f hf c2
    refine z_iconst dX13_attacks_12 kc_0 ?_
    refine y_istore_n0 [some (.ref a0), some (.int x1), some (.int (0 : Int32)), none] dX13_attacks_13 rfl (by decide) rfl ?_
    refine z_iconst dX13_attacks_14 kc_0 ?_
    refine y_istore_n0 [some (.ref a0), some (.int x1), some (.int (0 : Int32)), some (.int (0 : Int32))] dX13_attacks_15 rfl (by decide) rfl ?_
    obtain ⟨q18, hq18, hf⟩ := z_b_el hf
    refine y_sub (lv' := [some (.ref a0), some (.int x1), some (.int (0 : Int32)), some (.int (0 : Int32))]) ?_ (z_le_c rfl (z_le_c rfl (z_le_c rfl (z_le_c rfl z_le_0))))
    refine z_lp_el (P := (fun s : Int32 × Int32 => z_W G eX13_attacks d 0 0 16 [some (.ref a0), some (.int x1), some (.int s.1), some (.int s.2)] [] z_SH (I, R) Q)) (E := (fun x : Int32 => z_W G eX13_attacks d 0 0 79 [none, none, some (.int x), none] [] z_SH (I, R) Q)) (wX13_attacks_b16 hd g_a0) 300 ((0 : Int32), (0 : Int32)) q18 hq18 ?_
    show z_W G eX13_attacks d 0 0 79 [none, none, some (.int q18), none] [] z_SH (I, R) _
    refine z_iload_n dX13_attacks_79 rfl rfl ?_
    cases hf
    exact z_iret hk ⟨_, rfl, rfl⟩ dX13_attacks_80
  · have hf := z_if_t hf c2
    refine z_iconst dX13_attacks_10 kc_m1 ?_
    cases hf
    exact z_iret hk ⟨_, rfl, rfl⟩ dX13_attacks_11
theorem wX13_attacks {G : z_G} {d : Nat} {a0 : Nat} {x1 : Int32} {I : Nat → Nat → Int32} {R : Nat → Nat → Nat} {q : Int32} (hd : 2 ≤ d) (hf : fX13_attacks a0 x1 I R = some q) : z_M G d 0 0 eX13_attacks [.ref a0, .int x1] z_SH (I, R) (z_E (some (.int q)) (I, R)) :=
  y_M_of _ (by decide +kernel) rfl rfl rfl (vX13_attacks hd hf ⟨rfl, rfl, rfl⟩)
def fX13_key_j78_43 (a0 : Nat) (z1 : Int32) (z2 : Int32) (z3 : Int32) (z4 : Int32) (z5 : Int32) (y7 : Int32) (v0 : Int32) (v1 : Int32) (I : Nat → Nat → Int32) (R : Nat → Nat → Nat) : Option ((Int32 × Int32) ⊕ (Int32)) :=
  z_l (v0 + v1) (fun t10 => z_l (y7 + (1 : Int32)) (fun t11 => some (.inl (t10, t11))))
theorem wX13_key_j78_43 {G : z_G} {d : Nat} {Q : Option Value → z_S → z_H → Prop} {a0 : Nat} {z1 : Int32} {z2 : Int32} {z3 : Int32} {z4 : Int32} {z5 : Int32} {y7 : Int32} {v0 : Int32} {v1 : Int32} {I : Nat → Nat → Int32} {R : Nat → Nat → Nat} {o : (Int32 × Int32) ⊕ (Int32)} (hd : 1 ≤ d) (g_a0 : z_ob a0 13) (hf : fX13_key_j78_43 a0 z1 z2 z3 z4 z5 y7 v0 v1 I R = some o) (hk : z_or (fun s : Int32 × Int32 => z_W G eX13_key d 0 0 43 [some (.ref a0), some (.int z1), some (.int z2), some (.int z3), some (.int z4), some (.int z5), some (.int s.1), some (.int s.2)] [] z_SH (I, R) Q) (fun x : Int32 => z_W G eX13_key d 0 0 87 [some (.ref a0), some (.int z1), some (.int z2), some (.int z3), some (.int z4), some (.int z5), some (.int x), none] [] z_SH (I, R) Q) o) : z_W G eX13_key d 0 0 78 [some (.ref a0), some (.int z1), some (.int z2), some (.int z3), some (.int z4), some (.int z5), none, some (.int y7)] [.int v1, .int v0] z_SH (I, R) Q := by
  unfold fX13_key_j78_43 at hf
  refine z_iadd dX13_key_78 ?_
  refine y_istore (fun t10 => [some (.ref a0), some (.int z1), some (.int z2), some (.int z3), some (.int z4), some (.int z5), some (.int t10), some (.int y7)]) dX13_key_79 (by decide) (fun _ => rfl) (fun t10 et10 => ?_)
  have hf := z_l_el hf et10
  refine y_iinc (fun t11 => [some (.ref a0), some (.int z1), some (.int z2), some (.int z3), some (.int z4), some (.int z5), some (.int t10), some (.int t11)]) dX13_key_81 rfl kc_1 (by decide) (fun _ => rfl) (fun t11 et11 => ?_)
  have hf := z_l_el hf et11
  refine z_goto (tgt := 43) dX13_key_84 (by decide) ?_
  cases hf
  exact y_sub hk (z_le_c rfl (z_le_c rfl (z_le_c rfl (z_le_c rfl (z_le_c rfl (z_le_c rfl (z_le_c rfl (z_le_c rfl z_le_0))))))))
def fX13_key_b43 (a0 : Nat) (z1 : Int32) (z2 : Int32) (z3 : Int32) (z4 : Int32) (z5 : Int32) (I : Nat → Nat → Int32) (R : Nat → Nat → Nat) : (Int32 × Int32) → Option ((Int32 × Int32) ⊕ (Int32)) :=
  fun s => (fun (p6 : Int32) (p7 : Int32) => z_g (z_ok 1 (R a0 9) z1) (if (I (R a0 9) z1.toNatClampNeg) ≤ p7 then (some (.inr p6)) else (z_g (z_ok 1 (R a0 5) (((60 : Int32) * z1) + p7)) (if (I (R a0 5) (((60 : Int32) * z1) + p7).toNatClampNeg) = z5 then (fX13_key_j78_43 a0 z1 z2 z3 z4 z5 p7 p6 (1 : Int32) I R) else (fX13_key_j78_43 a0 z1 z2 z3 z4 z5 p7 p6 (0 : Int32) I R))))) s.1 s.2
theorem wX13_key_b43 {G : z_G} {d : Nat} {Q : Option Value → z_S → z_H → Prop} {a0 : Nat} {z1 : Int32} {z2 : Int32} {z3 : Int32} {z4 : Int32} {z5 : Int32} {I : Nat → Nat → Int32} {R : Nat → Nat → Nat} (hd : 1 ≤ d) (g_a0 : z_ob a0 13) : ∀ (s : Int32 × Int32) (o : (Int32 × Int32) ⊕ (Int32)), fX13_key_b43 a0 z1 z2 z3 z4 z5 I R s = some o → z_or (fun s : Int32 × Int32 => z_W G eX13_key d 0 0 43 [some (.ref a0), some (.int z1), some (.int z2), some (.int z3), some (.int z4), some (.int z5), some (.int s.1), some (.int s.2)] [] z_SH (I, R) Q) (fun x : Int32 => z_W G eX13_key d 0 0 87 [some (.ref a0), some (.int z1), some (.int z2), some (.int z3), some (.int z4), some (.int z5), some (.int x), none] [] z_SH (I, R) Q) o → (fun s : Int32 × Int32 => z_W G eX13_key d 0 0 43 [some (.ref a0), some (.int z1), some (.int z2), some (.int z3), some (.int z4), some (.int z5), some (.int s.1), some (.int s.2)] [] z_SH (I, R) Q) s := by
  rintro ⟨p6, p7⟩ o hf hk
  show z_W G eX13_key d 0 0 43 [some (.ref a0), some (.int z1), some (.int z2), some (.int z3), some (.int z4), some (.int z5), some (.int p6), some (.int p7)] [] z_SH (I, R) Q
  unfold fX13_key_b43 at hf
  try dsimp only at hf
  refine z_iload dX13_key_43 rfl ?_
  refine z_aload_n dX13_key_45 rfl rfl (z_okl g_a0) ?_
  refine y_getR lfX13_31 rfl g_a0 dX13_key_46 ?_
  refine z_iload_n dX13_key_49 rfl rfl ?_
  obtain ⟨g6, hf⟩ := z_g_el hf
  refine y_iald g6 dX13_key_50 ?_
  refine z_icmp_ge (tgt := 87) dX13_key_51 (by decide) (fun c7 => ?_) (fun c7 => ?_)
  · have hf := z_if_t hf c7
    cases hf
    exact y_sub hk (z_le_c rfl (z_le_c rfl (z_le_c rfl (z_le_c rfl (z_le_c rfl (z_le_c rfl (z_le_c rfl (z_le_n z_le_0))))))))
  · have hf := z_if_f hf c7
    refine z_iload dX13_key_54 rfl ?_
    refine z_aload_n dX13_key_56 rfl rfl (z_okl g_a0) ?_
    refine y_getR lfX13_19 rfl g_a0 dX13_key_57 ?_
    refine z_bipush dX13_key_60 kb_60 ?_
    refine z_iload_n dX13_key_62 rfl rfl ?_
    refine z_imul dX13_key_63 ?_
    refine z_iload dX13_key_64 rfl ?_
    refine z_iadd dX13_key_66 ?_
    obtain ⟨g8, hf⟩ := z_g_el hf
    refine y_iald g8 dX13_key_67 ?_
    refine z_iload dX13_key_68 rfl ?_
    refine z_icmp_ne (tgt := 77) dX13_key_70 (by decide) (fun c9 => ?_) (fun c9 => ?_)
    · have hf := z_if_f hf c9
      refine z_iconst dX13_key_77 kc_0 ?_
      exact y_sub (wX13_key_j78_43 hd g_a0 hf hk) (z_le_c rfl (z_le_c rfl (z_le_c rfl (z_le_c rfl (z_le_c rfl (z_le_c rfl (z_le_n (z_le_c rfl z_le_0))))))))
    · have hf := z_if_t hf c9
      refine z_iconst dX13_key_73 kc_1 ?_
      refine z_goto (tgt := 78) dX13_key_74 (by decide) ?_
      exact y_sub (wX13_key_j78_43 hd g_a0 hf hk) (z_le_c rfl (z_le_c rfl (z_le_c rfl (z_le_c rfl (z_le_c rfl (z_le_c rfl (z_le_n (z_le_c rfl z_le_0))))))))
def fX13_key_b30 (a0 : Nat) (z1 : Int32) (z2 : Int32) (I : Nat → Nat → Int32) (R : Nat → Nat → Nat) : (Int32 × Int32 × Int32) → Option ((Int32 × Int32 × Int32) ⊕ (Int32 × Int32)) :=
  fun s => (fun (p3 : Int32) (p4 : Int32) (p5 : Int32) => if (7 : Int32) < p5 then (some (.inr (p3, p4))) else (z_b (z_lp (fX13_key_b43 a0 z1 z2 p3 p4 p5 I R) 300 ((0 : Int32), (0 : Int32))) (fun q12 => if p4 < q12 then (z_l (p5 + (1 : Int32)) (fun t14 => some (.inl (p5, q12, t14)))) else (z_l (p5 + (1 : Int32)) (fun t15 => some (.inl (p3, p4, t15))))))) s.1 s.2.1 s.2.2
theorem wX13_key_b30 {G : z_G} {d : Nat} {Q : Option Value → z_S → z_H → Prop} {a0 : Nat} {z1 : Int32} {z2 : Int32} {I : Nat → Nat → Int32} {R : Nat → Nat → Nat} (hd : 1 ≤ d) (g_a0 : z_ob a0 13) : ∀ (s : Int32 × Int32 × Int32) (o : (Int32 × Int32 × Int32) ⊕ (Int32 × Int32)), fX13_key_b30 a0 z1 z2 I R s = some o → z_or (fun s : Int32 × Int32 × Int32 => z_W G eX13_key d 0 0 30 [some (.ref a0), some (.int z1), some (.int z2), some (.int s.1), some (.int s.2.1), some (.int s.2.2), none, none] [] z_SH (I, R) Q) (fun x : Int32 × Int32 => z_W G eX13_key d 0 0 110 [none, none, some (.int z2), some (.int x.1), some (.int x.2), none, none, none] [] z_SH (I, R) Q) o → (fun s : Int32 × Int32 × Int32 => z_W G eX13_key d 0 0 30 [some (.ref a0), some (.int z1), some (.int z2), some (.int s.1), some (.int s.2.1), some (.int s.2.2), none, none] [] z_SH (I, R) Q) s := by
  rintro ⟨p3, p4, p5⟩ o hf hk
  show z_W G eX13_key d 0 0 30 [some (.ref a0), some (.int z1), some (.int z2), some (.int p3), some (.int p4), some (.int p5), none, none] [] z_SH (I, R) Q
  unfold fX13_key_b30 at hf
  try dsimp only at hf
  refine z_iload dX13_key_30 rfl ?_
  refine z_bipush dX13_key_32 kb_7 ?_
  refine z_icmp_gt (tgt := 110) dX13_key_34 (by decide) (fun c5 => ?_) (fun c5 => ?_)
  · have hf := z_if_t hf c5
    cases hf
    exact y_sub hk (z_le_n (z_le_n (z_le_c rfl (z_le_c rfl (z_le_c rfl (z_le_n (z_le_n (z_le_n z_le_0))))))))
  · have hf := z_if_f hf c5
    refine z_iconst dX13_key_37 kc_0 ?_
    refine y_istore0 [some (.ref a0), some (.int z1), some (.int z2), some (.int p3), some (.int p4), some (.int p5), some (.int (0 : Int32)), none] dX13_key_38 (by decide) rfl ?_
    refine z_iconst dX13_key_40 kc_0 ?_
    refine y_istore0 [some (.ref a0), some (.int z1), some (.int z2), some (.int p3), some (.int p4), some (.int p5), some (.int (0 : Int32)), some (.int (0 : Int32))] dX13_key_41 (by decide) rfl ?_
    obtain ⟨q12, hq12, hf⟩ := z_b_el hf
    refine y_sub (lv' := [some (.ref a0), some (.int z1), some (.int z2), some (.int p3), some (.int p4), some (.int p5), some (.int (0 : Int32)), some (.int (0 : Int32))]) ?_ (z_le_c rfl (z_le_c rfl (z_le_c rfl (z_le_c rfl (z_le_c rfl (z_le_c rfl (z_le_c rfl (z_le_c rfl z_le_0))))))))
    refine z_lp_el (P := (fun s : Int32 × Int32 => z_W G eX13_key d 0 0 43 [some (.ref a0), some (.int z1), some (.int z2), some (.int p3), some (.int p4), some (.int p5), some (.int s.1), some (.int s.2)] [] z_SH (I, R) Q)) (E := (fun x : Int32 => z_W G eX13_key d 0 0 87 [some (.ref a0), some (.int z1), some (.int z2), some (.int p3), some (.int p4), some (.int p5), some (.int x), none] [] z_SH (I, R) Q)) (wX13_key_b43 hd g_a0) 300 ((0 : Int32), (0 : Int32)) q12 hq12 ?_
    show z_W G eX13_key d 0 0 87 [some (.ref a0), some (.int z1), some (.int z2), some (.int p3), some (.int p4), some (.int p5), some (.int q12), none] [] z_SH (I, R) _
    refine z_iload dX13_key_87 rfl ?_
    refine z_iload dX13_key_89 rfl ?_
    refine z_icmp_gt (tgt := 97) dX13_key_91 (by decide) (fun c13 => ?_) (fun c13 => ?_)
    · have hf := z_if_t hf c13
      refine z_iload dX13_key_97 rfl ?_
      refine y_istore0 [some (.ref a0), some (.int z1), some (.int z2), some (.int p3), some (.int q12), some (.int p5), some (.int q12), none] dX13_key_99 (by decide) rfl ?_
      refine z_iload dX13_key_101 rfl ?_
      refine y_istore_n0 [some (.ref a0), some (.int z1), some (.int z2), some (.int p5), some (.int q12), some (.int p5), some (.int q12), none] dX13_key_103 rfl (by decide) rfl ?_
      refine y_iinc (fun t14 => [some (.ref a0), some (.int z1), some (.int z2), some (.int p5), some (.int q12), some (.int t14), some (.int q12), none]) dX13_key_104 rfl kc_1 (by decide) (fun _ => rfl) (fun t14 et14 => ?_)
      have hf := z_l_el hf et14
      refine z_goto (tgt := 30) dX13_key_107 (by decide) ?_
      cases hf
      exact y_sub hk (z_le_c rfl (z_le_c rfl (z_le_c rfl (z_le_c rfl (z_le_c rfl (z_le_c rfl (z_le_n (z_le_n z_le_0))))))))
    · have hf := z_if_f hf c13
      refine z_goto (tgt := 104) dX13_key_94 (by decide) ?_
      refine y_iinc (fun t15 => [some (.ref a0), some (.int z1), some (.int z2), some (.int p3), some (.int p4), some (.int t15), some (.int q12), none]) dX13_key_104 rfl kc_1 (by decide) (fun _ => rfl) (fun t15 et15 => ?_)
      have hf := z_l_el hf et15
      refine z_goto (tgt := 30) dX13_key_107 (by decide) ?_
      cases hf
      exact y_sub hk (z_le_c rfl (z_le_c rfl (z_le_c rfl (z_le_c rfl (z_le_c rfl (z_le_c rfl (z_le_n (z_le_n z_le_0))))))))
def fX13_key (a0 : Nat) (x1 : Int32) (x2 : Int32) (I : Nat → Nat → Int32) (R : Nat → Nat → Nat) : Option (Int32) :=
  z_g (z_ob a0 13) (z_b (fX13_in x1 (0 : Int32) (7 : Int32)) (fun q1 => if q1 = 0 then (some (-1 : Int32)) else (z_b (fX13_in x2 (0 : Int32) (1 : Int32)) (fun q3 => if q3 = 0 then (some (-1 : Int32)) else (z_b (z_lp (fX13_key_b30 a0 x1 x2 I R) 300 ((-2 : Int32), (0 : Int32), (1 : Int32))) (fun q16 => if x2 = 0 then (some q16.1) else (some q16.2)))))))
set_option maxRecDepth 20000 in
theorem vX13_key {G : z_G} {d : Nat} {Q : Option Value → z_S → z_H → Prop} {a0 : Nat} {x1 : Int32} {x2 : Int32} {I : Nat → Nat → Int32} {R : Nat → Nat → Nat} {q : Int32} (hd : 1 ≤ d) (hf : fX13_key a0 x1 x2 I R = some q) (hk : Q (some (.int q)) z_SH (I, R)) : z_W G eX13_key d 0 0 0 [some (.ref a0), some (.int x1), some (.int x2), none, none, none, none, none] [] z_SH (I, R) Q := by
  unfold fX13_key at hf
  obtain ⟨g_a0, hf⟩ := z_g_el hf
  refine z_iload_n dX13_key_0 rfl rfl ?_
  refine z_iconst dX13_key_1 kc_0 ?_
  refine z_bipush dX13_key_2 kb_7 ?_
  obtain ⟨q1, hq1, hf⟩ := z_b_el hf
  refine y_cSi (Nat.le_trans (Nat.le_of_ble_eq_true rfl) hd) (wX13_in (z_dl rfl hd) hq1) oX13_in lmX13_114 sX13_in _ rfl rfl (Nat.le_of_ble_eq_true rfl) dX13_key_4 ?_
  refine z_if_eq (tgt := 19) dX13_key_7 (by decide) (fun c2 => ?_) (fun c2 => ?_)
  · have hf := z_if_t hf c2
    refine z_iconst dX13_key_19 kc_m1 ?_
    cases hf
    exact z_iret hk ⟨_, rfl, rfl⟩ dX13_key_20
  · have hf := z_if_f hf c2
    refine z_iload_n dX13_key_10 rfl rfl ?_
    refine z_iconst dX13_key_11 kc_0 ?_
    refine z_iconst dX13_key_12 kc_1 ?_
    obtain ⟨q3, hq3, hf⟩ := z_b_el hf
    refine y_cSi (Nat.le_trans (Nat.le_of_ble_eq_true rfl) hd) (wX13_in (z_dl rfl hd) hq3) oX13_in lmX13_114 sX13_in _ rfl rfl (Nat.le_of_ble_eq_true rfl) dX13_key_13 ?_
    refine z_if_ne (tgt := 21) dX13_key_16 (by decide) (fun c4 => ?_) (fun c4 => ?_)
    · have hf := z_if_f hf c4
      refine z_bipush dX13_key_21 kb_m2 ?_
      refine y_istore_n0 [some (.ref a0), some (.int x1), some (.int x2), some (.int (-2 : Int32)), none, none, none, none] dX13_key_23 rfl (by decide) rfl ?_
      refine z_iconst dX13_key_24 kc_0 ?_
      refine y_istore0 [some (.ref a0), some (.int x1), some (.int x2), some (.int (-2 : Int32)), some (.int (0 : Int32)), none, none, none] dX13_key_25 (by decide) rfl ?_
      refine z_iconst dX13_key_27 kc_1 ?_
      refine y_istore0 [some (.ref a0), some (.int x1), some (.int x2), some (.int (-2 : Int32)), some (.int (0 : Int32)), some (.int (1 : Int32)), none, none] dX13_key_28 (by decide) rfl ?_
      obtain ⟨q16, hq16, hf⟩ := z_b_el hf
      refine y_sub (lv' := [some (.ref a0), some (.int x1), some (.int x2), some (.int (-2 : Int32)), some (.int (0 : Int32)), some (.int (1 : Int32)), none, none]) ?_ (z_le_c rfl (z_le_c rfl (z_le_c rfl (z_le_c rfl (z_le_c rfl (z_le_c rfl (z_le_n (z_le_n z_le_0))))))))
      refine z_lp_el (P := (fun s : Int32 × Int32 × Int32 => z_W G eX13_key d 0 0 30 [some (.ref a0), some (.int x1), some (.int x2), some (.int s.1), some (.int s.2.1), some (.int s.2.2), none, none] [] z_SH (I, R) Q)) (E := (fun x : Int32 × Int32 => z_W G eX13_key d 0 0 110 [none, none, some (.int x2), some (.int x.1), some (.int x.2), none, none, none] [] z_SH (I, R) Q)) (wX13_key_b30 hd g_a0) 300 ((-2 : Int32), (0 : Int32), (1 : Int32)) q16 hq16 ?_
      show z_W G eX13_key d 0 0 110 [none, none, some (.int x2), some (.int q16.1), some (.int q16.2), none, none, none] [] z_SH (I, R) _
      refine z_iload_n dX13_key_110 rfl rfl ?_
      refine z_if_ne (tgt := 118) dX13_key_111 (by decide) (fun c17 => ?_) (fun c17 => ?_)
      · have hf := z_if_f hf c17
        refine z_iload dX13_key_118 rfl ?_
        cases hf
        exact z_iret hk ⟨_, rfl, rfl⟩ dX13_key_120
      · have hf := z_if_t hf c17
        refine z_iload_n dX13_key_114 rfl rfl ?_
        refine z_goto (tgt := 120) dX13_key_115 (by decide) ?_
        cases hf
        exact z_iret hk ⟨_, rfl, rfl⟩ dX13_key_120
    · have hf := z_if_t hf c4
      refine z_iconst dX13_key_19 kc_m1 ?_
      cases hf
      exact z_iret hk ⟨_, rfl, rfl⟩ dX13_key_20
theorem wX13_key {G : z_G} {d : Nat} {a0 : Nat} {x1 : Int32} {x2 : Int32} {I : Nat → Nat → Int32} {R : Nat → Nat → Nat} {q : Int32} (hd : 1 ≤ d) (hf : fX13_key a0 x1 x2 I R = some q) : z_M G d 0 0 eX13_key [.ref a0, .int x1, .int x2] z_SH (I, R) (z_E (some (.int q)) (I, R)) :=
  y_M_of _ (by decide +kernel) rfl rfl rfl (vX13_key hd hf ⟨rfl, rfl, rfl⟩)
def fX13_tune (a0 : Nat) (x1 : Int32) (x2 : Int32) (I : Nat → Nat → Int32) (R : Nat → Nat → Nat) : Option (Int32 × (Nat → Nat → Int32)) :=
  z_g (z_ob a0 13) (z_b (fX13_in x1 (0 : Int32) (7 : Int32)) (fun q1 => if q1 = 0 then (some ((-1 : Int32), I)) else (if 0 ≤ x2 then (z_b (fX13_laysTune a0 x1 (R a0 52) I R) (fun q4 => if q4.1 ≤ x2 then (some ((-2 : Int32), q4.2)) else (z_g (z_ok 1 (R a0 52) x2) (some (q4.2 (R a0 52) x2.toNatClampNeg, q4.2))))) else (some ((-1 : Int32), I)))))
theorem vX13_tune {G : z_G} {d : Nat} {Q : Option Value → z_S → z_H → Prop} {a0 : Nat} {x1 : Int32} {x2 : Int32} {I : Nat → Nat → Int32} {R : Nat → Nat → Nat} {q : Int32 × (Nat → Nat → Int32)} (hd : 1 ≤ d) (hf : fX13_tune a0 x1 x2 I R = some q) (hk : Q (some (.int q.1)) z_SH (q.2, R)) : z_W G eX13_tune d 0 0 0 [some (.ref a0), some (.int x1), some (.int x2)] [] z_SH (I, R) Q := by
  unfold fX13_tune at hf
  obtain ⟨g_a0, hf⟩ := z_g_el hf
  refine z_iload_n dX13_tune_0 rfl rfl ?_
  refine z_iconst dX13_tune_1 kc_0 ?_
  refine z_bipush dX13_tune_2 kb_7 ?_
  obtain ⟨q1, hq1, hf⟩ := z_b_el hf
  refine y_cSi (Nat.le_trans (Nat.le_of_ble_eq_true rfl) hd) (wX13_in (z_dl rfl hd) hq1) oX13_in lmX13_114 sX13_in _ rfl rfl (Nat.le_of_ble_eq_true rfl) dX13_tune_4 ?_
  refine z_if_eq (tgt := 14) dX13_tune_7 (by decide) (fun c2 => ?_) (fun c2 => ?_)
  · have hf := z_if_t hf c2
    refine z_iconst dX13_tune_14 kc_m1 ?_
    cases hf
    exact z_iret hk ⟨_, rfl, rfl⟩ dX13_tune_15
  · have hf := z_if_f hf c2
    refine z_iload_n dX13_tune_10 rfl rfl ?_
    refine z_if_ge (tgt := 16) dX13_tune_11 (by decide) (fun c3 => ?_) (fun c3 => ?_)
    · have hf := z_if_t hf c3
      refine z_iload_n dX13_tune_16 rfl rfl ?_
      refine z_aload_n dX13_tune_17 rfl rfl (z_okl g_a0) ?_
      refine z_iload_n dX13_tune_18 rfl rfl ?_
      refine z_aload_n dX13_tune_19 rfl rfl (z_okl g_a0) ?_
      refine y_getR lfX13_98 rfl g_a0 dX13_tune_20 ?_
      obtain ⟨q4, hq4, hf⟩ := z_b_el hf
      refine y_cVi (av := [.int x1, .ref (R a0 52)]) (Nat.le_trans (Nat.le_of_ble_eq_true rfl) hd) (wX13_laysTune (z_dl rfl hd) hq4) oX13_laysTune lmX13_374 iX13_laysTune g_a0 rfl _ rfl rfl (Nat.le_of_ble_eq_true rfl) dX13_tune_23 ?_
      refine z_icmp_ge (tgt := 38) dX13_tune_26 (by decide) (fun c5 => ?_) (fun c5 => ?_)
      · have hf := z_if_t hf c5
        refine z_bipush dX13_tune_38 kb_m2 ?_
        cases hf
        exact z_iret hk ⟨_, rfl, rfl⟩ dX13_tune_40
      · have hf := z_if_f hf c5
        refine z_aload_n dX13_tune_29 rfl rfl (z_okl g_a0) ?_
        refine y_getR lfX13_98 rfl g_a0 dX13_tune_30 ?_
        refine z_iload_n dX13_tune_33 rfl rfl ?_
        obtain ⟨g6, hf⟩ := z_g_el hf
        refine y_iald g6 dX13_tune_34 ?_
        refine z_goto (tgt := 40) dX13_tune_35 (by decide) ?_
        cases hf
        exact z_iret hk ⟨_, rfl, rfl⟩ dX13_tune_40
    · have hf := z_if_f hf c3
      refine z_iconst dX13_tune_14 kc_m1 ?_
      cases hf
      exact z_iret hk ⟨_, rfl, rfl⟩ dX13_tune_15
theorem wX13_tune {G : z_G} {d : Nat} {a0 : Nat} {x1 : Int32} {x2 : Int32} {I : Nat → Nat → Int32} {R : Nat → Nat → Nat} {q : Int32 × (Nat → Nat → Int32)} (hd : 1 ≤ d) (hf : fX13_tune a0 x1 x2 I R = some q) : z_M G d 0 0 eX13_tune [.ref a0, .int x1, .int x2] z_SH (I, R) (z_E (some (.int q.1)) (q.2, R)) :=
  y_M_of _ (by decide +kernel) rfl rfl rfl (vX13_tune hd hf ⟨rfl, rfl, rfl⟩)
def fX13_endsSound (a0 : Nat) (x1 : Int32) (x2 : Int32) (I : Nat → Nat → Int32) (R : Nat → Nat → Nat) : Option (Int32) :=
  z_g (z_ob a0 13) (z_l (((60 : Int32) * x1) + x2) (fun t1 => z_g (z_ok 1 (R a0 5) t1) (if (I (R a0 5) t1.toNatClampNeg) ≤ 0 then (some (0 : Int32)) else (z_g (z_ok 1 (R a0 9) x1) (if (x2 + (1 : Int32)) = (I (R a0 9) x1.toNatClampNeg) then (some (1 : Int32)) else (z_g (z_ok 1 (R a0 8) (t1 + (1 : Int32))) (if (I (R a0 8) (t1 + (1 : Int32)).toNatClampNeg) = (1 : Int32) then (some (1 : Int32)) else (some (0 : Int32)))))))))
theorem vX13_endsSound {G : z_G} {d : Nat} {Q : Option Value → z_S → z_H → Prop} {a0 : Nat} {x1 : Int32} {x2 : Int32} {I : Nat → Nat → Int32} {R : Nat → Nat → Nat} {q : Int32} (hd : 0 ≤ d) (hf : fX13_endsSound a0 x1 x2 I R = some q) (hk : Q (some (.int q)) z_SH (I, R)) : z_W G eX13_endsSound d 0 0 0 [some (.ref a0), some (.int x1), some (.int x2), none] [] z_SH (I, R) Q := by
  unfold fX13_endsSound at hf
  obtain ⟨g_a0, hf⟩ := z_g_el hf
  refine z_bipush dX13_endsSound_0 kb_60 ?_
  refine z_iload_n dX13_endsSound_2 rfl rfl ?_
  refine z_imul dX13_endsSound_3 ?_
  refine z_iload_n dX13_endsSound_4 rfl rfl ?_
  refine z_iadd dX13_endsSound_5 ?_
  refine y_istore_n (fun t1 => [some (.ref a0), some (.int x1), some (.int x2), some (.int t1)]) dX13_endsSound_6 rfl (by decide) (fun _ => rfl) (fun t1 et1 => ?_)
  have hf := z_l_el hf et1
  refine z_aload_n dX13_endsSound_7 rfl rfl (z_okl g_a0) ?_
  refine y_getR lfX13_19 rfl g_a0 dX13_endsSound_8 ?_
  refine z_iload_n dX13_endsSound_11 rfl rfl ?_
  obtain ⟨g2, hf⟩ := z_g_el hf
  refine y_iald g2 dX13_endsSound_12 ?_
  refine z_if_le (tgt := 44) dX13_endsSound_13 (by decide) (fun c3 => ?_) (fun c3 => ?_)
  · have hf := z_if_t hf c3
    refine z_iconst dX13_endsSound_44 kc_0 ?_
    cases hf
    exact z_iret hk ⟨_, rfl, rfl⟩ dX13_endsSound_45
  · have hf := z_if_f hf c3
    refine z_iload_n dX13_endsSound_16 rfl rfl ?_
    refine z_iconst dX13_endsSound_17 kc_1 ?_
    refine z_iadd dX13_endsSound_18 ?_
    refine z_aload_n dX13_endsSound_19 rfl rfl (z_okl g_a0) ?_
    refine y_getR lfX13_31 rfl g_a0 dX13_endsSound_20 ?_
    refine z_iload_n dX13_endsSound_23 rfl rfl ?_
    obtain ⟨g4, hf⟩ := z_g_el hf
    refine y_iald g4 dX13_endsSound_24 ?_
    refine z_icmp_eq (tgt := 40) dX13_endsSound_25 (by decide) (fun c5 => ?_) (fun c5 => ?_)
    · have hf := z_if_t hf c5
      refine z_iconst dX13_endsSound_40 kc_1 ?_
      refine z_goto (tgt := 45) dX13_endsSound_41 (by decide) ?_
      cases hf
      exact z_iret hk ⟨_, rfl, rfl⟩ dX13_endsSound_45
    · have hf := z_if_f hf c5
      refine z_aload_n dX13_endsSound_28 rfl rfl (z_okl g_a0) ?_
      refine y_getR lfX13_28 rfl g_a0 dX13_endsSound_29 ?_
      refine z_iload_n dX13_endsSound_32 rfl rfl ?_
      refine z_iconst dX13_endsSound_33 kc_1 ?_
      refine z_iadd dX13_endsSound_34 ?_
      obtain ⟨g6, hf⟩ := z_g_el hf
      refine y_iald g6 dX13_endsSound_35 ?_
      refine z_iconst dX13_endsSound_36 kc_1 ?_
      refine z_icmp_ne (tgt := 44) dX13_endsSound_37 (by decide) (fun c7 => ?_) (fun c7 => ?_)
      · have hf := z_if_f hf c7
        refine z_iconst dX13_endsSound_44 kc_0 ?_
        cases hf
        exact z_iret hk ⟨_, rfl, rfl⟩ dX13_endsSound_45
      · have hf := z_if_t hf c7
        refine z_iconst dX13_endsSound_40 kc_1 ?_
        refine z_goto (tgt := 45) dX13_endsSound_41 (by decide) ?_
        cases hf
        exact z_iret hk ⟨_, rfl, rfl⟩ dX13_endsSound_45
theorem wX13_endsSound {G : z_G} {d : Nat} {a0 : Nat} {x1 : Int32} {x2 : Int32} {I : Nat → Nat → Int32} {R : Nat → Nat → Nat} {q : Int32} (hd : 0 ≤ d) (hf : fX13_endsSound a0 x1 x2 I R = some q) : z_M G d 0 0 eX13_endsSound [.ref a0, .int x1, .int x2] z_SH (I, R) (z_E (some (.int q)) (I, R)) :=
  y_M_of _ (by decide +kernel) rfl rfl rfl (vX13_endsSound hd hf ⟨rfl, rfl, rfl⟩)
def fX13_sungBetween_b6 (a0 : Nat) (z1 : Int32) (z3 : Int32) (I : Nat → Nat → Int32) (R : Nat → Nat → Nat) : (Int32 × Int32) → Option ((Int32 × Int32) ⊕ (Int32)) :=
  fun s => (fun (p4 : Int32) (p5 : Int32) => if z3 ≤ p5 then (some (.inr p4)) else (z_g (z_ok 1 (R a0 5) (((60 : Int32) * z1) + p5)) (if (I (R a0 5) (((60 : Int32) * z1) + p5).toNatClampNeg) ≤ 0 then (z_l (p5 + (1 : Int32)) (fun t4 => some (.inl (p4, t4)))) else (z_l (p4 + (1 : Int32)) (fun t5 => z_l (p5 + (1 : Int32)) (fun t6 => some (.inl (t5, t6)))))))) s.1 s.2
theorem wX13_sungBetween_b6 {G : z_G} {d : Nat} {Q : Option Value → z_S → z_H → Prop} {a0 : Nat} {z1 : Int32} {z3 : Int32} {I : Nat → Nat → Int32} {R : Nat → Nat → Nat} (hd : 0 ≤ d) (g_a0 : z_ob a0 13) : ∀ (s : Int32 × Int32) (o : (Int32 × Int32) ⊕ (Int32)), fX13_sungBetween_b6 a0 z1 z3 I R s = some o → z_or (fun s : Int32 × Int32 => z_W G eX13_sungBetween d 0 0 6 [some (.ref a0), some (.int z1), none, some (.int z3), some (.int s.1), some (.int s.2)] [] z_SH (I, R) Q) (fun x : Int32 => z_W G eX13_sungBetween d 0 0 39 [none, none, none, none, some (.int x), none] [] z_SH (I, R) Q) o → (fun s : Int32 × Int32 => z_W G eX13_sungBetween d 0 0 6 [some (.ref a0), some (.int z1), none, some (.int z3), some (.int s.1), some (.int s.2)] [] z_SH (I, R) Q) s := by
  rintro ⟨p4, p5⟩ o hf hk
  show z_W G eX13_sungBetween d 0 0 6 [some (.ref a0), some (.int z1), none, some (.int z3), some (.int p4), some (.int p5)] [] z_SH (I, R) Q
  unfold fX13_sungBetween_b6 at hf
  try dsimp only at hf
  refine z_iload dX13_sungBetween_6 rfl ?_
  refine z_iload_n dX13_sungBetween_8 rfl rfl ?_
  refine z_icmp_ge (tgt := 39) dX13_sungBetween_9 (by decide) (fun c1 => ?_) (fun c1 => ?_)
  · have hf := z_if_t hf c1
    cases hf
    exact y_sub hk (z_le_n (z_le_n (z_le_n (z_le_n (z_le_c rfl (z_le_n z_le_0))))))
  · have hf := z_if_f hf c1
    refine z_aload_n dX13_sungBetween_12 rfl rfl (z_okl g_a0) ?_
    refine y_getR lfX13_19 rfl g_a0 dX13_sungBetween_13 ?_
    refine z_bipush dX13_sungBetween_16 kb_60 ?_
    refine z_iload_n dX13_sungBetween_18 rfl rfl ?_
    refine z_imul dX13_sungBetween_19 ?_
    refine z_iload dX13_sungBetween_20 rfl ?_
    refine z_iadd dX13_sungBetween_22 ?_
    obtain ⟨g2, hf⟩ := z_g_el hf
    refine y_iald g2 dX13_sungBetween_23 ?_
    refine z_if_le (tgt := 33) dX13_sungBetween_24 (by decide) (fun c3 => ?_) (fun c3 => ?_)
    · have hf := z_if_t hf c3
      refine y_iinc (fun t4 => [some (.ref a0), some (.int z1), none, some (.int z3), some (.int p4), some (.int t4)]) dX13_sungBetween_33 rfl kc_1 (by decide) (fun _ => rfl) (fun t4 et4 => ?_)
      have hf := z_l_el hf et4
      refine z_goto (tgt := 6) dX13_sungBetween_36 (by decide) ?_
      cases hf
      exact y_sub hk (z_le_c rfl (z_le_c rfl (z_le_n (z_le_c rfl (z_le_c rfl (z_le_c rfl z_le_0))))))
    · have hf := z_if_f hf c3
      refine z_iload dX13_sungBetween_27 rfl ?_
      refine z_iconst dX13_sungBetween_29 kc_1 ?_
      refine z_iadd dX13_sungBetween_30 ?_
      refine y_istore (fun t5 => [some (.ref a0), some (.int z1), none, some (.int z3), some (.int t5), some (.int p5)]) dX13_sungBetween_31 (by decide) (fun _ => rfl) (fun t5 et5 => ?_)
      have hf := z_l_el hf et5
      refine y_iinc (fun t6 => [some (.ref a0), some (.int z1), none, some (.int z3), some (.int t5), some (.int t6)]) dX13_sungBetween_33 rfl kc_1 (by decide) (fun _ => rfl) (fun t6 et6 => ?_)
      have hf := z_l_el hf et6
      refine z_goto (tgt := 6) dX13_sungBetween_36 (by decide) ?_
      cases hf
      exact y_sub hk (z_le_c rfl (z_le_c rfl (z_le_n (z_le_c rfl (z_le_c rfl (z_le_c rfl z_le_0))))))
def fX13_sungBetween (a0 : Nat) (x1 : Int32) (x2 : Int32) (x3 : Int32) (I : Nat → Nat → Int32) (R : Nat → Nat → Nat) : Option (Int32) :=
  z_g (z_ob a0 13) (z_b (z_lp (fX13_sungBetween_b6 a0 x1 x3 I R) 300 ((0 : Int32), x2)) (fun q7 => some q7))
theorem vX13_sungBetween {G : z_G} {d : Nat} {Q : Option Value → z_S → z_H → Prop} {a0 : Nat} {x1 : Int32} {x2 : Int32} {x3 : Int32} {I : Nat → Nat → Int32} {R : Nat → Nat → Nat} {q : Int32} (hd : 0 ≤ d) (hf : fX13_sungBetween a0 x1 x2 x3 I R = some q) (hk : Q (some (.int q)) z_SH (I, R)) : z_W G eX13_sungBetween d 0 0 0 [some (.ref a0), some (.int x1), some (.int x2), some (.int x3), none, none] [] z_SH (I, R) Q := by
  unfold fX13_sungBetween at hf
  obtain ⟨g_a0, hf⟩ := z_g_el hf
  refine z_iconst dX13_sungBetween_0 kc_0 ?_
  refine y_istore0 [some (.ref a0), some (.int x1), some (.int x2), some (.int x3), some (.int (0 : Int32)), none] dX13_sungBetween_1 (by decide) rfl ?_
  refine z_iload_n dX13_sungBetween_3 rfl rfl ?_
  refine y_istore0 [some (.ref a0), some (.int x1), some (.int x2), some (.int x3), some (.int (0 : Int32)), some (.int x2)] dX13_sungBetween_4 (by decide) rfl ?_
  obtain ⟨q7, hq7, hf⟩ := z_b_el hf
  refine y_sub (lv' := [some (.ref a0), some (.int x1), none, some (.int x3), some (.int (0 : Int32)), some (.int x2)]) ?_ (z_le_c rfl (z_le_c rfl (z_le_n (z_le_c rfl (z_le_c rfl (z_le_c rfl z_le_0))))))
  refine z_lp_el (P := (fun s : Int32 × Int32 => z_W G eX13_sungBetween d 0 0 6 [some (.ref a0), some (.int x1), none, some (.int x3), some (.int s.1), some (.int s.2)] [] z_SH (I, R) Q)) (E := (fun x : Int32 => z_W G eX13_sungBetween d 0 0 39 [none, none, none, none, some (.int x), none] [] z_SH (I, R) Q)) (wX13_sungBetween_b6 hd g_a0) 300 ((0 : Int32), x2) q7 hq7 ?_
  show z_W G eX13_sungBetween d 0 0 39 [none, none, none, none, some (.int q7), none] [] z_SH (I, R) _
  refine z_iload dX13_sungBetween_39 rfl ?_
  cases hf
  exact z_iret hk ⟨_, rfl, rfl⟩ dX13_sungBetween_41
theorem wX13_sungBetween {G : z_G} {d : Nat} {a0 : Nat} {x1 : Int32} {x2 : Int32} {x3 : Int32} {I : Nat → Nat → Int32} {R : Nat → Nat → Nat} {q : Int32} (hd : 0 ≤ d) (hf : fX13_sungBetween a0 x1 x2 x3 I R = some q) : z_M G d 0 0 eX13_sungBetween [.ref a0, .int x1, .int x2, .int x3] z_SH (I, R) (z_E (some (.int q)) (I, R)) :=
  y_M_of _ (by decide +kernel) rfl rfl rfl (vX13_sungBetween hd hf ⟨rfl, rfl, rfl⟩)
def fX13_laysBreaths_b45 (a0 : Nat) (z1 : Int32) (z2 : Int32) (z3 : Int32) (R : Nat → Nat → Nat) : (Int32 × (Nat → Nat → Int32)) → Option ((Int32 × (Nat → Nat → Int32)) ⊕ ((Nat → Nat → Int32))) :=
  fun s => (fun (p4 : Int32) (I : Nat → Nat → Int32) => z_g (z_ok 1 (R a0 9) z1) (if (I (R a0 9) z1.toNatClampNeg) < p4 then (some (.inr I)) else (z_b (fX13_endsSound a0 z1 (p4 - (1 : Int32)) I R) (fun q12 => if q12 = 0 then (z_l (p4 + (1 : Int32)) (fun t14 => some (.inl (t14, I)))) else (z_b (fX13_sungBetween a0 z1 z3 p4 I R) (fun q15 => if q15 ≤ z2 then (z_g (z_ok 1 (R a0 56) z3) (z_g (z_ok 1 (R a0 56) p4) (z_b (fX13_min (I (R a0 56) z3.toNatClampNeg) ((I (R a0 56) p4.toNatClampNeg) + (1 : Int32))) (fun q19 => z_l (z_u I (R a0 56) z3.toNatClampNeg q19) (fun I20 => z_l (p4 + (1 : Int32)) (fun t21 => some (.inl (t21, I20)))))))) else (z_l (p4 + (1 : Int32)) (fun t22 => some (.inl (t22, I)))))))))) s.1 s.2
theorem wX13_laysBreaths_b45 {G : z_G} {d : Nat} {Q : Option Value → z_S → z_H → Prop} {a0 : Nat} {z1 : Int32} {z2 : Int32} {z3 : Int32} {R : Nat → Nat → Nat} (hd : 1 ≤ d) (g_a0 : z_ob a0 13) : ∀ (s : Int32 × (Nat → Nat → Int32)) (o : (Int32 × (Nat → Nat → Int32)) ⊕ ((Nat → Nat → Int32))), fX13_laysBreaths_b45 a0 z1 z2 z3 R s = some o → z_or (fun s : Int32 × (Nat → Nat → Int32) => z_W G eX13_laysBreaths d 0 0 45 [some (.ref a0), some (.int z1), some (.int z2), some (.int z3), some (.int s.1)] [] z_SH (s.2, R) Q) (fun x : (Nat → Nat → Int32) => z_W G eX13_laysBreaths d 0 0 113 [some (.ref a0), some (.int z1), some (.int z2), some (.int z3), none] [] z_SH (x, R) Q) o → (fun s : Int32 × (Nat → Nat → Int32) => z_W G eX13_laysBreaths d 0 0 45 [some (.ref a0), some (.int z1), some (.int z2), some (.int z3), some (.int s.1)] [] z_SH (s.2, R) Q) s := by
  rintro ⟨p4, I⟩ o hf hk
  show z_W G eX13_laysBreaths d 0 0 45 [some (.ref a0), some (.int z1), some (.int z2), some (.int z3), some (.int p4)] [] z_SH (I, R) Q
  unfold fX13_laysBreaths_b45 at hf
  try dsimp only at hf
  refine z_iload dX13_laysBreaths_45 rfl ?_
  refine z_aload_n dX13_laysBreaths_47 rfl rfl (z_okl g_a0) ?_
  refine y_getR lfX13_31 rfl g_a0 dX13_laysBreaths_48 ?_
  refine z_iload_n dX13_laysBreaths_51 rfl rfl ?_
  obtain ⟨g10, hf⟩ := z_g_el hf
  refine y_iald g10 dX13_laysBreaths_52 ?_
  refine z_icmp_gt (tgt := 113) dX13_laysBreaths_53 (by decide) (fun c11 => ?_) (fun c11 => ?_)
  · have hf := z_if_t hf c11
    cases hf
    exact y_sub hk (z_le_c rfl (z_le_c rfl (z_le_c rfl (z_le_c rfl (z_le_n z_le_0)))))
  · have hf := z_if_f hf c11
    refine z_aload_n dX13_laysBreaths_56 rfl rfl (z_okl g_a0) ?_
    refine z_iload_n dX13_laysBreaths_57 rfl rfl ?_
    refine z_iload dX13_laysBreaths_58 rfl ?_
    refine z_iconst dX13_laysBreaths_60 kc_1 ?_
    refine z_isub dX13_laysBreaths_61 ?_
    obtain ⟨q12, hq12, hf⟩ := z_b_el hf
    refine y_cVi (av := [.int z1, .int (p4 - (1 : Int32))]) (Nat.le_trans (Nat.le_of_ble_eq_true rfl) hd) (wX13_endsSound (z_dl rfl hd) hq12) oX13_endsSound lmX13_384 iX13_endsSound g_a0 rfl _ rfl rfl (Nat.le_of_ble_eq_true rfl) dX13_laysBreaths_62 ?_
    refine z_if_eq (tgt := 107) dX13_laysBreaths_65 (by decide) (fun c13 => ?_) (fun c13 => ?_)
    · have hf := z_if_t hf c13
      refine y_iinc (fun t14 => [some (.ref a0), some (.int z1), some (.int z2), some (.int z3), some (.int t14)]) dX13_laysBreaths_107 rfl kc_1 (by decide) (fun _ => rfl) (fun t14 et14 => ?_)
      have hf := z_l_el hf et14
      refine z_goto (tgt := 45) dX13_laysBreaths_110 (by decide) ?_
      cases hf
      exact y_sub hk (z_le_c rfl (z_le_c rfl (z_le_c rfl (z_le_c rfl (z_le_c rfl z_le_0)))))
    · have hf := z_if_f hf c13
      refine z_aload_n dX13_laysBreaths_68 rfl rfl (z_okl g_a0) ?_
      refine z_iload_n dX13_laysBreaths_69 rfl rfl ?_
      refine z_iload_n dX13_laysBreaths_70 rfl rfl ?_
      refine z_iload dX13_laysBreaths_71 rfl ?_
      obtain ⟨q15, hq15, hf⟩ := z_b_el hf
      refine y_cVi (av := [.int z1, .int z3, .int p4]) (Nat.le_trans (Nat.le_of_ble_eq_true rfl) hd) (wX13_sungBetween (z_dl rfl hd) hq15) oX13_sungBetween lmX13_381 iX13_sungBetween g_a0 rfl _ rfl rfl (Nat.le_of_ble_eq_true rfl) dX13_laysBreaths_73 ?_
      refine z_iload_n dX13_laysBreaths_76 rfl rfl ?_
      refine z_icmp_le (tgt := 83) dX13_laysBreaths_77 (by decide) (fun c16 => ?_) (fun c16 => ?_)
      · have hf := z_if_t hf c16
        refine z_aload_n dX13_laysBreaths_83 rfl rfl (z_okl g_a0) ?_
        refine y_getR lfX13_104 rfl g_a0 dX13_laysBreaths_84 ?_
        refine z_iload_n dX13_laysBreaths_87 rfl rfl ?_
        refine z_aload_n dX13_laysBreaths_88 rfl rfl (z_okl g_a0) ?_
        refine y_getR lfX13_104 rfl g_a0 dX13_laysBreaths_89 ?_
        refine z_iload_n dX13_laysBreaths_92 rfl rfl ?_
        obtain ⟨g17, hf⟩ := z_g_el hf
        refine y_iald g17 dX13_laysBreaths_93 ?_
        refine z_aload_n dX13_laysBreaths_94 rfl rfl (z_okl g_a0) ?_
        refine y_getR lfX13_104 rfl g_a0 dX13_laysBreaths_95 ?_
        refine z_iload dX13_laysBreaths_98 rfl ?_
        obtain ⟨g18, hf⟩ := z_g_el hf
        refine y_iald g18 dX13_laysBreaths_100 ?_
        refine z_iconst dX13_laysBreaths_101 kc_1 ?_
        refine z_iadd dX13_laysBreaths_102 ?_
        obtain ⟨q19, hq19, hf⟩ := z_b_el hf
        refine y_cSi (Nat.le_trans (Nat.le_of_ble_eq_true rfl) hd) (wX13_min (z_dl rfl hd) hq19) oX13_min lmX13_282 sX13_min _ rfl rfl (Nat.le_of_ble_eq_true rfl) dX13_laysBreaths_103 ?_
        refine y_iast g17 dX13_laysBreaths_106 (fun I20 eI20 => ?_)
        have hf := z_l_el hf eI20
        refine y_iinc (fun t21 => [some (.ref a0), some (.int z1), some (.int z2), some (.int z3), some (.int t21)]) dX13_laysBreaths_107 rfl kc_1 (by decide) (fun _ => rfl) (fun t21 et21 => ?_)
        have hf := z_l_el hf et21
        refine z_goto (tgt := 45) dX13_laysBreaths_110 (by decide) ?_
        cases hf
        exact y_sub hk (z_le_c rfl (z_le_c rfl (z_le_c rfl (z_le_c rfl (z_le_c rfl z_le_0)))))
      · have hf := z_if_f hf c16
        refine z_goto (tgt := 107) dX13_laysBreaths_80 (by decide) ?_
        refine y_iinc (fun t22 => [some (.ref a0), some (.int z1), some (.int z2), some (.int z3), some (.int t22)]) dX13_laysBreaths_107 rfl kc_1 (by decide) (fun _ => rfl) (fun t22 et22 => ?_)
        have hf := z_l_el hf et22
        refine z_goto (tgt := 45) dX13_laysBreaths_110 (by decide) ?_
        cases hf
        exact y_sub hk (z_le_c rfl (z_le_c rfl (z_le_c rfl (z_le_c rfl (z_le_c rfl z_le_0)))))
def fX13_laysBreaths_j39_7 (a0 : Nat) (z1 : Int32) (z2 : Int32) (y3 : Int32) (v0 : Nat) (v1 : Int32) (v2 : Int32) (I : Nat → Nat → Int32) (R : Nat → Nat → Nat) : Option ((Int32 × (Nat → Nat → Int32)) ⊕ ((Nat → Nat → Int32))) :=
  z_g (z_ok 1 v0 v1) (z_l (z_u I v0 v1.toNatClampNeg v2) (fun I8 => z_l (y3 + (1 : Int32)) (fun t9 => z_b (z_lp (fX13_laysBreaths_b45 a0 z1 z2 y3 R) 300 (t9, I8)) (fun q23 => z_l (y3 + (-1 : Int32)) (fun t24 => some (.inl (t24, q23)))))))
theorem wX13_laysBreaths_j39_7 {G : z_G} {d : Nat} {Q : Option Value → z_S → z_H → Prop} {a0 : Nat} {z1 : Int32} {z2 : Int32} {y3 : Int32} {v0 : Nat} {v1 : Int32} {v2 : Int32} {I : Nat → Nat → Int32} {R : Nat → Nat → Nat} {o : (Int32 × (Nat → Nat → Int32)) ⊕ ((Nat → Nat → Int32))} (hd : 1 ≤ d) (g_a0 : z_ob a0 13) (hf : fX13_laysBreaths_j39_7 a0 z1 z2 y3 v0 v1 v2 I R = some o) (hk : z_or (fun s : Int32 × (Nat → Nat → Int32) => z_W G eX13_laysBreaths d 0 0 7 [some (.ref a0), some (.int z1), some (.int z2), some (.int s.1), none] [] z_SH (s.2, R) Q) (fun x : (Nat → Nat → Int32) => z_W G eX13_laysBreaths d 0 0 119 [none, none, none, none, none] [] z_SH (x, R) Q) o) : z_W G eX13_laysBreaths d 0 0 39 [some (.ref a0), some (.int z1), some (.int z2), some (.int y3), none] [.int v2, .int v1, .ref v0] z_SH (I, R) Q := by
  unfold fX13_laysBreaths_j39_7 at hf
  obtain ⟨g7, hf⟩ := z_g_el hf
  refine y_iast g7 dX13_laysBreaths_39 (fun I8 eI8 => ?_)
  have hf := z_l_el hf eI8
  refine z_iload_n dX13_laysBreaths_40 rfl rfl ?_
  refine z_iconst dX13_laysBreaths_41 kc_1 ?_
  refine z_iadd dX13_laysBreaths_42 ?_
  refine y_istore (fun t9 => [some (.ref a0), some (.int z1), some (.int z2), some (.int y3), some (.int t9)]) dX13_laysBreaths_43 (by decide) (fun _ => rfl) (fun t9 et9 => ?_)
  have hf := z_l_el hf et9
  obtain ⟨q23, hq23, hf⟩ := z_b_el hf
  refine y_sub (lv' := [some (.ref a0), some (.int z1), some (.int z2), some (.int y3), some (.int t9)]) ?_ (z_le_c rfl (z_le_c rfl (z_le_c rfl (z_le_c rfl (z_le_c rfl z_le_0)))))
  refine z_lp_el (P := (fun s : Int32 × (Nat → Nat → Int32) => z_W G eX13_laysBreaths d 0 0 45 [some (.ref a0), some (.int z1), some (.int z2), some (.int y3), some (.int s.1)] [] z_SH (s.2, R) Q)) (E := (fun x : (Nat → Nat → Int32) => z_W G eX13_laysBreaths d 0 0 113 [some (.ref a0), some (.int z1), some (.int z2), some (.int y3), none] [] z_SH (x, R) Q)) (wX13_laysBreaths_b45 hd g_a0) 300 (t9, I8) q23 hq23 ?_
  show z_W G eX13_laysBreaths d 0 0 113 [some (.ref a0), some (.int z1), some (.int z2), some (.int y3), none] [] z_SH (q23, R) _
  refine y_iinc (fun t24 => [some (.ref a0), some (.int z1), some (.int z2), some (.int t24), none]) dX13_laysBreaths_113 rfl kc_m1 (by decide) (fun _ => rfl) (fun t24 et24 => ?_)
  have hf := z_l_el hf et24
  refine z_goto (tgt := 7) dX13_laysBreaths_116 (by decide) ?_
  cases hf
  exact y_sub hk (z_le_c rfl (z_le_c rfl (z_le_c rfl (z_le_c rfl (z_le_n z_le_0)))))
def fX13_laysBreaths_b7 (a0 : Nat) (z1 : Int32) (z2 : Int32) (R : Nat → Nat → Nat) : (Int32 × (Nat → Nat → Int32)) → Option ((Int32 × (Nat → Nat → Int32)) ⊕ ((Nat → Nat → Int32))) :=
  fun s => (fun (p3 : Int32) (I : Nat → Nat → Int32) => if p3 < 0 then (some (.inr I)) else (z_g (z_ok 1 (R a0 9) z1) (z_b (fX13_sungBetween a0 z1 p3 (I (R a0 9) z1.toNatClampNeg) I R) (fun q5 => if z2 < q5 then (fX13_laysBreaths_j39_7 a0 z1 z2 p3 (R a0 56) p3 (1000000 : Int32) I R) else (fX13_laysBreaths_j39_7 a0 z1 z2 p3 (R a0 56) p3 (0 : Int32) I R))))) s.1 s.2
theorem wX13_laysBreaths_b7 {G : z_G} {d : Nat} {Q : Option Value → z_S → z_H → Prop} {a0 : Nat} {z1 : Int32} {z2 : Int32} {R : Nat → Nat → Nat} (hd : 1 ≤ d) (g_a0 : z_ob a0 13) : ∀ (s : Int32 × (Nat → Nat → Int32)) (o : (Int32 × (Nat → Nat → Int32)) ⊕ ((Nat → Nat → Int32))), fX13_laysBreaths_b7 a0 z1 z2 R s = some o → z_or (fun s : Int32 × (Nat → Nat → Int32) => z_W G eX13_laysBreaths d 0 0 7 [some (.ref a0), some (.int z1), some (.int z2), some (.int s.1), none] [] z_SH (s.2, R) Q) (fun x : (Nat → Nat → Int32) => z_W G eX13_laysBreaths d 0 0 119 [none, none, none, none, none] [] z_SH (x, R) Q) o → (fun s : Int32 × (Nat → Nat → Int32) => z_W G eX13_laysBreaths d 0 0 7 [some (.ref a0), some (.int z1), some (.int z2), some (.int s.1), none] [] z_SH (s.2, R) Q) s := by
  rintro ⟨p3, I⟩ o hf hk
  show z_W G eX13_laysBreaths d 0 0 7 [some (.ref a0), some (.int z1), some (.int z2), some (.int p3), none] [] z_SH (I, R) Q
  unfold fX13_laysBreaths_b7 at hf
  try dsimp only at hf
  refine z_iload_n dX13_laysBreaths_7 rfl rfl ?_
  refine z_if_lt (tgt := 119) dX13_laysBreaths_8 (by decide) (fun c3 => ?_) (fun c3 => ?_)
  · have hf := z_if_t hf c3
    cases hf
    exact y_sub hk (z_le_n (z_le_n (z_le_n (z_le_n (z_le_n z_le_0)))))
  · have hf := z_if_f hf c3
    refine z_aload_n dX13_laysBreaths_11 rfl rfl (z_okl g_a0) ?_
    refine y_getR lfX13_104 rfl g_a0 dX13_laysBreaths_12 ?_
    refine z_iload_n dX13_laysBreaths_15 rfl rfl ?_
    refine z_aload_n dX13_laysBreaths_16 rfl rfl (z_okl g_a0) ?_
    refine z_iload_n dX13_laysBreaths_17 rfl rfl ?_
    refine z_iload_n dX13_laysBreaths_18 rfl rfl ?_
    refine z_aload_n dX13_laysBreaths_19 rfl rfl (z_okl g_a0) ?_
    refine y_getR lfX13_31 rfl g_a0 dX13_laysBreaths_20 ?_
    refine z_iload_n dX13_laysBreaths_23 rfl rfl ?_
    obtain ⟨g4, hf⟩ := z_g_el hf
    refine y_iald g4 dX13_laysBreaths_24 ?_
    obtain ⟨q5, hq5, hf⟩ := z_b_el hf
    refine y_cVi (av := [.int z1, .int p3, .int (I (R a0 9) z1.toNatClampNeg)]) (Nat.le_trans (Nat.le_of_ble_eq_true rfl) hd) (wX13_sungBetween (z_dl rfl hd) hq5) oX13_sungBetween lmX13_381 iX13_sungBetween g_a0 rfl _ rfl rfl (Nat.le_of_ble_eq_true rfl) dX13_laysBreaths_25 ?_
    refine z_iload_n dX13_laysBreaths_28 rfl rfl ?_
    refine z_icmp_gt (tgt := 36) dX13_laysBreaths_29 (by decide) (fun c6 => ?_) (fun c6 => ?_)
    · have hf := z_if_t hf c6
      refine z_ldcw dX13_laysBreaths_36 lkX13_328 ?_
      exact y_sub (wX13_laysBreaths_j39_7 hd g_a0 hf hk) (z_le_c rfl (z_le_c rfl (z_le_c rfl (z_le_c rfl (z_le_n z_le_0)))))
    · have hf := z_if_f hf c6
      refine z_iconst dX13_laysBreaths_32 kc_0 ?_
      refine z_goto (tgt := 39) dX13_laysBreaths_33 (by decide) ?_
      exact y_sub (wX13_laysBreaths_j39_7 hd g_a0 hf hk) (z_le_c rfl (z_le_c rfl (z_le_c rfl (z_le_c rfl (z_le_n z_le_0)))))
def fX13_laysBreaths (a0 : Nat) (x1 : Int32) (x2 : Int32) (I : Nat → Nat → Int32) (R : Nat → Nat → Nat) : Option ((Nat → Nat → Int32)) :=
  z_g (z_ob a0 13) (z_g (z_ok 1 (R a0 9) x1) (z_l (I (R a0 9) x1.toNatClampNeg) (fun t2 => z_b (z_lp (fX13_laysBreaths_b7 a0 x1 x2 R) 300 (t2, I)) (fun q25 => some q25))))
set_option maxRecDepth 20000 in
theorem vX13_laysBreaths {G : z_G} {d : Nat} {Q : Option Value → z_S → z_H → Prop} {a0 : Nat} {x1 : Int32} {x2 : Int32} {I : Nat → Nat → Int32} {R : Nat → Nat → Nat} {q : (Nat → Nat → Int32)} (hd : 1 ≤ d) (hf : fX13_laysBreaths a0 x1 x2 I R = some q) (hk : Q none z_SH (q, R)) : z_W G eX13_laysBreaths d 0 0 0 [some (.ref a0), some (.int x1), some (.int x2), none, none] [] z_SH (I, R) Q := by
  unfold fX13_laysBreaths at hf
  obtain ⟨g_a0, hf⟩ := z_g_el hf
  refine z_aload_n dX13_laysBreaths_0 rfl rfl (z_okl g_a0) ?_
  refine y_getR lfX13_31 rfl g_a0 dX13_laysBreaths_1 ?_
  refine z_iload_n dX13_laysBreaths_4 rfl rfl ?_
  obtain ⟨g1, hf⟩ := z_g_el hf
  refine y_iald g1 dX13_laysBreaths_5 ?_
  refine y_istore_n (fun t2 => [some (.ref a0), some (.int x1), some (.int x2), some (.int t2), none]) dX13_laysBreaths_6 rfl (by decide) (fun _ => rfl) (fun t2 et2 => ?_)
  have hf := z_l_el hf et2
  obtain ⟨q25, hq25, hf⟩ := z_b_el hf
  refine y_sub (lv' := [some (.ref a0), some (.int x1), some (.int x2), some (.int t2), none]) ?_ (z_le_c rfl (z_le_c rfl (z_le_c rfl (z_le_c rfl (z_le_n z_le_0)))))
  refine z_lp_el (P := (fun s : Int32 × (Nat → Nat → Int32) => z_W G eX13_laysBreaths d 0 0 7 [some (.ref a0), some (.int x1), some (.int x2), some (.int s.1), none] [] z_SH (s.2, R) Q)) (E := (fun x : (Nat → Nat → Int32) => z_W G eX13_laysBreaths d 0 0 119 [none, none, none, none, none] [] z_SH (x, R) Q)) (wX13_laysBreaths_b7 hd g_a0) 300 (t2, I) q25 hq25 ?_
  show z_W G eX13_laysBreaths d 0 0 119 [none, none, none, none, none] [] z_SH (q25, R) _
  cases hf
  exact z_vret hk rfl dX13_laysBreaths_119
theorem wX13_laysBreaths {G : z_G} {d : Nat} {a0 : Nat} {x1 : Int32} {x2 : Int32} {I : Nat → Nat → Int32} {R : Nat → Nat → Nat} {q : (Nat → Nat → Int32)} (hd : 1 ≤ d) (hf : fX13_laysBreaths a0 x1 x2 I R = some q) : z_M G d 0 0 eX13_laysBreaths [.ref a0, .int x1, .int x2] z_SH (I, R) (z_E none (q, R)) :=
  y_M_of _ (by decide +kernel) rfl rfl rfl (vX13_laysBreaths hd hf ⟨rfl, rfl, rfl⟩)
def fX13_breaths_j147_103 (a0 : Nat) (z1 : Int32) (z2 : Int32) (z3 : Int32) (z4 : Int32) (z5 : Int32) (y6 : Int32) (I : Nat → Nat → Int32) (R : Nat → Nat → Nat) : Option ((Int32) ⊕ (Int32)) :=
  z_l (y6 + (1 : Int32)) (fun t15 => some (.inl t15))
theorem wX13_breaths_j147_103 {G : z_G} {d : Nat} {Q : Option Value → z_S → z_H → Prop} {a0 : Nat} {z1 : Int32} {z2 : Int32} {z3 : Int32} {z4 : Int32} {z5 : Int32} {y6 : Int32} {I : Nat → Nat → Int32} {R : Nat → Nat → Nat} {o : (Int32) ⊕ (Int32)} (hd : 2 ≤ d) (g_a0 : z_ob a0 13) (hf : fX13_breaths_j147_103 a0 z1 z2 z3 z4 z5 y6 I R = some o) (hk : z_or (fun s : Int32 => z_W G eX13_breaths d 0 0 103 [some (.ref a0), some (.int z1), some (.int z2), some (.int z3), some (.int z4), some (.int z5), some (.int s)] [] z_SH (I, R) Q) (fun x : Int32 => z_W G eX13_breaths d 0 0 156 [some (.ref a0), some (.int z1), some (.int z2), some (.int z3), none, some (.int z5), some (.int x)] [] z_SH (I, R) Q) o) : z_W G eX13_breaths d 0 0 147 [some (.ref a0), some (.int z1), some (.int z2), some (.int z3), some (.int z4), some (.int z5), some (.int y6)] [] z_SH (I, R) Q := by
  unfold fX13_breaths_j147_103 at hf
  refine z_iload dX13_breaths_147 rfl ?_
  refine z_iconst dX13_breaths_149 kc_1 ?_
  refine z_iadd dX13_breaths_150 ?_
  refine y_istore (fun t15 => [some (.ref a0), some (.int z1), some (.int z2), some (.int z3), some (.int z4), some (.int z5), some (.int t15)]) dX13_breaths_151 (by decide) (fun _ => rfl) (fun t15 et15 => ?_)
  have hf := z_l_el hf et15
  refine z_goto (tgt := 103) dX13_breaths_153 (by decide) ?_
  cases hf
  exact y_sub hk (z_le_c rfl (z_le_c rfl (z_le_c rfl (z_le_c rfl (z_le_c rfl (z_le_c rfl (z_le_c rfl z_le_0)))))))
def fX13_breaths_b103 (a0 : Nat) (z1 : Int32) (z2 : Int32) (z3 : Int32) (z4 : Int32) (z5 : Int32) (I : Nat → Nat → Int32) (R : Nat → Nat → Nat) : (Int32) → Option ((Int32) ⊕ (Int32)) :=
  fun s => (fun (p6 : Int32) => z_b (fX13_endsSound a0 z1 (p6 - (1 : Int32)) I R) (fun q13 => if q13 = 0 then (fX13_breaths_j147_103 a0 z1 z2 z3 z4 z5 p6 I R) else (z_b (fX13_sungBetween a0 z1 z4 p6 I R) (fun q16 => if z2 < q16 then (fX13_breaths_j147_103 a0 z1 z2 z3 z4 z5 p6 I R) else (z_g (z_ok 1 (R a0 56) p6) (z_g (z_ok 1 (R a0 56) z4) (if ((I (R a0 56) p6.toNatClampNeg) + (1 : Int32)) = (I (R a0 56) z4.toNatClampNeg) then (some (.inr p6)) else (fX13_breaths_j147_103 a0 z1 z2 z3 z4 z5 p6 I R)))))))) s
theorem wX13_breaths_b103 {G : z_G} {d : Nat} {Q : Option Value → z_S → z_H → Prop} {a0 : Nat} {z1 : Int32} {z2 : Int32} {z3 : Int32} {z4 : Int32} {z5 : Int32} {I : Nat → Nat → Int32} {R : Nat → Nat → Nat} (hd : 2 ≤ d) (g_a0 : z_ob a0 13) : ∀ (s : Int32) (o : (Int32) ⊕ (Int32)), fX13_breaths_b103 a0 z1 z2 z3 z4 z5 I R s = some o → z_or (fun s : Int32 => z_W G eX13_breaths d 0 0 103 [some (.ref a0), some (.int z1), some (.int z2), some (.int z3), some (.int z4), some (.int z5), some (.int s)] [] z_SH (I, R) Q) (fun x : Int32 => z_W G eX13_breaths d 0 0 156 [some (.ref a0), some (.int z1), some (.int z2), some (.int z3), none, some (.int z5), some (.int x)] [] z_SH (I, R) Q) o → (fun s : Int32 => z_W G eX13_breaths d 0 0 103 [some (.ref a0), some (.int z1), some (.int z2), some (.int z3), some (.int z4), some (.int z5), some (.int s)] [] z_SH (I, R) Q) s := by
  intro p6 o hf hk
  show z_W G eX13_breaths d 0 0 103 [some (.ref a0), some (.int z1), some (.int z2), some (.int z3), some (.int z4), some (.int z5), some (.int p6)] [] z_SH (I, R) Q
  unfold fX13_breaths_b103 at hf
  try dsimp only at hf
  refine z_aload_n dX13_breaths_103 rfl rfl (z_okl g_a0) ?_
  refine z_iload_n dX13_breaths_104 rfl rfl ?_
  refine z_iload dX13_breaths_105 rfl ?_
  refine z_iconst dX13_breaths_107 kc_1 ?_
  refine z_isub dX13_breaths_108 ?_
  obtain ⟨q13, hq13, hf⟩ := z_b_el hf
  refine y_cVi (av := [.int z1, .int (p6 - (1 : Int32))]) (Nat.le_trans (Nat.le_of_ble_eq_true rfl) hd) (wX13_endsSound (z_dl rfl hd) hq13) oX13_endsSound lmX13_384 iX13_endsSound g_a0 rfl _ rfl rfl (Nat.le_of_ble_eq_true rfl) dX13_breaths_109 ?_
  refine z_if_eq (tgt := 147) dX13_breaths_112 (by decide) (fun c14 => ?_) (fun c14 => ?_)
  · have hf := z_if_t hf c14
    exact y_sub (wX13_breaths_j147_103 hd g_a0 hf hk) (z_le_c rfl (z_le_c rfl (z_le_c rfl (z_le_c rfl (z_le_c rfl (z_le_c rfl (z_le_c rfl z_le_0)))))))
  · have hf := z_if_f hf c14
    refine z_aload_n dX13_breaths_115 rfl rfl (z_okl g_a0) ?_
    refine z_iload_n dX13_breaths_116 rfl rfl ?_
    refine z_iload dX13_breaths_117 rfl ?_
    refine z_iload dX13_breaths_119 rfl ?_
    obtain ⟨q16, hq16, hf⟩ := z_b_el hf
    refine y_cVi (av := [.int z1, .int z4, .int p6]) (Nat.le_trans (Nat.le_of_ble_eq_true rfl) hd) (wX13_sungBetween (z_dl rfl hd) hq16) oX13_sungBetween lmX13_381 iX13_sungBetween g_a0 rfl _ rfl rfl (Nat.le_of_ble_eq_true rfl) dX13_breaths_121 ?_
    refine z_iload_n dX13_breaths_124 rfl rfl ?_
    refine z_icmp_gt (tgt := 147) dX13_breaths_125 (by decide) (fun c17 => ?_) (fun c17 => ?_)
    · have hf := z_if_t hf c17
      exact y_sub (wX13_breaths_j147_103 hd g_a0 hf hk) (z_le_c rfl (z_le_c rfl (z_le_c rfl (z_le_c rfl (z_le_c rfl (z_le_c rfl (z_le_c rfl z_le_0)))))))
    · have hf := z_if_f hf c17
      refine z_aload_n dX13_breaths_128 rfl rfl (z_okl g_a0) ?_
      refine y_getR lfX13_104 rfl g_a0 dX13_breaths_129 ?_
      refine z_iload dX13_breaths_132 rfl ?_
      obtain ⟨g18, hf⟩ := z_g_el hf
      refine y_iald g18 dX13_breaths_134 ?_
      refine z_iconst dX13_breaths_135 kc_1 ?_
      refine z_iadd dX13_breaths_136 ?_
      refine z_aload_n dX13_breaths_137 rfl rfl (z_okl g_a0) ?_
      refine y_getR lfX13_104 rfl g_a0 dX13_breaths_138 ?_
      refine z_iload dX13_breaths_141 rfl ?_
      obtain ⟨g19, hf⟩ := z_g_el hf
      refine y_iald g19 dX13_breaths_143 ?_
      refine z_icmp_eq (tgt := 156) dX13_breaths_144 (by decide) (fun c20 => ?_) (fun c20 => ?_)
      · have hf := z_if_t hf c20
        cases hf
        exact y_sub hk (z_le_c rfl (z_le_c rfl (z_le_c rfl (z_le_c rfl (z_le_n (z_le_c rfl (z_le_c rfl z_le_0)))))))
      · have hf := z_if_f hf c20
        exact y_sub (wX13_breaths_j147_103 hd g_a0 hf hk) (z_le_c rfl (z_le_c rfl (z_le_c rfl (z_le_c rfl (z_le_c rfl (z_le_c rfl (z_le_c rfl z_le_0)))))))
def fX13_breaths_b91 (a0 : Nat) (z1 : Int32) (z2 : Int32) (z3 : Int32) (I : Nat → Nat → Int32) (R : Nat → Nat → Nat) : (Int32 × Int32) → Option ((Int32 × Int32) ⊕ (Int32)) :=
  fun s => (fun (p4 : Int32) (p5 : Int32) => if z3 < p5 then (some (.inr p4)) else (z_l (p4 + (1 : Int32)) (fun t12 => z_b (z_lp (fX13_breaths_b103 a0 z1 z2 z3 p4 p5 I R) 300 t12) (fun q21 => z_l (p5 + (1 : Int32)) (fun t22 => some (.inl (q21, t22))))))) s.1 s.2
theorem wX13_breaths_b91 {G : z_G} {d : Nat} {Q : Option Value → z_S → z_H → Prop} {a0 : Nat} {z1 : Int32} {z2 : Int32} {z3 : Int32} {I : Nat → Nat → Int32} {R : Nat → Nat → Nat} (hd : 2 ≤ d) (g_a0 : z_ob a0 13) : ∀ (s : Int32 × Int32) (o : (Int32 × Int32) ⊕ (Int32)), fX13_breaths_b91 a0 z1 z2 z3 I R s = some o → z_or (fun s : Int32 × Int32 => z_W G eX13_breaths d 0 0 91 [some (.ref a0), some (.int z1), some (.int z2), some (.int z3), some (.int s.1), some (.int s.2), none] [] z_SH (I, R) Q) (fun x : Int32 => z_W G eX13_breaths d 0 0 166 [none, none, none, none, some (.int x), none, none] [] z_SH (I, R) Q) o → (fun s : Int32 × Int32 => z_W G eX13_breaths d 0 0 91 [some (.ref a0), some (.int z1), some (.int z2), some (.int z3), some (.int s.1), some (.int s.2), none] [] z_SH (I, R) Q) s := by
  rintro ⟨p4, p5⟩ o hf hk
  show z_W G eX13_breaths d 0 0 91 [some (.ref a0), some (.int z1), some (.int z2), some (.int z3), some (.int p4), some (.int p5), none] [] z_SH (I, R) Q
  unfold fX13_breaths_b91 at hf
  try dsimp only at hf
  refine z_iload dX13_breaths_91 rfl ?_
  refine z_iload_n dX13_breaths_93 rfl rfl ?_
  refine z_icmp_gt (tgt := 166) dX13_breaths_94 (by decide) (fun c11 => ?_) (fun c11 => ?_)
  · have hf := z_if_t hf c11
    cases hf
    exact y_sub hk (z_le_n (z_le_n (z_le_n (z_le_n (z_le_c rfl (z_le_n (z_le_n z_le_0)))))))
  · have hf := z_if_f hf c11
    refine z_iload dX13_breaths_97 rfl ?_
    refine z_iconst dX13_breaths_99 kc_1 ?_
    refine z_iadd dX13_breaths_100 ?_
    refine y_istore (fun t12 => [some (.ref a0), some (.int z1), some (.int z2), some (.int z3), some (.int p4), some (.int p5), some (.int t12)]) dX13_breaths_101 (by decide) (fun _ => rfl) (fun t12 et12 => ?_)
    have hf := z_l_el hf et12
    obtain ⟨q21, hq21, hf⟩ := z_b_el hf
    refine y_sub (lv' := [some (.ref a0), some (.int z1), some (.int z2), some (.int z3), some (.int p4), some (.int p5), some (.int t12)]) ?_ (z_le_c rfl (z_le_c rfl (z_le_c rfl (z_le_c rfl (z_le_c rfl (z_le_c rfl (z_le_c rfl z_le_0)))))))
    refine z_lp_el (P := (fun s : Int32 => z_W G eX13_breaths d 0 0 103 [some (.ref a0), some (.int z1), some (.int z2), some (.int z3), some (.int p4), some (.int p5), some (.int s)] [] z_SH (I, R) Q)) (E := (fun x : Int32 => z_W G eX13_breaths d 0 0 156 [some (.ref a0), some (.int z1), some (.int z2), some (.int z3), none, some (.int p5), some (.int x)] [] z_SH (I, R) Q)) (wX13_breaths_b103 hd g_a0) 300 t12 q21 hq21 ?_
    show z_W G eX13_breaths d 0 0 156 [some (.ref a0), some (.int z1), some (.int z2), some (.int z3), none, some (.int p5), some (.int q21)] [] z_SH (I, R) _
    refine z_iload dX13_breaths_156 rfl ?_
    refine y_istore0 [some (.ref a0), some (.int z1), some (.int z2), some (.int z3), some (.int q21), some (.int p5), some (.int q21)] dX13_breaths_158 (by decide) rfl ?_
    refine y_iinc (fun t22 => [some (.ref a0), some (.int z1), some (.int z2), some (.int z3), some (.int q21), some (.int t22), some (.int q21)]) dX13_breaths_160 rfl kc_1 (by decide) (fun _ => rfl) (fun t22 et22 => ?_)
    have hf := z_l_el hf et22
    refine z_goto (tgt := 91) dX13_breaths_163 (by decide) ?_
    cases hf
    exact y_sub hk (z_le_c rfl (z_le_c rfl (z_le_c rfl (z_le_c rfl (z_le_c rfl (z_le_c rfl (z_le_n z_le_0)))))))
def fX13_breaths_j38 (a0 : Nat) (y1 : Int32) (y2 : Int32) (y3 : Int32) (I : Nat → Nat → Int32) (R : Nat → Nat → Nat) : Option (Int32 × (Nat → Nat → Int32)) :=
  z_b (fX13_laysBreaths a0 y1 y2 I R) (fun q6 => z_g (z_ok 1 (R a0 56) (0 : Int32)) (if (q6 (R a0 56) (0 : Int32).toNatClampNeg) < (1000000 : Int32) then (if y3 = (100 : Int32) then (some (q6 (R a0 56) (0 : Int32).toNatClampNeg, q6)) else (if y3 < (q6 (R a0 56) (0 : Int32).toNatClampNeg) then (z_b (z_lp (fX13_breaths_b91 a0 y1 y2 y3 q6 R) 300 ((0 : Int32), (0 : Int32))) (fun q23 => some (q23, q6))) else (some ((-4 : Int32), q6)))) else (some ((-2 : Int32), q6))))
theorem wX13_breaths_j38 {G : z_G} {d : Nat} {Q : Option Value → z_S → z_H → Prop} {a0 : Nat} {y1 : Int32} {y2 : Int32} {y3 : Int32} {I : Nat → Nat → Int32} {R : Nat → Nat → Nat} {o : Int32 × (Nat → Nat → Int32)} (hd : 2 ≤ d) (g_a0 : z_ob a0 13) (hf : fX13_breaths_j38 a0 y1 y2 y3 I R = some o) (hk : Q (some (.int o.1)) z_SH (o.2, R)) : z_W G eX13_breaths d 0 0 38 [some (.ref a0), some (.int y1), some (.int y2), some (.int y3), none, none, none] [] z_SH (I, R) Q := by
  unfold fX13_breaths_j38 at hf
  refine z_aload_n dX13_breaths_38 rfl rfl (z_okl g_a0) ?_
  refine z_iload_n dX13_breaths_39 rfl rfl ?_
  refine z_iload_n dX13_breaths_40 rfl rfl ?_
  obtain ⟨q6, hq6, hf⟩ := z_b_el hf
  refine y_cVv (av := [.int y1, .int y2]) (Nat.le_trans (Nat.le_of_ble_eq_true rfl) hd) (wX13_laysBreaths (z_dl rfl hd) hq6) oX13_laysBreaths lmX13_387 iX13_laysBreaths g_a0 rfl _ rfl rfl (Nat.le_of_ble_eq_true rfl) dX13_breaths_41 ?_
  refine z_aload_n dX13_breaths_44 rfl rfl (z_okl g_a0) ?_
  refine y_getR lfX13_104 rfl g_a0 dX13_breaths_45 ?_
  refine z_iconst dX13_breaths_48 kc_0 ?_
  obtain ⟨g7, hf⟩ := z_g_el hf
  refine y_iald g7 dX13_breaths_49 ?_
  refine z_ldcw dX13_breaths_50 lkX13_328 ?_
  refine z_icmp_lt (tgt := 59) dX13_breaths_53 (by decide) (fun c8 => ?_) (fun c8 => ?_)
  · have hf := z_if_t hf c8
    refine z_iload_n dX13_breaths_59 rfl rfl ?_
    refine z_bipush dX13_breaths_60 kb_100 ?_
    refine z_icmp_ne (tgt := 72) dX13_breaths_62 (by decide) (fun c9 => ?_) (fun c9 => ?_)
    · have hf := z_if_f hf c9
      refine z_iload_n dX13_breaths_72 rfl rfl ?_
      refine z_aload_n dX13_breaths_73 rfl rfl (z_okl g_a0) ?_
      refine y_getR lfX13_104 rfl g_a0 dX13_breaths_74 ?_
      refine z_iconst dX13_breaths_77 kc_0 ?_
      refine y_iald g7 dX13_breaths_78 ?_
      refine z_icmp_lt (tgt := 85) dX13_breaths_79 (by decide) (fun c10 => ?_) (fun c10 => ?_)
      · have hf := z_if_t hf c10
        refine z_iconst dX13_breaths_85 kc_0 ?_
        refine y_istore0 [some (.ref a0), some (.int y1), some (.int y2), some (.int y3), some (.int (0 : Int32)), none, none] dX13_breaths_86 (by decide) rfl ?_
        refine z_iconst dX13_breaths_88 kc_0 ?_
        refine y_istore0 [some (.ref a0), some (.int y1), some (.int y2), some (.int y3), some (.int (0 : Int32)), some (.int (0 : Int32)), none] dX13_breaths_89 (by decide) rfl ?_
        obtain ⟨q23, hq23, hf⟩ := z_b_el hf
        refine y_sub (lv' := [some (.ref a0), some (.int y1), some (.int y2), some (.int y3), some (.int (0 : Int32)), some (.int (0 : Int32)), none]) ?_ (z_le_c rfl (z_le_c rfl (z_le_c rfl (z_le_c rfl (z_le_c rfl (z_le_c rfl (z_le_n z_le_0)))))))
        refine z_lp_el (P := (fun s : Int32 × Int32 => z_W G eX13_breaths d 0 0 91 [some (.ref a0), some (.int y1), some (.int y2), some (.int y3), some (.int s.1), some (.int s.2), none] [] z_SH (q6, R) Q)) (E := (fun x : Int32 => z_W G eX13_breaths d 0 0 166 [none, none, none, none, some (.int x), none, none] [] z_SH (q6, R) Q)) (wX13_breaths_b91 hd g_a0) 300 ((0 : Int32), (0 : Int32)) q23 hq23 ?_
        show z_W G eX13_breaths d 0 0 166 [none, none, none, none, some (.int q23), none, none] [] z_SH (q6, R) _
        refine z_iload dX13_breaths_166 rfl ?_
        cases hf
        exact z_iret hk ⟨_, rfl, rfl⟩ dX13_breaths_168
      · have hf := z_if_f hf c10
        refine z_bipush dX13_breaths_82 kb_m4 ?_
        cases hf
        exact z_iret hk ⟨_, rfl, rfl⟩ dX13_breaths_84
    · have hf := z_if_t hf c9
      refine z_aload_n dX13_breaths_65 rfl rfl (z_okl g_a0) ?_
      refine y_getR lfX13_104 rfl g_a0 dX13_breaths_66 ?_
      refine z_iconst dX13_breaths_69 kc_0 ?_
      refine y_iald g7 dX13_breaths_70 ?_
      cases hf
      exact z_iret hk ⟨_, rfl, rfl⟩ dX13_breaths_71
  · have hf := z_if_f hf c8
    refine z_bipush dX13_breaths_56 kb_m2 ?_
    cases hf
    exact z_iret hk ⟨_, rfl, rfl⟩ dX13_breaths_58
def fX13_breaths (a0 : Nat) (x1 : Int32) (x2 : Int32) (x3 : Int32) (I : Nat → Nat → Int32) (R : Nat → Nat → Nat) : Option (Int32 × (Nat → Nat → Int32)) :=
  z_g (z_ob a0 13) (z_b (fX13_in x1 (0 : Int32) (7 : Int32)) (fun q1 => if q1 = 0 then (some ((-1 : Int32), I)) else (z_b (fX13_in x2 (1 : Int32) (20 : Int32)) (fun q3 => if q3 = 0 then (some ((-1 : Int32), I)) else (if x3 = (100 : Int32) then (fX13_breaths_j38 a0 x1 x2 x3 I R) else (z_b (fX13_in x3 (0 : Int32) (59 : Int32)) (fun q24 => if q24 = 0 then (some ((-1 : Int32), I)) else (fX13_breaths_j38 a0 x1 x2 x3 I R))))))))
set_option maxRecDepth 20000 in
theorem vX13_breaths {G : z_G} {d : Nat} {Q : Option Value → z_S → z_H → Prop} {a0 : Nat} {x1 : Int32} {x2 : Int32} {x3 : Int32} {I : Nat → Nat → Int32} {R : Nat → Nat → Nat} {q : Int32 × (Nat → Nat → Int32)} (hd : 2 ≤ d) (hf : fX13_breaths a0 x1 x2 x3 I R = some q) (hk : Q (some (.int q.1)) z_SH (q.2, R)) : z_W G eX13_breaths d 0 0 0 [some (.ref a0), some (.int x1), some (.int x2), some (.int x3), none, none, none] [] z_SH (I, R) Q := by
  unfold fX13_breaths at hf
  obtain ⟨g_a0, hf⟩ := z_g_el hf
  refine z_iload_n dX13_breaths_0 rfl rfl ?_
  refine z_iconst dX13_breaths_1 kc_0 ?_
  refine z_bipush dX13_breaths_2 kb_7 ?_
  obtain ⟨q1, hq1, hf⟩ := z_b_el hf
  refine y_cSi (Nat.le_trans (Nat.le_of_ble_eq_true rfl) hd) (wX13_in (z_dl rfl hd) hq1) oX13_in lmX13_114 sX13_in _ rfl rfl (Nat.le_of_ble_eq_true rfl) dX13_breaths_4 ?_
  refine z_if_eq (tgt := 36) dX13_breaths_7 (by decide) (fun c2 => ?_) (fun c2 => ?_)
  · have hf := z_if_t hf c2
    refine z_iconst dX13_breaths_36 kc_m1 ?_
    cases hf
    exact z_iret hk ⟨_, rfl, rfl⟩ dX13_breaths_37
  · have hf := z_if_f hf c2
    refine z_iload_n dX13_breaths_10 rfl rfl ?_
    refine z_iconst dX13_breaths_11 kc_1 ?_
    refine z_bipush dX13_breaths_12 kb_20 ?_
    obtain ⟨q3, hq3, hf⟩ := z_b_el hf
    refine y_cSi (Nat.le_trans (Nat.le_of_ble_eq_true rfl) hd) (wX13_in (z_dl rfl hd) hq3) oX13_in lmX13_114 sX13_in _ rfl rfl (Nat.le_of_ble_eq_true rfl) dX13_breaths_14 ?_
    refine z_if_eq (tgt := 36) dX13_breaths_17 (by decide) (fun c4 => ?_) (fun c4 => ?_)
    · have hf := z_if_t hf c4
      refine z_iconst dX13_breaths_36 kc_m1 ?_
      cases hf
      exact z_iret hk ⟨_, rfl, rfl⟩ dX13_breaths_37
    · have hf := z_if_f hf c4
      refine z_iload_n dX13_breaths_20 rfl rfl ?_
      refine z_bipush dX13_breaths_21 kb_100 ?_
      refine z_icmp_eq (tgt := 38) dX13_breaths_23 (by decide) (fun c5 => ?_) (fun c5 => ?_)
      · have hf := z_if_t hf c5
        exact y_sub (wX13_breaths_j38 hd g_a0 hf hk) (z_le_c rfl (z_le_c rfl (z_le_c rfl (z_le_c rfl (z_le_n (z_le_n (z_le_n z_le_0)))))))
      · have hf := z_if_f hf c5
        refine z_iload_n dX13_breaths_26 rfl rfl ?_
        refine z_iconst dX13_breaths_27 kc_0 ?_
        refine z_bipush dX13_breaths_28 kb_59 ?_
        obtain ⟨q24, hq24, hf⟩ := z_b_el hf
        refine y_cSi (Nat.le_trans (Nat.le_of_ble_eq_true rfl) hd) (wX13_in (z_dl rfl hd) hq24) oX13_in lmX13_114 sX13_in _ rfl rfl (Nat.le_of_ble_eq_true rfl) dX13_breaths_30 ?_
        refine z_if_ne (tgt := 38) dX13_breaths_33 (by decide) (fun c25 => ?_) (fun c25 => ?_)
        · have hf := z_if_f hf c25
          exact y_sub (wX13_breaths_j38 hd g_a0 hf hk) (z_le_c rfl (z_le_c rfl (z_le_c rfl (z_le_c rfl (z_le_n (z_le_n (z_le_n z_le_0)))))))
        · have hf := z_if_t hf c25
          refine z_iconst dX13_breaths_36 kc_m1 ?_
          cases hf
          exact z_iret hk ⟨_, rfl, rfl⟩ dX13_breaths_37
theorem wX13_breaths {G : z_G} {d : Nat} {a0 : Nat} {x1 : Int32} {x2 : Int32} {x3 : Int32} {I : Nat → Nat → Int32} {R : Nat → Nat → Nat} {q : Int32 × (Nat → Nat → Int32)} (hd : 2 ≤ d) (hf : fX13_breaths a0 x1 x2 x3 I R = some q) : z_M G d 0 0 eX13_breaths [.ref a0, .int x1, .int x2, .int x3] z_SH (I, R) (z_E (some (.int q.1)) (q.2, R)) :=
  y_M_of _ (by decide +kernel) rfl rfl rfl (vX13_breaths hd hf ⟨rfl, rfl, rfl⟩)
def fX13_showsAt (a0 : Nat) (x1 : Int32) (x2 : Int32) (I : Nat → Nat → Int32) (R : Nat → Nat → Nat) : Option (Int32) :=
  z_g (z_ob a0 13) (z_g (z_ok 1 (R a0 0) ((8 : Int32) + x1)) (some ((((60 : Int32) + (I (R a0 0) ((8 : Int32) + x1).toNatClampNeg)) * x2) / (60 : Int32))))
theorem vX13_showsAt {G : z_G} {d : Nat} {Q : Option Value → z_S → z_H → Prop} {a0 : Nat} {x1 : Int32} {x2 : Int32} {I : Nat → Nat → Int32} {R : Nat → Nat → Nat} {q : Int32} (hd : 0 ≤ d) (hf : fX13_showsAt a0 x1 x2 I R = some q) (hk : Q (some (.int q)) z_SH (I, R)) : z_W G eX13_showsAt d 0 0 0 [some (.ref a0), some (.int x1), some (.int x2)] [] z_SH (I, R) Q := by
  unfold fX13_showsAt at hf
  obtain ⟨g_a0, hf⟩ := z_g_el hf
  refine z_bipush dX13_showsAt_0 kb_60 ?_
  refine z_aload_n dX13_showsAt_2 rfl rfl (z_okl g_a0) ?_
  refine y_getR lfX13_7 rfl g_a0 dX13_showsAt_3 ?_
  refine z_bipush dX13_showsAt_6 kb_8 ?_
  refine z_iload_n dX13_showsAt_8 rfl rfl ?_
  refine z_iadd dX13_showsAt_9 ?_
  obtain ⟨g1, hf⟩ := z_g_el hf
  refine y_iald g1 dX13_showsAt_10 ?_
  refine z_iadd dX13_showsAt_11 ?_
  refine z_iload_n dX13_showsAt_12 rfl rfl ?_
  refine z_imul dX13_showsAt_13 ?_
  refine z_bipush dX13_showsAt_14 kb_60 ?_
  refine z_idiv dX13_showsAt_16 (by decide) ?_
  cases hf
  exact z_iret hk ⟨_, rfl, rfl⟩ dX13_showsAt_17
theorem wX13_showsAt {G : z_G} {d : Nat} {a0 : Nat} {x1 : Int32} {x2 : Int32} {I : Nat → Nat → Int32} {R : Nat → Nat → Nat} {q : Int32} (hd : 0 ≤ d) (hf : fX13_showsAt a0 x1 x2 I R = some q) : z_M G d 0 0 eX13_showsAt [.ref a0, .int x1, .int x2] z_SH (I, R) (z_E (some (.int q)) (I, R)) :=
  y_M_of _ (by decide +kernel) rfl rfl rfl (vX13_showsAt hd hf ⟨rfl, rfl, rfl⟩)
def fX13_clock (a0 : Nat) (x1 : Int32) (x2 : Int32) (I : Nat → Nat → Int32) (R : Nat → Nat → Nat) : Option (Int32) :=
  z_g (z_ob a0 13) (z_b (fX13_isTold a0 x1 I R) (fun q1 => if q1 = 0 then (some (-1 : Int32)) else (z_b (fX13_in x2 (0 : Int32) (100000 : Int32)) (fun q3 => if q3 = 0 then (some (-1 : Int32)) else (z_b (fX13_showsAt a0 x1 x2 I R) (fun q5 => some (z_rem q5 (43200 : Int32))))))))
theorem vX13_clock {G : z_G} {d : Nat} {Q : Option Value → z_S → z_H → Prop} {a0 : Nat} {x1 : Int32} {x2 : Int32} {I : Nat → Nat → Int32} {R : Nat → Nat → Nat} {q : Int32} (hd : 2 ≤ d) (hf : fX13_clock a0 x1 x2 I R = some q) (hk : Q (some (.int q)) z_SH (I, R)) : z_W G eX13_clock d 0 0 0 [some (.ref a0), some (.int x1), some (.int x2)] [] z_SH (I, R) Q := by
  unfold fX13_clock at hf
  obtain ⟨g_a0, hf⟩ := z_g_el hf
  refine z_aload_n dX13_clock_0 rfl rfl (z_okl g_a0) ?_
  refine z_iload_n dX13_clock_1 rfl rfl ?_
  obtain ⟨q1, hq1, hf⟩ := z_b_el hf
  refine y_cVi (av := [.int x1]) (Nat.le_trans (Nat.le_of_ble_eq_true rfl) hd) (wX13_isTold (z_dl rfl hd) hq1) oX13_isTold lmX13_118 iX13_isTold g_a0 rfl _ rfl rfl (Nat.le_of_ble_eq_true rfl) dX13_clock_2 ?_
  refine z_if_eq (tgt := 32) dX13_clock_5 (by decide) (fun c2 => ?_) (fun c2 => ?_)
  · have hf := z_if_t hf c2
    refine z_iconst dX13_clock_32 kc_m1 ?_
    cases hf
    exact z_iret hk ⟨_, rfl, rfl⟩ dX13_clock_33
  · have hf := z_if_f hf c2
    refine z_iload_n dX13_clock_8 rfl rfl ?_
    refine z_iconst dX13_clock_9 kc_0 ?_
    refine z_ldcw dX13_clock_10 lkX13_390 ?_
    obtain ⟨q3, hq3, hf⟩ := z_b_el hf
    refine y_cSi (Nat.le_trans (Nat.le_of_ble_eq_true rfl) hd) (wX13_in (z_dl rfl hd) hq3) oX13_in lmX13_114 sX13_in _ rfl rfl (Nat.le_of_ble_eq_true rfl) dX13_clock_13 ?_
    refine z_if_eq (tgt := 32) dX13_clock_16 (by decide) (fun c4 => ?_) (fun c4 => ?_)
    · have hf := z_if_t hf c4
      refine z_iconst dX13_clock_32 kc_m1 ?_
      cases hf
      exact z_iret hk ⟨_, rfl, rfl⟩ dX13_clock_33
    · have hf := z_if_f hf c4
      refine z_aload_n dX13_clock_19 rfl rfl (z_okl g_a0) ?_
      refine z_iload_n dX13_clock_20 rfl rfl ?_
      refine z_iload_n dX13_clock_21 rfl rfl ?_
      obtain ⟨q5, hq5, hf⟩ := z_b_el hf
      refine y_cVi (av := [.int x1, .int x2]) (Nat.le_trans (Nat.le_of_ble_eq_true rfl) hd) (wX13_showsAt (z_dl rfl hd) hq5) oX13_showsAt lmX13_391 iX13_showsAt g_a0 rfl _ rfl rfl (Nat.le_of_ble_eq_true rfl) dX13_clock_22 ?_
      refine z_ldcw dX13_clock_25 lkX13_394 ?_
      refine y_irem dX13_clock_28 (by decide) ?_
      refine z_goto (tgt := 33) dX13_clock_29 (by decide) ?_
      cases hf
      exact z_iret hk ⟨_, rfl, rfl⟩ dX13_clock_33
theorem wX13_clock {G : z_G} {d : Nat} {a0 : Nat} {x1 : Int32} {x2 : Int32} {I : Nat → Nat → Int32} {R : Nat → Nat → Nat} {q : Int32} (hd : 2 ≤ d) (hf : fX13_clock a0 x1 x2 I R = some q) : z_M G d 0 0 eX13_clock [.ref a0, .int x1, .int x2] z_SH (I, R) (z_E (some (.int q)) (I, R)) :=
  y_M_of _ (by decide +kernel) rfl rfl rfl (vX13_clock hd hf ⟨rfl, rfl, rfl⟩)
def fX13_gcd_b4  : (Int32 × Int32) → Option ((Int32 × Int32) ⊕ (Int32)) :=
  fun s => (fun (p2 : Int32) (p3 : Int32) => if p3 = 0 then (some (.inr p2)) else (z_g (¬ p3 = 0) (z_l (z_rem p2 p3) (fun t3 => some (.inl (p3, t3)))))) s.1 s.2
theorem wX13_gcd_b4 {G : z_G} {d : Nat} {Q : Option Value → z_S → z_H → Prop} {I : Nat → Nat → Int32} {R : Nat → Nat → Nat} (hd : 0 ≤ d)  : ∀ (s : Int32 × Int32) (o : (Int32 × Int32) ⊕ (Int32)), fX13_gcd_b4  s = some o → z_or (fun s : Int32 × Int32 => z_W G eX13_gcd d 0 0 4 [none, none, some (.int s.1), some (.int s.2), none] [] z_SH (I, R) Q) (fun x : Int32 => z_W G eX13_gcd d 0 0 21 [none, none, some (.int x), none, none] [] z_SH (I, R) Q) o → (fun s : Int32 × Int32 => z_W G eX13_gcd d 0 0 4 [none, none, some (.int s.1), some (.int s.2), none] [] z_SH (I, R) Q) s := by
  rintro ⟨p2, p3⟩ o hf hk
  show z_W G eX13_gcd d 0 0 4 [none, none, some (.int p2), some (.int p3), none] [] z_SH (I, R) Q
  unfold fX13_gcd_b4 at hf
  try dsimp only at hf
  refine z_iload_n dX13_gcd_4 rfl rfl ?_
  refine z_if_eq (tgt := 21) dX13_gcd_5 (by decide) (fun c1 => ?_) (fun c1 => ?_)
  · have hf := z_if_t hf c1
    cases hf
    exact y_sub hk (z_le_n (z_le_n (z_le_c rfl (z_le_n (z_le_n z_le_0)))))
  · have hf := z_if_f hf c1
    refine z_iload_n dX13_gcd_8 rfl rfl ?_
    refine z_iload_n dX13_gcd_9 rfl rfl ?_
    obtain ⟨g2, hf⟩ := z_g_el hf
    refine y_irem dX13_gcd_10 g2 ?_
    refine y_istore (fun t3 => [none, none, some (.int p2), some (.int p3), some (.int t3)]) dX13_gcd_11 (by decide) (fun _ => rfl) (fun t3 et3 => ?_)
    have hf := z_l_el hf et3
    refine z_iload_n dX13_gcd_13 rfl rfl ?_
    refine y_istore_n0 [none, none, some (.int p3), some (.int p3), some (.int t3)] dX13_gcd_14 rfl (by decide) rfl ?_
    refine z_iload dX13_gcd_15 rfl ?_
    refine y_istore_n0 [none, none, some (.int p3), some (.int t3), some (.int t3)] dX13_gcd_17 rfl (by decide) rfl ?_
    refine z_goto (tgt := 4) dX13_gcd_18 (by decide) ?_
    cases hf
    exact y_sub hk (z_le_n (z_le_n (z_le_c rfl (z_le_c rfl (z_le_n z_le_0)))))
def fX13_gcd (x0 : Int32) (x1 : Int32) : Option (Int32) :=
  z_b (z_lp (fX13_gcd_b4 ) 300 (x0, x1)) (fun q4 => some q4)
theorem vX13_gcd {G : z_G} {d : Nat} {Q : Option Value → z_S → z_H → Prop} {x0 : Int32} {x1 : Int32} {I : Nat → Nat → Int32} {R : Nat → Nat → Nat} {q : Int32} (hd : 0 ≤ d) (hf : fX13_gcd x0 x1 = some q) (hk : Q (some (.int q)) z_SH (I, R)) : z_W G eX13_gcd d 0 0 0 [some (.int x0), some (.int x1), none, none, none] [] z_SH (I, R) Q := by
  unfold fX13_gcd at hf
  refine z_iload_n dX13_gcd_0 rfl rfl ?_
  refine y_istore_n0 [some (.int x0), some (.int x1), some (.int x0), none, none] dX13_gcd_1 rfl (by decide) rfl ?_
  refine z_iload_n dX13_gcd_2 rfl rfl ?_
  refine y_istore_n0 [some (.int x0), some (.int x1), some (.int x0), some (.int x1), none] dX13_gcd_3 rfl (by decide) rfl ?_
  obtain ⟨q4, hq4, hf⟩ := z_b_el hf
  refine y_sub (lv' := [none, none, some (.int x0), some (.int x1), none]) ?_ (z_le_n (z_le_n (z_le_c rfl (z_le_c rfl (z_le_n z_le_0)))))
  refine z_lp_el (P := (fun s : Int32 × Int32 => z_W G eX13_gcd d 0 0 4 [none, none, some (.int s.1), some (.int s.2), none] [] z_SH (I, R) Q)) (E := (fun x : Int32 => z_W G eX13_gcd d 0 0 21 [none, none, some (.int x), none, none] [] z_SH (I, R) Q)) (wX13_gcd_b4 hd ) 300 (x0, x1) q4 hq4 ?_
  show z_W G eX13_gcd d 0 0 21 [none, none, some (.int q4), none, none] [] z_SH (I, R) _
  refine z_iload_n dX13_gcd_21 rfl rfl ?_
  cases hf
  exact z_iret hk ⟨_, rfl, rfl⟩ dX13_gcd_22
theorem wX13_gcd {G : z_G} {d : Nat} {x0 : Int32} {x1 : Int32} {I : Nat → Nat → Int32} {R : Nat → Nat → Nat} {q : Int32} (hd : 0 ≤ d) (hf : fX13_gcd x0 x1 = some q) : z_M G d 0 0 eX13_gcd [.int x0, .int x1] z_SH (I, R) (z_E (some (.int q)) (I, R)) :=
  y_M_of _ (by decide +kernel) rfl rfl rfl (vX13_gcd hd hf ⟨rfl, rfl, rfl⟩)
def fX13_meet (a0 : Nat) (x1 : Int32) (x2 : Int32) (I : Nat → Nat → Int32) (R : Nat → Nat → Nat) : Option (Int32) :=
  z_g (z_ob a0 13) (z_b (fX13_isTold a0 x1 I R) (fun q1 => if q1 = 0 then (some (-1 : Int32)) else (z_b (fX13_isTold a0 x2 I R) (fun q3 => if q3 = 0 then (some (-1 : Int32)) else (if x1 = x2 then (some (-1 : Int32)) else (z_g (z_ok 1 (R a0 0) ((8 : Int32) + x1)) (z_g (z_ok 1 (R a0 0) ((8 : Int32) + x2)) (z_b (fX13_size ((I (R a0 0) ((8 : Int32) + x1).toNatClampNeg) - (I (R a0 0) ((8 : Int32) + x2).toNatClampNeg))) (fun q8 => z_b (fX13_gcd (2592000 : Int32) q8) (fun q9 => z_g (¬ q9 = 0) (some ((2592000 : Int32) / q9))))))))))))
theorem vX13_meet {G : z_G} {d : Nat} {Q : Option Value → z_S → z_H → Prop} {a0 : Nat} {x1 : Int32} {x2 : Int32} {I : Nat → Nat → Int32} {R : Nat → Nat → Nat} {q : Int32} (hd : 2 ≤ d) (hf : fX13_meet a0 x1 x2 I R = some q) (hk : Q (some (.int q)) z_SH (I, R)) : z_W G eX13_meet d 0 0 0 [some (.ref a0), some (.int x1), some (.int x2), none] [] z_SH (I, R) Q := by
  unfold fX13_meet at hf
  obtain ⟨g_a0, hf⟩ := z_g_el hf
  refine z_aload_n dX13_meet_0 rfl rfl (z_okl g_a0) ?_
  refine z_iload_n dX13_meet_1 rfl rfl ?_
  obtain ⟨q1, hq1, hf⟩ := z_b_el hf
  refine y_cVi (av := [.int x1]) (Nat.le_trans (Nat.le_of_ble_eq_true rfl) hd) (wX13_isTold (z_dl rfl hd) hq1) oX13_isTold lmX13_118 iX13_isTold g_a0 rfl _ rfl rfl (Nat.le_of_ble_eq_true rfl) dX13_meet_2 ?_
  refine z_if_eq (tgt := 21) dX13_meet_5 (by decide) (fun c2 => ?_) (fun c2 => ?_)
  · have hf := z_if_t hf c2
    refine z_iconst dX13_meet_21 kc_m1 ?_
    cases hf
    exact z_iret hk ⟨_, rfl, rfl⟩ dX13_meet_22
  · have hf := z_if_f hf c2
    refine z_aload_n dX13_meet_8 rfl rfl (z_okl g_a0) ?_
    refine z_iload_n dX13_meet_9 rfl rfl ?_
    obtain ⟨q3, hq3, hf⟩ := z_b_el hf
    refine y_cVi (av := [.int x2]) (Nat.le_trans (Nat.le_of_ble_eq_true rfl) hd) (wX13_isTold (z_dl rfl hd) hq3) oX13_isTold lmX13_118 iX13_isTold g_a0 rfl _ rfl rfl (Nat.le_of_ble_eq_true rfl) dX13_meet_10 ?_
    refine z_if_eq (tgt := 21) dX13_meet_13 (by decide) (fun c4 => ?_) (fun c4 => ?_)
    · have hf := z_if_t hf c4
      refine z_iconst dX13_meet_21 kc_m1 ?_
      cases hf
      exact z_iret hk ⟨_, rfl, rfl⟩ dX13_meet_22
    · have hf := z_if_f hf c4
      refine z_iload_n dX13_meet_16 rfl rfl ?_
      refine z_iload_n dX13_meet_17 rfl rfl ?_
      refine z_icmp_ne (tgt := 23) dX13_meet_18 (by decide) (fun c5 => ?_) (fun c5 => ?_)
      · have hf := z_if_f hf c5
        refine z_aload_n dX13_meet_23 rfl rfl (z_okl g_a0) ?_
        refine y_getR lfX13_7 rfl g_a0 dX13_meet_24 ?_
        refine z_bipush dX13_meet_27 kb_8 ?_
        refine z_iload_n dX13_meet_29 rfl rfl ?_
        refine z_iadd dX13_meet_30 ?_
        obtain ⟨g6, hf⟩ := z_g_el hf
        refine y_iald g6 dX13_meet_31 ?_
        refine z_aload_n dX13_meet_32 rfl rfl (z_okl g_a0) ?_
        refine y_getR lfX13_7 rfl g_a0 dX13_meet_33 ?_
        refine z_bipush dX13_meet_36 kb_8 ?_
        refine z_iload_n dX13_meet_38 rfl rfl ?_
        refine z_iadd dX13_meet_39 ?_
        obtain ⟨g7, hf⟩ := z_g_el hf
        refine y_iald g7 dX13_meet_40 ?_
        refine z_isub dX13_meet_41 ?_
        obtain ⟨q8, hq8, hf⟩ := z_b_el hf
        refine y_cSi (Nat.le_trans (Nat.le_of_ble_eq_true rfl) hd) (wX13_size (z_dl rfl hd) hq8) oX13_size lmX13_134 sX13_size _ rfl rfl (Nat.le_of_ble_eq_true rfl) dX13_meet_42 ?_
        refine y_istore_n0 [some (.ref a0), some (.int x1), some (.int x2), some (.int q8)] dX13_meet_45 rfl (by decide) rfl ?_
        refine z_ldcw dX13_meet_46 lkX13_395 ?_
        refine z_ldcw dX13_meet_49 lkX13_395 ?_
        refine z_iload_n dX13_meet_52 rfl rfl ?_
        obtain ⟨q9, hq9, hf⟩ := z_b_el hf
        refine y_cSi (Nat.le_trans (Nat.le_of_ble_eq_true rfl) hd) (wX13_gcd (z_dl rfl hd) hq9) oX13_gcd lmX13_396 sX13_gcd _ rfl rfl (Nat.le_of_ble_eq_true rfl) dX13_meet_53 ?_
        obtain ⟨g10, hf⟩ := z_g_el hf
        refine z_idiv dX13_meet_56 g10 ?_
        cases hf
        exact z_iret hk ⟨_, rfl, rfl⟩ dX13_meet_57
      · have hf := z_if_t hf c5
        refine z_iconst dX13_meet_21 kc_m1 ?_
        cases hf
        exact z_iret hk ⟨_, rfl, rfl⟩ dX13_meet_22
theorem wX13_meet {G : z_G} {d : Nat} {a0 : Nat} {x1 : Int32} {x2 : Int32} {I : Nat → Nat → Int32} {R : Nat → Nat → Nat} {q : Int32} (hd : 2 ≤ d) (hf : fX13_meet a0 x1 x2 I R = some q) : z_M G d 0 0 eX13_meet [.ref a0, .int x1, .int x2] z_SH (I, R) (z_E (some (.int q)) (I, R)) :=
  y_M_of _ (by decide +kernel) rfl rfl rfl (vX13_meet hd hf ⟨rfl, rfl, rfl⟩)
def fX13_agree_b86 (a0 : Nat) (z1 : Int32) (z2 : Int32) (z3 : Int32) (z4 : Int32) (z5 : Int32) (I : Nat → Nat → Int32) (R : Nat → Nat → Nat) : (Int32 × Int32 × Int32) → Option ((Int32 × Int32 × Int32) ⊕ (Int32 × Int32)) :=
  fun s => (fun (p6 : Int32) (p7 : Int32) (p8 : Int32) => if (8 : Int32) ≤ p8 then (some (.inr (p6, p7))) else (z_b (fX13_has z5 p8) (fun q15 => if q15 = 0 then (z_l (p8 + (1 : Int32)) (fun t22 => some (.inl (p6, p7, t22)))) else (z_b (fX13_showsAt a0 p8 z1 I R) (fun q17 => z_b (fX13_min p6 q17) (fun q18 => z_b (fX13_showsAt a0 p8 z1 I R) (fun q19 => z_b (fX13_max p7 q19) (fun q20 => z_l (p8 + (1 : Int32)) (fun t21 => some (.inl (q18, q20, t21))))))))))) s.1 s.2.1 s.2.2
theorem wX13_agree_b86 {G : z_G} {d : Nat} {Q : Option Value → z_S → z_H → Prop} {a0 : Nat} {z1 : Int32} {z2 : Int32} {z3 : Int32} {z4 : Int32} {z5 : Int32} {I : Nat → Nat → Int32} {R : Nat → Nat → Nat} (hd : 3 ≤ d) (g_a0 : z_ob a0 13) : ∀ (s : Int32 × Int32 × Int32) (o : (Int32 × Int32 × Int32) ⊕ (Int32 × Int32)), fX13_agree_b86 a0 z1 z2 z3 z4 z5 I R s = some o → z_or (fun s : Int32 × Int32 × Int32 => z_W G eX13_agree d 0 0 86 [some (.ref a0), some (.int z1), some (.int z2), some (.int z3), some (.int z4), some (.int z5), some (.int s.1), some (.int s.2.1), some (.int s.2.2)] [] z_SH (I, R) Q) (fun x : Int32 × Int32 => z_W G eX13_agree d 0 0 140 [some (.ref a0), some (.int z1), some (.int z2), some (.int z3), some (.int z4), some (.int z5), some (.int x.1), some (.int x.2), none] [] z_SH (I, R) Q) o → (fun s : Int32 × Int32 × Int32 => z_W G eX13_agree d 0 0 86 [some (.ref a0), some (.int z1), some (.int z2), some (.int z3), some (.int z4), some (.int z5), some (.int s.1), some (.int s.2.1), some (.int s.2.2)] [] z_SH (I, R) Q) s := by
  rintro ⟨p6, p7, p8⟩ o hf hk
  show z_W G eX13_agree d 0 0 86 [some (.ref a0), some (.int z1), some (.int z2), some (.int z3), some (.int z4), some (.int z5), some (.int p6), some (.int p7), some (.int p8)] [] z_SH (I, R) Q
  unfold fX13_agree_b86 at hf
  try dsimp only at hf
  refine z_iload dX13_agree_86 rfl ?_
  refine z_bipush dX13_agree_88 kb_8 ?_
  refine z_icmp_ge (tgt := 140) dX13_agree_90 (by decide) (fun c14 => ?_) (fun c14 => ?_)
  · have hf := z_if_t hf c14
    cases hf
    exact y_sub hk (z_le_c rfl (z_le_c rfl (z_le_c rfl (z_le_c rfl (z_le_c rfl (z_le_c rfl (z_le_c rfl (z_le_c rfl (z_le_n z_le_0)))))))))
  · have hf := z_if_f hf c14
    refine z_iload dX13_agree_93 rfl ?_
    refine z_iload dX13_agree_95 rfl ?_
    obtain ⟨q15, hq15, hf⟩ := z_b_el hf
    refine y_cSi (Nat.le_trans (Nat.le_of_ble_eq_true rfl) hd) (wX13_has (z_dl rfl hd) hq15) oX13_has lmX13_137 sX13_has _ rfl rfl (Nat.le_of_ble_eq_true rfl) dX13_agree_97 ?_
    refine z_if_ne (tgt := 106) dX13_agree_100 (by decide) (fun c16 => ?_) (fun c16 => ?_)
    · have hf := z_if_f hf c16
      refine z_iload dX13_agree_106 rfl ?_
      refine z_aload_n dX13_agree_108 rfl rfl (z_okl g_a0) ?_
      refine z_iload dX13_agree_109 rfl ?_
      refine z_iload_n dX13_agree_111 rfl rfl ?_
      obtain ⟨q17, hq17, hf⟩ := z_b_el hf
      refine y_cVi (av := [.int p8, .int z1]) (Nat.le_trans (Nat.le_of_ble_eq_true rfl) hd) (wX13_showsAt (z_dl rfl hd) hq17) oX13_showsAt lmX13_391 iX13_showsAt g_a0 rfl _ rfl rfl (Nat.le_of_ble_eq_true rfl) dX13_agree_112 ?_
      obtain ⟨q18, hq18, hf⟩ := z_b_el hf
      refine y_cSi (Nat.le_trans (Nat.le_of_ble_eq_true rfl) hd) (wX13_min (z_dl rfl hd) hq18) oX13_min lmX13_282 sX13_min _ rfl rfl (Nat.le_of_ble_eq_true rfl) dX13_agree_115 ?_
      refine y_istore0 [some (.ref a0), some (.int z1), some (.int z2), some (.int z3), some (.int z4), some (.int z5), some (.int q18), some (.int p7), some (.int p8)] dX13_agree_118 (by decide) rfl ?_
      refine z_iload dX13_agree_120 rfl ?_
      refine z_aload_n dX13_agree_122 rfl rfl (z_okl g_a0) ?_
      refine z_iload dX13_agree_123 rfl ?_
      refine z_iload_n dX13_agree_125 rfl rfl ?_
      obtain ⟨q19, hq19, hf⟩ := z_b_el hf
      refine y_cVi (av := [.int p8, .int z1]) (Nat.le_trans (Nat.le_of_ble_eq_true rfl) hd) (wX13_showsAt (z_dl rfl hd) hq19) oX13_showsAt lmX13_391 iX13_showsAt g_a0 rfl _ rfl rfl (Nat.le_of_ble_eq_true rfl) dX13_agree_126 ?_
      obtain ⟨q20, hq20, hf⟩ := z_b_el hf
      refine y_cSi (Nat.le_trans (Nat.le_of_ble_eq_true rfl) hd) (wX13_max (z_dl rfl hd) hq20) oX13_max lmX13_294 sX13_max _ rfl rfl (Nat.le_of_ble_eq_true rfl) dX13_agree_129 ?_
      refine y_istore0 [some (.ref a0), some (.int z1), some (.int z2), some (.int z3), some (.int z4), some (.int z5), some (.int q18), some (.int q20), some (.int p8)] dX13_agree_132 (by decide) rfl ?_
      refine y_iinc (fun t21 => [some (.ref a0), some (.int z1), some (.int z2), some (.int z3), some (.int z4), some (.int z5), some (.int q18), some (.int q20), some (.int t21)]) dX13_agree_134 rfl kc_1 (by decide) (fun _ => rfl) (fun t21 et21 => ?_)
      have hf := z_l_el hf et21
      refine z_goto (tgt := 86) dX13_agree_137 (by decide) ?_
      cases hf
      exact y_sub hk (z_le_c rfl (z_le_c rfl (z_le_c rfl (z_le_c rfl (z_le_c rfl (z_le_c rfl (z_le_c rfl (z_le_c rfl (z_le_c rfl z_le_0)))))))))
    · have hf := z_if_t hf c16
      refine z_goto (tgt := 134) dX13_agree_103 (by decide) ?_
      refine y_iinc (fun t22 => [some (.ref a0), some (.int z1), some (.int z2), some (.int z3), some (.int z4), some (.int z5), some (.int p6), some (.int p7), some (.int t22)]) dX13_agree_134 rfl kc_1 (by decide) (fun _ => rfl) (fun t22 et22 => ?_)
      have hf := z_l_el hf et22
      refine z_goto (tgt := 86) dX13_agree_137 (by decide) ?_
      cases hf
      exact y_sub hk (z_le_c rfl (z_le_c rfl (z_le_c rfl (z_le_c rfl (z_le_c rfl (z_le_c rfl (z_le_c rfl (z_le_c rfl (z_le_c rfl z_le_0)))))))))
def fX13_agree_b39 (a0 : Nat) (z1 : Int32) (z2 : Int32) (z3 : Int32) (I : Nat → Nat → Int32) (R : Nat → Nat → Nat) : (Int32 × Int32) → Option ((Int32 × Int32) ⊕ (Int32)) :=
  fun s => (fun (p4 : Int32) (p5 : Int32) => if (256 : Int32) ≤ p5 then (some (.inr p4)) else (z_b (fX13_toldSet a0 I R) (fun q8 => if (p5 &&& (q8 ^^^ (-1 : Int32))) = 0 then (z_b (fX13_bits p5) (fun q11 => z_b (fX13_bits p4) (fun q12 => if q12 < q11 then (z_b (z_lp (fX13_agree_b86 a0 z1 z2 z3 p4 p5 I R) 300 ((1000000 : Int32), (-1 : Int32), (0 : Int32))) (fun q23 => if z2 < (q23.2 - q23.1) then (z_l (p5 + (1 : Int32)) (fun t25 => some (.inl (p4, t25)))) else (z_l (p5 + (1 : Int32)) (fun t26 => some (.inl (p5, t26)))))) else (z_l (p5 + (1 : Int32)) (fun t27 => some (.inl (p4, t27))))))) else (z_l (p5 + (1 : Int32)) (fun t10 => some (.inl (p4, t10))))))) s.1 s.2
theorem wX13_agree_b39 {G : z_G} {d : Nat} {Q : Option Value → z_S → z_H → Prop} {a0 : Nat} {z1 : Int32} {z2 : Int32} {z3 : Int32} {I : Nat → Nat → Int32} {R : Nat → Nat → Nat} (hd : 3 ≤ d) (g_a0 : z_ob a0 13) : ∀ (s : Int32 × Int32) (o : (Int32 × Int32) ⊕ (Int32)), fX13_agree_b39 a0 z1 z2 z3 I R s = some o → z_or (fun s : Int32 × Int32 => z_W G eX13_agree d 0 0 39 [some (.ref a0), some (.int z1), some (.int z2), some (.int z3), some (.int s.1), some (.int s.2), none, none, none] [] z_SH (I, R) Q) (fun x : Int32 => z_W G eX13_agree d 0 0 159 [none, none, none, some (.int z3), some (.int x), none, none, none, none] [] z_SH (I, R) Q) o → (fun s : Int32 × Int32 => z_W G eX13_agree d 0 0 39 [some (.ref a0), some (.int z1), some (.int z2), some (.int z3), some (.int s.1), some (.int s.2), none, none, none] [] z_SH (I, R) Q) s := by
  rintro ⟨p4, p5⟩ o hf hk
  show z_W G eX13_agree d 0 0 39 [some (.ref a0), some (.int z1), some (.int z2), some (.int z3), some (.int p4), some (.int p5), none, none, none] [] z_SH (I, R) Q
  unfold fX13_agree_b39 at hf
  try dsimp only at hf
  refine z_iload dX13_agree_39 rfl ?_
  refine z_sipush dX13_agree_41 ks_256 ?_
  refine z_icmp_ge (tgt := 159) dX13_agree_44 (by decide) (fun c7 => ?_) (fun c7 => ?_)
  · have hf := z_if_t hf c7
    cases hf
    exact y_sub hk (z_le_n (z_le_n (z_le_n (z_le_c rfl (z_le_c rfl (z_le_n (z_le_n (z_le_n (z_le_n z_le_0)))))))))
  · have hf := z_if_f hf c7
    refine z_iload dX13_agree_47 rfl ?_
    refine z_aload_n dX13_agree_49 rfl rfl (z_okl g_a0) ?_
    obtain ⟨q8, hq8, hf⟩ := z_b_el hf
    refine y_cVi (av := []) (Nat.le_trans (Nat.le_of_ble_eq_true rfl) hd) (wX13_toldSet (z_dl rfl hd) hq8) oX13_toldSet lmX13_126 iX13_toldSet g_a0 rfl _ rfl rfl (Nat.le_of_ble_eq_true rfl) dX13_agree_50 ?_
    refine z_iconst dX13_agree_53 kc_m1 ?_
    refine z_ixor dX13_agree_54 ?_
    refine z_iand dX13_agree_55 ?_
    refine z_if_ne (tgt := 153) dX13_agree_56 (by decide) (fun c9 => ?_) (fun c9 => ?_)
    · have hf := z_if_f hf c9
      refine y_iinc (fun t10 => [some (.ref a0), some (.int z1), some (.int z2), some (.int z3), some (.int p4), some (.int t10), none, none, none]) dX13_agree_153 rfl kc_1 (by decide) (fun _ => rfl) (fun t10 et10 => ?_)
      have hf := z_l_el hf et10
      refine z_goto (tgt := 39) dX13_agree_156 (by decide) ?_
      cases hf
      exact y_sub hk (z_le_c rfl (z_le_c rfl (z_le_c rfl (z_le_c rfl (z_le_c rfl (z_le_c rfl (z_le_n (z_le_n (z_le_n z_le_0)))))))))
    · have hf := z_if_t hf c9
      refine z_iload dX13_agree_59 rfl ?_
      obtain ⟨q11, hq11, hf⟩ := z_b_el hf
      refine y_cSi (Nat.le_trans (Nat.le_of_ble_eq_true rfl) hd) (wX13_bits (z_dl rfl hd) hq11) oX13_bits lmX13_130 sX13_bits _ rfl rfl (Nat.le_of_ble_eq_true rfl) dX13_agree_61 ?_
      refine z_iload dX13_agree_64 rfl ?_
      obtain ⟨q12, hq12, hf⟩ := z_b_el hf
      refine y_cSi (Nat.le_trans (Nat.le_of_ble_eq_true rfl) hd) (wX13_bits (z_dl rfl hd) hq12) oX13_bits lmX13_130 sX13_bits _ rfl rfl (Nat.le_of_ble_eq_true rfl) dX13_agree_66 ?_
      refine z_icmp_gt (tgt := 75) dX13_agree_69 (by decide) (fun c13 => ?_) (fun c13 => ?_)
      · have hf := z_if_t hf c13
        refine z_ldcw dX13_agree_75 lkX13_328 ?_
        refine y_istore0 [some (.ref a0), some (.int z1), some (.int z2), some (.int z3), some (.int p4), some (.int p5), some (.int (1000000 : Int32)), none, none] dX13_agree_78 (by decide) rfl ?_
        refine z_iconst dX13_agree_80 kc_m1 ?_
        refine y_istore0 [some (.ref a0), some (.int z1), some (.int z2), some (.int z3), some (.int p4), some (.int p5), some (.int (1000000 : Int32)), some (.int (-1 : Int32)), none] dX13_agree_81 (by decide) rfl ?_
        refine z_iconst dX13_agree_83 kc_0 ?_
        refine y_istore0 [some (.ref a0), some (.int z1), some (.int z2), some (.int z3), some (.int p4), some (.int p5), some (.int (1000000 : Int32)), some (.int (-1 : Int32)), some (.int (0 : Int32))] dX13_agree_84 (by decide) rfl ?_
        obtain ⟨q23, hq23, hf⟩ := z_b_el hf
        refine y_sub (lv' := [some (.ref a0), some (.int z1), some (.int z2), some (.int z3), some (.int p4), some (.int p5), some (.int (1000000 : Int32)), some (.int (-1 : Int32)), some (.int (0 : Int32))]) ?_ (z_le_c rfl (z_le_c rfl (z_le_c rfl (z_le_c rfl (z_le_c rfl (z_le_c rfl (z_le_c rfl (z_le_c rfl (z_le_c rfl z_le_0)))))))))
        refine z_lp_el (P := (fun s : Int32 × Int32 × Int32 => z_W G eX13_agree d 0 0 86 [some (.ref a0), some (.int z1), some (.int z2), some (.int z3), some (.int p4), some (.int p5), some (.int s.1), some (.int s.2.1), some (.int s.2.2)] [] z_SH (I, R) Q)) (E := (fun x : Int32 × Int32 => z_W G eX13_agree d 0 0 140 [some (.ref a0), some (.int z1), some (.int z2), some (.int z3), some (.int p4), some (.int p5), some (.int x.1), some (.int x.2), none] [] z_SH (I, R) Q)) (wX13_agree_b86 hd g_a0) 300 ((1000000 : Int32), (-1 : Int32), (0 : Int32)) q23 hq23 ?_
        show z_W G eX13_agree d 0 0 140 [some (.ref a0), some (.int z1), some (.int z2), some (.int z3), some (.int p4), some (.int p5), some (.int q23.1), some (.int q23.2), none] [] z_SH (I, R) _
        refine z_iload dX13_agree_140 rfl ?_
        refine z_iload dX13_agree_142 rfl ?_
        refine z_isub dX13_agree_144 ?_
        refine z_iload_n dX13_agree_145 rfl rfl ?_
        refine z_icmp_gt (tgt := 153) dX13_agree_146 (by decide) (fun c24 => ?_) (fun c24 => ?_)
        · have hf := z_if_t hf c24
          refine y_iinc (fun t25 => [some (.ref a0), some (.int z1), some (.int z2), some (.int z3), some (.int p4), some (.int t25), some (.int q23.1), some (.int q23.2), none]) dX13_agree_153 rfl kc_1 (by decide) (fun _ => rfl) (fun t25 et25 => ?_)
          have hf := z_l_el hf et25
          refine z_goto (tgt := 39) dX13_agree_156 (by decide) ?_
          cases hf
          exact y_sub hk (z_le_c rfl (z_le_c rfl (z_le_c rfl (z_le_c rfl (z_le_c rfl (z_le_c rfl (z_le_n (z_le_n (z_le_n z_le_0)))))))))
        · have hf := z_if_f hf c24
          refine z_iload dX13_agree_149 rfl ?_
          refine y_istore0 [some (.ref a0), some (.int z1), some (.int z2), some (.int z3), some (.int p5), some (.int p5), some (.int q23.1), some (.int q23.2), none] dX13_agree_151 (by decide) rfl ?_
          refine y_iinc (fun t26 => [some (.ref a0), some (.int z1), some (.int z2), some (.int z3), some (.int p5), some (.int t26), some (.int q23.1), some (.int q23.2), none]) dX13_agree_153 rfl kc_1 (by decide) (fun _ => rfl) (fun t26 et26 => ?_)
          have hf := z_l_el hf et26
          refine z_goto (tgt := 39) dX13_agree_156 (by decide) ?_
          cases hf
          exact y_sub hk (z_le_c rfl (z_le_c rfl (z_le_c rfl (z_le_c rfl (z_le_c rfl (z_le_c rfl (z_le_n (z_le_n (z_le_n z_le_0)))))))))
      · have hf := z_if_f hf c13
        refine z_goto (tgt := 153) dX13_agree_72 (by decide) ?_
        refine y_iinc (fun t27 => [some (.ref a0), some (.int z1), some (.int z2), some (.int z3), some (.int p4), some (.int t27), none, none, none]) dX13_agree_153 rfl kc_1 (by decide) (fun _ => rfl) (fun t27 et27 => ?_)
        have hf := z_l_el hf et27
        refine z_goto (tgt := 39) dX13_agree_156 (by decide) ?_
        cases hf
        exact y_sub hk (z_le_c rfl (z_le_c rfl (z_le_c rfl (z_le_c rfl (z_le_c rfl (z_le_c rfl (z_le_n (z_le_n (z_le_n z_le_0)))))))))
def fX13_agree (a0 : Nat) (x1 : Int32) (x2 : Int32) (x3 : Int32) (I : Nat → Nat → Int32) (R : Nat → Nat → Nat) : Option (Int32) :=
  z_g (z_ob a0 13) (z_b (fX13_in x1 (0 : Int32) (100000 : Int32)) (fun q1 => if q1 = 0 then (some (-1 : Int32)) else (z_b (fX13_in x2 (0 : Int32) (9999 : Int32)) (fun q3 => if q3 = 0 then (some (-1 : Int32)) else (z_b (fX13_in x3 (0 : Int32) (1 : Int32)) (fun q5 => if q5 = 0 then (some (-1 : Int32)) else (z_b (z_lp (fX13_agree_b39 a0 x1 x2 x3 I R) 300 ((0 : Int32), (1 : Int32))) (fun q28 => if x3 = 0 then (z_b (fX13_bits q28) (fun q30 => some q30)) else (some q28)))))))))
set_option maxRecDepth 20000 in
theorem vX13_agree {G : z_G} {d : Nat} {Q : Option Value → z_S → z_H → Prop} {a0 : Nat} {x1 : Int32} {x2 : Int32} {x3 : Int32} {I : Nat → Nat → Int32} {R : Nat → Nat → Nat} {q : Int32} (hd : 3 ≤ d) (hf : fX13_agree a0 x1 x2 x3 I R = some q) (hk : Q (some (.int q)) z_SH (I, R)) : z_W G eX13_agree d 0 0 0 [some (.ref a0), some (.int x1), some (.int x2), some (.int x3), none, none, none, none, none] [] z_SH (I, R) Q := by
  unfold fX13_agree at hf
  obtain ⟨g_a0, hf⟩ := z_g_el hf
  refine z_iload_n dX13_agree_0 rfl rfl ?_
  refine z_iconst dX13_agree_1 kc_0 ?_
  refine z_ldcw dX13_agree_2 lkX13_390 ?_
  obtain ⟨q1, hq1, hf⟩ := z_b_el hf
  refine y_cSi (Nat.le_trans (Nat.le_of_ble_eq_true rfl) hd) (wX13_in (z_dl rfl hd) hq1) oX13_in lmX13_114 sX13_in _ rfl rfl (Nat.le_of_ble_eq_true rfl) dX13_agree_5 ?_
  refine z_if_eq (tgt := 31) dX13_agree_8 (by decide) (fun c2 => ?_) (fun c2 => ?_)
  · have hf := z_if_t hf c2
    refine z_iconst dX13_agree_31 kc_m1 ?_
    cases hf
    exact z_iret hk ⟨_, rfl, rfl⟩ dX13_agree_32
  · have hf := z_if_f hf c2
    refine z_iload_n dX13_agree_11 rfl rfl ?_
    refine z_iconst dX13_agree_12 kc_0 ?_
    refine z_sipush dX13_agree_13 ks_9999 ?_
    obtain ⟨q3, hq3, hf⟩ := z_b_el hf
    refine y_cSi (Nat.le_trans (Nat.le_of_ble_eq_true rfl) hd) (wX13_in (z_dl rfl hd) hq3) oX13_in lmX13_114 sX13_in _ rfl rfl (Nat.le_of_ble_eq_true rfl) dX13_agree_16 ?_
    refine z_if_eq (tgt := 31) dX13_agree_19 (by decide) (fun c4 => ?_) (fun c4 => ?_)
    · have hf := z_if_t hf c4
      refine z_iconst dX13_agree_31 kc_m1 ?_
      cases hf
      exact z_iret hk ⟨_, rfl, rfl⟩ dX13_agree_32
    · have hf := z_if_f hf c4
      refine z_iload_n dX13_agree_22 rfl rfl ?_
      refine z_iconst dX13_agree_23 kc_0 ?_
      refine z_iconst dX13_agree_24 kc_1 ?_
      obtain ⟨q5, hq5, hf⟩ := z_b_el hf
      refine y_cSi (Nat.le_trans (Nat.le_of_ble_eq_true rfl) hd) (wX13_in (z_dl rfl hd) hq5) oX13_in lmX13_114 sX13_in _ rfl rfl (Nat.le_of_ble_eq_true rfl) dX13_agree_25 ?_
      refine z_if_ne (tgt := 33) dX13_agree_28 (by decide) (fun c6 => ?_) (fun c6 => ?_)
      · have hf := z_if_f hf c6
        refine z_iconst dX13_agree_33 kc_0 ?_
        refine y_istore0 [some (.ref a0), some (.int x1), some (.int x2), some (.int x3), some (.int (0 : Int32)), none, none, none, none] dX13_agree_34 (by decide) rfl ?_
        refine z_iconst dX13_agree_36 kc_1 ?_
        refine y_istore0 [some (.ref a0), some (.int x1), some (.int x2), some (.int x3), some (.int (0 : Int32)), some (.int (1 : Int32)), none, none, none] dX13_agree_37 (by decide) rfl ?_
        obtain ⟨q28, hq28, hf⟩ := z_b_el hf
        refine y_sub (lv' := [some (.ref a0), some (.int x1), some (.int x2), some (.int x3), some (.int (0 : Int32)), some (.int (1 : Int32)), none, none, none]) ?_ (z_le_c rfl (z_le_c rfl (z_le_c rfl (z_le_c rfl (z_le_c rfl (z_le_c rfl (z_le_n (z_le_n (z_le_n z_le_0)))))))))
        refine z_lp_el (P := (fun s : Int32 × Int32 => z_W G eX13_agree d 0 0 39 [some (.ref a0), some (.int x1), some (.int x2), some (.int x3), some (.int s.1), some (.int s.2), none, none, none] [] z_SH (I, R) Q)) (E := (fun x : Int32 => z_W G eX13_agree d 0 0 159 [none, none, none, some (.int x3), some (.int x), none, none, none, none] [] z_SH (I, R) Q)) (wX13_agree_b39 hd g_a0) 300 ((0 : Int32), (1 : Int32)) q28 hq28 ?_
        show z_W G eX13_agree d 0 0 159 [none, none, none, some (.int x3), some (.int q28), none, none, none, none] [] z_SH (I, R) _
        refine z_iload_n dX13_agree_159 rfl rfl ?_
        refine z_if_ne (tgt := 171) dX13_agree_160 (by decide) (fun c29 => ?_) (fun c29 => ?_)
        · have hf := z_if_f hf c29
          refine z_iload dX13_agree_171 rfl ?_
          cases hf
          exact z_iret hk ⟨_, rfl, rfl⟩ dX13_agree_173
        · have hf := z_if_t hf c29
          refine z_iload dX13_agree_163 rfl ?_
          obtain ⟨q30, hq30, hf⟩ := z_b_el hf
          refine y_cSi (Nat.le_trans (Nat.le_of_ble_eq_true rfl) hd) (wX13_bits (z_dl rfl hd) hq30) oX13_bits lmX13_130 sX13_bits _ rfl rfl (Nat.le_of_ble_eq_true rfl) dX13_agree_165 ?_
          refine z_goto (tgt := 173) dX13_agree_168 (by decide) ?_
          cases hf
          exact z_iret hk ⟨_, rfl, rfl⟩ dX13_agree_173
      · have hf := z_if_t hf c6
        refine z_iconst dX13_agree_31 kc_m1 ?_
        cases hf
        exact z_iret hk ⟨_, rfl, rfl⟩ dX13_agree_32
theorem wX13_agree {G : z_G} {d : Nat} {a0 : Nat} {x1 : Int32} {x2 : Int32} {x3 : Int32} {I : Nat → Nat → Int32} {R : Nat → Nat → Nat} {q : Int32} (hd : 3 ≤ d) (hf : fX13_agree a0 x1 x2 x3 I R = some q) : z_M G d 0 0 eX13_agree [.ref a0, .int x1, .int x2, .int x3] z_SH (I, R) (z_E (some (.int q)) (I, R)) :=
  y_M_of _ (by decide +kernel) rfl rfl rfl (vX13_agree hd hf ⟨rfl, rfl, rfl⟩)
def fX13_followersOf_b16 (a0 : Nat) (z3 : Int32) (I : Nat → Nat → Int32) (R : Nat → Nat → Nat) : (Int32 × Int32) → Option ((Int32 × Int32) ⊕ (Int32)) :=
  fun s => (fun (p2 : Int32) (p4 : Int32) => if (8 : Int32) ≤ p4 then (some (.inr p2)) else (z_b (fX13_heardBy a0 p4 I R) (fun q4 => if (q4 &&& z3) = 0 then (z_l (p4 + (1 : Int32)) (fun t6 => some (.inl (p2, t6)))) else (z_l (p2 ||| (z_shl (1 : Int32) p4)) (fun t7 => z_l (p4 + (1 : Int32)) (fun t8 => some (.inl (t7, t8)))))))) s.1 s.2
theorem wX13_followersOf_b16 {G : z_G} {d : Nat} {Q : Option Value → z_S → z_H → Prop} {a0 : Nat} {z3 : Int32} {I : Nat → Nat → Int32} {R : Nat → Nat → Nat} (hd : 4 ≤ d) (g_a0 : z_ob a0 13) : ∀ (s : Int32 × Int32) (o : (Int32 × Int32) ⊕ (Int32)), fX13_followersOf_b16 a0 z3 I R s = some o → z_or (fun s : Int32 × Int32 => z_W G eX13_followersOf d 0 0 16 [some (.ref a0), none, some (.int s.1), some (.int z3), some (.int s.2)] [] z_SH (I, R) Q) (fun x : Int32 => z_W G eX13_followersOf d 0 0 47 [some (.ref a0), none, some (.int x), some (.int z3), none] [] z_SH (I, R) Q) o → (fun s : Int32 × Int32 => z_W G eX13_followersOf d 0 0 16 [some (.ref a0), none, some (.int s.1), some (.int z3), some (.int s.2)] [] z_SH (I, R) Q) s := by
  rintro ⟨p2, p4⟩ o hf hk
  show z_W G eX13_followersOf d 0 0 16 [some (.ref a0), none, some (.int p2), some (.int z3), some (.int p4)] [] z_SH (I, R) Q
  unfold fX13_followersOf_b16 at hf
  try dsimp only at hf
  refine z_iload dX13_followersOf_16 rfl ?_
  refine z_bipush dX13_followersOf_18 kb_8 ?_
  refine z_icmp_ge (tgt := 47) dX13_followersOf_20 (by decide) (fun c3 => ?_) (fun c3 => ?_)
  · have hf := z_if_t hf c3
    cases hf
    exact y_sub hk (z_le_c rfl (z_le_n (z_le_c rfl (z_le_c rfl (z_le_n z_le_0)))))
  · have hf := z_if_f hf c3
    refine z_aload_n dX13_followersOf_23 rfl rfl (z_okl g_a0) ?_
    refine z_iload dX13_followersOf_24 rfl ?_
    obtain ⟨q4, hq4, hf⟩ := z_b_el hf
    refine y_cVi (av := [.int p4]) (Nat.le_trans (Nat.le_of_ble_eq_true rfl) hd) (wX13_heardBy (z_dl rfl hd) hq4) oX13_heardBy lmX13_267 iX13_heardBy g_a0 rfl _ rfl rfl (Nat.le_of_ble_eq_true rfl) dX13_followersOf_26 ?_
    refine z_iload_n dX13_followersOf_29 rfl rfl ?_
    refine z_iand dX13_followersOf_30 ?_
    refine z_if_eq (tgt := 41) dX13_followersOf_31 (by decide) (fun c5 => ?_) (fun c5 => ?_)
    · have hf := z_if_t hf c5
      refine y_iinc (fun t6 => [some (.ref a0), none, some (.int p2), some (.int z3), some (.int t6)]) dX13_followersOf_41 rfl kc_1 (by decide) (fun _ => rfl) (fun t6 et6 => ?_)
      have hf := z_l_el hf et6
      refine z_goto (tgt := 16) dX13_followersOf_44 (by decide) ?_
      cases hf
      exact y_sub hk (z_le_c rfl (z_le_n (z_le_c rfl (z_le_c rfl (z_le_c rfl z_le_0)))))
    · have hf := z_if_f hf c5
      refine z_iload_n dX13_followersOf_34 rfl rfl ?_
      refine z_iconst dX13_followersOf_35 kc_1 ?_
      refine z_iload dX13_followersOf_36 rfl ?_
      refine y_ishl dX13_followersOf_38 ?_
      refine z_ior dX13_followersOf_39 ?_
      refine y_istore_n (fun t7 => [some (.ref a0), none, some (.int t7), some (.int z3), some (.int p4)]) dX13_followersOf_40 rfl (by decide) (fun _ => rfl) (fun t7 et7 => ?_)
      have hf := z_l_el hf et7
      refine y_iinc (fun t8 => [some (.ref a0), none, some (.int t7), some (.int z3), some (.int t8)]) dX13_followersOf_41 rfl kc_1 (by decide) (fun _ => rfl) (fun t8 et8 => ?_)
      have hf := z_l_el hf et8
      refine z_goto (tgt := 16) dX13_followersOf_44 (by decide) ?_
      cases hf
      exact y_sub hk (z_le_c rfl (z_le_n (z_le_c rfl (z_le_c rfl (z_le_c rfl z_le_0)))))
def fX13_followersOf_b6 (a0 : Nat) (I : Nat → Nat → Int32) (R : Nat → Nat → Nat) : (Int32 × Int32) → Option ((Int32 × Int32) ⊕ (Int32)) :=
  fun s => (fun (p2 : Int32) (p3 : Int32) => if p2 = p3 then (some (.inr p2)) else (z_b (z_lp (fX13_followersOf_b16 a0 p2 I R) 300 (p2, (0 : Int32))) (fun q9 => some (.inl (q9, p2))))) s.1 s.2
theorem wX13_followersOf_b6 {G : z_G} {d : Nat} {Q : Option Value → z_S → z_H → Prop} {a0 : Nat} {I : Nat → Nat → Int32} {R : Nat → Nat → Nat} (hd : 4 ≤ d) (g_a0 : z_ob a0 13) : ∀ (s : Int32 × Int32) (o : (Int32 × Int32) ⊕ (Int32)), fX13_followersOf_b6 a0 I R s = some o → z_or (fun s : Int32 × Int32 => z_W G eX13_followersOf d 0 0 6 [some (.ref a0), none, some (.int s.1), some (.int s.2), none] [] z_SH (I, R) Q) (fun x : Int32 => z_W G eX13_followersOf d 0 0 50 [none, none, some (.int x), none, none] [] z_SH (I, R) Q) o → (fun s : Int32 × Int32 => z_W G eX13_followersOf d 0 0 6 [some (.ref a0), none, some (.int s.1), some (.int s.2), none] [] z_SH (I, R) Q) s := by
  rintro ⟨p2, p3⟩ o hf hk
  show z_W G eX13_followersOf d 0 0 6 [some (.ref a0), none, some (.int p2), some (.int p3), none] [] z_SH (I, R) Q
  unfold fX13_followersOf_b6 at hf
  try dsimp only at hf
  refine z_iload_n dX13_followersOf_6 rfl rfl ?_
  refine z_iload_n dX13_followersOf_7 rfl rfl ?_
  refine z_icmp_eq (tgt := 50) dX13_followersOf_8 (by decide) (fun c2 => ?_) (fun c2 => ?_)
  · have hf := z_if_t hf c2
    cases hf
    exact y_sub hk (z_le_n (z_le_n (z_le_c rfl (z_le_n (z_le_n z_le_0)))))
  · have hf := z_if_f hf c2
    refine z_iload_n dX13_followersOf_11 rfl rfl ?_
    refine y_istore_n0 [some (.ref a0), none, some (.int p2), some (.int p2), none] dX13_followersOf_12 rfl (by decide) rfl ?_
    refine z_iconst dX13_followersOf_13 kc_0 ?_
    refine y_istore0 [some (.ref a0), none, some (.int p2), some (.int p2), some (.int (0 : Int32))] dX13_followersOf_14 (by decide) rfl ?_
    obtain ⟨q9, hq9, hf⟩ := z_b_el hf
    refine y_sub (lv' := [some (.ref a0), none, some (.int p2), some (.int p2), some (.int (0 : Int32))]) ?_ (z_le_c rfl (z_le_n (z_le_c rfl (z_le_c rfl (z_le_c rfl z_le_0)))))
    refine z_lp_el (P := (fun s : Int32 × Int32 => z_W G eX13_followersOf d 0 0 16 [some (.ref a0), none, some (.int s.1), some (.int p2), some (.int s.2)] [] z_SH (I, R) Q)) (E := (fun x : Int32 => z_W G eX13_followersOf d 0 0 47 [some (.ref a0), none, some (.int x), some (.int p2), none] [] z_SH (I, R) Q)) (wX13_followersOf_b16 hd g_a0) 300 (p2, (0 : Int32)) q9 hq9 ?_
    show z_W G eX13_followersOf d 0 0 47 [some (.ref a0), none, some (.int q9), some (.int p2), none] [] z_SH (I, R) _
    refine z_goto (tgt := 6) dX13_followersOf_47 (by decide) ?_
    cases hf
    exact y_sub hk (z_le_c rfl (z_le_n (z_le_c rfl (z_le_c rfl (z_le_n z_le_0)))))
def fX13_followersOf (a0 : Nat) (x1 : Int32) (I : Nat → Nat → Int32) (R : Nat → Nat → Nat) : Option (Int32) :=
  z_g (z_ob a0 13) (z_l (z_shl (1 : Int32) x1) (fun t1 => z_b (z_lp (fX13_followersOf_b6 a0 I R) 300 (t1, (0 : Int32))) (fun q10 => some q10)))
theorem vX13_followersOf {G : z_G} {d : Nat} {Q : Option Value → z_S → z_H → Prop} {a0 : Nat} {x1 : Int32} {I : Nat → Nat → Int32} {R : Nat → Nat → Nat} {q : Int32} (hd : 4 ≤ d) (hf : fX13_followersOf a0 x1 I R = some q) (hk : Q (some (.int q)) z_SH (I, R)) : z_W G eX13_followersOf d 0 0 0 [some (.ref a0), some (.int x1), none, none, none] [] z_SH (I, R) Q := by
  unfold fX13_followersOf at hf
  obtain ⟨g_a0, hf⟩ := z_g_el hf
  refine z_iconst dX13_followersOf_0 kc_1 ?_
  refine z_iload_n dX13_followersOf_1 rfl rfl ?_
  refine y_ishl dX13_followersOf_2 ?_
  refine y_istore_n (fun t1 => [some (.ref a0), some (.int x1), some (.int t1), none, none]) dX13_followersOf_3 rfl (by decide) (fun _ => rfl) (fun t1 et1 => ?_)
  have hf := z_l_el hf et1
  refine z_iconst dX13_followersOf_4 kc_0 ?_
  refine y_istore_n0 [some (.ref a0), some (.int x1), some (.int t1), some (.int (0 : Int32)), none] dX13_followersOf_5 rfl (by decide) rfl ?_
  obtain ⟨q10, hq10, hf⟩ := z_b_el hf
  refine y_sub (lv' := [some (.ref a0), none, some (.int t1), some (.int (0 : Int32)), none]) ?_ (z_le_c rfl (z_le_n (z_le_c rfl (z_le_c rfl (z_le_n z_le_0)))))
  refine z_lp_el (P := (fun s : Int32 × Int32 => z_W G eX13_followersOf d 0 0 6 [some (.ref a0), none, some (.int s.1), some (.int s.2), none] [] z_SH (I, R) Q)) (E := (fun x : Int32 => z_W G eX13_followersOf d 0 0 50 [none, none, some (.int x), none, none] [] z_SH (I, R) Q)) (wX13_followersOf_b6 hd g_a0) 300 (t1, (0 : Int32)) q10 hq10 ?_
  show z_W G eX13_followersOf d 0 0 50 [none, none, some (.int q10), none, none] [] z_SH (I, R) _
  refine z_iload_n dX13_followersOf_50 rfl rfl ?_
  cases hf
  exact z_iret hk ⟨_, rfl, rfl⟩ dX13_followersOf_51
theorem wX13_followersOf {G : z_G} {d : Nat} {a0 : Nat} {x1 : Int32} {I : Nat → Nat → Int32} {R : Nat → Nat → Nat} {q : Int32} (hd : 4 ≤ d) (hf : fX13_followersOf a0 x1 I R = some q) : z_M G d 0 0 eX13_followersOf [.ref a0, .int x1] z_SH (I, R) (z_E (some (.int q)) (I, R)) :=
  y_M_of _ (by decide +kernel) rfl rfl rfl (vX13_followersOf hd hf ⟨rfl, rfl, rfl⟩)
def fX13_leads (a0 : Nat) (x1 : Int32) (I : Nat → Nat → Int32) (R : Nat → Nat → Nat) : Option (Int32) :=
  z_g (z_ob a0 13) (z_b (fX13_isTold a0 x1 I R) (fun q1 => if q1 = 0 then (some (-1 : Int32)) else (z_b (fX13_followersOf a0 x1 I R) (fun q3 => some (q3 &&& ((z_shl (1 : Int32) x1) ^^^ (-1 : Int32)))))))
theorem vX13_leads {G : z_G} {d : Nat} {Q : Option Value → z_S → z_H → Prop} {a0 : Nat} {x1 : Int32} {I : Nat → Nat → Int32} {R : Nat → Nat → Nat} {q : Int32} (hd : 5 ≤ d) (hf : fX13_leads a0 x1 I R = some q) (hk : Q (some (.int q)) z_SH (I, R)) : z_W G eX13_leads d 0 0 0 [some (.ref a0), some (.int x1)] [] z_SH (I, R) Q := by
  unfold fX13_leads at hf
  obtain ⟨g_a0, hf⟩ := z_g_el hf
  refine z_aload_n dX13_leads_0 rfl rfl (z_okl g_a0) ?_
  refine z_iload_n dX13_leads_1 rfl rfl ?_
  obtain ⟨q1, hq1, hf⟩ := z_b_el hf
  refine y_cVi (av := [.int x1]) (Nat.le_trans (Nat.le_of_ble_eq_true rfl) hd) (wX13_isTold (z_dl rfl hd) hq1) oX13_isTold lmX13_118 iX13_isTold g_a0 rfl _ rfl rfl (Nat.le_of_ble_eq_true rfl) dX13_leads_2 ?_
  refine z_if_eq (tgt := 22) dX13_leads_5 (by decide) (fun c2 => ?_) (fun c2 => ?_)
  · have hf := z_if_t hf c2
    refine z_iconst dX13_leads_22 kc_m1 ?_
    cases hf
    exact z_iret hk ⟨_, rfl, rfl⟩ dX13_leads_23
  · have hf := z_if_f hf c2
    refine z_aload_n dX13_leads_8 rfl rfl (z_okl g_a0) ?_
    refine z_iload_n dX13_leads_9 rfl rfl ?_
    obtain ⟨q3, hq3, hf⟩ := z_b_el hf
    refine y_cVi (av := [.int x1]) (Nat.le_trans (Nat.le_of_ble_eq_true rfl) hd) (wX13_followersOf (z_dl rfl hd) hq3) oX13_followersOf lmX13_399 iX13_followersOf g_a0 rfl _ rfl rfl (Nat.le_of_ble_eq_true rfl) dX13_leads_10 ?_
    refine z_iconst dX13_leads_13 kc_1 ?_
    refine z_iload_n dX13_leads_14 rfl rfl ?_
    refine y_ishl dX13_leads_15 ?_
    refine z_iconst dX13_leads_16 kc_m1 ?_
    refine z_ixor dX13_leads_17 ?_
    refine z_iand dX13_leads_18 ?_
    refine z_goto (tgt := 23) dX13_leads_19 (by decide) ?_
    cases hf
    exact z_iret hk ⟨_, rfl, rfl⟩ dX13_leads_23
theorem wX13_leads {G : z_G} {d : Nat} {a0 : Nat} {x1 : Int32} {I : Nat → Nat → Int32} {R : Nat → Nat → Nat} {q : Int32} (hd : 5 ≤ d) (hf : fX13_leads a0 x1 I R = some q) : z_M G d 0 0 eX13_leads [.ref a0, .int x1] z_SH (I, R) (z_E (some (.int q)) (I, R)) :=
  y_M_of _ (by decide +kernel) rfl rfl rfl (vX13_leads hd hf ⟨rfl, rfl, rfl⟩)
def fX13_groupOf_b4 (a0 : Nat) (z1 : Int32) (I : Nat → Nat → Int32) (R : Nat → Nat → Nat) : (Int32 × Int32) → Option ((Int32 × Int32) ⊕ (Int32)) :=
  fun s => (fun (p2 : Int32) (p3 : Int32) => if (8 : Int32) ≤ p3 then (some (.inr p2)) else (z_b (fX13_isTold a0 p3 I R) (fun q2 => if q2 = 0 then (z_l (p3 + (1 : Int32)) (fun t4 => some (.inl (p2, t4)))) else (z_b (fX13_followersOf a0 z1 I R) (fun q5 => z_b (fX13_has q5 p3) (fun q6 => if q6 = 0 then (z_l (p3 + (1 : Int32)) (fun t8 => some (.inl (p2, t8)))) else (z_b (fX13_followersOf a0 p3 I R) (fun q9 => z_b (fX13_has q9 z1) (fun q10 => if q10 = 0 then (z_l (p3 + (1 : Int32)) (fun t12 => some (.inl (p2, t12)))) else (z_l (p2 ||| (z_shl (1 : Int32) p3)) (fun t13 => z_l (p3 + (1 : Int32)) (fun t14 => some (.inl (t13, t14)))))))))))))) s.1 s.2
theorem wX13_groupOf_b4 {G : z_G} {d : Nat} {Q : Option Value → z_S → z_H → Prop} {a0 : Nat} {z1 : Int32} {I : Nat → Nat → Int32} {R : Nat → Nat → Nat} (hd : 5 ≤ d) (g_a0 : z_ob a0 13) : ∀ (s : Int32 × Int32) (o : (Int32 × Int32) ⊕ (Int32)), fX13_groupOf_b4 a0 z1 I R s = some o → z_or (fun s : Int32 × Int32 => z_W G eX13_groupOf d 0 0 4 [some (.ref a0), some (.int z1), some (.int s.1), some (.int s.2)] [] z_SH (I, R) Q) (fun x : Int32 => z_W G eX13_groupOf d 0 0 54 [none, none, some (.int x), none] [] z_SH (I, R) Q) o → (fun s : Int32 × Int32 => z_W G eX13_groupOf d 0 0 4 [some (.ref a0), some (.int z1), some (.int s.1), some (.int s.2)] [] z_SH (I, R) Q) s := by
  rintro ⟨p2, p3⟩ o hf hk
  show z_W G eX13_groupOf d 0 0 4 [some (.ref a0), some (.int z1), some (.int p2), some (.int p3)] [] z_SH (I, R) Q
  unfold fX13_groupOf_b4 at hf
  try dsimp only at hf
  refine z_iload_n dX13_groupOf_4 rfl rfl ?_
  refine z_bipush dX13_groupOf_5 kb_8 ?_
  refine z_icmp_ge (tgt := 54) dX13_groupOf_7 (by decide) (fun c1 => ?_) (fun c1 => ?_)
  · have hf := z_if_t hf c1
    cases hf
    exact y_sub hk (z_le_n (z_le_n (z_le_c rfl (z_le_n z_le_0))))
  · have hf := z_if_f hf c1
    refine z_aload_n dX13_groupOf_10 rfl rfl (z_okl g_a0) ?_
    refine z_iload_n dX13_groupOf_11 rfl rfl ?_
    obtain ⟨q2, hq2, hf⟩ := z_b_el hf
    refine y_cVi (av := [.int p3]) (Nat.le_trans (Nat.le_of_ble_eq_true rfl) hd) (wX13_isTold (z_dl rfl hd) hq2) oX13_isTold lmX13_118 iX13_isTold g_a0 rfl _ rfl rfl (Nat.le_of_ble_eq_true rfl) dX13_groupOf_12 ?_
    refine z_if_eq (tgt := 48) dX13_groupOf_15 (by decide) (fun c3 => ?_) (fun c3 => ?_)
    · have hf := z_if_t hf c3
      refine y_iinc (fun t4 => [some (.ref a0), some (.int z1), some (.int p2), some (.int t4)]) dX13_groupOf_48 rfl kc_1 (by decide) (fun _ => rfl) (fun t4 et4 => ?_)
      have hf := z_l_el hf et4
      refine z_goto (tgt := 4) dX13_groupOf_51 (by decide) ?_
      cases hf
      exact y_sub hk (z_le_c rfl (z_le_c rfl (z_le_c rfl (z_le_c rfl z_le_0))))
    · have hf := z_if_f hf c3
      refine z_aload_n dX13_groupOf_18 rfl rfl (z_okl g_a0) ?_
      refine z_iload_n dX13_groupOf_19 rfl rfl ?_
      obtain ⟨q5, hq5, hf⟩ := z_b_el hf
      refine y_cVi (av := [.int z1]) (Nat.le_trans (Nat.le_of_ble_eq_true rfl) hd) (wX13_followersOf (z_dl rfl hd) hq5) oX13_followersOf lmX13_399 iX13_followersOf g_a0 rfl _ rfl rfl (Nat.le_of_ble_eq_true rfl) dX13_groupOf_20 ?_
      refine z_iload_n dX13_groupOf_23 rfl rfl ?_
      obtain ⟨q6, hq6, hf⟩ := z_b_el hf
      refine y_cSi (Nat.le_trans (Nat.le_of_ble_eq_true rfl) hd) (wX13_has (z_dl rfl hd) hq6) oX13_has lmX13_137 sX13_has _ rfl rfl (Nat.le_of_ble_eq_true rfl) dX13_groupOf_24 ?_
      refine z_if_eq (tgt := 48) dX13_groupOf_27 (by decide) (fun c7 => ?_) (fun c7 => ?_)
      · have hf := z_if_t hf c7
        refine y_iinc (fun t8 => [some (.ref a0), some (.int z1), some (.int p2), some (.int t8)]) dX13_groupOf_48 rfl kc_1 (by decide) (fun _ => rfl) (fun t8 et8 => ?_)
        have hf := z_l_el hf et8
        refine z_goto (tgt := 4) dX13_groupOf_51 (by decide) ?_
        cases hf
        exact y_sub hk (z_le_c rfl (z_le_c rfl (z_le_c rfl (z_le_c rfl z_le_0))))
      · have hf := z_if_f hf c7
        refine z_aload_n dX13_groupOf_30 rfl rfl (z_okl g_a0) ?_
        refine z_iload_n dX13_groupOf_31 rfl rfl ?_
        obtain ⟨q9, hq9, hf⟩ := z_b_el hf
        refine y_cVi (av := [.int p3]) (Nat.le_trans (Nat.le_of_ble_eq_true rfl) hd) (wX13_followersOf (z_dl rfl hd) hq9) oX13_followersOf lmX13_399 iX13_followersOf g_a0 rfl _ rfl rfl (Nat.le_of_ble_eq_true rfl) dX13_groupOf_32 ?_
        refine z_iload_n dX13_groupOf_35 rfl rfl ?_
        obtain ⟨q10, hq10, hf⟩ := z_b_el hf
        refine y_cSi (Nat.le_trans (Nat.le_of_ble_eq_true rfl) hd) (wX13_has (z_dl rfl hd) hq10) oX13_has lmX13_137 sX13_has _ rfl rfl (Nat.le_of_ble_eq_true rfl) dX13_groupOf_36 ?_
        refine z_if_eq (tgt := 48) dX13_groupOf_39 (by decide) (fun c11 => ?_) (fun c11 => ?_)
        · have hf := z_if_t hf c11
          refine y_iinc (fun t12 => [some (.ref a0), some (.int z1), some (.int p2), some (.int t12)]) dX13_groupOf_48 rfl kc_1 (by decide) (fun _ => rfl) (fun t12 et12 => ?_)
          have hf := z_l_el hf et12
          refine z_goto (tgt := 4) dX13_groupOf_51 (by decide) ?_
          cases hf
          exact y_sub hk (z_le_c rfl (z_le_c rfl (z_le_c rfl (z_le_c rfl z_le_0))))
        · have hf := z_if_f hf c11
          refine z_iload_n dX13_groupOf_42 rfl rfl ?_
          refine z_iconst dX13_groupOf_43 kc_1 ?_
          refine z_iload_n dX13_groupOf_44 rfl rfl ?_
          refine y_ishl dX13_groupOf_45 ?_
          refine z_ior dX13_groupOf_46 ?_
          refine y_istore_n (fun t13 => [some (.ref a0), some (.int z1), some (.int t13), some (.int p3)]) dX13_groupOf_47 rfl (by decide) (fun _ => rfl) (fun t13 et13 => ?_)
          have hf := z_l_el hf et13
          refine y_iinc (fun t14 => [some (.ref a0), some (.int z1), some (.int t13), some (.int t14)]) dX13_groupOf_48 rfl kc_1 (by decide) (fun _ => rfl) (fun t14 et14 => ?_)
          have hf := z_l_el hf et14
          refine z_goto (tgt := 4) dX13_groupOf_51 (by decide) ?_
          cases hf
          exact y_sub hk (z_le_c rfl (z_le_c rfl (z_le_c rfl (z_le_c rfl z_le_0))))
def fX13_groupOf (a0 : Nat) (x1 : Int32) (I : Nat → Nat → Int32) (R : Nat → Nat → Nat) : Option (Int32) :=
  z_g (z_ob a0 13) (z_b (z_lp (fX13_groupOf_b4 a0 x1 I R) 300 ((0 : Int32), (0 : Int32))) (fun q15 => some q15))
theorem vX13_groupOf {G : z_G} {d : Nat} {Q : Option Value → z_S → z_H → Prop} {a0 : Nat} {x1 : Int32} {I : Nat → Nat → Int32} {R : Nat → Nat → Nat} {q : Int32} (hd : 5 ≤ d) (hf : fX13_groupOf a0 x1 I R = some q) (hk : Q (some (.int q)) z_SH (I, R)) : z_W G eX13_groupOf d 0 0 0 [some (.ref a0), some (.int x1), none, none] [] z_SH (I, R) Q := by
  unfold fX13_groupOf at hf
  obtain ⟨g_a0, hf⟩ := z_g_el hf
  refine z_iconst dX13_groupOf_0 kc_0 ?_
  refine y_istore_n0 [some (.ref a0), some (.int x1), some (.int (0 : Int32)), none] dX13_groupOf_1 rfl (by decide) rfl ?_
  refine z_iconst dX13_groupOf_2 kc_0 ?_
  refine y_istore_n0 [some (.ref a0), some (.int x1), some (.int (0 : Int32)), some (.int (0 : Int32))] dX13_groupOf_3 rfl (by decide) rfl ?_
  obtain ⟨q15, hq15, hf⟩ := z_b_el hf
  refine y_sub (lv' := [some (.ref a0), some (.int x1), some (.int (0 : Int32)), some (.int (0 : Int32))]) ?_ (z_le_c rfl (z_le_c rfl (z_le_c rfl (z_le_c rfl z_le_0))))
  refine z_lp_el (P := (fun s : Int32 × Int32 => z_W G eX13_groupOf d 0 0 4 [some (.ref a0), some (.int x1), some (.int s.1), some (.int s.2)] [] z_SH (I, R) Q)) (E := (fun x : Int32 => z_W G eX13_groupOf d 0 0 54 [none, none, some (.int x), none] [] z_SH (I, R) Q)) (wX13_groupOf_b4 hd g_a0) 300 ((0 : Int32), (0 : Int32)) q15 hq15 ?_
  show z_W G eX13_groupOf d 0 0 54 [none, none, some (.int q15), none] [] z_SH (I, R) _
  refine z_iload_n dX13_groupOf_54 rfl rfl ?_
  cases hf
  exact z_iret hk ⟨_, rfl, rfl⟩ dX13_groupOf_55
theorem wX13_groupOf {G : z_G} {d : Nat} {a0 : Nat} {x1 : Int32} {I : Nat → Nat → Int32} {R : Nat → Nat → Nat} {q : Int32} (hd : 5 ≤ d) (hf : fX13_groupOf a0 x1 I R = some q) : z_M G d 0 0 eX13_groupOf [.ref a0, .int x1] z_SH (I, R) (z_E (some (.int q)) (I, R)) :=
  y_M_of _ (by decide +kernel) rfl rfl rfl (vX13_groupOf hd hf ⟨rfl, rfl, rfl⟩)
def fX13_groups_b34 (a0 : Nat) (I : Nat → Nat → Int32) (R : Nat → Nat → Nat) : (Int32 × Int32 × Int32) → Option ((Int32 × Int32 × Int32) ⊕ (Int32)) :=
  fun s => (fun (p2 : Int32) (p3 : Int32) (p4 : Int32) => if (8 : Int32) ≤ p4 then (some (.inr p3)) else (z_b (fX13_has p2 p4) (fun q4 => if q4 = 0 then (z_l (p4 + (1 : Int32)) (fun t10 => some (.inl (p2, p3, t10)))) else (z_b (fX13_groupOf a0 p4 I R) (fun q6 => z_l (p2 &&& (q6 ^^^ (-1 : Int32))) (fun t7 => z_l (p3 + (1 : Int32)) (fun t8 => z_l (p4 + (1 : Int32)) (fun t9 => some (.inl (t7, t8, t9)))))))))) s.1 s.2.1 s.2.2
theorem wX13_groups_b34 {G : z_G} {d : Nat} {Q : Option Value → z_S → z_H → Prop} {a0 : Nat} {I : Nat → Nat → Int32} {R : Nat → Nat → Nat} (hd : 6 ≤ d) (g_a0 : z_ob a0 13) : ∀ (s : Int32 × Int32 × Int32) (o : (Int32 × Int32 × Int32) ⊕ (Int32)), fX13_groups_b34 a0 I R s = some o → z_or (fun s : Int32 × Int32 × Int32 => z_W G eX13_groups d 0 0 34 [some (.ref a0), none, some (.int s.1), some (.int s.2.1), some (.int s.2.2)] [] z_SH (I, R) Q) (fun x : Int32 => z_W G eX13_groups d 0 0 74 [none, none, none, some (.int x), none] [] z_SH (I, R) Q) o → (fun s : Int32 × Int32 × Int32 => z_W G eX13_groups d 0 0 34 [some (.ref a0), none, some (.int s.1), some (.int s.2.1), some (.int s.2.2)] [] z_SH (I, R) Q) s := by
  rintro ⟨p2, p3, p4⟩ o hf hk
  show z_W G eX13_groups d 0 0 34 [some (.ref a0), none, some (.int p2), some (.int p3), some (.int p4)] [] z_SH (I, R) Q
  unfold fX13_groups_b34 at hf
  try dsimp only at hf
  refine z_iload dX13_groups_34 rfl ?_
  refine z_bipush dX13_groups_36 kb_8 ?_
  refine z_icmp_ge (tgt := 74) dX13_groups_38 (by decide) (fun c3 => ?_) (fun c3 => ?_)
  · have hf := z_if_t hf c3
    cases hf
    exact y_sub hk (z_le_n (z_le_n (z_le_n (z_le_c rfl (z_le_n z_le_0)))))
  · have hf := z_if_f hf c3
    refine z_iload_n dX13_groups_41 rfl rfl ?_
    refine z_iload dX13_groups_42 rfl ?_
    obtain ⟨q4, hq4, hf⟩ := z_b_el hf
    refine y_cSi (Nat.le_trans (Nat.le_of_ble_eq_true rfl) hd) (wX13_has (z_dl rfl hd) hq4) oX13_has lmX13_137 sX13_has _ rfl rfl (Nat.le_of_ble_eq_true rfl) dX13_groups_44 ?_
    refine z_if_ne (tgt := 53) dX13_groups_47 (by decide) (fun c5 => ?_) (fun c5 => ?_)
    · have hf := z_if_f hf c5
      refine z_iload_n dX13_groups_53 rfl rfl ?_
      refine z_aload_n dX13_groups_54 rfl rfl (z_okl g_a0) ?_
      refine z_iload dX13_groups_55 rfl ?_
      obtain ⟨q6, hq6, hf⟩ := z_b_el hf
      refine y_cVi (av := [.int p4]) (Nat.le_trans (Nat.le_of_ble_eq_true rfl) hd) (wX13_groupOf (z_dl rfl hd) hq6) oX13_groupOf lmX13_402 iX13_groupOf g_a0 rfl _ rfl rfl (Nat.le_of_ble_eq_true rfl) dX13_groups_57 ?_
      refine z_iconst dX13_groups_60 kc_m1 ?_
      refine z_ixor dX13_groups_61 ?_
      refine z_iand dX13_groups_62 ?_
      refine y_istore_n (fun t7 => [some (.ref a0), none, some (.int t7), some (.int p3), some (.int p4)]) dX13_groups_63 rfl (by decide) (fun _ => rfl) (fun t7 et7 => ?_)
      have hf := z_l_el hf et7
      refine z_iload_n dX13_groups_64 rfl rfl ?_
      refine z_iconst dX13_groups_65 kc_1 ?_
      refine z_iadd dX13_groups_66 ?_
      refine y_istore_n (fun t8 => [some (.ref a0), none, some (.int t7), some (.int t8), some (.int p4)]) dX13_groups_67 rfl (by decide) (fun _ => rfl) (fun t8 et8 => ?_)
      have hf := z_l_el hf et8
      refine y_iinc (fun t9 => [some (.ref a0), none, some (.int t7), some (.int t8), some (.int t9)]) dX13_groups_68 rfl kc_1 (by decide) (fun _ => rfl) (fun t9 et9 => ?_)
      have hf := z_l_el hf et9
      refine z_goto (tgt := 34) dX13_groups_71 (by decide) ?_
      cases hf
      exact y_sub hk (z_le_c rfl (z_le_n (z_le_c rfl (z_le_c rfl (z_le_c rfl z_le_0)))))
    · have hf := z_if_t hf c5
      refine z_goto (tgt := 68) dX13_groups_50 (by decide) ?_
      refine y_iinc (fun t10 => [some (.ref a0), none, some (.int p2), some (.int p3), some (.int t10)]) dX13_groups_68 rfl kc_1 (by decide) (fun _ => rfl) (fun t10 et10 => ?_)
      have hf := z_l_el hf et10
      refine z_goto (tgt := 34) dX13_groups_71 (by decide) ?_
      cases hf
      exact y_sub hk (z_le_c rfl (z_le_n (z_le_c rfl (z_le_c rfl (z_le_c rfl z_le_0)))))
def fX13_groups (a0 : Nat) (x1 : Int32) (I : Nat → Nat → Int32) (R : Nat → Nat → Nat) : Option (Int32) :=
  z_g (z_ob a0 13) (if x1 = (100 : Int32) then (z_b (fX13_toldSet a0 I R) (fun q2 => z_b (z_lp (fX13_groups_b34 a0 I R) 300 (q2, (0 : Int32), (0 : Int32))) (fun q11 => some q11))) else (z_b (fX13_isTold a0 x1 I R) (fun q12 => if q12 = 0 then (some (-1 : Int32)) else (z_b (fX13_groupOf a0 x1 I R) (fun q14 => some q14)))))
theorem vX13_groups {G : z_G} {d : Nat} {Q : Option Value → z_S → z_H → Prop} {a0 : Nat} {x1 : Int32} {I : Nat → Nat → Int32} {R : Nat → Nat → Nat} {q : Int32} (hd : 6 ≤ d) (hf : fX13_groups a0 x1 I R = some q) (hk : Q (some (.int q)) z_SH (I, R)) : z_W G eX13_groups d 0 0 0 [some (.ref a0), some (.int x1), none, none, none] [] z_SH (I, R) Q := by
  unfold fX13_groups at hf
  obtain ⟨g_a0, hf⟩ := z_g_el hf
  refine z_iload_n dX13_groups_0 rfl rfl ?_
  refine z_bipush dX13_groups_1 kb_100 ?_
  refine z_icmp_eq (tgt := 24) dX13_groups_3 (by decide) (fun c1 => ?_) (fun c1 => ?_)
  · have hf := z_if_t hf c1
    refine z_aload_n dX13_groups_24 rfl rfl (z_okl g_a0) ?_
    obtain ⟨q2, hq2, hf⟩ := z_b_el hf
    refine y_cVi (av := []) (Nat.le_trans (Nat.le_of_ble_eq_true rfl) hd) (wX13_toldSet (z_dl rfl hd) hq2) oX13_toldSet lmX13_126 iX13_toldSet g_a0 rfl _ rfl rfl (Nat.le_of_ble_eq_true rfl) dX13_groups_25 ?_
    refine y_istore_n0 [some (.ref a0), some (.int x1), some (.int q2), none, none] dX13_groups_28 rfl (by decide) rfl ?_
    refine z_iconst dX13_groups_29 kc_0 ?_
    refine y_istore_n0 [some (.ref a0), some (.int x1), some (.int q2), some (.int (0 : Int32)), none] dX13_groups_30 rfl (by decide) rfl ?_
    refine z_iconst dX13_groups_31 kc_0 ?_
    refine y_istore0 [some (.ref a0), some (.int x1), some (.int q2), some (.int (0 : Int32)), some (.int (0 : Int32))] dX13_groups_32 (by decide) rfl ?_
    obtain ⟨q11, hq11, hf⟩ := z_b_el hf
    refine y_sub (lv' := [some (.ref a0), none, some (.int q2), some (.int (0 : Int32)), some (.int (0 : Int32))]) ?_ (z_le_c rfl (z_le_n (z_le_c rfl (z_le_c rfl (z_le_c rfl z_le_0)))))
    refine z_lp_el (P := (fun s : Int32 × Int32 × Int32 => z_W G eX13_groups d 0 0 34 [some (.ref a0), none, some (.int s.1), some (.int s.2.1), some (.int s.2.2)] [] z_SH (I, R) Q)) (E := (fun x : Int32 => z_W G eX13_groups d 0 0 74 [none, none, none, some (.int x), none] [] z_SH (I, R) Q)) (wX13_groups_b34 hd g_a0) 300 (q2, (0 : Int32), (0 : Int32)) q11 hq11 ?_
    show z_W G eX13_groups d 0 0 74 [none, none, none, some (.int q11), none] [] z_SH (I, R) _
    refine z_iload_n dX13_groups_74 rfl rfl ?_
    cases hf
    exact z_iret hk ⟨_, rfl, rfl⟩ dX13_groups_75
  · have hf := z_if_f hf c1
    refine z_aload_n dX13_groups_6 rfl rfl (z_okl g_a0) ?_
    refine z_iload_n dX13_groups_7 rfl rfl ?_
    obtain ⟨q12, hq12, hf⟩ := z_b_el hf
    refine y_cVi (av := [.int x1]) (Nat.le_trans (Nat.le_of_ble_eq_true rfl) hd) (wX13_isTold (z_dl rfl hd) hq12) oX13_isTold lmX13_118 iX13_isTold g_a0 rfl _ rfl rfl (Nat.le_of_ble_eq_true rfl) dX13_groups_8 ?_
    refine z_if_eq (tgt := 22) dX13_groups_11 (by decide) (fun c13 => ?_) (fun c13 => ?_)
    · have hf := z_if_t hf c13
      refine z_iconst dX13_groups_22 kc_m1 ?_
      cases hf
      exact z_iret hk ⟨_, rfl, rfl⟩ dX13_groups_23
    · have hf := z_if_f hf c13
      refine z_aload_n dX13_groups_14 rfl rfl (z_okl g_a0) ?_
      refine z_iload_n dX13_groups_15 rfl rfl ?_
      obtain ⟨q14, hq14, hf⟩ := z_b_el hf
      refine y_cVi (av := [.int x1]) (Nat.le_trans (Nat.le_of_ble_eq_true rfl) hd) (wX13_groupOf (z_dl rfl hd) hq14) oX13_groupOf lmX13_402 iX13_groupOf g_a0 rfl _ rfl rfl (Nat.le_of_ble_eq_true rfl) dX13_groups_16 ?_
      refine z_goto (tgt := 23) dX13_groups_19 (by decide) ?_
      cases hf
      exact z_iret hk ⟨_, rfl, rfl⟩ dX13_groups_23
theorem wX13_groups {G : z_G} {d : Nat} {a0 : Nat} {x1 : Int32} {I : Nat → Nat → Int32} {R : Nat → Nat → Nat} {q : Int32} (hd : 6 ≤ d) (hf : fX13_groups a0 x1 I R = some q) : z_M G d 0 0 eX13_groups [.ref a0, .int x1] z_SH (I, R) (z_E (some (.int q)) (I, R)) :=
  y_M_of _ (by decide +kernel) rfl rfl rfl (vX13_groups hd hf ⟨rfl, rfl, rfl⟩)
def fX13_sitsAhead (a0 : Nat) (x1 : Int32) (x2 : Int32) (I : Nat → Nat → Int32) (R : Nat → Nat → Nat) : Option (Int32) :=
  z_g (z_ob a0 13) (z_g (z_ok 1 (R a0 0) ((16 : Int32) + x1)) (z_g (z_ok 1 (R a0 0) ((16 : Int32) + x2)) (if (I (R a0 0) ((16 : Int32) + x1).toNatClampNeg) < (I (R a0 0) ((16 : Int32) + x2).toNatClampNeg) then (some (1 : Int32)) else (if (I (R a0 0) ((16 : Int32) + x1).toNatClampNeg) = (I (R a0 0) ((16 : Int32) + x2).toNatClampNeg) then (if x2 ≤ x1 then (some (0 : Int32)) else (some (1 : Int32))) else (some (0 : Int32))))))
theorem vX13_sitsAhead {G : z_G} {d : Nat} {Q : Option Value → z_S → z_H → Prop} {a0 : Nat} {x1 : Int32} {x2 : Int32} {I : Nat → Nat → Int32} {R : Nat → Nat → Nat} {q : Int32} (hd : 0 ≤ d) (hf : fX13_sitsAhead a0 x1 x2 I R = some q) (hk : Q (some (.int q)) z_SH (I, R)) : z_W G eX13_sitsAhead d 0 0 0 [some (.ref a0), some (.int x1), some (.int x2)] [] z_SH (I, R) Q := by
  unfold fX13_sitsAhead at hf
  obtain ⟨g_a0, hf⟩ := z_g_el hf
  refine z_aload_n dX13_sitsAhead_0 rfl rfl (z_okl g_a0) ?_
  refine y_getR lfX13_7 rfl g_a0 dX13_sitsAhead_1 ?_
  refine z_bipush dX13_sitsAhead_4 kb_16 ?_
  refine z_iload_n dX13_sitsAhead_6 rfl rfl ?_
  refine z_iadd dX13_sitsAhead_7 ?_
  obtain ⟨g1, hf⟩ := z_g_el hf
  refine y_iald g1 dX13_sitsAhead_8 ?_
  refine z_aload_n dX13_sitsAhead_9 rfl rfl (z_okl g_a0) ?_
  refine y_getR lfX13_7 rfl g_a0 dX13_sitsAhead_10 ?_
  refine z_bipush dX13_sitsAhead_13 kb_16 ?_
  refine z_iload_n dX13_sitsAhead_15 rfl rfl ?_
  refine z_iadd dX13_sitsAhead_16 ?_
  obtain ⟨g2, hf⟩ := z_g_el hf
  refine y_iald g2 dX13_sitsAhead_17 ?_
  refine z_icmp_lt (tgt := 47) dX13_sitsAhead_18 (by decide) (fun c3 => ?_) (fun c3 => ?_)
  · have hf := z_if_t hf c3
    refine z_iconst dX13_sitsAhead_47 kc_1 ?_
    refine z_goto (tgt := 52) dX13_sitsAhead_48 (by decide) ?_
    cases hf
    exact z_iret hk ⟨_, rfl, rfl⟩ dX13_sitsAhead_52
  · have hf := z_if_f hf c3
    refine z_aload_n dX13_sitsAhead_21 rfl rfl (z_okl g_a0) ?_
    refine y_getR lfX13_7 rfl g_a0 dX13_sitsAhead_22 ?_
    refine z_bipush dX13_sitsAhead_25 kb_16 ?_
    refine z_iload_n dX13_sitsAhead_27 rfl rfl ?_
    refine z_iadd dX13_sitsAhead_28 ?_
    refine y_iald g1 dX13_sitsAhead_29 ?_
    refine z_aload_n dX13_sitsAhead_30 rfl rfl (z_okl g_a0) ?_
    refine y_getR lfX13_7 rfl g_a0 dX13_sitsAhead_31 ?_
    refine z_bipush dX13_sitsAhead_34 kb_16 ?_
    refine z_iload_n dX13_sitsAhead_36 rfl rfl ?_
    refine z_iadd dX13_sitsAhead_37 ?_
    refine y_iald g2 dX13_sitsAhead_38 ?_
    refine z_icmp_ne (tgt := 51) dX13_sitsAhead_39 (by decide) (fun c4 => ?_) (fun c4 => ?_)
    · have hf := z_if_f hf c4
      refine z_iconst dX13_sitsAhead_51 kc_0 ?_
      cases hf
      exact z_iret hk ⟨_, rfl, rfl⟩ dX13_sitsAhead_52
    · have hf := z_if_t hf c4
      refine z_iload_n dX13_sitsAhead_42 rfl rfl ?_
      refine z_iload_n dX13_sitsAhead_43 rfl rfl ?_
      refine z_icmp_ge (tgt := 51) dX13_sitsAhead_44 (by decide) (fun c5 => ?_) (fun c5 => ?_)
      · have hf := z_if_t hf c5
        refine z_iconst dX13_sitsAhead_51 kc_0 ?_
        cases hf
        exact z_iret hk ⟨_, rfl, rfl⟩ dX13_sitsAhead_52
      · have hf := z_if_f hf c5
        refine z_iconst dX13_sitsAhead_47 kc_1 ?_
        refine z_goto (tgt := 52) dX13_sitsAhead_48 (by decide) ?_
        cases hf
        exact z_iret hk ⟨_, rfl, rfl⟩ dX13_sitsAhead_52
theorem wX13_sitsAhead {G : z_G} {d : Nat} {a0 : Nat} {x1 : Int32} {x2 : Int32} {I : Nat → Nat → Int32} {R : Nat → Nat → Nat} {q : Int32} (hd : 0 ≤ d) (hf : fX13_sitsAhead a0 x1 x2 I R = some q) : z_M G d 0 0 eX13_sitsAhead [.ref a0, .int x1, .int x2] z_SH (I, R) (z_E (some (.int q)) (I, R)) :=
  y_M_of _ (by decide +kernel) rfl rfl rfl (vX13_sitsAhead hd hf ⟨rfl, rfl, rfl⟩)
def fX13_order_b75 (a0 : Nat) (z1 : Int32) (z2 : Int32) (z3 : Int32) (z5 : Int32) (I : Nat → Nat → Int32) (R : Nat → Nat → Nat) : (Int32 × Int32) → Option ((Int32 × Int32) ⊕ (Int32)) :=
  fun s => (fun (p4 : Int32) (p6 : Int32) => if (8 : Int32) ≤ p6 then (some (.inr p4)) else (z_b (fX13_isTold a0 p6 I R) (fun q10 => if q10 = 0 then (z_l (p6 + (1 : Int32)) (fun t12 => some (.inl (p4, t12)))) else (z_b (fX13_sitsAhead a0 z5 p6 I R) (fun q13 => if q13 = 0 then (z_l (p6 + (1 : Int32)) (fun t15 => some (.inl (p4, t15)))) else (z_g (z_ok 1 (R a0 0) ((8 : Int32) + z5)) (z_g (z_ok 1 (R a0 0) ((8 : Int32) + p6)) (if (I (R a0 0) ((8 : Int32) + z5).toNatClampNeg) ≤ (I (R a0 0) ((8 : Int32) + p6).toNatClampNeg) then (z_l (p6 + (1 : Int32)) (fun t19 => some (.inl (p4, t19)))) else (z_l (p4 + (1 : Int32)) (fun t20 => z_l (p6 + (1 : Int32)) (fun t21 => some (.inl (t20, t21))))))))))))) s.1 s.2
theorem wX13_order_b75 {G : z_G} {d : Nat} {Q : Option Value → z_S → z_H → Prop} {a0 : Nat} {z1 : Int32} {z2 : Int32} {z3 : Int32} {z5 : Int32} {I : Nat → Nat → Int32} {R : Nat → Nat → Nat} (hd : 2 ≤ d) (g_a0 : z_ob a0 13) : ∀ (s : Int32 × Int32) (o : (Int32 × Int32) ⊕ (Int32)), fX13_order_b75 a0 z1 z2 z3 z5 I R s = some o → z_or (fun s : Int32 × Int32 => z_W G eX13_order d 0 0 75 [some (.ref a0), some (.int z1), some (.int z2), some (.int z3), some (.int s.1), some (.int z5), some (.int s.2)] [] z_SH (I, R) Q) (fun x : Int32 => z_W G eX13_order d 0 0 137 [some (.ref a0), some (.int z1), some (.int z2), some (.int z3), some (.int x), some (.int z5), none] [] z_SH (I, R) Q) o → (fun s : Int32 × Int32 => z_W G eX13_order d 0 0 75 [some (.ref a0), some (.int z1), some (.int z2), some (.int z3), some (.int s.1), some (.int z5), some (.int s.2)] [] z_SH (I, R) Q) s := by
  rintro ⟨p4, p6⟩ o hf hk
  show z_W G eX13_order d 0 0 75 [some (.ref a0), some (.int z1), some (.int z2), some (.int z3), some (.int p4), some (.int z5), some (.int p6)] [] z_SH (I, R) Q
  unfold fX13_order_b75 at hf
  try dsimp only at hf
  refine z_iload dX13_order_75 rfl ?_
  refine z_bipush dX13_order_77 kb_8 ?_
  refine z_icmp_ge (tgt := 137) dX13_order_79 (by decide) (fun c9 => ?_) (fun c9 => ?_)
  · have hf := z_if_t hf c9
    cases hf
    exact y_sub hk (z_le_c rfl (z_le_c rfl (z_le_c rfl (z_le_c rfl (z_le_c rfl (z_le_c rfl (z_le_n z_le_0)))))))
  · have hf := z_if_f hf c9
    refine z_aload_n dX13_order_82 rfl rfl (z_okl g_a0) ?_
    refine z_iload dX13_order_83 rfl ?_
    obtain ⟨q10, hq10, hf⟩ := z_b_el hf
    refine y_cVi (av := [.int p6]) (Nat.le_trans (Nat.le_of_ble_eq_true rfl) hd) (wX13_isTold (z_dl rfl hd) hq10) oX13_isTold lmX13_118 iX13_isTold g_a0 rfl _ rfl rfl (Nat.le_of_ble_eq_true rfl) dX13_order_85 ?_
    refine z_if_eq (tgt := 131) dX13_order_88 (by decide) (fun c11 => ?_) (fun c11 => ?_)
    · have hf := z_if_t hf c11
      refine y_iinc (fun t12 => [some (.ref a0), some (.int z1), some (.int z2), some (.int z3), some (.int p4), some (.int z5), some (.int t12)]) dX13_order_131 rfl kc_1 (by decide) (fun _ => rfl) (fun t12 et12 => ?_)
      have hf := z_l_el hf et12
      refine z_goto (tgt := 75) dX13_order_134 (by decide) ?_
      cases hf
      exact y_sub hk (z_le_c rfl (z_le_c rfl (z_le_c rfl (z_le_c rfl (z_le_c rfl (z_le_c rfl (z_le_c rfl z_le_0)))))))
    · have hf := z_if_f hf c11
      refine z_aload_n dX13_order_91 rfl rfl (z_okl g_a0) ?_
      refine z_iload dX13_order_92 rfl ?_
      refine z_iload dX13_order_94 rfl ?_
      obtain ⟨q13, hq13, hf⟩ := z_b_el hf
      refine y_cVi (av := [.int z5, .int p6]) (Nat.le_trans (Nat.le_of_ble_eq_true rfl) hd) (wX13_sitsAhead (z_dl rfl hd) hq13) oX13_sitsAhead lmX13_405 iX13_sitsAhead g_a0 rfl _ rfl rfl (Nat.le_of_ble_eq_true rfl) dX13_order_96 ?_
      refine z_if_eq (tgt := 131) dX13_order_99 (by decide) (fun c14 => ?_) (fun c14 => ?_)
      · have hf := z_if_t hf c14
        refine y_iinc (fun t15 => [some (.ref a0), some (.int z1), some (.int z2), some (.int z3), some (.int p4), some (.int z5), some (.int t15)]) dX13_order_131 rfl kc_1 (by decide) (fun _ => rfl) (fun t15 et15 => ?_)
        have hf := z_l_el hf et15
        refine z_goto (tgt := 75) dX13_order_134 (by decide) ?_
        cases hf
        exact y_sub hk (z_le_c rfl (z_le_c rfl (z_le_c rfl (z_le_c rfl (z_le_c rfl (z_le_c rfl (z_le_c rfl z_le_0)))))))
      · have hf := z_if_f hf c14
        refine z_aload_n dX13_order_102 rfl rfl (z_okl g_a0) ?_
        refine y_getR lfX13_7 rfl g_a0 dX13_order_103 ?_
        refine z_bipush dX13_order_106 kb_8 ?_
        refine z_iload dX13_order_108 rfl ?_
        refine z_iadd dX13_order_110 ?_
        obtain ⟨g16, hf⟩ := z_g_el hf
        refine y_iald g16 dX13_order_111 ?_
        refine z_aload_n dX13_order_112 rfl rfl (z_okl g_a0) ?_
        refine y_getR lfX13_7 rfl g_a0 dX13_order_113 ?_
        refine z_bipush dX13_order_116 kb_8 ?_
        refine z_iload dX13_order_118 rfl ?_
        refine z_iadd dX13_order_120 ?_
        obtain ⟨g17, hf⟩ := z_g_el hf
        refine y_iald g17 dX13_order_121 ?_
        refine z_icmp_le (tgt := 131) dX13_order_122 (by decide) (fun c18 => ?_) (fun c18 => ?_)
        · have hf := z_if_t hf c18
          refine y_iinc (fun t19 => [some (.ref a0), some (.int z1), some (.int z2), some (.int z3), some (.int p4), some (.int z5), some (.int t19)]) dX13_order_131 rfl kc_1 (by decide) (fun _ => rfl) (fun t19 et19 => ?_)
          have hf := z_l_el hf et19
          refine z_goto (tgt := 75) dX13_order_134 (by decide) ?_
          cases hf
          exact y_sub hk (z_le_c rfl (z_le_c rfl (z_le_c rfl (z_le_c rfl (z_le_c rfl (z_le_c rfl (z_le_c rfl z_le_0)))))))
        · have hf := z_if_f hf c18
          refine z_iload dX13_order_125 rfl ?_
          refine z_iconst dX13_order_127 kc_1 ?_
          refine z_iadd dX13_order_128 ?_
          refine y_istore (fun t20 => [some (.ref a0), some (.int z1), some (.int z2), some (.int z3), some (.int t20), some (.int z5), some (.int p6)]) dX13_order_129 (by decide) (fun _ => rfl) (fun t20 et20 => ?_)
          have hf := z_l_el hf et20
          refine y_iinc (fun t21 => [some (.ref a0), some (.int z1), some (.int z2), some (.int z3), some (.int t20), some (.int z5), some (.int t21)]) dX13_order_131 rfl kc_1 (by decide) (fun _ => rfl) (fun t21 et21 => ?_)
          have hf := z_l_el hf et21
          refine z_goto (tgt := 75) dX13_order_134 (by decide) ?_
          cases hf
          exact y_sub hk (z_le_c rfl (z_le_c rfl (z_le_c rfl (z_le_c rfl (z_le_c rfl (z_le_c rfl (z_le_c rfl z_le_0)))))))
def fX13_order_b23 (a0 : Nat) (z1 : Int32) (I : Nat → Nat → Int32) (R : Nat → Nat → Nat) : (Int32 × Int32 × Int32 × Int32) → Option ((Int32 × Int32 × Int32 × Int32) ⊕ (Int32 × Int32 × Int32)) :=
  fun s => (fun (p2 : Int32) (p3 : Int32) (p4 : Int32) (p5 : Int32) => if (8 : Int32) ≤ p5 then (some (.inr (p2, p3, p4))) else (z_b (fX13_isTold a0 p5 I R) (fun q4 => if q4 = 0 then (z_l (p5 + (1 : Int32)) (fun t24 => some (.inl (p2, p3, p4, t24)))) else (z_g (z_ok 1 (R a0 0) ((8 : Int32) + p5)) (z_b (fX13_min p2 (I (R a0 0) ((8 : Int32) + p5).toNatClampNeg)) (fun q7 => z_b (fX13_max p3 (I (R a0 0) ((8 : Int32) + p5).toNatClampNeg)) (fun q8 => z_b (z_lp (fX13_order_b75 a0 z1 q7 q8 p5 I R) 300 (p4, (0 : Int32))) (fun q22 => z_l (p5 + (1 : Int32)) (fun t23 => some (.inl (q7, q8, q22, t23))))))))))) s.1 s.2.1 s.2.2.1 s.2.2.2
theorem wX13_order_b23 {G : z_G} {d : Nat} {Q : Option Value → z_S → z_H → Prop} {a0 : Nat} {z1 : Int32} {I : Nat → Nat → Int32} {R : Nat → Nat → Nat} (hd : 2 ≤ d) (g_a0 : z_ob a0 13) : ∀ (s : Int32 × Int32 × Int32 × Int32) (o : (Int32 × Int32 × Int32 × Int32) ⊕ (Int32 × Int32 × Int32)), fX13_order_b23 a0 z1 I R s = some o → z_or (fun s : Int32 × Int32 × Int32 × Int32 => z_W G eX13_order d 0 0 23 [some (.ref a0), some (.int z1), some (.int s.1), some (.int s.2.1), some (.int s.2.2.1), some (.int s.2.2.2), none] [] z_SH (I, R) Q) (fun x : Int32 × Int32 × Int32 => z_W G eX13_order d 0 0 143 [none, some (.int z1), some (.int x.1), some (.int x.2.1), some (.int x.2.2), none, none] [] z_SH (I, R) Q) o → (fun s : Int32 × Int32 × Int32 × Int32 => z_W G eX13_order d 0 0 23 [some (.ref a0), some (.int z1), some (.int s.1), some (.int s.2.1), some (.int s.2.2.1), some (.int s.2.2.2), none] [] z_SH (I, R) Q) s := by
  rintro ⟨p2, p3, p4, p5⟩ o hf hk
  show z_W G eX13_order d 0 0 23 [some (.ref a0), some (.int z1), some (.int p2), some (.int p3), some (.int p4), some (.int p5), none] [] z_SH (I, R) Q
  unfold fX13_order_b23 at hf
  try dsimp only at hf
  refine z_iload dX13_order_23 rfl ?_
  refine z_bipush dX13_order_25 kb_8 ?_
  refine z_icmp_ge (tgt := 143) dX13_order_27 (by decide) (fun c3 => ?_) (fun c3 => ?_)
  · have hf := z_if_t hf c3
    cases hf
    exact y_sub hk (z_le_n (z_le_c rfl (z_le_c rfl (z_le_c rfl (z_le_c rfl (z_le_n (z_le_n z_le_0)))))))
  · have hf := z_if_f hf c3
    refine z_aload_n dX13_order_30 rfl rfl (z_okl g_a0) ?_
    refine z_iload dX13_order_31 rfl ?_
    obtain ⟨q4, hq4, hf⟩ := z_b_el hf
    refine y_cVi (av := [.int p5]) (Nat.le_trans (Nat.le_of_ble_eq_true rfl) hd) (wX13_isTold (z_dl rfl hd) hq4) oX13_isTold lmX13_118 iX13_isTold g_a0 rfl _ rfl rfl (Nat.le_of_ble_eq_true rfl) dX13_order_33 ?_
    refine z_if_ne (tgt := 42) dX13_order_36 (by decide) (fun c5 => ?_) (fun c5 => ?_)
    · have hf := z_if_f hf c5
      refine z_iload_n dX13_order_42 rfl rfl ?_
      refine z_aload_n dX13_order_43 rfl rfl (z_okl g_a0) ?_
      refine y_getR lfX13_7 rfl g_a0 dX13_order_44 ?_
      refine z_bipush dX13_order_47 kb_8 ?_
      refine z_iload dX13_order_49 rfl ?_
      refine z_iadd dX13_order_51 ?_
      obtain ⟨g6, hf⟩ := z_g_el hf
      refine y_iald g6 dX13_order_52 ?_
      obtain ⟨q7, hq7, hf⟩ := z_b_el hf
      refine y_cSi (Nat.le_trans (Nat.le_of_ble_eq_true rfl) hd) (wX13_min (z_dl rfl hd) hq7) oX13_min lmX13_282 sX13_min _ rfl rfl (Nat.le_of_ble_eq_true rfl) dX13_order_53 ?_
      refine y_istore_n0 [some (.ref a0), some (.int z1), some (.int q7), some (.int p3), some (.int p4), some (.int p5), none] dX13_order_56 rfl (by decide) rfl ?_
      refine z_iload_n dX13_order_57 rfl rfl ?_
      refine z_aload_n dX13_order_58 rfl rfl (z_okl g_a0) ?_
      refine y_getR lfX13_7 rfl g_a0 dX13_order_59 ?_
      refine z_bipush dX13_order_62 kb_8 ?_
      refine z_iload dX13_order_64 rfl ?_
      refine z_iadd dX13_order_66 ?_
      refine y_iald g6 dX13_order_67 ?_
      obtain ⟨q8, hq8, hf⟩ := z_b_el hf
      refine y_cSi (Nat.le_trans (Nat.le_of_ble_eq_true rfl) hd) (wX13_max (z_dl rfl hd) hq8) oX13_max lmX13_294 sX13_max _ rfl rfl (Nat.le_of_ble_eq_true rfl) dX13_order_68 ?_
      refine y_istore_n0 [some (.ref a0), some (.int z1), some (.int q7), some (.int q8), some (.int p4), some (.int p5), none] dX13_order_71 rfl (by decide) rfl ?_
      refine z_iconst dX13_order_72 kc_0 ?_
      refine y_istore0 [some (.ref a0), some (.int z1), some (.int q7), some (.int q8), some (.int p4), some (.int p5), some (.int (0 : Int32))] dX13_order_73 (by decide) rfl ?_
      obtain ⟨q22, hq22, hf⟩ := z_b_el hf
      refine y_sub (lv' := [some (.ref a0), some (.int z1), some (.int q7), some (.int q8), some (.int p4), some (.int p5), some (.int (0 : Int32))]) ?_ (z_le_c rfl (z_le_c rfl (z_le_c rfl (z_le_c rfl (z_le_c rfl (z_le_c rfl (z_le_c rfl z_le_0)))))))
      refine z_lp_el (P := (fun s : Int32 × Int32 => z_W G eX13_order d 0 0 75 [some (.ref a0), some (.int z1), some (.int q7), some (.int q8), some (.int s.1), some (.int p5), some (.int s.2)] [] z_SH (I, R) Q)) (E := (fun x : Int32 => z_W G eX13_order d 0 0 137 [some (.ref a0), some (.int z1), some (.int q7), some (.int q8), some (.int x), some (.int p5), none] [] z_SH (I, R) Q)) (wX13_order_b75 hd g_a0) 300 (p4, (0 : Int32)) q22 hq22 ?_
      show z_W G eX13_order d 0 0 137 [some (.ref a0), some (.int z1), some (.int q7), some (.int q8), some (.int q22), some (.int p5), none] [] z_SH (I, R) _
      refine y_iinc (fun t23 => [some (.ref a0), some (.int z1), some (.int q7), some (.int q8), some (.int q22), some (.int t23), none]) dX13_order_137 rfl kc_1 (by decide) (fun _ => rfl) (fun t23 et23 => ?_)
      have hf := z_l_el hf et23
      refine z_goto (tgt := 23) dX13_order_140 (by decide) ?_
      cases hf
      exact y_sub hk (z_le_c rfl (z_le_c rfl (z_le_c rfl (z_le_c rfl (z_le_c rfl (z_le_c rfl (z_le_n z_le_0)))))))
    · have hf := z_if_t hf c5
      refine z_goto (tgt := 137) dX13_order_39 (by decide) ?_
      refine y_iinc (fun t24 => [some (.ref a0), some (.int z1), some (.int p2), some (.int p3), some (.int p4), some (.int t24), none]) dX13_order_137 rfl kc_1 (by decide) (fun _ => rfl) (fun t24 et24 => ?_)
      have hf := z_l_el hf et24
      refine z_goto (tgt := 23) dX13_order_140 (by decide) ?_
      cases hf
      exact y_sub hk (z_le_c rfl (z_le_c rfl (z_le_c rfl (z_le_c rfl (z_le_c rfl (z_le_c rfl (z_le_n z_le_0)))))))
def fX13_order (a0 : Nat) (x1 : Int32) (I : Nat → Nat → Int32) (R : Nat → Nat → Nat) : Option (Int32) :=
  z_g (z_ob a0 13) (z_b (fX13_in x1 (0 : Int32) (1 : Int32)) (fun q1 => if q1 = 0 then (some (-1 : Int32)) else (z_b (z_lp (fX13_order_b23 a0 x1 I R) 300 ((20 : Int32), (-20 : Int32), (0 : Int32), (0 : Int32))) (fun q25 => if x1 = (1 : Int32) then (some q25.2.2) else (z_b (fX13_max (0 : Int32) (q25.2.1 - q25.1)) (fun q27 => some q27))))))
set_option maxRecDepth 20000 in
theorem vX13_order {G : z_G} {d : Nat} {Q : Option Value → z_S → z_H → Prop} {a0 : Nat} {x1 : Int32} {I : Nat → Nat → Int32} {R : Nat → Nat → Nat} {q : Int32} (hd : 2 ≤ d) (hf : fX13_order a0 x1 I R = some q) (hk : Q (some (.int q)) z_SH (I, R)) : z_W G eX13_order d 0 0 0 [some (.ref a0), some (.int x1), none, none, none, none, none] [] z_SH (I, R) Q := by
  unfold fX13_order at hf
  obtain ⟨g_a0, hf⟩ := z_g_el hf
  refine z_iload_n dX13_order_0 rfl rfl ?_
  refine z_iconst dX13_order_1 kc_0 ?_
  refine z_iconst dX13_order_2 kc_1 ?_
  obtain ⟨q1, hq1, hf⟩ := z_b_el hf
  refine y_cSi (Nat.le_trans (Nat.le_of_ble_eq_true rfl) hd) (wX13_in (z_dl rfl hd) hq1) oX13_in lmX13_114 sX13_in _ rfl rfl (Nat.le_of_ble_eq_true rfl) dX13_order_3 ?_
  refine z_if_ne (tgt := 11) dX13_order_6 (by decide) (fun c2 => ?_) (fun c2 => ?_)
  · have hf := z_if_f hf c2
    refine z_bipush dX13_order_11 kb_20 ?_
    refine y_istore_n0 [some (.ref a0), some (.int x1), some (.int (20 : Int32)), none, none, none, none] dX13_order_13 rfl (by decide) rfl ?_
    refine z_bipush dX13_order_14 kb_m20 ?_
    refine y_istore_n0 [some (.ref a0), some (.int x1), some (.int (20 : Int32)), some (.int (-20 : Int32)), none, none, none] dX13_order_16 rfl (by decide) rfl ?_
    refine z_iconst dX13_order_17 kc_0 ?_
    refine y_istore0 [some (.ref a0), some (.int x1), some (.int (20 : Int32)), some (.int (-20 : Int32)), some (.int (0 : Int32)), none, none] dX13_order_18 (by decide) rfl ?_
    refine z_iconst dX13_order_20 kc_0 ?_
    refine y_istore0 [some (.ref a0), some (.int x1), some (.int (20 : Int32)), some (.int (-20 : Int32)), some (.int (0 : Int32)), some (.int (0 : Int32)), none] dX13_order_21 (by decide) rfl ?_
    obtain ⟨q25, hq25, hf⟩ := z_b_el hf
    refine y_sub (lv' := [some (.ref a0), some (.int x1), some (.int (20 : Int32)), some (.int (-20 : Int32)), some (.int (0 : Int32)), some (.int (0 : Int32)), none]) ?_ (z_le_c rfl (z_le_c rfl (z_le_c rfl (z_le_c rfl (z_le_c rfl (z_le_c rfl (z_le_n z_le_0)))))))
    refine z_lp_el (P := (fun s : Int32 × Int32 × Int32 × Int32 => z_W G eX13_order d 0 0 23 [some (.ref a0), some (.int x1), some (.int s.1), some (.int s.2.1), some (.int s.2.2.1), some (.int s.2.2.2), none] [] z_SH (I, R) Q)) (E := (fun x : Int32 × Int32 × Int32 => z_W G eX13_order d 0 0 143 [none, some (.int x1), some (.int x.1), some (.int x.2.1), some (.int x.2.2), none, none] [] z_SH (I, R) Q)) (wX13_order_b23 hd g_a0) 300 ((20 : Int32), (-20 : Int32), (0 : Int32), (0 : Int32)) q25 hq25 ?_
    show z_W G eX13_order d 0 0 143 [none, some (.int x1), some (.int q25.1), some (.int q25.2.1), some (.int q25.2.2), none, none] [] z_SH (I, R) _
    refine z_iload_n dX13_order_143 rfl rfl ?_
    refine z_iconst dX13_order_144 kc_1 ?_
    refine z_icmp_ne (tgt := 153) dX13_order_145 (by decide) (fun c26 => ?_) (fun c26 => ?_)
    · have hf := z_if_f hf c26
      refine z_iconst dX13_order_153 kc_0 ?_
      refine z_iload_n dX13_order_154 rfl rfl ?_
      refine z_iload_n dX13_order_155 rfl rfl ?_
      refine z_isub dX13_order_156 ?_
      obtain ⟨q27, hq27, hf⟩ := z_b_el hf
      refine y_cSi (Nat.le_trans (Nat.le_of_ble_eq_true rfl) hd) (wX13_max (z_dl rfl hd) hq27) oX13_max lmX13_294 sX13_max _ rfl rfl (Nat.le_of_ble_eq_true rfl) dX13_order_157 ?_
      cases hf
      exact z_iret hk ⟨_, rfl, rfl⟩ dX13_order_160
    · have hf := z_if_t hf c26
      refine z_iload dX13_order_148 rfl ?_
      refine z_goto (tgt := 160) dX13_order_150 (by decide) ?_
      cases hf
      exact z_iret hk ⟨_, rfl, rfl⟩ dX13_order_160
  · have hf := z_if_t hf c2
    refine z_iconst dX13_order_9 kc_m1 ?_
    cases hf
    exact z_iret hk ⟨_, rfl, rfl⟩ dX13_order_10
theorem wX13_order {G : z_G} {d : Nat} {a0 : Nat} {x1 : Int32} {I : Nat → Nat → Int32} {R : Nat → Nat → Nat} {q : Int32} (hd : 2 ≤ d) (hf : fX13_order a0 x1 I R = some q) : z_M G d 0 0 eX13_order [.ref a0, .int x1] z_SH (I, R) (z_E (some (.int q)) (I, R)) :=
  y_M_of _ (by decide +kernel) rfl rfl rfl (vX13_order hd hf ⟨rfl, rfl, rfl⟩)
def fX13_seed (a0 : Nat) (x1 : Int32) (I : Nat → Nat → Int32) (R : Nat → Nat → Nat) : Option (Int32 × (Nat → Nat → Int32)) :=
  z_g (z_ob a0 13) (z_b (fX13_in x1 (0 : Int32) (65535 : Int32)) (fun q1 => if q1 = 0 then (some ((0 : Int32), I)) else (z_g (z_ok 1 (R a0 0) (81 : Int32)) (z_l (z_u I (R a0 0) (81 : Int32).toNatClampNeg x1) (fun I4 => some ((1 : Int32), I4))))))
theorem vX13_seed {G : z_G} {d : Nat} {Q : Option Value → z_S → z_H → Prop} {a0 : Nat} {x1 : Int32} {I : Nat → Nat → Int32} {R : Nat → Nat → Nat} {q : Int32 × (Nat → Nat → Int32)} (hd : 1 ≤ d) (hf : fX13_seed a0 x1 I R = some q) (hk : Q (some (.int q.1)) z_SH (q.2, R)) : z_W G eX13_seed d 0 0 0 [some (.ref a0), some (.int x1)] [] z_SH (I, R) Q := by
  unfold fX13_seed at hf
  obtain ⟨g_a0, hf⟩ := z_g_el hf
  refine z_iload_n dX13_seed_0 rfl rfl ?_
  refine z_iconst dX13_seed_1 kc_0 ?_
  refine z_ldcw dX13_seed_2 lkX13_408 ?_
  obtain ⟨q1, hq1, hf⟩ := z_b_el hf
  refine y_cSi (Nat.le_trans (Nat.le_of_ble_eq_true rfl) hd) (wX13_in (z_dl rfl hd) hq1) oX13_in lmX13_114 sX13_in _ rfl rfl (Nat.le_of_ble_eq_true rfl) dX13_seed_5 ?_
  refine z_if_ne (tgt := 13) dX13_seed_8 (by decide) (fun c2 => ?_) (fun c2 => ?_)
  · have hf := z_if_f hf c2
    refine z_aload_n dX13_seed_13 rfl rfl (z_okl g_a0) ?_
    refine y_getR lfX13_7 rfl g_a0 dX13_seed_14 ?_
    refine z_bipush dX13_seed_17 kb_81 ?_
    refine z_iload_n dX13_seed_19 rfl rfl ?_
    obtain ⟨g3, hf⟩ := z_g_el hf
    refine y_iast g3 dX13_seed_20 (fun I4 eI4 => ?_)
    have hf := z_l_el hf eI4
    refine z_iconst dX13_seed_21 kc_1 ?_
    cases hf
    exact z_iret hk ⟨_, rfl, rfl⟩ dX13_seed_22
  · have hf := z_if_t hf c2
    refine z_iconst dX13_seed_11 kc_0 ?_
    cases hf
    exact z_iret hk ⟨_, rfl, rfl⟩ dX13_seed_12
theorem wX13_seed {G : z_G} {d : Nat} {a0 : Nat} {x1 : Int32} {I : Nat → Nat → Int32} {R : Nat → Nat → Nat} {q : Int32 × (Nat → Nat → Int32)} (hd : 1 ≤ d) (hf : fX13_seed a0 x1 I R = some q) : z_M G d 0 0 eX13_seed [.ref a0, .int x1] z_SH (I, R) (z_E (some (.int q.1)) (q.2, R)) :=
  y_M_of _ (by decide +kernel) rfl rfl rfl (vX13_seed hd hf ⟨rfl, rfl, rfl⟩)
def fX13_keep (a0 : Nat) (I : Nat → Nat → Int32) (R : Nat → Nat → Nat) : Option (Int32 × (Nat → Nat → Int32)) :=
  z_g (z_ob a0 13) (z_l (z_u I a0 57 (1 : Int32)) (fun I1 => z_b (fX13_copies (R a0 0) (R a0 2) I1) (fun q2 => z_g (z_ok 1 (R a0 0) (80 : Int32)) (some (q2 (R a0 0) (80 : Int32).toNatClampNeg, q2)))))
theorem vX13_keep {G : z_G} {d : Nat} {Q : Option Value → z_S → z_H → Prop} {a0 : Nat} {I : Nat → Nat → Int32} {R : Nat → Nat → Nat} {q : Int32 × (Nat → Nat → Int32)} (hd : 1 ≤ d) (hf : fX13_keep a0 I R = some q) (hk : Q (some (.int q.1)) z_SH (q.2, R)) : z_W G eX13_keep d 0 0 0 [some (.ref a0)] [] z_SH (I, R) Q := by
  unfold fX13_keep at hf
  obtain ⟨g_a0, hf⟩ := z_g_el hf
  refine z_aload_n dX13_keep_0 rfl rfl (z_okl g_a0) ?_
  refine z_iconst dX13_keep_1 kc_1 ?_
  refine y_putI lfX13_409 rfl g_a0 rfl rfl rfl dX13_keep_2 (fun I1 eI1 => ?_)
  have hf := z_l_el hf eI1
  refine z_aload_n dX13_keep_5 rfl rfl (z_okl g_a0) ?_
  refine y_getR lfX13_7 rfl g_a0 dX13_keep_6 ?_
  refine z_aload_n dX13_keep_9 rfl rfl (z_okl g_a0) ?_
  refine y_getR lfX13_16 rfl g_a0 dX13_keep_10 ?_
  obtain ⟨q2, hq2, hf⟩ := z_b_el hf
  refine y_cSv (Nat.le_trans (Nat.le_of_ble_eq_true rfl) hd) (wX13_copies (z_dl rfl hd) hq2) oX13_copies lmX13_349 sX13_copies _ rfl rfl (Nat.le_of_ble_eq_true rfl) dX13_keep_13 ?_
  refine z_aload_n dX13_keep_16 rfl rfl (z_okl g_a0) ?_
  refine y_getR lfX13_7 rfl g_a0 dX13_keep_17 ?_
  refine z_bipush dX13_keep_20 kb_80 ?_
  obtain ⟨g3, hf⟩ := z_g_el hf
  refine y_iald g3 dX13_keep_22 ?_
  cases hf
  exact z_iret hk ⟨_, rfl, rfl⟩ dX13_keep_23
theorem wX13_keep {G : z_G} {d : Nat} {a0 : Nat} {I : Nat → Nat → Int32} {R : Nat → Nat → Nat} {q : Int32 × (Nat → Nat → Int32)} (hd : 1 ≤ d) (hf : fX13_keep a0 I R = some q) : z_M G d 0 0 eX13_keep [.ref a0] z_SH (I, R) (z_E (some (.int q.1)) (q.2, R)) :=
  y_M_of _ (by decide +kernel) rfl rfl rfl (vX13_keep hd hf ⟨rfl, rfl, rfl⟩)
def fX13_undo_b22 (a0 : Nat) (R : Nat → Nat → Nat) : (Int32 × (Nat → Nat → Int32)) → Option ((Int32 × (Nat → Nat → Int32)) ⊕ ((Nat → Nat → Int32))) :=
  fun s => (fun (p1 : Int32) (I : Nat → Nat → Int32) => if (8 : Int32) ≤ p1 then (some (.inr I)) else (z_g (z_ok 1 (R a0 0) ((40 : Int32) + p1)) (z_g (z_ok 1 (R a0 9) p1) (z_b (fX13_min (I (R a0 0) ((40 : Int32) + p1).toNatClampNeg) (I (R a0 9) p1.toNatClampNeg)) (fun q6 => z_l (z_u I (R a0 0) ((40 : Int32) + p1).toNatClampNeg q6) (fun I7 => z_b (fX13_isDone a0 p1 I7 R) (fun q8 => if q8 = 0 then (z_l (p1 + (1 : Int32)) (fun t10 => some (.inl (t10, I7)))) else (z_g (z_ok 1 (R a0 0) ((72 : Int32) + p1)) (z_l (z_u I7 (R a0 0) ((72 : Int32) + p1).toNatClampNeg (0 : Int32)) (fun I12 => z_l (p1 + (1 : Int32)) (fun t13 => some (.inl (t13, I12))))))))))))) s.1 s.2
theorem wX13_undo_b22 {G : z_G} {d : Nat} {Q : Option Value → z_S → z_H → Prop} {a0 : Nat} {R : Nat → Nat → Nat} (hd : 1 ≤ d) (g_a0 : z_ob a0 13) : ∀ (s : Int32 × (Nat → Nat → Int32)) (o : (Int32 × (Nat → Nat → Int32)) ⊕ ((Nat → Nat → Int32))), fX13_undo_b22 a0 R s = some o → z_or (fun s : Int32 × (Nat → Nat → Int32) => z_W G eX13_undo d 0 0 22 [some (.ref a0), some (.int s.1)] [] z_SH (s.2, R) Q) (fun x : (Nat → Nat → Int32) => z_W G eX13_undo d 0 0 79 [none, none] [] z_SH (x, R) Q) o → (fun s : Int32 × (Nat → Nat → Int32) => z_W G eX13_undo d 0 0 22 [some (.ref a0), some (.int s.1)] [] z_SH (s.2, R) Q) s := by
  rintro ⟨p1, I⟩ o hf hk
  show z_W G eX13_undo d 0 0 22 [some (.ref a0), some (.int p1)] [] z_SH (I, R) Q
  unfold fX13_undo_b22 at hf
  try dsimp only at hf
  refine z_iload_n dX13_undo_22 rfl rfl ?_
  refine z_bipush dX13_undo_23 kb_8 ?_
  refine z_icmp_ge (tgt := 79) dX13_undo_25 (by decide) (fun c3 => ?_) (fun c3 => ?_)
  · have hf := z_if_t hf c3
    cases hf
    exact y_sub hk (z_le_n (z_le_n z_le_0))
  · have hf := z_if_f hf c3
    refine z_aload_n dX13_undo_28 rfl rfl (z_okl g_a0) ?_
    refine y_getR lfX13_7 rfl g_a0 dX13_undo_29 ?_
    refine z_bipush dX13_undo_32 kb_40 ?_
    refine z_iload_n dX13_undo_34 rfl rfl ?_
    refine z_iadd dX13_undo_35 ?_
    refine z_aload_n dX13_undo_36 rfl rfl (z_okl g_a0) ?_
    refine y_getR lfX13_7 rfl g_a0 dX13_undo_37 ?_
    refine z_bipush dX13_undo_40 kb_40 ?_
    refine z_iload_n dX13_undo_42 rfl rfl ?_
    refine z_iadd dX13_undo_43 ?_
    obtain ⟨g4, hf⟩ := z_g_el hf
    refine y_iald g4 dX13_undo_44 ?_
    refine z_aload_n dX13_undo_45 rfl rfl (z_okl g_a0) ?_
    refine y_getR lfX13_31 rfl g_a0 dX13_undo_46 ?_
    refine z_iload_n dX13_undo_49 rfl rfl ?_
    obtain ⟨g5, hf⟩ := z_g_el hf
    refine y_iald g5 dX13_undo_50 ?_
    obtain ⟨q6, hq6, hf⟩ := z_b_el hf
    refine y_cSi (Nat.le_trans (Nat.le_of_ble_eq_true rfl) hd) (wX13_min (z_dl rfl hd) hq6) oX13_min lmX13_282 sX13_min _ rfl rfl (Nat.le_of_ble_eq_true rfl) dX13_undo_51 ?_
    refine y_iast g4 dX13_undo_54 (fun I7 eI7 => ?_)
    have hf := z_l_el hf eI7
    refine z_aload_n dX13_undo_55 rfl rfl (z_okl g_a0) ?_
    refine z_iload_n dX13_undo_56 rfl rfl ?_
    obtain ⟨q8, hq8, hf⟩ := z_b_el hf
    refine y_cVi (av := [.int p1]) (Nat.le_trans (Nat.le_of_ble_eq_true rfl) hd) (wX13_isDone (z_dl rfl hd) hq8) oX13_isDone lmX13_270 iX13_isDone g_a0 rfl _ rfl rfl (Nat.le_of_ble_eq_true rfl) dX13_undo_57 ?_
    refine z_if_eq (tgt := 73) dX13_undo_60 (by decide) (fun c9 => ?_) (fun c9 => ?_)
    · have hf := z_if_t hf c9
      refine y_iinc (fun t10 => [some (.ref a0), some (.int t10)]) dX13_undo_73 rfl kc_1 (by decide) (fun _ => rfl) (fun t10 et10 => ?_)
      have hf := z_l_el hf et10
      refine z_goto (tgt := 22) dX13_undo_76 (by decide) ?_
      cases hf
      exact y_sub hk (z_le_c rfl (z_le_c rfl z_le_0))
    · have hf := z_if_f hf c9
      refine z_aload_n dX13_undo_63 rfl rfl (z_okl g_a0) ?_
      refine y_getR lfX13_7 rfl g_a0 dX13_undo_64 ?_
      refine z_bipush dX13_undo_67 kb_72 ?_
      refine z_iload_n dX13_undo_69 rfl rfl ?_
      refine z_iadd dX13_undo_70 ?_
      refine z_iconst dX13_undo_71 kc_0 ?_
      obtain ⟨g11, hf⟩ := z_g_el hf
      refine y_iast g11 dX13_undo_72 (fun I12 eI12 => ?_)
      have hf := z_l_el hf eI12
      refine y_iinc (fun t13 => [some (.ref a0), some (.int t13)]) dX13_undo_73 rfl kc_1 (by decide) (fun _ => rfl) (fun t13 et13 => ?_)
      have hf := z_l_el hf et13
      refine z_goto (tgt := 22) dX13_undo_76 (by decide) ?_
      cases hf
      exact y_sub hk (z_le_c rfl (z_le_c rfl z_le_0))
def fX13_undo (a0 : Nat) (I : Nat → Nat → Int32) (R : Nat → Nat → Nat) : Option (Int32 × (Nat → Nat → Int32)) :=
  z_g (z_ob a0 13) (if (I a0 57) = 0 then (some ((0 : Int32), I)) else (z_b (fX13_copies (R a0 2) (R a0 0) I) (fun q2 => z_b (z_lp (fX13_undo_b22 a0 R) 300 ((0 : Int32), q2)) (fun q14 => some ((1 : Int32), q14)))))
theorem vX13_undo {G : z_G} {d : Nat} {Q : Option Value → z_S → z_H → Prop} {a0 : Nat} {I : Nat → Nat → Int32} {R : Nat → Nat → Nat} {q : Int32 × (Nat → Nat → Int32)} (hd : 1 ≤ d) (hf : fX13_undo a0 I R = some q) (hk : Q (some (.int q.1)) z_SH (q.2, R)) : z_W G eX13_undo d 0 0 0 [some (.ref a0), none] [] z_SH (I, R) Q := by
  unfold fX13_undo at hf
  obtain ⟨g_a0, hf⟩ := z_g_el hf
  refine z_aload_n dX13_undo_0 rfl rfl (z_okl g_a0) ?_
  refine y_getI lfX13_409 rfl g_a0 dX13_undo_1 ?_
  refine z_if_ne (tgt := 9) dX13_undo_4 (by decide) (fun c1 => ?_) (fun c1 => ?_)
  · have hf := z_if_f hf c1
    refine z_aload_n dX13_undo_9 rfl rfl (z_okl g_a0) ?_
    refine y_getR lfX13_16 rfl g_a0 dX13_undo_10 ?_
    refine z_aload_n dX13_undo_13 rfl rfl (z_okl g_a0) ?_
    refine y_getR lfX13_7 rfl g_a0 dX13_undo_14 ?_
    obtain ⟨q2, hq2, hf⟩ := z_b_el hf
    refine y_cSv (Nat.le_trans (Nat.le_of_ble_eq_true rfl) hd) (wX13_copies (z_dl rfl hd) hq2) oX13_copies lmX13_349 sX13_copies _ rfl rfl (Nat.le_of_ble_eq_true rfl) dX13_undo_17 ?_
    refine z_iconst dX13_undo_20 kc_0 ?_
    refine y_istore_n0 [some (.ref a0), some (.int (0 : Int32))] dX13_undo_21 rfl (by decide) rfl ?_
    obtain ⟨q14, hq14, hf⟩ := z_b_el hf
    refine y_sub (lv' := [some (.ref a0), some (.int (0 : Int32))]) ?_ (z_le_c rfl (z_le_c rfl z_le_0))
    refine z_lp_el (P := (fun s : Int32 × (Nat → Nat → Int32) => z_W G eX13_undo d 0 0 22 [some (.ref a0), some (.int s.1)] [] z_SH (s.2, R) Q)) (E := (fun x : (Nat → Nat → Int32) => z_W G eX13_undo d 0 0 79 [none, none] [] z_SH (x, R) Q)) (wX13_undo_b22 hd g_a0) 300 ((0 : Int32), q2) q14 hq14 ?_
    show z_W G eX13_undo d 0 0 79 [none, none] [] z_SH (q14, R) _
    refine z_iconst dX13_undo_79 kc_1 ?_
    cases hf
    exact z_iret hk ⟨_, rfl, rfl⟩ dX13_undo_80
  · have hf := z_if_t hf c1
    refine z_iconst dX13_undo_7 kc_0 ?_
    cases hf
    exact z_iret hk ⟨_, rfl, rfl⟩ dX13_undo_8
theorem wX13_undo {G : z_G} {d : Nat} {a0 : Nat} {I : Nat → Nat → Int32} {R : Nat → Nat → Nat} {q : Int32 × (Nat → Nat → Int32)} (hd : 1 ≤ d) (hf : fX13_undo a0 I R = some q) : z_M G d 0 0 eX13_undo [.ref a0] z_SH (I, R) (z_E (some (.int q.1)) (q.2, R)) :=
  y_M_of _ (by decide +kernel) rfl rfl rfl (vX13_undo hd hf ⟨rfl, rfl, rfl⟩)
def fX13_check_j59_28 (a0 : Nat) (z1 : Int32) (y2 : Int32) (v0 : Int32) (v1 : Int32) (I : Nat → Nat → Int32) (R : Nat → Nat → Nat) : Option ((Int32) ⊕ ((Int32 × (Nat → Nat → Int32)) ⊕ (Unit))) :=
  if v0 = v1 then (z_l (y2 + (1 : Int32)) (fun t10 => some (.inl t10))) else (some (.inr (.inl (y2, I))))
theorem wX13_check_j59_28 {G : z_G} {d : Nat} {Q : Option Value → z_S → z_H → Prop} {a0 : Nat} {z1 : Int32} {y2 : Int32} {v0 : Int32} {v1 : Int32} {I : Nat → Nat → Int32} {R : Nat → Nat → Nat} {o : (Int32) ⊕ ((Int32 × (Nat → Nat → Int32)) ⊕ (Unit))} (hd : 2 ≤ d) (g_a0 : z_ob a0 13) (hf : fX13_check_j59_28 a0 z1 y2 v0 v1 I R = some o) (hk : z_or (fun s : Int32 => z_W G eX13_check d 0 0 28 [some (.ref a0), some (.int z1), some (.int s)] [] z_SH (I, R) Q) (z_or (fun r : Int32 × (Nat → Nat → Int32) => Q (some (.int r.1)) z_SH (r.2, R)) (fun x : Unit => z_W G eX13_check d 0 0 70 [none, none, none] [] z_SH (I, R) Q)) o) : z_W G eX13_check d 0 0 59 [some (.ref a0), some (.int z1), some (.int y2)] [.int v1, .int v0] z_SH (I, R) Q := by
  unfold fX13_check_j59_28 at hf
  refine z_icmp_eq (tgt := 64) dX13_check_59 (by decide) (fun c9 => ?_) (fun c9 => ?_)
  · have hf := z_if_t hf c9
    refine y_iinc (fun t10 => [some (.ref a0), some (.int z1), some (.int t10)]) dX13_check_64 rfl kc_1 (by decide) (fun _ => rfl) (fun t10 et10 => ?_)
    have hf := z_l_el hf et10
    refine z_goto (tgt := 28) dX13_check_67 (by decide) ?_
    cases hf
    exact y_sub hk (z_le_c rfl (z_le_c rfl (z_le_c rfl z_le_0)))
  · have hf := z_if_f hf c9
    refine z_iload_n dX13_check_62 rfl rfl ?_
    cases hf
    exact z_iret hk ⟨_, rfl, rfl⟩ dX13_check_63
def fX13_check_b28 (a0 : Nat) (z1 : Int32) (I : Nat → Nat → Int32) (R : Nat → Nat → Nat) : (Int32) → Option ((Int32) ⊕ ((Int32 × (Nat → Nat → Int32)) ⊕ (Unit))) :=
  fun s => (fun (p2 : Int32) => if z1 ≤ p2 then (some (.inr (.inr (())))) else (z_b (fX13_octet a0 p2 I R) (fun q6 => z_b (fX13_isTold a0 p2 I R) (fun q7 => if q7 = 0 then (fX13_check_j59_28 a0 z1 p2 q6 (0 : Int32) I R) else (z_g (z_ok 1 (R a0 0) ((40 : Int32) + p2)) (fX13_check_j59_28 a0 z1 p2 q6 (I (R a0 0) ((40 : Int32) + p2).toNatClampNeg) I R)))))) s
theorem wX13_check_b28 {G : z_G} {d : Nat} {Q : Option Value → z_S → z_H → Prop} {a0 : Nat} {z1 : Int32} {I : Nat → Nat → Int32} {R : Nat → Nat → Nat} (hd : 2 ≤ d) (g_a0 : z_ob a0 13) : ∀ (s : Int32) (o : (Int32) ⊕ ((Int32 × (Nat → Nat → Int32)) ⊕ (Unit))), fX13_check_b28 a0 z1 I R s = some o → z_or (fun s : Int32 => z_W G eX13_check d 0 0 28 [some (.ref a0), some (.int z1), some (.int s)] [] z_SH (I, R) Q) (z_or (fun r : Int32 × (Nat → Nat → Int32) => Q (some (.int r.1)) z_SH (r.2, R)) (fun x : Unit => z_W G eX13_check d 0 0 70 [none, none, none] [] z_SH (I, R) Q)) o → (fun s : Int32 => z_W G eX13_check d 0 0 28 [some (.ref a0), some (.int z1), some (.int s)] [] z_SH (I, R) Q) s := by
  intro p2 o hf hk
  show z_W G eX13_check d 0 0 28 [some (.ref a0), some (.int z1), some (.int p2)] [] z_SH (I, R) Q
  unfold fX13_check_b28 at hf
  try dsimp only at hf
  refine z_iload_n dX13_check_28 rfl rfl ?_
  refine z_iload_n dX13_check_29 rfl rfl ?_
  refine z_icmp_ge (tgt := 70) dX13_check_30 (by decide) (fun c5 => ?_) (fun c5 => ?_)
  · have hf := z_if_t hf c5
    cases hf
    exact y_sub hk (z_le_n (z_le_n (z_le_n z_le_0)))
  · have hf := z_if_f hf c5
    refine z_aload_n dX13_check_33 rfl rfl (z_okl g_a0) ?_
    refine z_iload_n dX13_check_34 rfl rfl ?_
    obtain ⟨q6, hq6, hf⟩ := z_b_el hf
    refine y_cVi (av := [.int p2]) (Nat.le_trans (Nat.le_of_ble_eq_true rfl) hd) (wX13_octet (z_dl rfl hd) hq6) oX13_octet lmX13_413 iX13_octet g_a0 rfl _ rfl rfl (Nat.le_of_ble_eq_true rfl) dX13_check_35 ?_
    refine z_aload_n dX13_check_38 rfl rfl (z_okl g_a0) ?_
    refine z_iload_n dX13_check_39 rfl rfl ?_
    obtain ⟨q7, hq7, hf⟩ := z_b_el hf
    refine y_cVi (av := [.int p2]) (Nat.le_trans (Nat.le_of_ble_eq_true rfl) hd) (wX13_isTold (z_dl rfl hd) hq7) oX13_isTold lmX13_118 iX13_isTold g_a0 rfl _ rfl rfl (Nat.le_of_ble_eq_true rfl) dX13_check_40 ?_
    refine z_if_eq (tgt := 58) dX13_check_43 (by decide) (fun c8 => ?_) (fun c8 => ?_)
    · have hf := z_if_t hf c8
      refine z_iconst dX13_check_58 kc_0 ?_
      exact y_sub (wX13_check_j59_28 hd g_a0 hf hk) (z_le_c rfl (z_le_c rfl (z_le_c rfl z_le_0)))
    · have hf := z_if_f hf c8
      refine z_aload_n dX13_check_46 rfl rfl (z_okl g_a0) ?_
      refine y_getR lfX13_7 rfl g_a0 dX13_check_47 ?_
      refine z_bipush dX13_check_50 kb_40 ?_
      refine z_iload_n dX13_check_52 rfl rfl ?_
      refine z_iadd dX13_check_53 ?_
      obtain ⟨g11, hf⟩ := z_g_el hf
      refine y_iald g11 dX13_check_54 ?_
      refine z_goto (tgt := 59) dX13_check_55 (by decide) ?_
      exact y_sub (wX13_check_j59_28 hd g_a0 hf hk) (z_le_c rfl (z_le_c rfl (z_le_c rfl z_le_0)))
def fX13_check (a0 : Nat) (x1 : Int32) (I : Nat → Nat → Int32) (R : Nat → Nat → Nat) : Option (Int32 × (Nat → Nat → Int32)) :=
  z_g (z_ob a0 13) (z_b (fX13_in x1 (0 : Int32) (8 : Int32)) (fun q1 => if q1 = 0 then (some ((-2 : Int32), I)) else (if x1 ≤ (I a0 11) then (z_l (z_u I a0 11 (0 : Int32)) (fun I4 => z_b (z_lp (fX13_check_b28 a0 x1 I4 R) 300 (0 : Int32)) (fun q12 => z_x q12 (fun q14 => some q14) (fun q13 => some ((-1 : Int32), I4))))) else (some ((-2 : Int32), I)))))
theorem vX13_check {G : z_G} {d : Nat} {Q : Option Value → z_S → z_H → Prop} {a0 : Nat} {x1 : Int32} {I : Nat → Nat → Int32} {R : Nat → Nat → Nat} {q : Int32 × (Nat → Nat → Int32)} (hd : 2 ≤ d) (hf : fX13_check a0 x1 I R = some q) (hk : Q (some (.int q.1)) z_SH (q.2, R)) : z_W G eX13_check d 0 0 0 [some (.ref a0), some (.int x1), none] [] z_SH (I, R) Q := by
  unfold fX13_check at hf
  obtain ⟨g_a0, hf⟩ := z_g_el hf
  refine z_iload_n dX13_check_0 rfl rfl ?_
  refine z_iconst dX13_check_1 kc_0 ?_
  refine z_bipush dX13_check_2 kb_8 ?_
  obtain ⟨q1, hq1, hf⟩ := z_b_el hf
  refine y_cSi (Nat.le_trans (Nat.le_of_ble_eq_true rfl) hd) (wX13_in (z_dl rfl hd) hq1) oX13_in lmX13_114 sX13_in _ rfl rfl (Nat.le_of_ble_eq_true rfl) dX13_check_4 ?_
  refine z_if_eq (tgt := 18) dX13_check_7 (by decide) (fun c2 => ?_) (fun c2 => ?_)
  · have hf := z_if_t hf c2
    refine z_bipush dX13_check_18 kb_m2 ?_
    cases hf
    exact z_iret hk ⟨_, rfl, rfl⟩ dX13_check_20
  · have hf := z_if_f hf c2
    refine z_iload_n dX13_check_10 rfl rfl ?_
    refine z_aload_n dX13_check_11 rfl rfl (z_okl g_a0) ?_
    refine y_getI lfX13_144 rfl g_a0 dX13_check_12 ?_
    refine z_icmp_le (tgt := 21) dX13_check_15 (by decide) (fun c3 => ?_) (fun c3 => ?_)
    · have hf := z_if_t hf c3
      refine z_aload_n dX13_check_21 rfl rfl (z_okl g_a0) ?_
      refine z_iconst dX13_check_22 kc_0 ?_
      refine y_putI lfX13_144 rfl g_a0 rfl rfl rfl dX13_check_23 (fun I4 eI4 => ?_)
      have hf := z_l_el hf eI4
      refine z_iconst dX13_check_26 kc_0 ?_
      refine y_istore_n0 [some (.ref a0), some (.int x1), some (.int (0 : Int32))] dX13_check_27 rfl (by decide) rfl ?_
      obtain ⟨q12, hq12, hf⟩ := z_b_el hf
      refine y_sub (lv' := [some (.ref a0), some (.int x1), some (.int (0 : Int32))]) ?_ (z_le_c rfl (z_le_c rfl (z_le_c rfl z_le_0)))
      refine z_lp_el (P := (fun s : Int32 => z_W G eX13_check d 0 0 28 [some (.ref a0), some (.int x1), some (.int s)] [] z_SH (I4, R) Q)) (E := (z_or (fun r : Int32 × (Nat → Nat → Int32) => Q (some (.int r.1)) z_SH (r.2, R)) (fun x : Unit => z_W G eX13_check d 0 0 70 [none, none, none] [] z_SH (I4, R) Q))) (wX13_check_b28 hd g_a0) 300 (0 : Int32) q12 hq12 ?_
      rcases q12 with q14 | q13
      · have hf := z_x_l hf
        cases hf
        exact hk
      · have hf := z_x_r hf
        show z_W G eX13_check d 0 0 70 [none, none, none] [] z_SH (I4, R) _
        refine z_iconst dX13_check_70 kc_m1 ?_
        cases hf
        exact z_iret hk ⟨_, rfl, rfl⟩ dX13_check_71
    · have hf := z_if_f hf c3
      refine z_bipush dX13_check_18 kb_m2 ?_
      cases hf
      exact z_iret hk ⟨_, rfl, rfl⟩ dX13_check_20
theorem wX13_check {G : z_G} {d : Nat} {a0 : Nat} {x1 : Int32} {I : Nat → Nat → Int32} {R : Nat → Nat → Nat} {q : Int32 × (Nat → Nat → Int32)} (hd : 2 ≤ d) (hf : fX13_check a0 x1 I R = some q) : z_M G d 0 0 eX13_check [.ref a0, .int x1] z_SH (I, R) (z_E (some (.int q.1)) (q.2, R)) :=
  y_M_of _ (by decide +kernel) rfl rfl rfl (vX13_check hd hf ⟨rfl, rfl, rfl⟩)
def fX13_count (a0 : Nat) (x1 : Int32) (I : Nat → Nat → Int32) (R : Nat → Nat → Nat) : Option (Int32) :=
  z_g (z_ob a0 13) (if x1 = (0 : Int32) then (z_g (z_ok 1 (R a0 0) (80 : Int32)) (some (I (R a0 0) (80 : Int32).toNatClampNeg))) else (if x1 = (1 : Int32) then (z_b (fX13_toldSet a0 I R) (fun q4 => some q4)) else (if x1 = (2 : Int32) then (z_b (fX13_doneSet a0 I R) (fun q6 => some q6)) else (if x1 = (3 : Int32) then (z_b (fX13_waitingSet a0 I R) (fun q8 => some q8)) else (if x1 = (4 : Int32) then (some (I a0 3)) else (if x1 = (5 : Int32) then (some (I a0 4)) else (if x1 = (6 : Int32) then (some (I a0 20)) else (if x1 = (7 : Int32) then (some (I a0 11)) else (if x1 = (8 : Int32) then (z_g (z_ok 1 (R a0 0) (81 : Int32)) (some (I (R a0 0) (81 : Int32).toNatClampNeg))) else (z_b (fX13_in x1 (10 : Int32) (17 : Int32)) (fun q15 => if q15 = 0 then (z_b (fX13_in x1 (20 : Int32) (27 : Int32)) (fun q17 => if q17 = 0 then (some (-1 : Int32)) else (z_g (z_ok 1 (R a0 9) (x1 - (20 : Int32))) (z_b (fX13_holdsTo a0 (x1 - (20 : Int32)) (I (R a0 9) (x1 - (20 : Int32)).toNatClampNeg) I R) (fun q20 => some q20))))) else (z_g (z_ok 1 (R a0 9) (x1 - (10 : Int32))) (some (I (R a0 9) (x1 - (10 : Int32)).toNatClampNeg))))))))))))))
set_option maxRecDepth 20000 in
theorem vX13_count {G : z_G} {d : Nat} {Q : Option Value → z_S → z_H → Prop} {a0 : Nat} {x1 : Int32} {I : Nat → Nat → Int32} {R : Nat → Nat → Nat} {q : Int32} (hd : 3 ≤ d) (hf : fX13_count a0 x1 I R = some q) (hk : Q (some (.int q)) z_SH (I, R)) : z_W G eX13_count d 0 0 0 [some (.ref a0), some (.int x1)] [] z_SH (I, R) Q := by
  unfold fX13_count at hf
  obtain ⟨g_a0, hf⟩ := z_g_el hf
  refine z_iload_n dX13_count_0 rfl rfl ?_
  by_cases c1 : x1 = (0 : Int32)
  · have hf := z_if_t hf c1
    refine z_tabIn (off := 51) (tgt := 52) dX13_count_1 (by rw [c1]; decide) (by rw [c1]; decide) (by rw [c1]; rfl) (by decide) ?_
    refine z_aload_n dX13_count_52 rfl rfl (z_okl g_a0) ?_
    refine y_getR lfX13_7 rfl g_a0 dX13_count_53 ?_
    refine z_bipush dX13_count_56 kb_80 ?_
    obtain ⟨g2, hf⟩ := z_g_el hf
    refine y_iald g2 dX13_count_58 ?_
    cases hf
    exact z_iret hk ⟨_, rfl, rfl⟩ dX13_count_59
  · have hf := z_if_f hf c1
    by_cases c3 : x1 = (1 : Int32)
    · have hf := z_if_t hf c3
      refine z_tabIn (off := 59) (tgt := 60) dX13_count_1 (by rw [c3]; decide) (by rw [c3]; decide) (by rw [c3]; rfl) (by decide) ?_
      refine z_aload_n dX13_count_60 rfl rfl (z_okl g_a0) ?_
      obtain ⟨q4, hq4, hf⟩ := z_b_el hf
      refine y_cVi (av := []) (Nat.le_trans (Nat.le_of_ble_eq_true rfl) hd) (wX13_toldSet (z_dl rfl hd) hq4) oX13_toldSet lmX13_126 iX13_toldSet g_a0 rfl _ rfl rfl (Nat.le_of_ble_eq_true rfl) dX13_count_61 ?_
      cases hf
      exact z_iret hk ⟨_, rfl, rfl⟩ dX13_count_64
    · have hf := z_if_f hf c3
      by_cases c5 : x1 = (2 : Int32)
      · have hf := z_if_t hf c5
        refine z_tabIn (off := 64) (tgt := 65) dX13_count_1 (by rw [c5]; decide) (by rw [c5]; decide) (by rw [c5]; rfl) (by decide) ?_
        refine z_aload_n dX13_count_65 rfl rfl (z_okl g_a0) ?_
        obtain ⟨q6, hq6, hf⟩ := z_b_el hf
        refine y_cVi (av := []) (Nat.le_trans (Nat.le_of_ble_eq_true rfl) hd) (wX13_doneSet (z_dl rfl hd) hq6) oX13_doneSet lmX13_356 iX13_doneSet g_a0 rfl _ rfl rfl (Nat.le_of_ble_eq_true rfl) dX13_count_66 ?_
        cases hf
        exact z_iret hk ⟨_, rfl, rfl⟩ dX13_count_69
      · have hf := z_if_f hf c5
        by_cases c7 : x1 = (3 : Int32)
        · have hf := z_if_t hf c7
          refine z_tabIn (off := 69) (tgt := 70) dX13_count_1 (by rw [c7]; decide) (by rw [c7]; decide) (by rw [c7]; rfl) (by decide) ?_
          refine z_aload_n dX13_count_70 rfl rfl (z_okl g_a0) ?_
          obtain ⟨q8, hq8, hf⟩ := z_b_el hf
          refine y_cVi (av := []) (Nat.le_trans (Nat.le_of_ble_eq_true rfl) hd) (wX13_waitingSet (z_dl rfl hd) hq8) oX13_waitingSet lmX13_353 iX13_waitingSet g_a0 rfl _ rfl rfl (Nat.le_of_ble_eq_true rfl) dX13_count_71 ?_
          cases hf
          exact z_iret hk ⟨_, rfl, rfl⟩ dX13_count_74
        · have hf := z_if_f hf c7
          by_cases c9 : x1 = (4 : Int32)
          · have hf := z_if_t hf c9
            refine z_tabIn (off := 74) (tgt := 75) dX13_count_1 (by rw [c9]; decide) (by rw [c9]; decide) (by rw [c9]; rfl) (by decide) ?_
            refine z_aload_n dX13_count_75 rfl rfl (z_okl g_a0) ?_
            refine y_getI lfX13_107 rfl g_a0 dX13_count_76 ?_
            cases hf
            exact z_iret hk ⟨_, rfl, rfl⟩ dX13_count_79
          · have hf := z_if_f hf c9
            by_cases c10 : x1 = (5 : Int32)
            · have hf := z_if_t hf c10
              refine z_tabIn (off := 79) (tgt := 80) dX13_count_1 (by rw [c10]; decide) (by rw [c10]; decide) (by rw [c10]; rfl) (by decide) ?_
              refine z_aload_n dX13_count_80 rfl rfl (z_okl g_a0) ?_
              refine y_getI lfX13_111 rfl g_a0 dX13_count_81 ?_
              cases hf
              exact z_iret hk ⟨_, rfl, rfl⟩ dX13_count_84
            · have hf := z_if_f hf c10
              by_cases c11 : x1 = (6 : Int32)
              · have hf := z_if_t hf c11
                refine z_tabIn (off := 84) (tgt := 85) dX13_count_1 (by rw [c11]; decide) (by rw [c11]; decide) (by rw [c11]; rfl) (by decide) ?_
                refine z_aload_n dX13_count_85 rfl rfl (z_okl g_a0) ?_
                refine y_getI lfX13_241 rfl g_a0 dX13_count_86 ?_
                cases hf
                exact z_iret hk ⟨_, rfl, rfl⟩ dX13_count_89
              · have hf := z_if_f hf c11
                by_cases c12 : x1 = (7 : Int32)
                · have hf := z_if_t hf c12
                  refine z_tabIn (off := 89) (tgt := 90) dX13_count_1 (by rw [c12]; decide) (by rw [c12]; decide) (by rw [c12]; rfl) (by decide) ?_
                  refine z_aload_n dX13_count_90 rfl rfl (z_okl g_a0) ?_
                  refine y_getI lfX13_144 rfl g_a0 dX13_count_91 ?_
                  cases hf
                  exact z_iret hk ⟨_, rfl, rfl⟩ dX13_count_94
                · have hf := z_if_f hf c12
                  by_cases c13 : x1 = (8 : Int32)
                  · have hf := z_if_t hf c13
                    refine z_tabIn (off := 94) (tgt := 95) dX13_count_1 (by rw [c13]; decide) (by rw [c13]; decide) (by rw [c13]; rfl) (by decide) ?_
                    refine z_aload_n dX13_count_95 rfl rfl (z_okl g_a0) ?_
                    refine y_getR lfX13_7 rfl g_a0 dX13_count_96 ?_
                    refine z_bipush dX13_count_99 kb_81 ?_
                    obtain ⟨g14, hf⟩ := z_g_el hf
                    refine y_iald g14 dX13_count_101 ?_
                    cases hf
                    exact z_iret hk ⟨_, rfl, rfl⟩ dX13_count_102
                  · have hf := z_if_f hf c13
                    have nc1 : ¬ (x1).toInt = 0 := z_toInt_ne c1
                    have nc3 : ¬ (x1).toInt = 1 := z_toInt_ne c3
                    have nc5 : ¬ (x1).toInt = 2 := z_toInt_ne c5
                    have nc7 : ¬ (x1).toInt = 3 := z_toInt_ne c7
                    have nc9 : ¬ (x1).toInt = 4 := z_toInt_ne c9
                    have nc10 : ¬ (x1).toInt = 5 := z_toInt_ne c10
                    have nc11 : ¬ (x1).toInt = 6 := z_toInt_ne c11
                    have nc12 : ¬ (x1).toInt = 7 := z_toInt_ne c12
                    have nc13 : ¬ (x1).toInt = 8 := z_toInt_ne c13
                    refine z_tabOut (tgt := 103) dX13_count_1 (by omega) (by decide) ?_
                    refine z_iload_n dX13_count_103 rfl rfl ?_
                    refine z_bipush dX13_count_104 kb_10 ?_
                    refine z_bipush dX13_count_106 kb_17 ?_
                    obtain ⟨q15, hq15, hf⟩ := z_b_el hf
                    refine y_cSi (Nat.le_trans (Nat.le_of_ble_eq_true rfl) hd) (wX13_in (z_dl rfl hd) hq15) oX13_in lmX13_114 sX13_in _ rfl rfl (Nat.le_of_ble_eq_true rfl) dX13_count_108 ?_
                    refine z_if_eq (tgt := 124) dX13_count_111 (by decide) (fun c16 => ?_) (fun c16 => ?_)
                    · have hf := z_if_t hf c16
                      refine z_iload_n dX13_count_124 rfl rfl ?_
                      refine z_bipush dX13_count_125 kb_20 ?_
                      refine z_bipush dX13_count_127 kb_27 ?_
                      obtain ⟨q17, hq17, hf⟩ := z_b_el hf
                      refine y_cSi (Nat.le_trans (Nat.le_of_ble_eq_true rfl) hd) (wX13_in (z_dl rfl hd) hq17) oX13_in lmX13_114 sX13_in _ rfl rfl (Nat.le_of_ble_eq_true rfl) dX13_count_129 ?_
                      refine z_if_eq (tgt := 155) dX13_count_132 (by decide) (fun c18 => ?_) (fun c18 => ?_)
                      · have hf := z_if_t hf c18
                        refine z_iconst dX13_count_155 kc_m1 ?_
                        cases hf
                        exact z_iret hk ⟨_, rfl, rfl⟩ dX13_count_156
                      · have hf := z_if_f hf c18
                        refine z_aload_n dX13_count_135 rfl rfl (z_okl g_a0) ?_
                        refine z_iload_n dX13_count_136 rfl rfl ?_
                        refine z_bipush dX13_count_137 kb_20 ?_
                        refine z_isub dX13_count_139 ?_
                        refine z_aload_n dX13_count_140 rfl rfl (z_okl g_a0) ?_
                        refine y_getR lfX13_31 rfl g_a0 dX13_count_141 ?_
                        refine z_iload_n dX13_count_144 rfl rfl ?_
                        refine z_bipush dX13_count_145 kb_20 ?_
                        refine z_isub dX13_count_147 ?_
                        obtain ⟨g19, hf⟩ := z_g_el hf
                        refine y_iald g19 dX13_count_148 ?_
                        obtain ⟨q20, hq20, hf⟩ := z_b_el hf
                        refine y_cVi (av := [.int (x1 - (20 : Int32)), .int (I (R a0 9) (x1 - (20 : Int32)).toNatClampNeg)]) (Nat.le_trans (Nat.le_of_ble_eq_true rfl) hd) (wX13_holdsTo (z_dl rfl hd) hq20) oX13_holdsTo lmX13_279 iX13_holdsTo g_a0 rfl _ rfl rfl (Nat.le_of_ble_eq_true rfl) dX13_count_149 ?_
                        refine z_goto (tgt := 156) dX13_count_152 (by decide) ?_
                        cases hf
                        exact z_iret hk ⟨_, rfl, rfl⟩ dX13_count_156
                    · have hf := z_if_f hf c16
                      refine z_aload_n dX13_count_114 rfl rfl (z_okl g_a0) ?_
                      refine y_getR lfX13_31 rfl g_a0 dX13_count_115 ?_
                      refine z_iload_n dX13_count_118 rfl rfl ?_
                      refine z_bipush dX13_count_119 kb_10 ?_
                      refine z_isub dX13_count_121 ?_
                      obtain ⟨g21, hf⟩ := z_g_el hf
                      refine y_iald g21 dX13_count_122 ?_
                      cases hf
                      exact z_iret hk ⟨_, rfl, rfl⟩ dX13_count_123
theorem wX13_count {G : z_G} {d : Nat} {a0 : Nat} {x1 : Int32} {I : Nat → Nat → Int32} {R : Nat → Nat → Nat} {q : Int32} (hd : 3 ≤ d) (hf : fX13_count a0 x1 I R = some q) : z_M G d 0 0 eX13_count [.ref a0, .int x1] z_SH (I, R) (z_E (some (.int q)) (I, R)) :=
  y_M_of _ (by decide +kernel) rfl rfl rfl (vX13_count hd hf ⟨rfl, rfl, rfl⟩)
