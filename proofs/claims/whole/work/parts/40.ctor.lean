/-! the constructors: the heap grows along the final shape -/
def z_T (n : Nat) : z_S := z_SH.take n
theorem z_SHl : z_SH.length = 135 := by decide +kernel
theorem z_T_at {n a : Nat} {kd : Nat × Nat} (h : z_SH[a]? = some kd) (ha : a < n) : (z_T n)[a]? = some kd := by
  unfold z_T
  rw [List.getElem?_take_of_lt ha]
  exact h
theorem z_T_len {n : Nat} {kd : Nat × Nat} (h : z_SH[n]? = some kd) : (z_T n).length = n := by
  have := z_lt h
  unfold z_T
  rw [List.length_take]
  omega
theorem z_T_app {n : Nat} {kd : Nat × Nat} (h : z_SH[n]? = some kd) : z_T n ++ [kd] = z_T (n + 1) := by
  unfold z_T
  rw [List.take_add_one, h]
  rfl
theorem z_T_all : z_T 135 = z_SH := List.take_of_length_le (Nat.le_of_eq z_SHl)
def z_Z (n : Nat) (I : Nat → Nat → Int32) (R : Nat → Nat → Nat) : Prop := ∀ b, n ≤ b → I b = (fun _ => 0) ∧ R b = fun _ => 200000
theorem z_Z_m {n m : Nat} {I : Nat → Nat → Int32} {R : Nat → Nat → Nat} (h : z_Z n I R) (hm : n ≤ m) : z_Z m I R := fun b hb => h b (Nat.le_trans hm hb)
theorem z_Z_u {n a k : Nat} {v : Int32} {I : Nat → Nat → Int32} {R : Nat → Nat → Nat} (h : z_Z n I R) (ha : a < n) : z_Z n (z_u I a k v) R := fun b hb => ⟨by unfold z_u; rw [if_neg (by omega)]; exact (h b hb).1, (h b hb).2⟩
theorem z_Z_v {n a k v : Nat} {I : Nat → Nat → Int32} {R : Nat → Nat → Nat} (h : z_Z n I R) (ha : a < n) : z_Z n I (z_v R a k v) := fun b hb => ⟨(h b hb).1, by unfold z_v; rw [if_neg (by omega)]; exact (h b hb).2⟩
def z_EC (n : Nat) (h : z_H) : Option Value → z_S → z_H → Prop := fun r' sh' h' => r' = none ∧ sh' = z_T n ∧ h' = h
section XR
variable {G : z_G} {me : z_Me} {d kc ks pc : Nat} {lv : List (Option Value)} {st : List Value} {I : Nat → Nat → Int32} {R : Nat → Nat → Nat} {Q : Option Value → z_S → z_H → Prop}
theorem z_l1 {n : Nat} {kd : Nat × Nat} (h : z_SH[n]? = some kd) : (z_T n).length + 1 ≤ 100000 := by
  rw [z_T_len h]
  have := z_lt h
  rw [z_SHl] at this
  omega
theorem x_newI {n N : Nat} {len : Int32} (hk : z_SH[n]? = some (1, N)) (hz : z_Z n I R) (hn : ¬ len < 0) (hN : len.toNatClampNeg = N) (hb : Nat.ble N 10000 = true) (hd : decode me.2.1 pc = .ok (.newarray .int, 2)) (k : z_W G me d kc ks (pc + 2) lv (.ref n :: st) (z_T (n + 1)) (I, R) Q) : z_W G me d (kc + 1) (ks + N) pc lv (.int len :: st) (z_T n) (I, R) Q := by
  refine z_newI hn hN (Nat.le_of_ble_eq_true hb) z_aci (z_l1 hk) (by rw [z_T_len hk]; exact (hz n (Nat.le_refl _)).1) hd ?_
  rw [z_T_len hk, z_T_app hk]
  exact k
theorem x_newB {n N : Nat} {len : Int32} (hk : z_SH[n]? = some (2, N)) (hz : z_Z n I R) (hn : ¬ len < 0) (hN : len.toNatClampNeg = N) (hb : Nat.ble N 10000 = true) (hd : decode me.2.1 pc = .ok (.newarray .byte, 2)) (k : z_W G me d kc ks (pc + 2) lv (.ref n :: st) (z_T (n + 1)) (I, R) Q) : z_W G me d (kc + 1) (ks + N) pc lv (.int len :: st) (z_T n) (I, R) Q := by
  refine z_newB hn hN (Nat.le_of_ble_eq_true hb) z_acb (z_l1 hk) (by rw [z_T_len hk]; exact (hz n (Nat.le_refl _)).1) hd ?_
  rw [z_T_len hk, z_T_app hk]
  exact k
theorem x_newQ {n N t idx : Nat} {cn : String} {len : Int32} (hk : z_SH[n]? = some (t + 3, N)) (ht : (t = 0 ∧ cn = "ClockChoir$Roll") ∨ (t = 1 ∧ cn = "ClockChoir$Singer")) (hz : z_Z n I R) (hn : ¬ len < 0) (hN : len.toNatClampNeg = N) (hb : Nat.ble N 10000 = true) (hw : Cond.classLink me.1.cls idx cn ∈ z_tb) (hd : decode me.2.1 pc = .ok (.anewarray idx, 3)) (k : z_W G me d kc ks (pc + 3) lv (.ref n :: st) (z_T (n + 1)) (I, R) Q) : z_W G me d (kc + 1) (ks + N) pc lv (.int len :: st) (z_T n) (I, R) Q := by
  refine z_newQ ht hn hN (Nat.le_of_ble_eq_true hb) hw (z_l1 hk) (by rw [z_T_len hk]; exact (hz n (Nat.le_refl _)).2) hd ?_
  rw [z_T_len hk, z_T_app hk]
  exact k
theorem x_new {n idx ci N : Nat} {cn : String} (hk : z_SH[n]? = some (0, ci)) (hK : z_Kok ci) (hc : (vwCl[ci]?).map (fun q => (q.1, q.2.2)) = some (cn, N)) (hdv : ∀ j, j < N → defaultValue (z_fty ci j) = if z_rfld ci j = true then .null else .int 0) (hw : Cond.classLink me.1.cls idx cn ∈ z_tb) (hz : z_Z n I R) (hd : decode me.2.1 pc = .ok (.new idx, 3)) (k : z_W G me d kc ks (pc + 3) lv (.ref n :: st) (z_T (n + 1)) (I, R) Q) : z_W G me d (kc + 1) (ks + N) pc lv st (z_T n) (I, R) Q := by
  refine z_new hK hc hdv hw (z_l1 hk) (by rw [z_T_len hk]; exact (hz n (Nat.le_refl _)).1) (by rw [z_T_len hk]; exact (hz n (Nat.le_refl _)).2) hd ?_
  rw [z_T_len hk, z_T_app hk]
  exact k
theorem x_getR {n a ci f idx v : Nat} (hl : z_FL me.1.cls idx ci f) (hr : z_rfld ci f = true) (hs : z_SH[a]? = some (0, ci)) (ha : a < n) (hv : R a f = v) (hd : decode me.2.1 pc = .ok (.getfield idx, 3)) (k : z_W G me d kc ks (pc + 3) lv (.ref v :: st) (z_T n) (I, R) Q) : z_W G me d kc ks pc lv (.ref a :: st) (z_T n) (I, R) Q := z_getR hl hr (z_T_at hs ha) hd (by subst hv; exact k)
theorem x_putI {n a ci f idx : Nat} {v : Int32} (hl : z_FL me.1.cls idx ci f) (hr : z_rfld ci f = false) (hs : z_SH[a]? = some (0, ci)) (ha : a < n) (hw : z_wr me ci f) (hn : narrow (z_fty ci f) (.int v) = .int v) (hf : fits (z_fty ci f) (.int v) = true) (hd : decode me.2.1 pc = .ok (.putfield idx, 3)) (k : z_W G me d kc ks (pc + 3) lv st (z_T n) (z_u I a f v, R) Q) : z_W G me d kc ks pc lv (.int v :: .ref a :: st) (z_T n) (I, R) Q := z_putI hl hr (z_T_at hs ha) hw hn hf hd k
theorem x_putR {n a ci f idx v : Nat} (hl : z_FL me.1.cls idx ci f) (hr : z_rfld ci f = true) (hs : z_SH[a]? = some (0, ci)) (ha : a < n) (hw : z_wr me ci f) (hd : decode me.2.1 pc = .ok (.putfield idx, 3)) (k : z_W G me d kc ks (pc + 3) lv st (z_T n) (I, z_v R a f v) Q) : z_W G me d kc ks pc lv (.ref v :: .ref a :: st) (z_T n) (I, R) Q := z_putR hl hr (z_T_at hs ha) hw hd k
theorem x_iast {n a N : Nat} {i x : Int32} {j : Nat} (hs : z_SH[a]? = some (1, N)) (ha : a < n) (hin : vp_in i N) (hj : i.toNatClampNeg = j) (hd : decode me.2.1 pc = .ok (.iastore, 1)) (k : z_W G me d kc ks (pc + 1) lv st (z_T n) (z_u I a j x, R) Q) : z_W G me d kc ks pc lv (.int x :: .int i :: .ref a :: st) (z_T n) (I, R) Q := z_iast (z_T_at hs ha) hin hd (by subst hj; exact k)
theorem x_aast {n a N t v : Nat} {i : Int32} {j : Nat} (hs : z_SH[a]? = some (t + 3, N)) (ha : a < n) (hv : (t = 0 ∧ z_SH[v]? = some (0, 5)) ∨ (t = 1 ∧ z_SH[v]? = some (0, 8))) (hvn : v < n) (hin : vp_in i N) (hj : i.toNatClampNeg = j) (hd : decode me.2.1 pc = .ok (.aastore, 1)) (k : z_W G me d kc ks (pc + 1) lv st (z_T n) (I, z_v R a j v) Q) : z_W G me d kc ks pc lv (.ref v :: .int i :: .ref a :: st) (z_T n) (I, R) Q := z_aast (z_T_at hs ha) (hv.imp (fun q => ⟨q.1, z_T_at q.2 hvn⟩) (fun q => ⟨q.1, z_T_at q.2 hvn⟩)) hin hd (by subst hj; exact k)
theorem x_cI {me' : z_Me} {n n' np mc ms idx a : Nat} {av : List Value} {h' : z_H} (hM : z_M G d mc ms me' (.ref a :: av) (z_T n) (I, R) (z_EC n' h')) (ok : z_Ok me' np) (hnone : me'.2.2.2 = none) (hl : Cond.methodLink me.1.cls idx me'.1 ∈ z_tb) (hst : Cond.instanceMethod me'.1 ∈ z_tb) (hi : me'.1.name = "<init>") (ha : Nat.ble a 99999 = true) (st0 : List Value) (hs0 : st0 = av.reverse ++ .ref a :: st) (hn : av.length = np) (hr : (st.map fun v => v.category).sum ≤ 8) (hd : decode me.2.1 pc = .ok (.invokespecial idx, 3)) (k : z_W G me (d + 1) kc ks (pc + 3) lv st (z_T n') h' Q) : z_W G me (d + 1) (kc + mc) (ks + ms) pc lv st0 (z_T n) (I, R) Q := by
  subst hs0
  refine z_callI hM ok hnone hl hst hi (Nat.lt_succ_of_le (Nat.le_of_ble_eq_true ha)) hn hr hd ?_
  rintro r' sh' h2 ⟨rfl, rfl, rfl⟩
  exact k
theorem x_cIN {me' : z_Me} {n n' np mc ms idx a : Nat} {av : List Value} {h' : z_H} (hM : z_M G d mc ms me' (.ref a :: av) (z_T n) (I, R) (z_EC n' h')) (ok : z_Ok me' np) (hnone : me'.2.2.2 = none) (hl : (me.1.cls, idx, me'.1) ∈ z_nl) (hst : Cond.instanceMethod me'.1 ∈ z_tb) (hi : me'.1.name = "<init>") (ha : Nat.ble a 99999 = true) (st0 : List Value) (hs0 : st0 = av.reverse ++ .ref a :: st) (hn : av.length = np) (hr : (st.map fun v => v.category).sum ≤ 8) (hd : decode me.2.1 pc = .ok (.invokespecial idx, 3)) (k : z_W G me (d + 1) kc ks (pc + 3) lv st (z_T n') h' Q) : z_W G me (d + 1) (kc + mc) (ks + ms) pc lv st0 (z_T n) (I, R) Q := by
  subst hs0
  refine z_callIN hM ok hnone hl hst hi (Nat.lt_succ_of_le (Nat.le_of_ble_eq_true ha)) hn hr hd ?_
  rintro r' sh' h2 ⟨rfl, rfl, rfl⟩
  exact k
end XR

theorem dvX0 : ∀ j, j < 6 → defaultValue (z_fty 0 j) = if z_rfld 0 j = true then .null else .int 0 := by decide +kernel
theorem dvX1 : ∀ j, j < 2 → defaultValue (z_fty 1 j) = if z_rfld 1 j = true then .null else .int 0 := by decide +kernel
theorem dvX2 : ∀ j, j < 6 → defaultValue (z_fty 2 j) = if z_rfld 2 j = true then .null else .int 0 := by decide +kernel
theorem dvX3 : ∀ j, j < 11 → defaultValue (z_fty 3 j) = if z_rfld 3 j = true then .null else .int 0 := by decide +kernel
theorem dvX4 : ∀ j, j < 2 → defaultValue (z_fty 4 j) = if z_rfld 4 j = true then .null else .int 0 := by decide +kernel
theorem dvX5 : ∀ j, j < 4 → defaultValue (z_fty 5 j) = if z_rfld 5 j = true then .null else .int 0 := by decide +kernel
theorem dvX6 : ∀ j, j < 2 → defaultValue (z_fty 6 j) = if z_rfld 6 j = true then .null else .int 0 := by decide +kernel
theorem dvX7 : ∀ j, j < 6 → defaultValue (z_fty 7 j) = if z_rfld 7 j = true then .null else .int 0 := by decide +kernel
theorem dvX8 : ∀ j, j < 10 → defaultValue (z_fty 8 j) = if z_rfld 8 j = true then .null else .int 0 := by decide +kernel
theorem dvX9 : ∀ j, j < 3 → defaultValue (z_fty 9 j) = if z_rfld 9 j = true then .null else .int 0 := by decide +kernel
theorem dvX10 : ∀ j, j < 5 → defaultValue (z_fty 10 j) = if z_rfld 10 j = true then .null else .int 0 := by decide +kernel
theorem dvX11 : ∀ j, j < 8 → defaultValue (z_fty 11 j) = if z_rfld 11 j = true then .null else .int 0 := by decide +kernel
theorem dvX12 : ∀ j, j < 12 → defaultValue (z_fty 12 j) = if z_rfld 12 j = true then .null else .int 0 := by decide +kernel
theorem dvX13 : ∀ j, j < 58 → defaultValue (z_fty 13 j) = if z_rfld 13 j = true then .null else .int 0 := by decide +kernel
set_option maxRecDepth 100000 in
theorem cX10_init_1 {G : z_G} {d : Nat} {I : Nat → Nat → Int32} {R : Nat → Nat → Nat} (hd : 1 ≤ d) (hz : z_Z 2 I R) : z_M G d 1 260 eX10_init [.ref 1] (z_T 2) (I, R) (z_EC 3 (I, (z_v R 1 0 2))) := by
  obtain ⟨d, rfl⟩ := z_pos (D := 0) hd
  refine z_M_of (by decide +kernel) (by intro v hv; simp at hv; try rcases hv with rfl | rfl | rfl; all_goals (try subst hv); all_goals rfl) (by decide) ?_
  show z_W G _ _ _ _ _ [some (.ref 1)] _ _ _ _
  refine z_aload_n dX10_init_0 rfl rfl (by decide) ?_
  refine z_oinit lmX10_1 z_oi (by decide) (Nat.le_of_ble_eq_true rfl) dX10_init_1 ?_
  refine z_aload_n dX10_init_4 rfl rfl (by decide) ?_
  refine z_sipush dX10_init_5 ks_260 ?_
  refine x_newI (kc := 0) (ks := 0) (n := 2) (N := 260) (by decide +kernel) hz (by decide) (by decide) rfl dX10_init_8 ?_
  have hz := z_Z_m hz (show 2 ≤ 3 by decide)
  refine x_putR lfX10_9 rfl (by decide +kernel) (show 1 < 3 by decide) (Or.inr ⟨rfl, rfl, rfl⟩) dX10_init_10 ?_
  have hz := z_Z_v (a := 1) (k := 0) (v := 2) hz (by decide)
  exact z_vret ⟨rfl, rfl, rfl⟩ rfl dX10_init_13
set_option maxRecDepth 100000 in
theorem cX5_init_5 {G : z_G} {d : Nat} {I : Nat → Nat → Int32} {R : Nat → Nat → Nat} (hd : 1 ≤ d) (hz : z_Z 6 I R) : z_M G d 3 181 eX5_init [.ref 5] (z_T 6) (I, R) (z_EC 9 (I, (z_v (z_v (z_v R 5 0 6) 5 1 7) 5 2 8))) := by
  obtain ⟨d, rfl⟩ := z_pos (D := 0) hd
  refine z_M_of (by decide +kernel) (by intro v hv; simp at hv; try rcases hv with rfl | rfl | rfl; all_goals (try subst hv); all_goals rfl) (by decide) ?_
  show z_W G _ _ _ _ _ [some (.ref 5)] _ _ _ _
  refine z_aload_n dX5_init_0 rfl rfl (by decide) ?_
  refine z_oinit lmX5_1 z_oi (by decide) (Nat.le_of_ble_eq_true rfl) dX5_init_1 ?_
  refine z_aload_n dX5_init_4 rfl rfl (by decide) ?_
  refine z_bipush dX5_init_5 kb_60 ?_
  refine x_newI (kc := 2) (ks := 121) (n := 6) (N := 60) (by decide +kernel) hz (by decide) (by decide) rfl dX5_init_7 ?_
  have hz := z_Z_m hz (show 6 ≤ 7 by decide)
  refine x_putR lfX5_9 rfl (by decide +kernel) (show 5 < 7 by decide) (Or.inr ⟨rfl, rfl, rfl⟩) dX5_init_9 ?_
  have hz := z_Z_v (a := 5) (k := 0) (v := 6) hz (by decide)
  refine z_aload_n dX5_init_12 rfl rfl (by decide) ?_
  refine z_bipush dX5_init_13 kb_60 ?_
  refine x_newI (kc := 1) (ks := 61) (n := 7) (N := 60) (by decide +kernel) hz (by decide) (by decide) rfl dX5_init_15 ?_
  have hz := z_Z_m hz (show 7 ≤ 8 by decide)
  refine x_putR lfX5_13 rfl (by decide +kernel) (show 5 < 8 by decide) (Or.inr ⟨rfl, rfl, rfl⟩) dX5_init_17 ?_
  have hz := z_Z_v (a := 5) (k := 1) (v := 7) hz (by decide)
  refine z_aload_n dX5_init_20 rfl rfl (by decide) ?_
  refine z_bipush dX5_init_21 kb_61 ?_
  refine x_newI (kc := 0) (ks := 0) (n := 8) (N := 61) (by decide +kernel) hz (by decide) (by decide) rfl dX5_init_23 ?_
  have hz := z_Z_m hz (show 8 ≤ 9 by decide)
  refine x_putR lfX5_16 rfl (by decide +kernel) (show 5 < 9 by decide) (Or.inr ⟨rfl, rfl, rfl⟩) dX5_init_25 ?_
  have hz := z_Z_v (a := 5) (k := 2) (v := 8) hz (by decide)
  exact z_vret ⟨rfl, rfl, rfl⟩ rfl dX5_init_28
set_option maxRecDepth 100000 in
theorem cX5_init_9 {G : z_G} {d : Nat} {I : Nat → Nat → Int32} {R : Nat → Nat → Nat} (hd : 1 ≤ d) (hz : z_Z 10 I R) : z_M G d 3 181 eX5_init [.ref 9] (z_T 10) (I, R) (z_EC 13 (I, (z_v (z_v (z_v R 9 0 10) 9 1 11) 9 2 12))) := by
  obtain ⟨d, rfl⟩ := z_pos (D := 0) hd
  refine z_M_of (by decide +kernel) (by intro v hv; simp at hv; try rcases hv with rfl | rfl | rfl; all_goals (try subst hv); all_goals rfl) (by decide) ?_
  show z_W G _ _ _ _ _ [some (.ref 9)] _ _ _ _
  refine z_aload_n dX5_init_0 rfl rfl (by decide) ?_
  refine z_oinit lmX5_1 z_oi (by decide) (Nat.le_of_ble_eq_true rfl) dX5_init_1 ?_
  refine z_aload_n dX5_init_4 rfl rfl (by decide) ?_
  refine z_bipush dX5_init_5 kb_60 ?_
  refine x_newI (kc := 2) (ks := 121) (n := 10) (N := 60) (by decide +kernel) hz (by decide) (by decide) rfl dX5_init_7 ?_
  have hz := z_Z_m hz (show 10 ≤ 11 by decide)
  refine x_putR lfX5_9 rfl (by decide +kernel) (show 9 < 11 by decide) (Or.inr ⟨rfl, rfl, rfl⟩) dX5_init_9 ?_
  have hz := z_Z_v (a := 9) (k := 0) (v := 10) hz (by decide)
  refine z_aload_n dX5_init_12 rfl rfl (by decide) ?_
  refine z_bipush dX5_init_13 kb_60 ?_
  refine x_newI (kc := 1) (ks := 61) (n := 11) (N := 60) (by decide +kernel) hz (by decide) (by decide) rfl dX5_init_15 ?_
  have hz := z_Z_m hz (show 11 ≤ 12 by decide)
  refine x_putR lfX5_13 rfl (by decide +kernel) (show 9 < 12 by decide) (Or.inr ⟨rfl, rfl, rfl⟩) dX5_init_17 ?_
  have hz := z_Z_v (a := 9) (k := 1) (v := 11) hz (by decide)
  refine z_aload_n dX5_init_20 rfl rfl (by decide) ?_
  refine z_bipush dX5_init_21 kb_61 ?_
  refine x_newI (kc := 0) (ks := 0) (n := 12) (N := 61) (by decide +kernel) hz (by decide) (by decide) rfl dX5_init_23 ?_
  have hz := z_Z_m hz (show 12 ≤ 13 by decide)
  refine x_putR lfX5_16 rfl (by decide +kernel) (show 9 < 13 by decide) (Or.inr ⟨rfl, rfl, rfl⟩) dX5_init_25 ?_
  have hz := z_Z_v (a := 9) (k := 2) (v := 12) hz (by decide)
  exact z_vret ⟨rfl, rfl, rfl⟩ rfl dX5_init_28
set_option maxRecDepth 100000 in
theorem cX5_init_13 {G : z_G} {d : Nat} {I : Nat → Nat → Int32} {R : Nat → Nat → Nat} (hd : 1 ≤ d) (hz : z_Z 14 I R) : z_M G d 3 181 eX5_init [.ref 13] (z_T 14) (I, R) (z_EC 17 (I, (z_v (z_v (z_v R 13 0 14) 13 1 15) 13 2 16))) := by
  obtain ⟨d, rfl⟩ := z_pos (D := 0) hd
  refine z_M_of (by decide +kernel) (by intro v hv; simp at hv; try rcases hv with rfl | rfl | rfl; all_goals (try subst hv); all_goals rfl) (by decide) ?_
  show z_W G _ _ _ _ _ [some (.ref 13)] _ _ _ _
  refine z_aload_n dX5_init_0 rfl rfl (by decide) ?_
  refine z_oinit lmX5_1 z_oi (by decide) (Nat.le_of_ble_eq_true rfl) dX5_init_1 ?_
  refine z_aload_n dX5_init_4 rfl rfl (by decide) ?_
  refine z_bipush dX5_init_5 kb_60 ?_
  refine x_newI (kc := 2) (ks := 121) (n := 14) (N := 60) (by decide +kernel) hz (by decide) (by decide) rfl dX5_init_7 ?_
  have hz := z_Z_m hz (show 14 ≤ 15 by decide)
  refine x_putR lfX5_9 rfl (by decide +kernel) (show 13 < 15 by decide) (Or.inr ⟨rfl, rfl, rfl⟩) dX5_init_9 ?_
  have hz := z_Z_v (a := 13) (k := 0) (v := 14) hz (by decide)
  refine z_aload_n dX5_init_12 rfl rfl (by decide) ?_
  refine z_bipush dX5_init_13 kb_60 ?_
  refine x_newI (kc := 1) (ks := 61) (n := 15) (N := 60) (by decide +kernel) hz (by decide) (by decide) rfl dX5_init_15 ?_
  have hz := z_Z_m hz (show 15 ≤ 16 by decide)
  refine x_putR lfX5_13 rfl (by decide +kernel) (show 13 < 16 by decide) (Or.inr ⟨rfl, rfl, rfl⟩) dX5_init_17 ?_
  have hz := z_Z_v (a := 13) (k := 1) (v := 15) hz (by decide)
  refine z_aload_n dX5_init_20 rfl rfl (by decide) ?_
  refine z_bipush dX5_init_21 kb_61 ?_
  refine x_newI (kc := 0) (ks := 0) (n := 16) (N := 61) (by decide +kernel) hz (by decide) (by decide) rfl dX5_init_23 ?_
  have hz := z_Z_m hz (show 16 ≤ 17 by decide)
  refine x_putR lfX5_16 rfl (by decide +kernel) (show 13 < 17 by decide) (Or.inr ⟨rfl, rfl, rfl⟩) dX5_init_25 ?_
  have hz := z_Z_v (a := 13) (k := 2) (v := 16) hz (by decide)
  exact z_vret ⟨rfl, rfl, rfl⟩ rfl dX5_init_28
set_option maxRecDepth 100000 in
theorem cX5_init_17 {G : z_G} {d : Nat} {I : Nat → Nat → Int32} {R : Nat → Nat → Nat} (hd : 1 ≤ d) (hz : z_Z 18 I R) : z_M G d 3 181 eX5_init [.ref 17] (z_T 18) (I, R) (z_EC 21 (I, (z_v (z_v (z_v R 17 0 18) 17 1 19) 17 2 20))) := by
  obtain ⟨d, rfl⟩ := z_pos (D := 0) hd
  refine z_M_of (by decide +kernel) (by intro v hv; simp at hv; try rcases hv with rfl | rfl | rfl; all_goals (try subst hv); all_goals rfl) (by decide) ?_
  show z_W G _ _ _ _ _ [some (.ref 17)] _ _ _ _
  refine z_aload_n dX5_init_0 rfl rfl (by decide) ?_
  refine z_oinit lmX5_1 z_oi (by decide) (Nat.le_of_ble_eq_true rfl) dX5_init_1 ?_
  refine z_aload_n dX5_init_4 rfl rfl (by decide) ?_
  refine z_bipush dX5_init_5 kb_60 ?_
  refine x_newI (kc := 2) (ks := 121) (n := 18) (N := 60) (by decide +kernel) hz (by decide) (by decide) rfl dX5_init_7 ?_
  have hz := z_Z_m hz (show 18 ≤ 19 by decide)
  refine x_putR lfX5_9 rfl (by decide +kernel) (show 17 < 19 by decide) (Or.inr ⟨rfl, rfl, rfl⟩) dX5_init_9 ?_
  have hz := z_Z_v (a := 17) (k := 0) (v := 18) hz (by decide)
  refine z_aload_n dX5_init_12 rfl rfl (by decide) ?_
  refine z_bipush dX5_init_13 kb_60 ?_
  refine x_newI (kc := 1) (ks := 61) (n := 19) (N := 60) (by decide +kernel) hz (by decide) (by decide) rfl dX5_init_15 ?_
  have hz := z_Z_m hz (show 19 ≤ 20 by decide)
  refine x_putR lfX5_13 rfl (by decide +kernel) (show 17 < 20 by decide) (Or.inr ⟨rfl, rfl, rfl⟩) dX5_init_17 ?_
  have hz := z_Z_v (a := 17) (k := 1) (v := 19) hz (by decide)
  refine z_aload_n dX5_init_20 rfl rfl (by decide) ?_
  refine z_bipush dX5_init_21 kb_61 ?_
  refine x_newI (kc := 0) (ks := 0) (n := 20) (N := 61) (by decide +kernel) hz (by decide) (by decide) rfl dX5_init_23 ?_
  have hz := z_Z_m hz (show 20 ≤ 21 by decide)
  refine x_putR lfX5_16 rfl (by decide +kernel) (show 17 < 21 by decide) (Or.inr ⟨rfl, rfl, rfl⟩) dX5_init_25 ?_
  have hz := z_Z_v (a := 17) (k := 2) (v := 20) hz (by decide)
  exact z_vret ⟨rfl, rfl, rfl⟩ rfl dX5_init_28
set_option maxRecDepth 100000 in
theorem cX5_init_21 {G : z_G} {d : Nat} {I : Nat → Nat → Int32} {R : Nat → Nat → Nat} (hd : 1 ≤ d) (hz : z_Z 22 I R) : z_M G d 3 181 eX5_init [.ref 21] (z_T 22) (I, R) (z_EC 25 (I, (z_v (z_v (z_v R 21 0 22) 21 1 23) 21 2 24))) := by
  obtain ⟨d, rfl⟩ := z_pos (D := 0) hd
  refine z_M_of (by decide +kernel) (by intro v hv; simp at hv; try rcases hv with rfl | rfl | rfl; all_goals (try subst hv); all_goals rfl) (by decide) ?_
  show z_W G _ _ _ _ _ [some (.ref 21)] _ _ _ _
  refine z_aload_n dX5_init_0 rfl rfl (by decide) ?_
  refine z_oinit lmX5_1 z_oi (by decide) (Nat.le_of_ble_eq_true rfl) dX5_init_1 ?_
  refine z_aload_n dX5_init_4 rfl rfl (by decide) ?_
  refine z_bipush dX5_init_5 kb_60 ?_
  refine x_newI (kc := 2) (ks := 121) (n := 22) (N := 60) (by decide +kernel) hz (by decide) (by decide) rfl dX5_init_7 ?_
  have hz := z_Z_m hz (show 22 ≤ 23 by decide)
  refine x_putR lfX5_9 rfl (by decide +kernel) (show 21 < 23 by decide) (Or.inr ⟨rfl, rfl, rfl⟩) dX5_init_9 ?_
  have hz := z_Z_v (a := 21) (k := 0) (v := 22) hz (by decide)
  refine z_aload_n dX5_init_12 rfl rfl (by decide) ?_
  refine z_bipush dX5_init_13 kb_60 ?_
  refine x_newI (kc := 1) (ks := 61) (n := 23) (N := 60) (by decide +kernel) hz (by decide) (by decide) rfl dX5_init_15 ?_
  have hz := z_Z_m hz (show 23 ≤ 24 by decide)
  refine x_putR lfX5_13 rfl (by decide +kernel) (show 21 < 24 by decide) (Or.inr ⟨rfl, rfl, rfl⟩) dX5_init_17 ?_
  have hz := z_Z_v (a := 21) (k := 1) (v := 23) hz (by decide)
  refine z_aload_n dX5_init_20 rfl rfl (by decide) ?_
  refine z_bipush dX5_init_21 kb_61 ?_
  refine x_newI (kc := 0) (ks := 0) (n := 24) (N := 61) (by decide +kernel) hz (by decide) (by decide) rfl dX5_init_23 ?_
  have hz := z_Z_m hz (show 24 ≤ 25 by decide)
  refine x_putR lfX5_16 rfl (by decide +kernel) (show 21 < 25 by decide) (Or.inr ⟨rfl, rfl, rfl⟩) dX5_init_25 ?_
  have hz := z_Z_v (a := 21) (k := 2) (v := 24) hz (by decide)
  exact z_vret ⟨rfl, rfl, rfl⟩ rfl dX5_init_28
set_option maxRecDepth 100000 in
theorem cX5_init_25 {G : z_G} {d : Nat} {I : Nat → Nat → Int32} {R : Nat → Nat → Nat} (hd : 1 ≤ d) (hz : z_Z 26 I R) : z_M G d 3 181 eX5_init [.ref 25] (z_T 26) (I, R) (z_EC 29 (I, (z_v (z_v (z_v R 25 0 26) 25 1 27) 25 2 28))) := by
  obtain ⟨d, rfl⟩ := z_pos (D := 0) hd
  refine z_M_of (by decide +kernel) (by intro v hv; simp at hv; try rcases hv with rfl | rfl | rfl; all_goals (try subst hv); all_goals rfl) (by decide) ?_
  show z_W G _ _ _ _ _ [some (.ref 25)] _ _ _ _
  refine z_aload_n dX5_init_0 rfl rfl (by decide) ?_
  refine z_oinit lmX5_1 z_oi (by decide) (Nat.le_of_ble_eq_true rfl) dX5_init_1 ?_
  refine z_aload_n dX5_init_4 rfl rfl (by decide) ?_
  refine z_bipush dX5_init_5 kb_60 ?_
  refine x_newI (kc := 2) (ks := 121) (n := 26) (N := 60) (by decide +kernel) hz (by decide) (by decide) rfl dX5_init_7 ?_
  have hz := z_Z_m hz (show 26 ≤ 27 by decide)
  refine x_putR lfX5_9 rfl (by decide +kernel) (show 25 < 27 by decide) (Or.inr ⟨rfl, rfl, rfl⟩) dX5_init_9 ?_
  have hz := z_Z_v (a := 25) (k := 0) (v := 26) hz (by decide)
  refine z_aload_n dX5_init_12 rfl rfl (by decide) ?_
  refine z_bipush dX5_init_13 kb_60 ?_
  refine x_newI (kc := 1) (ks := 61) (n := 27) (N := 60) (by decide +kernel) hz (by decide) (by decide) rfl dX5_init_15 ?_
  have hz := z_Z_m hz (show 27 ≤ 28 by decide)
  refine x_putR lfX5_13 rfl (by decide +kernel) (show 25 < 28 by decide) (Or.inr ⟨rfl, rfl, rfl⟩) dX5_init_17 ?_
  have hz := z_Z_v (a := 25) (k := 1) (v := 27) hz (by decide)
  refine z_aload_n dX5_init_20 rfl rfl (by decide) ?_
  refine z_bipush dX5_init_21 kb_61 ?_
  refine x_newI (kc := 0) (ks := 0) (n := 28) (N := 61) (by decide +kernel) hz (by decide) (by decide) rfl dX5_init_23 ?_
  have hz := z_Z_m hz (show 28 ≤ 29 by decide)
  refine x_putR lfX5_16 rfl (by decide +kernel) (show 25 < 29 by decide) (Or.inr ⟨rfl, rfl, rfl⟩) dX5_init_25 ?_
  have hz := z_Z_v (a := 25) (k := 2) (v := 28) hz (by decide)
  exact z_vret ⟨rfl, rfl, rfl⟩ rfl dX5_init_28
set_option maxRecDepth 100000 in
theorem cX5_init_29 {G : z_G} {d : Nat} {I : Nat → Nat → Int32} {R : Nat → Nat → Nat} (hd : 1 ≤ d) (hz : z_Z 30 I R) : z_M G d 3 181 eX5_init [.ref 29] (z_T 30) (I, R) (z_EC 33 (I, (z_v (z_v (z_v R 29 0 30) 29 1 31) 29 2 32))) := by
  obtain ⟨d, rfl⟩ := z_pos (D := 0) hd
  refine z_M_of (by decide +kernel) (by intro v hv; simp at hv; try rcases hv with rfl | rfl | rfl; all_goals (try subst hv); all_goals rfl) (by decide) ?_
  show z_W G _ _ _ _ _ [some (.ref 29)] _ _ _ _
  refine z_aload_n dX5_init_0 rfl rfl (by decide) ?_
  refine z_oinit lmX5_1 z_oi (by decide) (Nat.le_of_ble_eq_true rfl) dX5_init_1 ?_
  refine z_aload_n dX5_init_4 rfl rfl (by decide) ?_
  refine z_bipush dX5_init_5 kb_60 ?_
  refine x_newI (kc := 2) (ks := 121) (n := 30) (N := 60) (by decide +kernel) hz (by decide) (by decide) rfl dX5_init_7 ?_
  have hz := z_Z_m hz (show 30 ≤ 31 by decide)
  refine x_putR lfX5_9 rfl (by decide +kernel) (show 29 < 31 by decide) (Or.inr ⟨rfl, rfl, rfl⟩) dX5_init_9 ?_
  have hz := z_Z_v (a := 29) (k := 0) (v := 30) hz (by decide)
  refine z_aload_n dX5_init_12 rfl rfl (by decide) ?_
  refine z_bipush dX5_init_13 kb_60 ?_
  refine x_newI (kc := 1) (ks := 61) (n := 31) (N := 60) (by decide +kernel) hz (by decide) (by decide) rfl dX5_init_15 ?_
  have hz := z_Z_m hz (show 31 ≤ 32 by decide)
  refine x_putR lfX5_13 rfl (by decide +kernel) (show 29 < 32 by decide) (Or.inr ⟨rfl, rfl, rfl⟩) dX5_init_17 ?_
  have hz := z_Z_v (a := 29) (k := 1) (v := 31) hz (by decide)
  refine z_aload_n dX5_init_20 rfl rfl (by decide) ?_
  refine z_bipush dX5_init_21 kb_61 ?_
  refine x_newI (kc := 0) (ks := 0) (n := 32) (N := 61) (by decide +kernel) hz (by decide) (by decide) rfl dX5_init_23 ?_
  have hz := z_Z_m hz (show 32 ≤ 33 by decide)
  refine x_putR lfX5_16 rfl (by decide +kernel) (show 29 < 33 by decide) (Or.inr ⟨rfl, rfl, rfl⟩) dX5_init_25 ?_
  have hz := z_Z_v (a := 29) (k := 2) (v := 32) hz (by decide)
  exact z_vret ⟨rfl, rfl, rfl⟩ rfl dX5_init_28
set_option maxRecDepth 100000 in
theorem cX5_init_33 {G : z_G} {d : Nat} {I : Nat → Nat → Int32} {R : Nat → Nat → Nat} (hd : 1 ≤ d) (hz : z_Z 34 I R) : z_M G d 3 181 eX5_init [.ref 33] (z_T 34) (I, R) (z_EC 37 (I, (z_v (z_v (z_v R 33 0 34) 33 1 35) 33 2 36))) := by
  obtain ⟨d, rfl⟩ := z_pos (D := 0) hd
  refine z_M_of (by decide +kernel) (by intro v hv; simp at hv; try rcases hv with rfl | rfl | rfl; all_goals (try subst hv); all_goals rfl) (by decide) ?_
  show z_W G _ _ _ _ _ [some (.ref 33)] _ _ _ _
  refine z_aload_n dX5_init_0 rfl rfl (by decide) ?_
  refine z_oinit lmX5_1 z_oi (by decide) (Nat.le_of_ble_eq_true rfl) dX5_init_1 ?_
  refine z_aload_n dX5_init_4 rfl rfl (by decide) ?_
  refine z_bipush dX5_init_5 kb_60 ?_
  refine x_newI (kc := 2) (ks := 121) (n := 34) (N := 60) (by decide +kernel) hz (by decide) (by decide) rfl dX5_init_7 ?_
  have hz := z_Z_m hz (show 34 ≤ 35 by decide)
  refine x_putR lfX5_9 rfl (by decide +kernel) (show 33 < 35 by decide) (Or.inr ⟨rfl, rfl, rfl⟩) dX5_init_9 ?_
  have hz := z_Z_v (a := 33) (k := 0) (v := 34) hz (by decide)
  refine z_aload_n dX5_init_12 rfl rfl (by decide) ?_
  refine z_bipush dX5_init_13 kb_60 ?_
  refine x_newI (kc := 1) (ks := 61) (n := 35) (N := 60) (by decide +kernel) hz (by decide) (by decide) rfl dX5_init_15 ?_
  have hz := z_Z_m hz (show 35 ≤ 36 by decide)
  refine x_putR lfX5_13 rfl (by decide +kernel) (show 33 < 36 by decide) (Or.inr ⟨rfl, rfl, rfl⟩) dX5_init_17 ?_
  have hz := z_Z_v (a := 33) (k := 1) (v := 35) hz (by decide)
  refine z_aload_n dX5_init_20 rfl rfl (by decide) ?_
  refine z_bipush dX5_init_21 kb_61 ?_
  refine x_newI (kc := 0) (ks := 0) (n := 36) (N := 61) (by decide +kernel) hz (by decide) (by decide) rfl dX5_init_23 ?_
  have hz := z_Z_m hz (show 36 ≤ 37 by decide)
  refine x_putR lfX5_16 rfl (by decide +kernel) (show 33 < 37 by decide) (Or.inr ⟨rfl, rfl, rfl⟩) dX5_init_25 ?_
  have hz := z_Z_v (a := 33) (k := 2) (v := 36) hz (by decide)
  exact z_vret ⟨rfl, rfl, rfl⟩ rfl dX5_init_28
set_option maxRecDepth 100000 in
theorem cX5_init_37 {G : z_G} {d : Nat} {I : Nat → Nat → Int32} {R : Nat → Nat → Nat} (hd : 1 ≤ d) (hz : z_Z 38 I R) : z_M G d 3 181 eX5_init [.ref 37] (z_T 38) (I, R) (z_EC 41 (I, (z_v (z_v (z_v R 37 0 38) 37 1 39) 37 2 40))) := by
  obtain ⟨d, rfl⟩ := z_pos (D := 0) hd
  refine z_M_of (by decide +kernel) (by intro v hv; simp at hv; try rcases hv with rfl | rfl | rfl; all_goals (try subst hv); all_goals rfl) (by decide) ?_
  show z_W G _ _ _ _ _ [some (.ref 37)] _ _ _ _
  refine z_aload_n dX5_init_0 rfl rfl (by decide) ?_
  refine z_oinit lmX5_1 z_oi (by decide) (Nat.le_of_ble_eq_true rfl) dX5_init_1 ?_
  refine z_aload_n dX5_init_4 rfl rfl (by decide) ?_
  refine z_bipush dX5_init_5 kb_60 ?_
  refine x_newI (kc := 2) (ks := 121) (n := 38) (N := 60) (by decide +kernel) hz (by decide) (by decide) rfl dX5_init_7 ?_
  have hz := z_Z_m hz (show 38 ≤ 39 by decide)
  refine x_putR lfX5_9 rfl (by decide +kernel) (show 37 < 39 by decide) (Or.inr ⟨rfl, rfl, rfl⟩) dX5_init_9 ?_
  have hz := z_Z_v (a := 37) (k := 0) (v := 38) hz (by decide)
  refine z_aload_n dX5_init_12 rfl rfl (by decide) ?_
  refine z_bipush dX5_init_13 kb_60 ?_
  refine x_newI (kc := 1) (ks := 61) (n := 39) (N := 60) (by decide +kernel) hz (by decide) (by decide) rfl dX5_init_15 ?_
  have hz := z_Z_m hz (show 39 ≤ 40 by decide)
  refine x_putR lfX5_13 rfl (by decide +kernel) (show 37 < 40 by decide) (Or.inr ⟨rfl, rfl, rfl⟩) dX5_init_17 ?_
  have hz := z_Z_v (a := 37) (k := 1) (v := 39) hz (by decide)
  refine z_aload_n dX5_init_20 rfl rfl (by decide) ?_
  refine z_bipush dX5_init_21 kb_61 ?_
  refine x_newI (kc := 0) (ks := 0) (n := 40) (N := 61) (by decide +kernel) hz (by decide) (by decide) rfl dX5_init_23 ?_
  have hz := z_Z_m hz (show 40 ≤ 41 by decide)
  refine x_putR lfX5_16 rfl (by decide +kernel) (show 37 < 41 by decide) (Or.inr ⟨rfl, rfl, rfl⟩) dX5_init_25 ?_
  have hz := z_Z_v (a := 37) (k := 2) (v := 40) hz (by decide)
  exact z_vret ⟨rfl, rfl, rfl⟩ rfl dX5_init_28
set_option maxRecDepth 100000 in
theorem cX3_init_41 {G : z_G} {d : Nat} {I : Nat → Nat → Int32} {R : Nat → Nat → Nat} (hd : 1 ≤ d) (hz : z_Z 42 I R) : z_M G d 7 576 eX3_init [.ref 41] (z_T 42) (I, R) (z_EC 49 (I, (z_v (z_v (z_v (z_v (z_v (z_v (z_v R 41 0 42) 41 1 43) 41 3 44) 41 4 45) 41 5 46) 41 6 47) 41 8 48))) := by
  obtain ⟨d, rfl⟩ := z_pos (D := 0) hd
  refine z_M_of (by decide +kernel) (by intro v hv; simp at hv; try rcases hv with rfl | rfl | rfl; all_goals (try subst hv); all_goals rfl) (by decide) ?_
  show z_W G _ _ _ _ _ [some (.ref 41)] _ _ _ _
  refine z_aload_n dX3_init_0 rfl rfl (by decide) ?_
  refine z_oinit lmX3_3 z_oi (by decide) (Nat.le_of_ble_eq_true rfl) dX3_init_1 ?_
  refine z_aload_n dX3_init_4 rfl rfl (by decide) ?_
  refine z_sipush dX3_init_5 ks_240 ?_
  refine x_newI (kc := 6) (ks := 336) (n := 42) (N := 240) (by decide +kernel) hz (by decide) (by decide) rfl dX3_init_8 ?_
  have hz := z_Z_m hz (show 42 ≤ 43 by decide)
  refine x_putR lfX3_9 rfl (by decide +kernel) (show 41 < 43 by decide) (Or.inr ⟨rfl, rfl, rfl⟩) dX3_init_10 ?_
  have hz := z_Z_v (a := 41) (k := 0) (v := 42) hz (by decide)
  refine z_aload_n dX3_init_13 rfl rfl (by decide) ?_
  refine z_sipush dX3_init_14 ks_240 ?_
  refine x_newI (kc := 5) (ks := 96) (n := 43) (N := 240) (by decide +kernel) hz (by decide) (by decide) rfl dX3_init_17 ?_
  have hz := z_Z_m hz (show 43 ≤ 44 by decide)
  refine x_putR lfX3_13 rfl (by decide +kernel) (show 41 < 44 by decide) (Or.inr ⟨rfl, rfl, rfl⟩) dX3_init_19 ?_
  have hz := z_Z_v (a := 41) (k := 1) (v := 43) hz (by decide)
  refine z_aload_n dX3_init_22 rfl rfl (by decide) ?_
  refine z_bipush dX3_init_23 kb_16 ?_
  refine x_newI (kc := 4) (ks := 80) (n := 44) (N := 16) (by decide +kernel) hz (by decide) (by decide) rfl dX3_init_25 ?_
  have hz := z_Z_m hz (show 44 ≤ 45 by decide)
  refine x_putR lfX3_16 rfl (by decide +kernel) (show 41 < 45 by decide) (Or.inr ⟨rfl, rfl, rfl⟩) dX3_init_27 ?_
  have hz := z_Z_v (a := 41) (k := 3) (v := 44) hz (by decide)
  refine z_aload_n dX3_init_30 rfl rfl (by decide) ?_
  refine z_bipush dX3_init_31 kb_16 ?_
  refine x_newI (kc := 3) (ks := 64) (n := 45) (N := 16) (by decide +kernel) hz (by decide) (by decide) rfl dX3_init_33 ?_
  have hz := z_Z_m hz (show 45 ≤ 46 by decide)
  refine x_putR lfX3_19 rfl (by decide +kernel) (show 41 < 46 by decide) (Or.inr ⟨rfl, rfl, rfl⟩) dX3_init_35 ?_
  have hz := z_Z_v (a := 41) (k := 4) (v := 45) hz (by decide)
  refine z_aload_n dX3_init_38 rfl rfl (by decide) ?_
  refine z_bipush dX3_init_39 kb_16 ?_
  refine x_newI (kc := 2) (ks := 48) (n := 46) (N := 16) (by decide +kernel) hz (by decide) (by decide) rfl dX3_init_41 ?_
  have hz := z_Z_m hz (show 46 ≤ 47 by decide)
  refine x_putR lfX3_22 rfl (by decide +kernel) (show 41 < 47 by decide) (Or.inr ⟨rfl, rfl, rfl⟩) dX3_init_43 ?_
  have hz := z_Z_v (a := 41) (k := 5) (v := 46) hz (by decide)
  refine z_aload_n dX3_init_46 rfl rfl (by decide) ?_
  refine z_bipush dX3_init_47 kb_16 ?_
  refine x_newI (kc := 1) (ks := 32) (n := 47) (N := 16) (by decide +kernel) hz (by decide) (by decide) rfl dX3_init_49 ?_
  have hz := z_Z_m hz (show 47 ≤ 48 by decide)
  refine x_putR lfX3_25 rfl (by decide +kernel) (show 41 < 48 by decide) (Or.inr ⟨rfl, rfl, rfl⟩) dX3_init_51 ?_
  have hz := z_Z_v (a := 41) (k := 6) (v := 47) hz (by decide)
  refine z_aload_n dX3_init_54 rfl rfl (by decide) ?_
  refine z_bipush dX3_init_55 kb_32 ?_
  refine x_newI (kc := 0) (ks := 0) (n := 48) (N := 32) (by decide +kernel) hz (by decide) (by decide) rfl dX3_init_57 ?_
  have hz := z_Z_m hz (show 48 ≤ 49 by decide)
  refine x_putR lfX3_28 rfl (by decide +kernel) (show 41 < 49 by decide) (Or.inr ⟨rfl, rfl, rfl⟩) dX3_init_59 ?_
  have hz := z_Z_v (a := 41) (k := 8) (v := 48) hz (by decide)
  exact z_vret ⟨rfl, rfl, rfl⟩ rfl dX3_init_62
set_option maxRecDepth 100000 in
theorem cX3_init_49 {G : z_G} {d : Nat} {I : Nat → Nat → Int32} {R : Nat → Nat → Nat} (hd : 1 ≤ d) (hz : z_Z 50 I R) : z_M G d 7 576 eX3_init [.ref 49] (z_T 50) (I, R) (z_EC 57 (I, (z_v (z_v (z_v (z_v (z_v (z_v (z_v R 49 0 50) 49 1 51) 49 3 52) 49 4 53) 49 5 54) 49 6 55) 49 8 56))) := by
  obtain ⟨d, rfl⟩ := z_pos (D := 0) hd
  refine z_M_of (by decide +kernel) (by intro v hv; simp at hv; try rcases hv with rfl | rfl | rfl; all_goals (try subst hv); all_goals rfl) (by decide) ?_
  show z_W G _ _ _ _ _ [some (.ref 49)] _ _ _ _
  refine z_aload_n dX3_init_0 rfl rfl (by decide) ?_
  refine z_oinit lmX3_3 z_oi (by decide) (Nat.le_of_ble_eq_true rfl) dX3_init_1 ?_
  refine z_aload_n dX3_init_4 rfl rfl (by decide) ?_
  refine z_sipush dX3_init_5 ks_240 ?_
  refine x_newI (kc := 6) (ks := 336) (n := 50) (N := 240) (by decide +kernel) hz (by decide) (by decide) rfl dX3_init_8 ?_
  have hz := z_Z_m hz (show 50 ≤ 51 by decide)
  refine x_putR lfX3_9 rfl (by decide +kernel) (show 49 < 51 by decide) (Or.inr ⟨rfl, rfl, rfl⟩) dX3_init_10 ?_
  have hz := z_Z_v (a := 49) (k := 0) (v := 50) hz (by decide)
  refine z_aload_n dX3_init_13 rfl rfl (by decide) ?_
  refine z_sipush dX3_init_14 ks_240 ?_
  refine x_newI (kc := 5) (ks := 96) (n := 51) (N := 240) (by decide +kernel) hz (by decide) (by decide) rfl dX3_init_17 ?_
  have hz := z_Z_m hz (show 51 ≤ 52 by decide)
  refine x_putR lfX3_13 rfl (by decide +kernel) (show 49 < 52 by decide) (Or.inr ⟨rfl, rfl, rfl⟩) dX3_init_19 ?_
  have hz := z_Z_v (a := 49) (k := 1) (v := 51) hz (by decide)
  refine z_aload_n dX3_init_22 rfl rfl (by decide) ?_
  refine z_bipush dX3_init_23 kb_16 ?_
  refine x_newI (kc := 4) (ks := 80) (n := 52) (N := 16) (by decide +kernel) hz (by decide) (by decide) rfl dX3_init_25 ?_
  have hz := z_Z_m hz (show 52 ≤ 53 by decide)
  refine x_putR lfX3_16 rfl (by decide +kernel) (show 49 < 53 by decide) (Or.inr ⟨rfl, rfl, rfl⟩) dX3_init_27 ?_
  have hz := z_Z_v (a := 49) (k := 3) (v := 52) hz (by decide)
  refine z_aload_n dX3_init_30 rfl rfl (by decide) ?_
  refine z_bipush dX3_init_31 kb_16 ?_
  refine x_newI (kc := 3) (ks := 64) (n := 53) (N := 16) (by decide +kernel) hz (by decide) (by decide) rfl dX3_init_33 ?_
  have hz := z_Z_m hz (show 53 ≤ 54 by decide)
  refine x_putR lfX3_19 rfl (by decide +kernel) (show 49 < 54 by decide) (Or.inr ⟨rfl, rfl, rfl⟩) dX3_init_35 ?_
  have hz := z_Z_v (a := 49) (k := 4) (v := 53) hz (by decide)
  refine z_aload_n dX3_init_38 rfl rfl (by decide) ?_
  refine z_bipush dX3_init_39 kb_16 ?_
  refine x_newI (kc := 2) (ks := 48) (n := 54) (N := 16) (by decide +kernel) hz (by decide) (by decide) rfl dX3_init_41 ?_
  have hz := z_Z_m hz (show 54 ≤ 55 by decide)
  refine x_putR lfX3_22 rfl (by decide +kernel) (show 49 < 55 by decide) (Or.inr ⟨rfl, rfl, rfl⟩) dX3_init_43 ?_
  have hz := z_Z_v (a := 49) (k := 5) (v := 54) hz (by decide)
  refine z_aload_n dX3_init_46 rfl rfl (by decide) ?_
  refine z_bipush dX3_init_47 kb_16 ?_
  refine x_newI (kc := 1) (ks := 32) (n := 55) (N := 16) (by decide +kernel) hz (by decide) (by decide) rfl dX3_init_49 ?_
  have hz := z_Z_m hz (show 55 ≤ 56 by decide)
  refine x_putR lfX3_25 rfl (by decide +kernel) (show 49 < 56 by decide) (Or.inr ⟨rfl, rfl, rfl⟩) dX3_init_51 ?_
  have hz := z_Z_v (a := 49) (k := 6) (v := 55) hz (by decide)
  refine z_aload_n dX3_init_54 rfl rfl (by decide) ?_
  refine z_bipush dX3_init_55 kb_32 ?_
  refine x_newI (kc := 0) (ks := 0) (n := 56) (N := 32) (by decide +kernel) hz (by decide) (by decide) rfl dX3_init_57 ?_
  have hz := z_Z_m hz (show 56 ≤ 57 by decide)
  refine x_putR lfX3_28 rfl (by decide +kernel) (show 49 < 57 by decide) (Or.inr ⟨rfl, rfl, rfl⟩) dX3_init_59 ?_
  have hz := z_Z_v (a := 49) (k := 8) (v := 56) hz (by decide)
  exact z_vret ⟨rfl, rfl, rfl⟩ rfl dX3_init_62
set_option maxRecDepth 100000 in
theorem cX7_init_3 {G : z_G} {d : Nat} {I : Nat → Nat → Int32} {R : Nat → Nat → Nat} (hd : 2 ≤ d) (hz : z_Z 4 I R) : z_M G d 53 2847 eX7_init [.ref 3] (z_T 4) (I, R) (z_EC 57 ((z_u (z_u I 3 4 (15 : Int32)) 3 5 (120 : Int32)), (z_v (z_v (z_v (z_v (z_v (z_v (z_v (z_v (z_v (z_v (z_v (z_v (z_v (z_v (z_v (z_v (z_v (z_v (z_v (z_v (z_v (z_v (z_v (z_v (z_v (z_v (z_v (z_v (z_v (z_v (z_v (z_v (z_v (z_v (z_v (z_v (z_v (z_v (z_v (z_v (z_v (z_v (z_v (z_v (z_v (z_v (z_v (z_v (z_v (z_v (z_v (z_v (z_v R 3 0 4) 5 0 6) 5 1 7) 5 2 8) 4 0 5) 9 0 10) 9 1 11) 9 2 12) 4 1 9) 13 0 14) 13 1 15) 13 2 16) 4 2 13) 17 0 18) 17 1 19) 17 2 20) 4 3 17) 21 0 22) 21 1 23) 21 2 24) 4 4 21) 25 0 26) 25 1 27) 25 2 28) 4 5 25) 29 0 30) 29 1 31) 29 2 32) 4 6 29) 33 0 34) 33 1 35) 33 2 36) 4 7 33) 37 0 38) 37 1 39) 37 2 40) 3 1 37) 41 0 42) 41 1 43) 41 3 44) 41 4 45) 41 5 46) 41 6 47) 41 8 48) 3 2 41) 49 0 50) 49 1 51) 49 3 52) 49 4 53) 49 5 54) 49 6 55) 49 8 56) 3 3 49))) := by
  obtain ⟨d, rfl⟩ := z_pos (D := 1) hd
  refine z_M_of (by decide +kernel) (by intro v hv; simp at hv; try rcases hv with rfl | rfl | rfl; all_goals (try subst hv); all_goals rfl) (by decide) ?_
  show z_W G _ _ _ _ _ [some (.ref 3), none] _ _ _ _
  refine z_aload_n dX7_init_0 rfl rfl (by decide) ?_
  refine z_oinit lmX7_3 z_oi (by decide) (Nat.le_of_ble_eq_true rfl) dX7_init_1 ?_
  refine z_aload_n dX7_init_4 rfl rfl (by decide) ?_
  refine z_bipush dX7_init_5 kb_8 ?_
  refine x_newQ (kc := 52) (ks := 2839) (n := 4) (N := 8) (t := 0) (by decide +kernel) (Or.inl ⟨rfl, rfl⟩) hz (by decide) (by decide) rfl lcX7_9 dX7_init_7 ?_
  have hz := z_Z_m hz (show 4 ≤ 5 by decide)
  refine x_putR lfX7_11 rfl (by decide +kernel) (show 3 < 5 by decide) (Or.inr ⟨rfl, rfl, rfl⟩) dX7_init_10 ?_
  have hz := z_Z_v (a := 3) (k := 0) (v := 4) hz (by decide)
  refine z_iconst dX7_init_13 kc_0 ?_
  refine z_istore_n dX7_init_14 rfl (by decide) ?_
  show z_W G _ _ _ _ _ [some (.ref 3), some (.int (0 : Int32))] _ _ _ _
  refine z_iload_n dX7_init_15 rfl rfl ?_
  refine z_bipush dX7_init_16 kb_8 ?_
  refine z_icmp_ge (tgt := 40) dX7_init_18 (by decide) (fun c => absurd c (by decide)) (fun _ => ?_)
  refine z_aload_n dX7_init_21 rfl rfl (by decide) ?_
  refine x_getR (v := 4) lfX7_11 rfl (by decide +kernel) (show 3 < 5 by decide) rfl dX7_init_22 ?_
  refine z_iload_n dX7_init_25 rfl rfl ?_
  refine x_new (kc := 51) (ks := 2835) (n := 5) (ci := 5) (N := 4) (by decide +kernel) kX5 rfl dvX5 lcX7_9 hz dX7_init_26 ?_
  have hz := z_Z_m hz (show 5 ≤ 6 by decide)
  refine z_dup dX7_init_29 rfl ?_
  refine x_cI (kc := 48) (ks := 2654) (mc := 3) (ms := 181) (n' := 9) (av := []) (cX5_init_5 (by omega) hz) oX5_init rfl lmX7_17 iX5_init rfl rfl _ rfl rfl (Nat.le_of_ble_eq_true rfl) dX7_init_30 ?_
  have hz := z_Z_m hz (show 6 ≤ 9 by decide)
  have hz := z_Z_v (a := 5) (k := 0) (v := 6) hz (by decide)
  have hz := z_Z_v (a := 5) (k := 1) (v := 7) hz (by decide)
  have hz := z_Z_v (a := 5) (k := 2) (v := 8) hz (by decide)
  refine x_aast (j := 0) (t := 0) (N := 8) (by decide +kernel) (show 4 < 9 by decide) (Or.inl ⟨rfl, by decide +kernel⟩) (show 5 < 9 by decide) (by unfold vp_in; decide) (by decide) dX7_init_33 ?_
  have hz := z_Z_v (a := 4) (k := 0) (v := 5) hz (by decide)
  refine z_iinc (v := (1 : Int32)) dX7_init_34 rfl (by decide) (by decide) ?_
  show z_W G _ _ _ _ _ [some (.ref 3), some (.int (1 : Int32))] _ _ _ _
  refine z_goto (tgt := 15) dX7_init_37 (by decide) ?_
  refine z_iload_n dX7_init_15 rfl rfl ?_
  refine z_bipush dX7_init_16 kb_8 ?_
  refine z_icmp_ge (tgt := 40) dX7_init_18 (by decide) (fun c => absurd c (by decide)) (fun _ => ?_)
  refine z_aload_n dX7_init_21 rfl rfl (by decide) ?_
  refine x_getR (v := 4) lfX7_11 rfl (by decide +kernel) (show 3 < 9 by decide) rfl dX7_init_22 ?_
  refine z_iload_n dX7_init_25 rfl rfl ?_
  refine x_new (kc := 47) (ks := 2650) (n := 9) (ci := 5) (N := 4) (by decide +kernel) kX5 rfl dvX5 lcX7_9 hz dX7_init_26 ?_
  have hz := z_Z_m hz (show 9 ≤ 10 by decide)
  refine z_dup dX7_init_29 rfl ?_
  refine x_cI (kc := 44) (ks := 2469) (mc := 3) (ms := 181) (n' := 13) (av := []) (cX5_init_9 (by omega) hz) oX5_init rfl lmX7_17 iX5_init rfl rfl _ rfl rfl (Nat.le_of_ble_eq_true rfl) dX7_init_30 ?_
  have hz := z_Z_m hz (show 10 ≤ 13 by decide)
  have hz := z_Z_v (a := 9) (k := 0) (v := 10) hz (by decide)
  have hz := z_Z_v (a := 9) (k := 1) (v := 11) hz (by decide)
  have hz := z_Z_v (a := 9) (k := 2) (v := 12) hz (by decide)
  refine x_aast (j := 1) (t := 0) (N := 8) (by decide +kernel) (show 4 < 13 by decide) (Or.inl ⟨rfl, by decide +kernel⟩) (show 9 < 13 by decide) (by unfold vp_in; decide) (by decide) dX7_init_33 ?_
  have hz := z_Z_v (a := 4) (k := 1) (v := 9) hz (by decide)
  refine z_iinc (v := (2 : Int32)) dX7_init_34 rfl (by decide) (by decide) ?_
  show z_W G _ _ _ _ _ [some (.ref 3), some (.int (2 : Int32))] _ _ _ _
  refine z_goto (tgt := 15) dX7_init_37 (by decide) ?_
  refine z_iload_n dX7_init_15 rfl rfl ?_
  refine z_bipush dX7_init_16 kb_8 ?_
  refine z_icmp_ge (tgt := 40) dX7_init_18 (by decide) (fun c => absurd c (by decide)) (fun _ => ?_)
  refine z_aload_n dX7_init_21 rfl rfl (by decide) ?_
  refine x_getR (v := 4) lfX7_11 rfl (by decide +kernel) (show 3 < 13 by decide) rfl dX7_init_22 ?_
  refine z_iload_n dX7_init_25 rfl rfl ?_
  refine x_new (kc := 43) (ks := 2465) (n := 13) (ci := 5) (N := 4) (by decide +kernel) kX5 rfl dvX5 lcX7_9 hz dX7_init_26 ?_
  have hz := z_Z_m hz (show 13 ≤ 14 by decide)
  refine z_dup dX7_init_29 rfl ?_
  refine x_cI (kc := 40) (ks := 2284) (mc := 3) (ms := 181) (n' := 17) (av := []) (cX5_init_13 (by omega) hz) oX5_init rfl lmX7_17 iX5_init rfl rfl _ rfl rfl (Nat.le_of_ble_eq_true rfl) dX7_init_30 ?_
  have hz := z_Z_m hz (show 14 ≤ 17 by decide)
  have hz := z_Z_v (a := 13) (k := 0) (v := 14) hz (by decide)
  have hz := z_Z_v (a := 13) (k := 1) (v := 15) hz (by decide)
  have hz := z_Z_v (a := 13) (k := 2) (v := 16) hz (by decide)
  refine x_aast (j := 2) (t := 0) (N := 8) (by decide +kernel) (show 4 < 17 by decide) (Or.inl ⟨rfl, by decide +kernel⟩) (show 13 < 17 by decide) (by unfold vp_in; decide) (by decide) dX7_init_33 ?_
  have hz := z_Z_v (a := 4) (k := 2) (v := 13) hz (by decide)
  refine z_iinc (v := (3 : Int32)) dX7_init_34 rfl (by decide) (by decide) ?_
  show z_W G _ _ _ _ _ [some (.ref 3), some (.int (3 : Int32))] _ _ _ _
  refine z_goto (tgt := 15) dX7_init_37 (by decide) ?_
  refine z_iload_n dX7_init_15 rfl rfl ?_
  refine z_bipush dX7_init_16 kb_8 ?_
  refine z_icmp_ge (tgt := 40) dX7_init_18 (by decide) (fun c => absurd c (by decide)) (fun _ => ?_)
  refine z_aload_n dX7_init_21 rfl rfl (by decide) ?_
  refine x_getR (v := 4) lfX7_11 rfl (by decide +kernel) (show 3 < 17 by decide) rfl dX7_init_22 ?_
  refine z_iload_n dX7_init_25 rfl rfl ?_
  refine x_new (kc := 39) (ks := 2280) (n := 17) (ci := 5) (N := 4) (by decide +kernel) kX5 rfl dvX5 lcX7_9 hz dX7_init_26 ?_
  have hz := z_Z_m hz (show 17 ≤ 18 by decide)
  refine z_dup dX7_init_29 rfl ?_
  refine x_cI (kc := 36) (ks := 2099) (mc := 3) (ms := 181) (n' := 21) (av := []) (cX5_init_17 (by omega) hz) oX5_init rfl lmX7_17 iX5_init rfl rfl _ rfl rfl (Nat.le_of_ble_eq_true rfl) dX7_init_30 ?_
  have hz := z_Z_m hz (show 18 ≤ 21 by decide)
  have hz := z_Z_v (a := 17) (k := 0) (v := 18) hz (by decide)
  have hz := z_Z_v (a := 17) (k := 1) (v := 19) hz (by decide)
  have hz := z_Z_v (a := 17) (k := 2) (v := 20) hz (by decide)
  refine x_aast (j := 3) (t := 0) (N := 8) (by decide +kernel) (show 4 < 21 by decide) (Or.inl ⟨rfl, by decide +kernel⟩) (show 17 < 21 by decide) (by unfold vp_in; decide) (by decide) dX7_init_33 ?_
  have hz := z_Z_v (a := 4) (k := 3) (v := 17) hz (by decide)
  refine z_iinc (v := (4 : Int32)) dX7_init_34 rfl (by decide) (by decide) ?_
  show z_W G _ _ _ _ _ [some (.ref 3), some (.int (4 : Int32))] _ _ _ _
  refine z_goto (tgt := 15) dX7_init_37 (by decide) ?_
  refine z_iload_n dX7_init_15 rfl rfl ?_
  refine z_bipush dX7_init_16 kb_8 ?_
  refine z_icmp_ge (tgt := 40) dX7_init_18 (by decide) (fun c => absurd c (by decide)) (fun _ => ?_)
  refine z_aload_n dX7_init_21 rfl rfl (by decide) ?_
  refine x_getR (v := 4) lfX7_11 rfl (by decide +kernel) (show 3 < 21 by decide) rfl dX7_init_22 ?_
  refine z_iload_n dX7_init_25 rfl rfl ?_
  refine x_new (kc := 35) (ks := 2095) (n := 21) (ci := 5) (N := 4) (by decide +kernel) kX5 rfl dvX5 lcX7_9 hz dX7_init_26 ?_
  have hz := z_Z_m hz (show 21 ≤ 22 by decide)
  refine z_dup dX7_init_29 rfl ?_
  refine x_cI (kc := 32) (ks := 1914) (mc := 3) (ms := 181) (n' := 25) (av := []) (cX5_init_21 (by omega) hz) oX5_init rfl lmX7_17 iX5_init rfl rfl _ rfl rfl (Nat.le_of_ble_eq_true rfl) dX7_init_30 ?_
  have hz := z_Z_m hz (show 22 ≤ 25 by decide)
  have hz := z_Z_v (a := 21) (k := 0) (v := 22) hz (by decide)
  have hz := z_Z_v (a := 21) (k := 1) (v := 23) hz (by decide)
  have hz := z_Z_v (a := 21) (k := 2) (v := 24) hz (by decide)
  refine x_aast (j := 4) (t := 0) (N := 8) (by decide +kernel) (show 4 < 25 by decide) (Or.inl ⟨rfl, by decide +kernel⟩) (show 21 < 25 by decide) (by unfold vp_in; decide) (by decide) dX7_init_33 ?_
  have hz := z_Z_v (a := 4) (k := 4) (v := 21) hz (by decide)
  refine z_iinc (v := (5 : Int32)) dX7_init_34 rfl (by decide) (by decide) ?_
  show z_W G _ _ _ _ _ [some (.ref 3), some (.int (5 : Int32))] _ _ _ _
  refine z_goto (tgt := 15) dX7_init_37 (by decide) ?_
  refine z_iload_n dX7_init_15 rfl rfl ?_
  refine z_bipush dX7_init_16 kb_8 ?_
  refine z_icmp_ge (tgt := 40) dX7_init_18 (by decide) (fun c => absurd c (by decide)) (fun _ => ?_)
  refine z_aload_n dX7_init_21 rfl rfl (by decide) ?_
  refine x_getR (v := 4) lfX7_11 rfl (by decide +kernel) (show 3 < 25 by decide) rfl dX7_init_22 ?_
  refine z_iload_n dX7_init_25 rfl rfl ?_
  refine x_new (kc := 31) (ks := 1910) (n := 25) (ci := 5) (N := 4) (by decide +kernel) kX5 rfl dvX5 lcX7_9 hz dX7_init_26 ?_
  have hz := z_Z_m hz (show 25 ≤ 26 by decide)
  refine z_dup dX7_init_29 rfl ?_
  refine x_cI (kc := 28) (ks := 1729) (mc := 3) (ms := 181) (n' := 29) (av := []) (cX5_init_25 (by omega) hz) oX5_init rfl lmX7_17 iX5_init rfl rfl _ rfl rfl (Nat.le_of_ble_eq_true rfl) dX7_init_30 ?_
  have hz := z_Z_m hz (show 26 ≤ 29 by decide)
  have hz := z_Z_v (a := 25) (k := 0) (v := 26) hz (by decide)
  have hz := z_Z_v (a := 25) (k := 1) (v := 27) hz (by decide)
  have hz := z_Z_v (a := 25) (k := 2) (v := 28) hz (by decide)
  refine x_aast (j := 5) (t := 0) (N := 8) (by decide +kernel) (show 4 < 29 by decide) (Or.inl ⟨rfl, by decide +kernel⟩) (show 25 < 29 by decide) (by unfold vp_in; decide) (by decide) dX7_init_33 ?_
  have hz := z_Z_v (a := 4) (k := 5) (v := 25) hz (by decide)
  refine z_iinc (v := (6 : Int32)) dX7_init_34 rfl (by decide) (by decide) ?_
  show z_W G _ _ _ _ _ [some (.ref 3), some (.int (6 : Int32))] _ _ _ _
  refine z_goto (tgt := 15) dX7_init_37 (by decide) ?_
  refine z_iload_n dX7_init_15 rfl rfl ?_
  refine z_bipush dX7_init_16 kb_8 ?_
  refine z_icmp_ge (tgt := 40) dX7_init_18 (by decide) (fun c => absurd c (by decide)) (fun _ => ?_)
  refine z_aload_n dX7_init_21 rfl rfl (by decide) ?_
  refine x_getR (v := 4) lfX7_11 rfl (by decide +kernel) (show 3 < 29 by decide) rfl dX7_init_22 ?_
  refine z_iload_n dX7_init_25 rfl rfl ?_
  refine x_new (kc := 27) (ks := 1725) (n := 29) (ci := 5) (N := 4) (by decide +kernel) kX5 rfl dvX5 lcX7_9 hz dX7_init_26 ?_
  have hz := z_Z_m hz (show 29 ≤ 30 by decide)
  refine z_dup dX7_init_29 rfl ?_
  refine x_cI (kc := 24) (ks := 1544) (mc := 3) (ms := 181) (n' := 33) (av := []) (cX5_init_29 (by omega) hz) oX5_init rfl lmX7_17 iX5_init rfl rfl _ rfl rfl (Nat.le_of_ble_eq_true rfl) dX7_init_30 ?_
  have hz := z_Z_m hz (show 30 ≤ 33 by decide)
  have hz := z_Z_v (a := 29) (k := 0) (v := 30) hz (by decide)
  have hz := z_Z_v (a := 29) (k := 1) (v := 31) hz (by decide)
  have hz := z_Z_v (a := 29) (k := 2) (v := 32) hz (by decide)
  refine x_aast (j := 6) (t := 0) (N := 8) (by decide +kernel) (show 4 < 33 by decide) (Or.inl ⟨rfl, by decide +kernel⟩) (show 29 < 33 by decide) (by unfold vp_in; decide) (by decide) dX7_init_33 ?_
  have hz := z_Z_v (a := 4) (k := 6) (v := 29) hz (by decide)
  refine z_iinc (v := (7 : Int32)) dX7_init_34 rfl (by decide) (by decide) ?_
  show z_W G _ _ _ _ _ [some (.ref 3), some (.int (7 : Int32))] _ _ _ _
  refine z_goto (tgt := 15) dX7_init_37 (by decide) ?_
  refine z_iload_n dX7_init_15 rfl rfl ?_
  refine z_bipush dX7_init_16 kb_8 ?_
  refine z_icmp_ge (tgt := 40) dX7_init_18 (by decide) (fun c => absurd c (by decide)) (fun _ => ?_)
  refine z_aload_n dX7_init_21 rfl rfl (by decide) ?_
  refine x_getR (v := 4) lfX7_11 rfl (by decide +kernel) (show 3 < 33 by decide) rfl dX7_init_22 ?_
  refine z_iload_n dX7_init_25 rfl rfl ?_
  refine x_new (kc := 23) (ks := 1540) (n := 33) (ci := 5) (N := 4) (by decide +kernel) kX5 rfl dvX5 lcX7_9 hz dX7_init_26 ?_
  have hz := z_Z_m hz (show 33 ≤ 34 by decide)
  refine z_dup dX7_init_29 rfl ?_
  refine x_cI (kc := 20) (ks := 1359) (mc := 3) (ms := 181) (n' := 37) (av := []) (cX5_init_33 (by omega) hz) oX5_init rfl lmX7_17 iX5_init rfl rfl _ rfl rfl (Nat.le_of_ble_eq_true rfl) dX7_init_30 ?_
  have hz := z_Z_m hz (show 34 ≤ 37 by decide)
  have hz := z_Z_v (a := 33) (k := 0) (v := 34) hz (by decide)
  have hz := z_Z_v (a := 33) (k := 1) (v := 35) hz (by decide)
  have hz := z_Z_v (a := 33) (k := 2) (v := 36) hz (by decide)
  refine x_aast (j := 7) (t := 0) (N := 8) (by decide +kernel) (show 4 < 37 by decide) (Or.inl ⟨rfl, by decide +kernel⟩) (show 33 < 37 by decide) (by unfold vp_in; decide) (by decide) dX7_init_33 ?_
  have hz := z_Z_v (a := 4) (k := 7) (v := 33) hz (by decide)
  refine z_iinc (v := (8 : Int32)) dX7_init_34 rfl (by decide) (by decide) ?_
  show z_W G _ _ _ _ _ [some (.ref 3), some (.int (8 : Int32))] _ _ _ _
  refine z_goto (tgt := 15) dX7_init_37 (by decide) ?_
  refine z_iload_n dX7_init_15 rfl rfl ?_
  refine z_bipush dX7_init_16 kb_8 ?_
  refine z_icmp_ge (tgt := 40) dX7_init_18 (by decide) (fun _ => ?_) (fun c => absurd (by decide) c)
  refine z_aload_n dX7_init_40 rfl rfl (by decide) ?_
  refine x_new (kc := 19) (ks := 1355) (n := 37) (ci := 5) (N := 4) (by decide +kernel) kX5 rfl dvX5 lcX7_9 hz dX7_init_41 ?_
  have hz := z_Z_m hz (show 37 ≤ 38 by decide)
  refine z_dup dX7_init_44 rfl ?_
  refine x_cI (kc := 16) (ks := 1174) (mc := 3) (ms := 181) (n' := 41) (av := []) (cX5_init_37 (by omega) hz) oX5_init rfl lmX7_17 iX5_init rfl rfl _ rfl rfl (Nat.le_of_ble_eq_true rfl) dX7_init_45 ?_
  have hz := z_Z_m hz (show 38 ≤ 41 by decide)
  have hz := z_Z_v (a := 37) (k := 0) (v := 38) hz (by decide)
  have hz := z_Z_v (a := 37) (k := 1) (v := 39) hz (by decide)
  have hz := z_Z_v (a := 37) (k := 2) (v := 40) hz (by decide)
  refine x_putR lfX7_18 rfl (by decide +kernel) (show 3 < 41 by decide) (Or.inl rfl) dX7_init_48 ?_
  have hz := z_Z_v (a := 3) (k := 1) (v := 37) hz (by decide)
  refine z_aload_n dX7_init_51 rfl rfl (by decide) ?_
  refine x_new (kc := 15) (ks := 1163) (n := 41) (ci := 3) (N := 11) (by decide +kernel) kX3 rfl dvX3 lcX7_22 hz dX7_init_52 ?_
  have hz := z_Z_m hz (show 41 ≤ 42 by decide)
  refine z_dup dX7_init_55 rfl ?_
  refine x_cI (kc := 8) (ks := 587) (mc := 7) (ms := 576) (n' := 49) (av := []) (cX3_init_41 (by omega) hz) oX3_init rfl lmX7_24 iX3_init rfl rfl _ rfl rfl (Nat.le_of_ble_eq_true rfl) dX7_init_56 ?_
  have hz := z_Z_m hz (show 42 ≤ 49 by decide)
  have hz := z_Z_v (a := 41) (k := 0) (v := 42) hz (by decide)
  have hz := z_Z_v (a := 41) (k := 1) (v := 43) hz (by decide)
  have hz := z_Z_v (a := 41) (k := 3) (v := 44) hz (by decide)
  have hz := z_Z_v (a := 41) (k := 4) (v := 45) hz (by decide)
  have hz := z_Z_v (a := 41) (k := 5) (v := 46) hz (by decide)
  have hz := z_Z_v (a := 41) (k := 6) (v := 47) hz (by decide)
  have hz := z_Z_v (a := 41) (k := 8) (v := 48) hz (by decide)
  refine x_putR lfX7_25 rfl (by decide +kernel) (show 3 < 49 by decide) (Or.inl rfl) dX7_init_59 ?_
  have hz := z_Z_v (a := 3) (k := 2) (v := 41) hz (by decide)
  refine z_aload_n dX7_init_62 rfl rfl (by decide) ?_
  refine x_new (kc := 7) (ks := 576) (n := 49) (ci := 3) (N := 11) (by decide +kernel) kX3 rfl dvX3 lcX7_22 hz dX7_init_63 ?_
  have hz := z_Z_m hz (show 49 ≤ 50 by decide)
  refine z_dup dX7_init_66 rfl ?_
  refine x_cI (kc := 0) (ks := 0) (mc := 7) (ms := 576) (n' := 57) (av := []) (cX3_init_49 (by omega) hz) oX3_init rfl lmX7_24 iX3_init rfl rfl _ rfl rfl (Nat.le_of_ble_eq_true rfl) dX7_init_67 ?_
  have hz := z_Z_m hz (show 50 ≤ 57 by decide)
  have hz := z_Z_v (a := 49) (k := 0) (v := 50) hz (by decide)
  have hz := z_Z_v (a := 49) (k := 1) (v := 51) hz (by decide)
  have hz := z_Z_v (a := 49) (k := 3) (v := 52) hz (by decide)
  have hz := z_Z_v (a := 49) (k := 4) (v := 53) hz (by decide)
  have hz := z_Z_v (a := 49) (k := 5) (v := 54) hz (by decide)
  have hz := z_Z_v (a := 49) (k := 6) (v := 55) hz (by decide)
  have hz := z_Z_v (a := 49) (k := 8) (v := 56) hz (by decide)
  refine x_putR lfX7_29 rfl (by decide +kernel) (show 3 < 57 by decide) (Or.inl rfl) dX7_init_70 ?_
  have hz := z_Z_v (a := 3) (k := 3) (v := 49) hz (by decide)
  refine z_aload_n dX7_init_73 rfl rfl (by decide) ?_
  refine z_bipush dX7_init_74 kb_15 ?_
  refine x_putI lfX7_32 rfl (by decide +kernel) (show 3 < 57 by decide) (Or.inl rfl) rfl rfl dX7_init_76 ?_
  have hz := z_Z_u (a := 3) (k := 4) (v := (15 : Int32)) hz (by decide)
  refine z_aload_n dX7_init_79 rfl rfl (by decide) ?_
  refine z_bipush dX7_init_80 kb_120 ?_
  refine x_putI lfX7_36 rfl (by decide +kernel) (show 3 < 57 by decide) (Or.inl rfl) rfl rfl dX7_init_82 ?_
  have hz := z_Z_u (a := 3) (k := 5) (v := (120 : Int32)) hz (by decide)
  exact z_vret ⟨rfl, rfl, rfl⟩ rfl dX7_init_85
set_option maxRecDepth 100000 in
theorem cX6_init_57 {G : z_G} {d : Nat} {I : Nat → Nat → Int32} {R : Nat → Nat → Nat} (hd : 1 ≤ d) (hz : z_Z 58 I R) : z_M G d 0 0 eX6_init [.ref 57, .ref 1, .ref 37] (z_T 58) (I, R) (z_EC 58 (I, (z_v (z_v R 57 0 1) 57 1 37))) := by
  obtain ⟨d, rfl⟩ := z_pos (D := 0) hd
  refine z_M_of (by decide +kernel) (by intro v hv; simp at hv; try rcases hv with rfl | rfl | rfl; all_goals (try subst hv); all_goals rfl) (by decide) ?_
  show z_W G _ _ _ _ _ [some (.ref 57), some (.ref 1), some (.ref 37)] _ _ _ _
  refine z_aload_n dX6_init_0 rfl rfl (by decide) ?_
  refine z_oinit lmX6_3 z_oi (by decide) (Nat.le_of_ble_eq_true rfl) dX6_init_1 ?_
  refine z_aload_n dX6_init_4 rfl rfl (by decide) ?_
  refine z_aload_n dX6_init_5 rfl rfl (by decide) ?_
  refine x_putR lfX6_9 rfl (by decide +kernel) (show 57 < 58 by decide) (Or.inr ⟨rfl, rfl, rfl⟩) dX6_init_6 ?_
  have hz := z_Z_v (a := 57) (k := 0) (v := 1) hz (by decide)
  refine z_aload_n dX6_init_9 rfl rfl (by decide) ?_
  refine z_aload_n dX6_init_10 rfl rfl (by decide) ?_
  refine x_putR lfX6_15 rfl (by decide +kernel) (show 57 < 58 by decide) (Or.inl rfl) dX6_init_11 ?_
  have hz := z_Z_v (a := 57) (k := 1) (v := 37) hz (by decide)
  exact z_vret ⟨rfl, rfl, rfl⟩ rfl dX6_init_14
set_option maxRecDepth 100000 in
theorem cX4_init_58 {G : z_G} {d : Nat} {I : Nat → Nat → Int32} {R : Nat → Nat → Nat} (hd : 1 ≤ d) (hz : z_Z 59 I R) : z_M G d 0 0 eX4_init [.ref 58, .ref 1, .ref 49] (z_T 59) (I, R) (z_EC 59 (I, (z_v (z_v R 58 0 1) 58 1 49))) := by
  obtain ⟨d, rfl⟩ := z_pos (D := 0) hd
  refine z_M_of (by decide +kernel) (by intro v hv; simp at hv; try rcases hv with rfl | rfl | rfl; all_goals (try subst hv); all_goals rfl) (by decide) ?_
  show z_W G _ _ _ _ _ [some (.ref 58), some (.ref 1), some (.ref 49)] _ _ _ _
  refine z_aload_n dX4_init_0 rfl rfl (by decide) ?_
  refine z_oinit lmX4_3 z_oi (by decide) (Nat.le_of_ble_eq_true rfl) dX4_init_1 ?_
  refine z_aload_n dX4_init_4 rfl rfl (by decide) ?_
  refine z_aload_n dX4_init_5 rfl rfl (by decide) ?_
  refine x_putR lfX4_9 rfl (by decide +kernel) (show 58 < 59 by decide) (Or.inr ⟨rfl, rfl, rfl⟩) dX4_init_6 ?_
  have hz := z_Z_v (a := 58) (k := 0) (v := 1) hz (by decide)
  refine z_aload_n dX4_init_9 rfl rfl (by decide) ?_
  refine z_aload_n dX4_init_10 rfl rfl (by decide) ?_
  refine x_putR lfX4_15 rfl (by decide +kernel) (show 58 < 59 by decide) (Or.inl rfl) dX4_init_11 ?_
  have hz := z_Z_v (a := 58) (k := 1) (v := 49) hz (by decide)
  exact z_vret ⟨rfl, rfl, rfl⟩ rfl dX4_init_14
set_option maxRecDepth 100000 in
theorem cX2_init_59 {G : z_G} {d : Nat} {I : Nat → Nat → Int32} {R : Nat → Nat → Nat} (hd : 1 ≤ d) (hz : z_Z 60 I R) : z_M G d 2 16 eX2_init [.ref 59, .ref 3] (z_T 60) (I, R) (z_EC 62 (I, (z_v (z_v (z_v R 59 0 3) 59 1 60) 59 2 61))) := by
  obtain ⟨d, rfl⟩ := z_pos (D := 0) hd
  refine z_M_of (by decide +kernel) (by intro v hv; simp at hv; try rcases hv with rfl | rfl | rfl; all_goals (try subst hv); all_goals rfl) (by decide) ?_
  show z_W G _ _ _ _ _ [some (.ref 59), some (.ref 3)] _ _ _ _
  refine z_aload_n dX2_init_0 rfl rfl (by decide) ?_
  refine z_oinit lmX2_3 z_oi (by decide) (Nat.le_of_ble_eq_true rfl) dX2_init_1 ?_
  refine z_aload_n dX2_init_4 rfl rfl (by decide) ?_
  refine z_aload_n dX2_init_5 rfl rfl (by decide) ?_
  refine x_putR lfX2_9 rfl (by decide +kernel) (show 59 < 60 by decide) (Or.inr ⟨rfl, rfl, rfl⟩) dX2_init_6 ?_
  have hz := z_Z_v (a := 59) (k := 0) (v := 3) hz (by decide)
  refine z_aload_n dX2_init_9 rfl rfl (by decide) ?_
  refine z_bipush dX2_init_10 kb_8 ?_
  refine x_newI (kc := 1) (ks := 8) (n := 60) (N := 8) (by decide +kernel) hz (by decide) (by decide) rfl dX2_init_12 ?_
  have hz := z_Z_m hz (show 60 ≤ 61 by decide)
  refine x_putR lfX2_15 rfl (by decide +kernel) (show 59 < 61 by decide) (Or.inr ⟨rfl, rfl, rfl⟩) dX2_init_14 ?_
  have hz := z_Z_v (a := 59) (k := 1) (v := 60) hz (by decide)
  refine z_aload_n dX2_init_17 rfl rfl (by decide) ?_
  refine z_bipush dX2_init_18 kb_8 ?_
  refine x_newI (kc := 0) (ks := 0) (n := 61) (N := 8) (by decide +kernel) hz (by decide) (by decide) rfl dX2_init_20 ?_
  have hz := z_Z_m hz (show 61 ≤ 62 by decide)
  refine x_putR lfX2_21 rfl (by decide +kernel) (show 59 < 62 by decide) (Or.inr ⟨rfl, rfl, rfl⟩) dX2_init_22 ?_
  have hz := z_Z_v (a := 59) (k := 2) (v := 61) hz (by decide)
  exact z_vret ⟨rfl, rfl, rfl⟩ rfl dX2_init_25
set_option maxRecDepth 100000 in
theorem cX8_init_64 {G : z_G} {d : Nat} {I : Nat → Nat → Int32} {R : Nat → Nat → Nat} (hd : 1 ≤ d) (hz : z_Z 65 I R) : z_M G d 0 0 eX8_init [.ref 64] (z_T 65) (I, R) (z_EC 65 (I, R)) := by
  obtain ⟨d, rfl⟩ := z_pos (D := 0) hd
  refine z_M_of (by decide +kernel) (by intro v hv; simp at hv; try rcases hv with rfl | rfl | rfl; all_goals (try subst hv); all_goals rfl) (by decide) ?_
  show z_W G _ _ _ _ _ [some (.ref 64)] _ _ _ _
  refine z_aload_n dX8_init_0 rfl rfl (by decide) ?_
  refine z_oinit lmX8_1 z_oi (by decide) (Nat.le_of_ble_eq_true rfl) dX8_init_1 ?_
  exact z_vret ⟨rfl, rfl, rfl⟩ rfl dX8_init_4
set_option maxRecDepth 100000 in
theorem cX8_init_65 {G : z_G} {d : Nat} {I : Nat → Nat → Int32} {R : Nat → Nat → Nat} (hd : 1 ≤ d) (hz : z_Z 66 I R) : z_M G d 0 0 eX8_init [.ref 65] (z_T 66) (I, R) (z_EC 66 (I, R)) := by
  obtain ⟨d, rfl⟩ := z_pos (D := 0) hd
  refine z_M_of (by decide +kernel) (by intro v hv; simp at hv; try rcases hv with rfl | rfl | rfl; all_goals (try subst hv); all_goals rfl) (by decide) ?_
  show z_W G _ _ _ _ _ [some (.ref 65)] _ _ _ _
  refine z_aload_n dX8_init_0 rfl rfl (by decide) ?_
  refine z_oinit lmX8_1 z_oi (by decide) (Nat.le_of_ble_eq_true rfl) dX8_init_1 ?_
  exact z_vret ⟨rfl, rfl, rfl⟩ rfl dX8_init_4
set_option maxRecDepth 100000 in
theorem cX8_init_66 {G : z_G} {d : Nat} {I : Nat → Nat → Int32} {R : Nat → Nat → Nat} (hd : 1 ≤ d) (hz : z_Z 67 I R) : z_M G d 0 0 eX8_init [.ref 66] (z_T 67) (I, R) (z_EC 67 (I, R)) := by
  obtain ⟨d, rfl⟩ := z_pos (D := 0) hd
  refine z_M_of (by decide +kernel) (by intro v hv; simp at hv; try rcases hv with rfl | rfl | rfl; all_goals (try subst hv); all_goals rfl) (by decide) ?_
  show z_W G _ _ _ _ _ [some (.ref 66)] _ _ _ _
  refine z_aload_n dX8_init_0 rfl rfl (by decide) ?_
  refine z_oinit lmX8_1 z_oi (by decide) (Nat.le_of_ble_eq_true rfl) dX8_init_1 ?_
  exact z_vret ⟨rfl, rfl, rfl⟩ rfl dX8_init_4
set_option maxRecDepth 100000 in
theorem cX8_init_67 {G : z_G} {d : Nat} {I : Nat → Nat → Int32} {R : Nat → Nat → Nat} (hd : 1 ≤ d) (hz : z_Z 68 I R) : z_M G d 0 0 eX8_init [.ref 67] (z_T 68) (I, R) (z_EC 68 (I, R)) := by
  obtain ⟨d, rfl⟩ := z_pos (D := 0) hd
  refine z_M_of (by decide +kernel) (by intro v hv; simp at hv; try rcases hv with rfl | rfl | rfl; all_goals (try subst hv); all_goals rfl) (by decide) ?_
  show z_W G _ _ _ _ _ [some (.ref 67)] _ _ _ _
  refine z_aload_n dX8_init_0 rfl rfl (by decide) ?_
  refine z_oinit lmX8_1 z_oi (by decide) (Nat.le_of_ble_eq_true rfl) dX8_init_1 ?_
  exact z_vret ⟨rfl, rfl, rfl⟩ rfl dX8_init_4
set_option maxRecDepth 100000 in
theorem cX8_init_68 {G : z_G} {d : Nat} {I : Nat → Nat → Int32} {R : Nat → Nat → Nat} (hd : 1 ≤ d) (hz : z_Z 69 I R) : z_M G d 0 0 eX8_init [.ref 68] (z_T 69) (I, R) (z_EC 69 (I, R)) := by
  obtain ⟨d, rfl⟩ := z_pos (D := 0) hd
  refine z_M_of (by decide +kernel) (by intro v hv; simp at hv; try rcases hv with rfl | rfl | rfl; all_goals (try subst hv); all_goals rfl) (by decide) ?_
  show z_W G _ _ _ _ _ [some (.ref 68)] _ _ _ _
  refine z_aload_n dX8_init_0 rfl rfl (by decide) ?_
  refine z_oinit lmX8_1 z_oi (by decide) (Nat.le_of_ble_eq_true rfl) dX8_init_1 ?_
  exact z_vret ⟨rfl, rfl, rfl⟩ rfl dX8_init_4
set_option maxRecDepth 100000 in
theorem cX8_init_69 {G : z_G} {d : Nat} {I : Nat → Nat → Int32} {R : Nat → Nat → Nat} (hd : 1 ≤ d) (hz : z_Z 70 I R) : z_M G d 0 0 eX8_init [.ref 69] (z_T 70) (I, R) (z_EC 70 (I, R)) := by
  obtain ⟨d, rfl⟩ := z_pos (D := 0) hd
  refine z_M_of (by decide +kernel) (by intro v hv; simp at hv; try rcases hv with rfl | rfl | rfl; all_goals (try subst hv); all_goals rfl) (by decide) ?_
  show z_W G _ _ _ _ _ [some (.ref 69)] _ _ _ _
  refine z_aload_n dX8_init_0 rfl rfl (by decide) ?_
  refine z_oinit lmX8_1 z_oi (by decide) (Nat.le_of_ble_eq_true rfl) dX8_init_1 ?_
  exact z_vret ⟨rfl, rfl, rfl⟩ rfl dX8_init_4
set_option maxRecDepth 100000 in
theorem cX8_init_70 {G : z_G} {d : Nat} {I : Nat → Nat → Int32} {R : Nat → Nat → Nat} (hd : 1 ≤ d) (hz : z_Z 71 I R) : z_M G d 0 0 eX8_init [.ref 70] (z_T 71) (I, R) (z_EC 71 (I, R)) := by
  obtain ⟨d, rfl⟩ := z_pos (D := 0) hd
  refine z_M_of (by decide +kernel) (by intro v hv; simp at hv; try rcases hv with rfl | rfl | rfl; all_goals (try subst hv); all_goals rfl) (by decide) ?_
  show z_W G _ _ _ _ _ [some (.ref 70)] _ _ _ _
  refine z_aload_n dX8_init_0 rfl rfl (by decide) ?_
  refine z_oinit lmX8_1 z_oi (by decide) (Nat.le_of_ble_eq_true rfl) dX8_init_1 ?_
  exact z_vret ⟨rfl, rfl, rfl⟩ rfl dX8_init_4
set_option maxRecDepth 100000 in
theorem cX8_init_71 {G : z_G} {d : Nat} {I : Nat → Nat → Int32} {R : Nat → Nat → Nat} (hd : 1 ≤ d) (hz : z_Z 72 I R) : z_M G d 0 0 eX8_init [.ref 71] (z_T 72) (I, R) (z_EC 72 (I, R)) := by
  obtain ⟨d, rfl⟩ := z_pos (D := 0) hd
  refine z_M_of (by decide +kernel) (by intro v hv; simp at hv; try rcases hv with rfl | rfl | rfl; all_goals (try subst hv); all_goals rfl) (by decide) ?_
  show z_W G _ _ _ _ _ [some (.ref 71)] _ _ _ _
  refine z_aload_n dX8_init_0 rfl rfl (by decide) ?_
  refine z_oinit lmX8_1 z_oi (by decide) (Nat.le_of_ble_eq_true rfl) dX8_init_1 ?_
  exact z_vret ⟨rfl, rfl, rfl⟩ rfl dX8_init_4
set_option maxRecDepth 100000 in
theorem cX9_init_62 {G : z_G} {d : Nat} {I : Nat → Nat → Int32} {R : Nat → Nat → Nat} (hd : 2 ≤ d) (hz : z_Z 63 I R) : z_M G d 9 88 eX9_init [.ref 62] (z_T 63) (I, R) (z_EC 72 ((z_u I 62 2 (1 : Int32)), (z_v (z_v (z_v (z_v (z_v (z_v (z_v (z_v (z_v R 62 0 63) 63 0 64) 63 1 65) 63 2 66) 63 3 67) 63 4 68) 63 5 69) 63 6 70) 63 7 71))) := by
  obtain ⟨d, rfl⟩ := z_pos (D := 1) hd
  refine z_M_of (by decide +kernel) (by intro v hv; simp at hv; try rcases hv with rfl | rfl | rfl; all_goals (try subst hv); all_goals rfl) (by decide) ?_
  show z_W G _ _ _ _ _ [some (.ref 62), none] _ _ _ _
  refine z_aload_n dX9_init_0 rfl rfl (by decide) ?_
  refine z_oinit lmX9_3 z_oi (by decide) (Nat.le_of_ble_eq_true rfl) dX9_init_1 ?_
  refine z_aload_n dX9_init_4 rfl rfl (by decide) ?_
  refine z_bipush dX9_init_5 kb_8 ?_
  refine x_newQ (kc := 8) (ks := 80) (n := 63) (N := 8) (t := 1) (by decide +kernel) (Or.inr ⟨rfl, rfl⟩) hz (by decide) (by decide) rfl lcX9_9 dX9_init_7 ?_
  have hz := z_Z_m hz (show 63 ≤ 64 by decide)
  refine x_putR lfX9_11 rfl (by decide +kernel) (show 62 < 64 by decide) (Or.inr ⟨rfl, rfl, rfl⟩) dX9_init_10 ?_
  have hz := z_Z_v (a := 62) (k := 0) (v := 63) hz (by decide)
  refine z_iconst dX9_init_13 kc_0 ?_
  refine z_istore_n dX9_init_14 rfl (by decide) ?_
  show z_W G _ _ _ _ _ [some (.ref 62), some (.int (0 : Int32))] _ _ _ _
  refine z_iload_n dX9_init_15 rfl rfl ?_
  refine z_bipush dX9_init_16 kb_8 ?_
  refine z_icmp_ge (tgt := 40) dX9_init_18 (by decide) (fun c => absurd c (by decide)) (fun _ => ?_)
  refine z_aload_n dX9_init_21 rfl rfl (by decide) ?_
  refine x_getR (v := 63) lfX9_11 rfl (by decide +kernel) (show 62 < 64 by decide) rfl dX9_init_22 ?_
  refine z_iload_n dX9_init_25 rfl rfl ?_
  refine x_new (kc := 7) (ks := 70) (n := 64) (ci := 8) (N := 10) (by decide +kernel) kX8 rfl dvX8 lcX9_9 hz dX9_init_26 ?_
  have hz := z_Z_m hz (show 64 ≤ 65 by decide)
  refine z_dup dX9_init_29 rfl ?_
  refine x_cIN (kc := 7) (ks := 70) (mc := 0) (ms := 0) (n' := 65) (av := []) (cX8_init_64 (by omega) hz) oX8_init rfl lnX9_17 iX8_init rfl rfl _ rfl rfl (Nat.le_of_ble_eq_true rfl) dX9_init_30 ?_
  refine x_aast (j := 0) (t := 1) (N := 8) (by decide +kernel) (show 63 < 65 by decide) (Or.inr ⟨rfl, by decide +kernel⟩) (show 64 < 65 by decide) (by unfold vp_in; decide) (by decide) dX9_init_33 ?_
  have hz := z_Z_v (a := 63) (k := 0) (v := 64) hz (by decide)
  refine z_iinc (v := (1 : Int32)) dX9_init_34 rfl (by decide) (by decide) ?_
  show z_W G _ _ _ _ _ [some (.ref 62), some (.int (1 : Int32))] _ _ _ _
  refine z_goto (tgt := 15) dX9_init_37 (by decide) ?_
  refine z_iload_n dX9_init_15 rfl rfl ?_
  refine z_bipush dX9_init_16 kb_8 ?_
  refine z_icmp_ge (tgt := 40) dX9_init_18 (by decide) (fun c => absurd c (by decide)) (fun _ => ?_)
  refine z_aload_n dX9_init_21 rfl rfl (by decide) ?_
  refine x_getR (v := 63) lfX9_11 rfl (by decide +kernel) (show 62 < 65 by decide) rfl dX9_init_22 ?_
  refine z_iload_n dX9_init_25 rfl rfl ?_
  refine x_new (kc := 6) (ks := 60) (n := 65) (ci := 8) (N := 10) (by decide +kernel) kX8 rfl dvX8 lcX9_9 hz dX9_init_26 ?_
  have hz := z_Z_m hz (show 65 ≤ 66 by decide)
  refine z_dup dX9_init_29 rfl ?_
  refine x_cIN (kc := 6) (ks := 60) (mc := 0) (ms := 0) (n' := 66) (av := []) (cX8_init_65 (by omega) hz) oX8_init rfl lnX9_17 iX8_init rfl rfl _ rfl rfl (Nat.le_of_ble_eq_true rfl) dX9_init_30 ?_
  refine x_aast (j := 1) (t := 1) (N := 8) (by decide +kernel) (show 63 < 66 by decide) (Or.inr ⟨rfl, by decide +kernel⟩) (show 65 < 66 by decide) (by unfold vp_in; decide) (by decide) dX9_init_33 ?_
  have hz := z_Z_v (a := 63) (k := 1) (v := 65) hz (by decide)
  refine z_iinc (v := (2 : Int32)) dX9_init_34 rfl (by decide) (by decide) ?_
  show z_W G _ _ _ _ _ [some (.ref 62), some (.int (2 : Int32))] _ _ _ _
  refine z_goto (tgt := 15) dX9_init_37 (by decide) ?_
  refine z_iload_n dX9_init_15 rfl rfl ?_
  refine z_bipush dX9_init_16 kb_8 ?_
  refine z_icmp_ge (tgt := 40) dX9_init_18 (by decide) (fun c => absurd c (by decide)) (fun _ => ?_)
  refine z_aload_n dX9_init_21 rfl rfl (by decide) ?_
  refine x_getR (v := 63) lfX9_11 rfl (by decide +kernel) (show 62 < 66 by decide) rfl dX9_init_22 ?_
  refine z_iload_n dX9_init_25 rfl rfl ?_
  refine x_new (kc := 5) (ks := 50) (n := 66) (ci := 8) (N := 10) (by decide +kernel) kX8 rfl dvX8 lcX9_9 hz dX9_init_26 ?_
  have hz := z_Z_m hz (show 66 ≤ 67 by decide)
  refine z_dup dX9_init_29 rfl ?_
  refine x_cIN (kc := 5) (ks := 50) (mc := 0) (ms := 0) (n' := 67) (av := []) (cX8_init_66 (by omega) hz) oX8_init rfl lnX9_17 iX8_init rfl rfl _ rfl rfl (Nat.le_of_ble_eq_true rfl) dX9_init_30 ?_
  refine x_aast (j := 2) (t := 1) (N := 8) (by decide +kernel) (show 63 < 67 by decide) (Or.inr ⟨rfl, by decide +kernel⟩) (show 66 < 67 by decide) (by unfold vp_in; decide) (by decide) dX9_init_33 ?_
  have hz := z_Z_v (a := 63) (k := 2) (v := 66) hz (by decide)
  refine z_iinc (v := (3 : Int32)) dX9_init_34 rfl (by decide) (by decide) ?_
  show z_W G _ _ _ _ _ [some (.ref 62), some (.int (3 : Int32))] _ _ _ _
  refine z_goto (tgt := 15) dX9_init_37 (by decide) ?_
  refine z_iload_n dX9_init_15 rfl rfl ?_
  refine z_bipush dX9_init_16 kb_8 ?_
  refine z_icmp_ge (tgt := 40) dX9_init_18 (by decide) (fun c => absurd c (by decide)) (fun _ => ?_)
  refine z_aload_n dX9_init_21 rfl rfl (by decide) ?_
  refine x_getR (v := 63) lfX9_11 rfl (by decide +kernel) (show 62 < 67 by decide) rfl dX9_init_22 ?_
  refine z_iload_n dX9_init_25 rfl rfl ?_
  refine x_new (kc := 4) (ks := 40) (n := 67) (ci := 8) (N := 10) (by decide +kernel) kX8 rfl dvX8 lcX9_9 hz dX9_init_26 ?_
  have hz := z_Z_m hz (show 67 ≤ 68 by decide)
  refine z_dup dX9_init_29 rfl ?_
  refine x_cIN (kc := 4) (ks := 40) (mc := 0) (ms := 0) (n' := 68) (av := []) (cX8_init_67 (by omega) hz) oX8_init rfl lnX9_17 iX8_init rfl rfl _ rfl rfl (Nat.le_of_ble_eq_true rfl) dX9_init_30 ?_
  refine x_aast (j := 3) (t := 1) (N := 8) (by decide +kernel) (show 63 < 68 by decide) (Or.inr ⟨rfl, by decide +kernel⟩) (show 67 < 68 by decide) (by unfold vp_in; decide) (by decide) dX9_init_33 ?_
  have hz := z_Z_v (a := 63) (k := 3) (v := 67) hz (by decide)
  refine z_iinc (v := (4 : Int32)) dX9_init_34 rfl (by decide) (by decide) ?_
  show z_W G _ _ _ _ _ [some (.ref 62), some (.int (4 : Int32))] _ _ _ _
  refine z_goto (tgt := 15) dX9_init_37 (by decide) ?_
  refine z_iload_n dX9_init_15 rfl rfl ?_
  refine z_bipush dX9_init_16 kb_8 ?_
  refine z_icmp_ge (tgt := 40) dX9_init_18 (by decide) (fun c => absurd c (by decide)) (fun _ => ?_)
  refine z_aload_n dX9_init_21 rfl rfl (by decide) ?_
  refine x_getR (v := 63) lfX9_11 rfl (by decide +kernel) (show 62 < 68 by decide) rfl dX9_init_22 ?_
  refine z_iload_n dX9_init_25 rfl rfl ?_
  refine x_new (kc := 3) (ks := 30) (n := 68) (ci := 8) (N := 10) (by decide +kernel) kX8 rfl dvX8 lcX9_9 hz dX9_init_26 ?_
  have hz := z_Z_m hz (show 68 ≤ 69 by decide)
  refine z_dup dX9_init_29 rfl ?_
  refine x_cIN (kc := 3) (ks := 30) (mc := 0) (ms := 0) (n' := 69) (av := []) (cX8_init_68 (by omega) hz) oX8_init rfl lnX9_17 iX8_init rfl rfl _ rfl rfl (Nat.le_of_ble_eq_true rfl) dX9_init_30 ?_
  refine x_aast (j := 4) (t := 1) (N := 8) (by decide +kernel) (show 63 < 69 by decide) (Or.inr ⟨rfl, by decide +kernel⟩) (show 68 < 69 by decide) (by unfold vp_in; decide) (by decide) dX9_init_33 ?_
  have hz := z_Z_v (a := 63) (k := 4) (v := 68) hz (by decide)
  refine z_iinc (v := (5 : Int32)) dX9_init_34 rfl (by decide) (by decide) ?_
  show z_W G _ _ _ _ _ [some (.ref 62), some (.int (5 : Int32))] _ _ _ _
  refine z_goto (tgt := 15) dX9_init_37 (by decide) ?_
  refine z_iload_n dX9_init_15 rfl rfl ?_
  refine z_bipush dX9_init_16 kb_8 ?_
  refine z_icmp_ge (tgt := 40) dX9_init_18 (by decide) (fun c => absurd c (by decide)) (fun _ => ?_)
  refine z_aload_n dX9_init_21 rfl rfl (by decide) ?_
  refine x_getR (v := 63) lfX9_11 rfl (by decide +kernel) (show 62 < 69 by decide) rfl dX9_init_22 ?_
  refine z_iload_n dX9_init_25 rfl rfl ?_
  refine x_new (kc := 2) (ks := 20) (n := 69) (ci := 8) (N := 10) (by decide +kernel) kX8 rfl dvX8 lcX9_9 hz dX9_init_26 ?_
  have hz := z_Z_m hz (show 69 ≤ 70 by decide)
  refine z_dup dX9_init_29 rfl ?_
  refine x_cIN (kc := 2) (ks := 20) (mc := 0) (ms := 0) (n' := 70) (av := []) (cX8_init_69 (by omega) hz) oX8_init rfl lnX9_17 iX8_init rfl rfl _ rfl rfl (Nat.le_of_ble_eq_true rfl) dX9_init_30 ?_
  refine x_aast (j := 5) (t := 1) (N := 8) (by decide +kernel) (show 63 < 70 by decide) (Or.inr ⟨rfl, by decide +kernel⟩) (show 69 < 70 by decide) (by unfold vp_in; decide) (by decide) dX9_init_33 ?_
  have hz := z_Z_v (a := 63) (k := 5) (v := 69) hz (by decide)
  refine z_iinc (v := (6 : Int32)) dX9_init_34 rfl (by decide) (by decide) ?_
  show z_W G _ _ _ _ _ [some (.ref 62), some (.int (6 : Int32))] _ _ _ _
  refine z_goto (tgt := 15) dX9_init_37 (by decide) ?_
  refine z_iload_n dX9_init_15 rfl rfl ?_
  refine z_bipush dX9_init_16 kb_8 ?_
  refine z_icmp_ge (tgt := 40) dX9_init_18 (by decide) (fun c => absurd c (by decide)) (fun _ => ?_)
  refine z_aload_n dX9_init_21 rfl rfl (by decide) ?_
  refine x_getR (v := 63) lfX9_11 rfl (by decide +kernel) (show 62 < 70 by decide) rfl dX9_init_22 ?_
  refine z_iload_n dX9_init_25 rfl rfl ?_
  refine x_new (kc := 1) (ks := 10) (n := 70) (ci := 8) (N := 10) (by decide +kernel) kX8 rfl dvX8 lcX9_9 hz dX9_init_26 ?_
  have hz := z_Z_m hz (show 70 ≤ 71 by decide)
  refine z_dup dX9_init_29 rfl ?_
  refine x_cIN (kc := 1) (ks := 10) (mc := 0) (ms := 0) (n' := 71) (av := []) (cX8_init_70 (by omega) hz) oX8_init rfl lnX9_17 iX8_init rfl rfl _ rfl rfl (Nat.le_of_ble_eq_true rfl) dX9_init_30 ?_
  refine x_aast (j := 6) (t := 1) (N := 8) (by decide +kernel) (show 63 < 71 by decide) (Or.inr ⟨rfl, by decide +kernel⟩) (show 70 < 71 by decide) (by unfold vp_in; decide) (by decide) dX9_init_33 ?_
  have hz := z_Z_v (a := 63) (k := 6) (v := 70) hz (by decide)
  refine z_iinc (v := (7 : Int32)) dX9_init_34 rfl (by decide) (by decide) ?_
  show z_W G _ _ _ _ _ [some (.ref 62), some (.int (7 : Int32))] _ _ _ _
  refine z_goto (tgt := 15) dX9_init_37 (by decide) ?_
  refine z_iload_n dX9_init_15 rfl rfl ?_
  refine z_bipush dX9_init_16 kb_8 ?_
  refine z_icmp_ge (tgt := 40) dX9_init_18 (by decide) (fun c => absurd c (by decide)) (fun _ => ?_)
  refine z_aload_n dX9_init_21 rfl rfl (by decide) ?_
  refine x_getR (v := 63) lfX9_11 rfl (by decide +kernel) (show 62 < 71 by decide) rfl dX9_init_22 ?_
  refine z_iload_n dX9_init_25 rfl rfl ?_
  refine x_new (kc := 0) (ks := 0) (n := 71) (ci := 8) (N := 10) (by decide +kernel) kX8 rfl dvX8 lcX9_9 hz dX9_init_26 ?_
  have hz := z_Z_m hz (show 71 ≤ 72 by decide)
  refine z_dup dX9_init_29 rfl ?_
  refine x_cIN (kc := 0) (ks := 0) (mc := 0) (ms := 0) (n' := 72) (av := []) (cX8_init_71 (by omega) hz) oX8_init rfl lnX9_17 iX8_init rfl rfl _ rfl rfl (Nat.le_of_ble_eq_true rfl) dX9_init_30 ?_
  refine x_aast (j := 7) (t := 1) (N := 8) (by decide +kernel) (show 63 < 72 by decide) (Or.inr ⟨rfl, by decide +kernel⟩) (show 71 < 72 by decide) (by unfold vp_in; decide) (by decide) dX9_init_33 ?_
  have hz := z_Z_v (a := 63) (k := 7) (v := 71) hz (by decide)
  refine z_iinc (v := (8 : Int32)) dX9_init_34 rfl (by decide) (by decide) ?_
  show z_W G _ _ _ _ _ [some (.ref 62), some (.int (8 : Int32))] _ _ _ _
  refine z_goto (tgt := 15) dX9_init_37 (by decide) ?_
  refine z_iload_n dX9_init_15 rfl rfl ?_
  refine z_bipush dX9_init_16 kb_8 ?_
  refine z_icmp_ge (tgt := 40) dX9_init_18 (by decide) (fun _ => ?_) (fun c => absurd (by decide) c)
  refine z_aload_n dX9_init_40 rfl rfl (by decide) ?_
  refine z_iconst dX9_init_41 kc_1 ?_
  refine x_putI lfX9_18 rfl (by decide +kernel) (show 62 < 72 by decide) (Or.inl rfl) rfl rfl dX9_init_42 ?_
  have hz := z_Z_u (a := 62) (k := 2) (v := (1 : Int32)) hz (by decide)
  exact z_vret ⟨rfl, rfl, rfl⟩ rfl dX9_init_45
set_option maxRecDepth 100000 in
theorem cX8_init_74 {G : z_G} {d : Nat} {I : Nat → Nat → Int32} {R : Nat → Nat → Nat} (hd : 1 ≤ d) (hz : z_Z 75 I R) : z_M G d 0 0 eX8_init [.ref 74] (z_T 75) (I, R) (z_EC 75 (I, R)) := by
  obtain ⟨d, rfl⟩ := z_pos (D := 0) hd
  refine z_M_of (by decide +kernel) (by intro v hv; simp at hv; try rcases hv with rfl | rfl | rfl; all_goals (try subst hv); all_goals rfl) (by decide) ?_
  show z_W G _ _ _ _ _ [some (.ref 74)] _ _ _ _
  refine z_aload_n dX8_init_0 rfl rfl (by decide) ?_
  refine z_oinit lmX8_1 z_oi (by decide) (Nat.le_of_ble_eq_true rfl) dX8_init_1 ?_
  exact z_vret ⟨rfl, rfl, rfl⟩ rfl dX8_init_4
set_option maxRecDepth 100000 in
theorem cX8_init_75 {G : z_G} {d : Nat} {I : Nat → Nat → Int32} {R : Nat → Nat → Nat} (hd : 1 ≤ d) (hz : z_Z 76 I R) : z_M G d 0 0 eX8_init [.ref 75] (z_T 76) (I, R) (z_EC 76 (I, R)) := by
  obtain ⟨d, rfl⟩ := z_pos (D := 0) hd
  refine z_M_of (by decide +kernel) (by intro v hv; simp at hv; try rcases hv with rfl | rfl | rfl; all_goals (try subst hv); all_goals rfl) (by decide) ?_
  show z_W G _ _ _ _ _ [some (.ref 75)] _ _ _ _
  refine z_aload_n dX8_init_0 rfl rfl (by decide) ?_
  refine z_oinit lmX8_1 z_oi (by decide) (Nat.le_of_ble_eq_true rfl) dX8_init_1 ?_
  exact z_vret ⟨rfl, rfl, rfl⟩ rfl dX8_init_4
set_option maxRecDepth 100000 in
theorem cX8_init_76 {G : z_G} {d : Nat} {I : Nat → Nat → Int32} {R : Nat → Nat → Nat} (hd : 1 ≤ d) (hz : z_Z 77 I R) : z_M G d 0 0 eX8_init [.ref 76] (z_T 77) (I, R) (z_EC 77 (I, R)) := by
  obtain ⟨d, rfl⟩ := z_pos (D := 0) hd
  refine z_M_of (by decide +kernel) (by intro v hv; simp at hv; try rcases hv with rfl | rfl | rfl; all_goals (try subst hv); all_goals rfl) (by decide) ?_
  show z_W G _ _ _ _ _ [some (.ref 76)] _ _ _ _
  refine z_aload_n dX8_init_0 rfl rfl (by decide) ?_
  refine z_oinit lmX8_1 z_oi (by decide) (Nat.le_of_ble_eq_true rfl) dX8_init_1 ?_
  exact z_vret ⟨rfl, rfl, rfl⟩ rfl dX8_init_4
set_option maxRecDepth 100000 in
theorem cX8_init_77 {G : z_G} {d : Nat} {I : Nat → Nat → Int32} {R : Nat → Nat → Nat} (hd : 1 ≤ d) (hz : z_Z 78 I R) : z_M G d 0 0 eX8_init [.ref 77] (z_T 78) (I, R) (z_EC 78 (I, R)) := by
  obtain ⟨d, rfl⟩ := z_pos (D := 0) hd
  refine z_M_of (by decide +kernel) (by intro v hv; simp at hv; try rcases hv with rfl | rfl | rfl; all_goals (try subst hv); all_goals rfl) (by decide) ?_
  show z_W G _ _ _ _ _ [some (.ref 77)] _ _ _ _
  refine z_aload_n dX8_init_0 rfl rfl (by decide) ?_
  refine z_oinit lmX8_1 z_oi (by decide) (Nat.le_of_ble_eq_true rfl) dX8_init_1 ?_
  exact z_vret ⟨rfl, rfl, rfl⟩ rfl dX8_init_4
set_option maxRecDepth 100000 in
theorem cX8_init_78 {G : z_G} {d : Nat} {I : Nat → Nat → Int32} {R : Nat → Nat → Nat} (hd : 1 ≤ d) (hz : z_Z 79 I R) : z_M G d 0 0 eX8_init [.ref 78] (z_T 79) (I, R) (z_EC 79 (I, R)) := by
  obtain ⟨d, rfl⟩ := z_pos (D := 0) hd
  refine z_M_of (by decide +kernel) (by intro v hv; simp at hv; try rcases hv with rfl | rfl | rfl; all_goals (try subst hv); all_goals rfl) (by decide) ?_
  show z_W G _ _ _ _ _ [some (.ref 78)] _ _ _ _
  refine z_aload_n dX8_init_0 rfl rfl (by decide) ?_
  refine z_oinit lmX8_1 z_oi (by decide) (Nat.le_of_ble_eq_true rfl) dX8_init_1 ?_
  exact z_vret ⟨rfl, rfl, rfl⟩ rfl dX8_init_4
set_option maxRecDepth 100000 in
theorem cX8_init_79 {G : z_G} {d : Nat} {I : Nat → Nat → Int32} {R : Nat → Nat → Nat} (hd : 1 ≤ d) (hz : z_Z 80 I R) : z_M G d 0 0 eX8_init [.ref 79] (z_T 80) (I, R) (z_EC 80 (I, R)) := by
  obtain ⟨d, rfl⟩ := z_pos (D := 0) hd
  refine z_M_of (by decide +kernel) (by intro v hv; simp at hv; try rcases hv with rfl | rfl | rfl; all_goals (try subst hv); all_goals rfl) (by decide) ?_
  show z_W G _ _ _ _ _ [some (.ref 79)] _ _ _ _
  refine z_aload_n dX8_init_0 rfl rfl (by decide) ?_
  refine z_oinit lmX8_1 z_oi (by decide) (Nat.le_of_ble_eq_true rfl) dX8_init_1 ?_
  exact z_vret ⟨rfl, rfl, rfl⟩ rfl dX8_init_4
set_option maxRecDepth 100000 in
theorem cX8_init_80 {G : z_G} {d : Nat} {I : Nat → Nat → Int32} {R : Nat → Nat → Nat} (hd : 1 ≤ d) (hz : z_Z 81 I R) : z_M G d 0 0 eX8_init [.ref 80] (z_T 81) (I, R) (z_EC 81 (I, R)) := by
  obtain ⟨d, rfl⟩ := z_pos (D := 0) hd
  refine z_M_of (by decide +kernel) (by intro v hv; simp at hv; try rcases hv with rfl | rfl | rfl; all_goals (try subst hv); all_goals rfl) (by decide) ?_
  show z_W G _ _ _ _ _ [some (.ref 80)] _ _ _ _
  refine z_aload_n dX8_init_0 rfl rfl (by decide) ?_
  refine z_oinit lmX8_1 z_oi (by decide) (Nat.le_of_ble_eq_true rfl) dX8_init_1 ?_
  exact z_vret ⟨rfl, rfl, rfl⟩ rfl dX8_init_4
set_option maxRecDepth 100000 in
theorem cX8_init_81 {G : z_G} {d : Nat} {I : Nat → Nat → Int32} {R : Nat → Nat → Nat} (hd : 1 ≤ d) (hz : z_Z 82 I R) : z_M G d 0 0 eX8_init [.ref 81] (z_T 82) (I, R) (z_EC 82 (I, R)) := by
  obtain ⟨d, rfl⟩ := z_pos (D := 0) hd
  refine z_M_of (by decide +kernel) (by intro v hv; simp at hv; try rcases hv with rfl | rfl | rfl; all_goals (try subst hv); all_goals rfl) (by decide) ?_
  show z_W G _ _ _ _ _ [some (.ref 81)] _ _ _ _
  refine z_aload_n dX8_init_0 rfl rfl (by decide) ?_
  refine z_oinit lmX8_1 z_oi (by decide) (Nat.le_of_ble_eq_true rfl) dX8_init_1 ?_
  exact z_vret ⟨rfl, rfl, rfl⟩ rfl dX8_init_4
set_option maxRecDepth 100000 in
theorem cX9_init_72 {G : z_G} {d : Nat} {I : Nat → Nat → Int32} {R : Nat → Nat → Nat} (hd : 2 ≤ d) (hz : z_Z 73 I R) : z_M G d 9 88 eX9_init [.ref 72] (z_T 73) (I, R) (z_EC 82 ((z_u I 72 2 (1 : Int32)), (z_v (z_v (z_v (z_v (z_v (z_v (z_v (z_v (z_v R 72 0 73) 73 0 74) 73 1 75) 73 2 76) 73 3 77) 73 4 78) 73 5 79) 73 6 80) 73 7 81))) := by
  obtain ⟨d, rfl⟩ := z_pos (D := 1) hd
  refine z_M_of (by decide +kernel) (by intro v hv; simp at hv; try rcases hv with rfl | rfl | rfl; all_goals (try subst hv); all_goals rfl) (by decide) ?_
  show z_W G _ _ _ _ _ [some (.ref 72), none] _ _ _ _
  refine z_aload_n dX9_init_0 rfl rfl (by decide) ?_
  refine z_oinit lmX9_3 z_oi (by decide) (Nat.le_of_ble_eq_true rfl) dX9_init_1 ?_
  refine z_aload_n dX9_init_4 rfl rfl (by decide) ?_
  refine z_bipush dX9_init_5 kb_8 ?_
  refine x_newQ (kc := 8) (ks := 80) (n := 73) (N := 8) (t := 1) (by decide +kernel) (Or.inr ⟨rfl, rfl⟩) hz (by decide) (by decide) rfl lcX9_9 dX9_init_7 ?_
  have hz := z_Z_m hz (show 73 ≤ 74 by decide)
  refine x_putR lfX9_11 rfl (by decide +kernel) (show 72 < 74 by decide) (Or.inr ⟨rfl, rfl, rfl⟩) dX9_init_10 ?_
  have hz := z_Z_v (a := 72) (k := 0) (v := 73) hz (by decide)
  refine z_iconst dX9_init_13 kc_0 ?_
  refine z_istore_n dX9_init_14 rfl (by decide) ?_
  show z_W G _ _ _ _ _ [some (.ref 72), some (.int (0 : Int32))] _ _ _ _
  refine z_iload_n dX9_init_15 rfl rfl ?_
  refine z_bipush dX9_init_16 kb_8 ?_
  refine z_icmp_ge (tgt := 40) dX9_init_18 (by decide) (fun c => absurd c (by decide)) (fun _ => ?_)
  refine z_aload_n dX9_init_21 rfl rfl (by decide) ?_
  refine x_getR (v := 73) lfX9_11 rfl (by decide +kernel) (show 72 < 74 by decide) rfl dX9_init_22 ?_
  refine z_iload_n dX9_init_25 rfl rfl ?_
  refine x_new (kc := 7) (ks := 70) (n := 74) (ci := 8) (N := 10) (by decide +kernel) kX8 rfl dvX8 lcX9_9 hz dX9_init_26 ?_
  have hz := z_Z_m hz (show 74 ≤ 75 by decide)
  refine z_dup dX9_init_29 rfl ?_
  refine x_cIN (kc := 7) (ks := 70) (mc := 0) (ms := 0) (n' := 75) (av := []) (cX8_init_74 (by omega) hz) oX8_init rfl lnX9_17 iX8_init rfl rfl _ rfl rfl (Nat.le_of_ble_eq_true rfl) dX9_init_30 ?_
  refine x_aast (j := 0) (t := 1) (N := 8) (by decide +kernel) (show 73 < 75 by decide) (Or.inr ⟨rfl, by decide +kernel⟩) (show 74 < 75 by decide) (by unfold vp_in; decide) (by decide) dX9_init_33 ?_
  have hz := z_Z_v (a := 73) (k := 0) (v := 74) hz (by decide)
  refine z_iinc (v := (1 : Int32)) dX9_init_34 rfl (by decide) (by decide) ?_
  show z_W G _ _ _ _ _ [some (.ref 72), some (.int (1 : Int32))] _ _ _ _
  refine z_goto (tgt := 15) dX9_init_37 (by decide) ?_
  refine z_iload_n dX9_init_15 rfl rfl ?_
  refine z_bipush dX9_init_16 kb_8 ?_
  refine z_icmp_ge (tgt := 40) dX9_init_18 (by decide) (fun c => absurd c (by decide)) (fun _ => ?_)
  refine z_aload_n dX9_init_21 rfl rfl (by decide) ?_
  refine x_getR (v := 73) lfX9_11 rfl (by decide +kernel) (show 72 < 75 by decide) rfl dX9_init_22 ?_
  refine z_iload_n dX9_init_25 rfl rfl ?_
  refine x_new (kc := 6) (ks := 60) (n := 75) (ci := 8) (N := 10) (by decide +kernel) kX8 rfl dvX8 lcX9_9 hz dX9_init_26 ?_
  have hz := z_Z_m hz (show 75 ≤ 76 by decide)
  refine z_dup dX9_init_29 rfl ?_
  refine x_cIN (kc := 6) (ks := 60) (mc := 0) (ms := 0) (n' := 76) (av := []) (cX8_init_75 (by omega) hz) oX8_init rfl lnX9_17 iX8_init rfl rfl _ rfl rfl (Nat.le_of_ble_eq_true rfl) dX9_init_30 ?_
  refine x_aast (j := 1) (t := 1) (N := 8) (by decide +kernel) (show 73 < 76 by decide) (Or.inr ⟨rfl, by decide +kernel⟩) (show 75 < 76 by decide) (by unfold vp_in; decide) (by decide) dX9_init_33 ?_
  have hz := z_Z_v (a := 73) (k := 1) (v := 75) hz (by decide)
  refine z_iinc (v := (2 : Int32)) dX9_init_34 rfl (by decide) (by decide) ?_
  show z_W G _ _ _ _ _ [some (.ref 72), some (.int (2 : Int32))] _ _ _ _
  refine z_goto (tgt := 15) dX9_init_37 (by decide) ?_
  refine z_iload_n dX9_init_15 rfl rfl ?_
  refine z_bipush dX9_init_16 kb_8 ?_
  refine z_icmp_ge (tgt := 40) dX9_init_18 (by decide) (fun c => absurd c (by decide)) (fun _ => ?_)
  refine z_aload_n dX9_init_21 rfl rfl (by decide) ?_
  refine x_getR (v := 73) lfX9_11 rfl (by decide +kernel) (show 72 < 76 by decide) rfl dX9_init_22 ?_
  refine z_iload_n dX9_init_25 rfl rfl ?_
  refine x_new (kc := 5) (ks := 50) (n := 76) (ci := 8) (N := 10) (by decide +kernel) kX8 rfl dvX8 lcX9_9 hz dX9_init_26 ?_
  have hz := z_Z_m hz (show 76 ≤ 77 by decide)
  refine z_dup dX9_init_29 rfl ?_
  refine x_cIN (kc := 5) (ks := 50) (mc := 0) (ms := 0) (n' := 77) (av := []) (cX8_init_76 (by omega) hz) oX8_init rfl lnX9_17 iX8_init rfl rfl _ rfl rfl (Nat.le_of_ble_eq_true rfl) dX9_init_30 ?_
  refine x_aast (j := 2) (t := 1) (N := 8) (by decide +kernel) (show 73 < 77 by decide) (Or.inr ⟨rfl, by decide +kernel⟩) (show 76 < 77 by decide) (by unfold vp_in; decide) (by decide) dX9_init_33 ?_
  have hz := z_Z_v (a := 73) (k := 2) (v := 76) hz (by decide)
  refine z_iinc (v := (3 : Int32)) dX9_init_34 rfl (by decide) (by decide) ?_
  show z_W G _ _ _ _ _ [some (.ref 72), some (.int (3 : Int32))] _ _ _ _
  refine z_goto (tgt := 15) dX9_init_37 (by decide) ?_
  refine z_iload_n dX9_init_15 rfl rfl ?_
  refine z_bipush dX9_init_16 kb_8 ?_
  refine z_icmp_ge (tgt := 40) dX9_init_18 (by decide) (fun c => absurd c (by decide)) (fun _ => ?_)
  refine z_aload_n dX9_init_21 rfl rfl (by decide) ?_
  refine x_getR (v := 73) lfX9_11 rfl (by decide +kernel) (show 72 < 77 by decide) rfl dX9_init_22 ?_
  refine z_iload_n dX9_init_25 rfl rfl ?_
  refine x_new (kc := 4) (ks := 40) (n := 77) (ci := 8) (N := 10) (by decide +kernel) kX8 rfl dvX8 lcX9_9 hz dX9_init_26 ?_
  have hz := z_Z_m hz (show 77 ≤ 78 by decide)
  refine z_dup dX9_init_29 rfl ?_
  refine x_cIN (kc := 4) (ks := 40) (mc := 0) (ms := 0) (n' := 78) (av := []) (cX8_init_77 (by omega) hz) oX8_init rfl lnX9_17 iX8_init rfl rfl _ rfl rfl (Nat.le_of_ble_eq_true rfl) dX9_init_30 ?_
  refine x_aast (j := 3) (t := 1) (N := 8) (by decide +kernel) (show 73 < 78 by decide) (Or.inr ⟨rfl, by decide +kernel⟩) (show 77 < 78 by decide) (by unfold vp_in; decide) (by decide) dX9_init_33 ?_
  have hz := z_Z_v (a := 73) (k := 3) (v := 77) hz (by decide)
  refine z_iinc (v := (4 : Int32)) dX9_init_34 rfl (by decide) (by decide) ?_
  show z_W G _ _ _ _ _ [some (.ref 72), some (.int (4 : Int32))] _ _ _ _
  refine z_goto (tgt := 15) dX9_init_37 (by decide) ?_
  refine z_iload_n dX9_init_15 rfl rfl ?_
  refine z_bipush dX9_init_16 kb_8 ?_
  refine z_icmp_ge (tgt := 40) dX9_init_18 (by decide) (fun c => absurd c (by decide)) (fun _ => ?_)
  refine z_aload_n dX9_init_21 rfl rfl (by decide) ?_
  refine x_getR (v := 73) lfX9_11 rfl (by decide +kernel) (show 72 < 78 by decide) rfl dX9_init_22 ?_
  refine z_iload_n dX9_init_25 rfl rfl ?_
  refine x_new (kc := 3) (ks := 30) (n := 78) (ci := 8) (N := 10) (by decide +kernel) kX8 rfl dvX8 lcX9_9 hz dX9_init_26 ?_
  have hz := z_Z_m hz (show 78 ≤ 79 by decide)
  refine z_dup dX9_init_29 rfl ?_
  refine x_cIN (kc := 3) (ks := 30) (mc := 0) (ms := 0) (n' := 79) (av := []) (cX8_init_78 (by omega) hz) oX8_init rfl lnX9_17 iX8_init rfl rfl _ rfl rfl (Nat.le_of_ble_eq_true rfl) dX9_init_30 ?_
  refine x_aast (j := 4) (t := 1) (N := 8) (by decide +kernel) (show 73 < 79 by decide) (Or.inr ⟨rfl, by decide +kernel⟩) (show 78 < 79 by decide) (by unfold vp_in; decide) (by decide) dX9_init_33 ?_
  have hz := z_Z_v (a := 73) (k := 4) (v := 78) hz (by decide)
  refine z_iinc (v := (5 : Int32)) dX9_init_34 rfl (by decide) (by decide) ?_
  show z_W G _ _ _ _ _ [some (.ref 72), some (.int (5 : Int32))] _ _ _ _
  refine z_goto (tgt := 15) dX9_init_37 (by decide) ?_
  refine z_iload_n dX9_init_15 rfl rfl ?_
  refine z_bipush dX9_init_16 kb_8 ?_
  refine z_icmp_ge (tgt := 40) dX9_init_18 (by decide) (fun c => absurd c (by decide)) (fun _ => ?_)
  refine z_aload_n dX9_init_21 rfl rfl (by decide) ?_
  refine x_getR (v := 73) lfX9_11 rfl (by decide +kernel) (show 72 < 79 by decide) rfl dX9_init_22 ?_
  refine z_iload_n dX9_init_25 rfl rfl ?_
  refine x_new (kc := 2) (ks := 20) (n := 79) (ci := 8) (N := 10) (by decide +kernel) kX8 rfl dvX8 lcX9_9 hz dX9_init_26 ?_
  have hz := z_Z_m hz (show 79 ≤ 80 by decide)
  refine z_dup dX9_init_29 rfl ?_
  refine x_cIN (kc := 2) (ks := 20) (mc := 0) (ms := 0) (n' := 80) (av := []) (cX8_init_79 (by omega) hz) oX8_init rfl lnX9_17 iX8_init rfl rfl _ rfl rfl (Nat.le_of_ble_eq_true rfl) dX9_init_30 ?_
  refine x_aast (j := 5) (t := 1) (N := 8) (by decide +kernel) (show 73 < 80 by decide) (Or.inr ⟨rfl, by decide +kernel⟩) (show 79 < 80 by decide) (by unfold vp_in; decide) (by decide) dX9_init_33 ?_
  have hz := z_Z_v (a := 73) (k := 5) (v := 79) hz (by decide)
  refine z_iinc (v := (6 : Int32)) dX9_init_34 rfl (by decide) (by decide) ?_
  show z_W G _ _ _ _ _ [some (.ref 72), some (.int (6 : Int32))] _ _ _ _
  refine z_goto (tgt := 15) dX9_init_37 (by decide) ?_
  refine z_iload_n dX9_init_15 rfl rfl ?_
  refine z_bipush dX9_init_16 kb_8 ?_
  refine z_icmp_ge (tgt := 40) dX9_init_18 (by decide) (fun c => absurd c (by decide)) (fun _ => ?_)
  refine z_aload_n dX9_init_21 rfl rfl (by decide) ?_
  refine x_getR (v := 73) lfX9_11 rfl (by decide +kernel) (show 72 < 80 by decide) rfl dX9_init_22 ?_
  refine z_iload_n dX9_init_25 rfl rfl ?_
  refine x_new (kc := 1) (ks := 10) (n := 80) (ci := 8) (N := 10) (by decide +kernel) kX8 rfl dvX8 lcX9_9 hz dX9_init_26 ?_
  have hz := z_Z_m hz (show 80 ≤ 81 by decide)
  refine z_dup dX9_init_29 rfl ?_
  refine x_cIN (kc := 1) (ks := 10) (mc := 0) (ms := 0) (n' := 81) (av := []) (cX8_init_80 (by omega) hz) oX8_init rfl lnX9_17 iX8_init rfl rfl _ rfl rfl (Nat.le_of_ble_eq_true rfl) dX9_init_30 ?_
  refine x_aast (j := 6) (t := 1) (N := 8) (by decide +kernel) (show 73 < 81 by decide) (Or.inr ⟨rfl, by decide +kernel⟩) (show 80 < 81 by decide) (by unfold vp_in; decide) (by decide) dX9_init_33 ?_
  have hz := z_Z_v (a := 73) (k := 6) (v := 80) hz (by decide)
  refine z_iinc (v := (7 : Int32)) dX9_init_34 rfl (by decide) (by decide) ?_
  show z_W G _ _ _ _ _ [some (.ref 72), some (.int (7 : Int32))] _ _ _ _
  refine z_goto (tgt := 15) dX9_init_37 (by decide) ?_
  refine z_iload_n dX9_init_15 rfl rfl ?_
  refine z_bipush dX9_init_16 kb_8 ?_
  refine z_icmp_ge (tgt := 40) dX9_init_18 (by decide) (fun c => absurd c (by decide)) (fun _ => ?_)
  refine z_aload_n dX9_init_21 rfl rfl (by decide) ?_
  refine x_getR (v := 73) lfX9_11 rfl (by decide +kernel) (show 72 < 81 by decide) rfl dX9_init_22 ?_
  refine z_iload_n dX9_init_25 rfl rfl ?_
  refine x_new (kc := 0) (ks := 0) (n := 81) (ci := 8) (N := 10) (by decide +kernel) kX8 rfl dvX8 lcX9_9 hz dX9_init_26 ?_
  have hz := z_Z_m hz (show 81 ≤ 82 by decide)
  refine z_dup dX9_init_29 rfl ?_
  refine x_cIN (kc := 0) (ks := 0) (mc := 0) (ms := 0) (n' := 82) (av := []) (cX8_init_81 (by omega) hz) oX8_init rfl lnX9_17 iX8_init rfl rfl _ rfl rfl (Nat.le_of_ble_eq_true rfl) dX9_init_30 ?_
  refine x_aast (j := 7) (t := 1) (N := 8) (by decide +kernel) (show 73 < 82 by decide) (Or.inr ⟨rfl, by decide +kernel⟩) (show 81 < 82 by decide) (by unfold vp_in; decide) (by decide) dX9_init_33 ?_
  have hz := z_Z_v (a := 73) (k := 7) (v := 81) hz (by decide)
  refine z_iinc (v := (8 : Int32)) dX9_init_34 rfl (by decide) (by decide) ?_
  show z_W G _ _ _ _ _ [some (.ref 72), some (.int (8 : Int32))] _ _ _ _
  refine z_goto (tgt := 15) dX9_init_37 (by decide) ?_
  refine z_iload_n dX9_init_15 rfl rfl ?_
  refine z_bipush dX9_init_16 kb_8 ?_
  refine z_icmp_ge (tgt := 40) dX9_init_18 (by decide) (fun _ => ?_) (fun c => absurd (by decide) c)
  refine z_aload_n dX9_init_40 rfl rfl (by decide) ?_
  refine z_iconst dX9_init_41 kc_1 ?_
  refine x_putI lfX9_18 rfl (by decide +kernel) (show 72 < 82 by decide) (Or.inl rfl) rfl rfl dX9_init_42 ?_
  have hz := z_Z_u (a := 72) (k := 2) (v := (1 : Int32)) hz (by decide)
  exact z_vret ⟨rfl, rfl, rfl⟩ rfl dX9_init_45
set_option maxRecDepth 100000 in
theorem cX8_init_84 {G : z_G} {d : Nat} {I : Nat → Nat → Int32} {R : Nat → Nat → Nat} (hd : 1 ≤ d) (hz : z_Z 85 I R) : z_M G d 0 0 eX8_init [.ref 84] (z_T 85) (I, R) (z_EC 85 (I, R)) := by
  obtain ⟨d, rfl⟩ := z_pos (D := 0) hd
  refine z_M_of (by decide +kernel) (by intro v hv; simp at hv; try rcases hv with rfl | rfl | rfl; all_goals (try subst hv); all_goals rfl) (by decide) ?_
  show z_W G _ _ _ _ _ [some (.ref 84)] _ _ _ _
  refine z_aload_n dX8_init_0 rfl rfl (by decide) ?_
  refine z_oinit lmX8_1 z_oi (by decide) (Nat.le_of_ble_eq_true rfl) dX8_init_1 ?_
  exact z_vret ⟨rfl, rfl, rfl⟩ rfl dX8_init_4
set_option maxRecDepth 100000 in
theorem cX8_init_85 {G : z_G} {d : Nat} {I : Nat → Nat → Int32} {R : Nat → Nat → Nat} (hd : 1 ≤ d) (hz : z_Z 86 I R) : z_M G d 0 0 eX8_init [.ref 85] (z_T 86) (I, R) (z_EC 86 (I, R)) := by
  obtain ⟨d, rfl⟩ := z_pos (D := 0) hd
  refine z_M_of (by decide +kernel) (by intro v hv; simp at hv; try rcases hv with rfl | rfl | rfl; all_goals (try subst hv); all_goals rfl) (by decide) ?_
  show z_W G _ _ _ _ _ [some (.ref 85)] _ _ _ _
  refine z_aload_n dX8_init_0 rfl rfl (by decide) ?_
  refine z_oinit lmX8_1 z_oi (by decide) (Nat.le_of_ble_eq_true rfl) dX8_init_1 ?_
  exact z_vret ⟨rfl, rfl, rfl⟩ rfl dX8_init_4
set_option maxRecDepth 100000 in
theorem cX8_init_86 {G : z_G} {d : Nat} {I : Nat → Nat → Int32} {R : Nat → Nat → Nat} (hd : 1 ≤ d) (hz : z_Z 87 I R) : z_M G d 0 0 eX8_init [.ref 86] (z_T 87) (I, R) (z_EC 87 (I, R)) := by
  obtain ⟨d, rfl⟩ := z_pos (D := 0) hd
  refine z_M_of (by decide +kernel) (by intro v hv; simp at hv; try rcases hv with rfl | rfl | rfl; all_goals (try subst hv); all_goals rfl) (by decide) ?_
  show z_W G _ _ _ _ _ [some (.ref 86)] _ _ _ _
  refine z_aload_n dX8_init_0 rfl rfl (by decide) ?_
  refine z_oinit lmX8_1 z_oi (by decide) (Nat.le_of_ble_eq_true rfl) dX8_init_1 ?_
  exact z_vret ⟨rfl, rfl, rfl⟩ rfl dX8_init_4
set_option maxRecDepth 100000 in
theorem cX8_init_87 {G : z_G} {d : Nat} {I : Nat → Nat → Int32} {R : Nat → Nat → Nat} (hd : 1 ≤ d) (hz : z_Z 88 I R) : z_M G d 0 0 eX8_init [.ref 87] (z_T 88) (I, R) (z_EC 88 (I, R)) := by
  obtain ⟨d, rfl⟩ := z_pos (D := 0) hd
  refine z_M_of (by decide +kernel) (by intro v hv; simp at hv; try rcases hv with rfl | rfl | rfl; all_goals (try subst hv); all_goals rfl) (by decide) ?_
  show z_W G _ _ _ _ _ [some (.ref 87)] _ _ _ _
  refine z_aload_n dX8_init_0 rfl rfl (by decide) ?_
  refine z_oinit lmX8_1 z_oi (by decide) (Nat.le_of_ble_eq_true rfl) dX8_init_1 ?_
  exact z_vret ⟨rfl, rfl, rfl⟩ rfl dX8_init_4
set_option maxRecDepth 100000 in
theorem cX8_init_88 {G : z_G} {d : Nat} {I : Nat → Nat → Int32} {R : Nat → Nat → Nat} (hd : 1 ≤ d) (hz : z_Z 89 I R) : z_M G d 0 0 eX8_init [.ref 88] (z_T 89) (I, R) (z_EC 89 (I, R)) := by
  obtain ⟨d, rfl⟩ := z_pos (D := 0) hd
  refine z_M_of (by decide +kernel) (by intro v hv; simp at hv; try rcases hv with rfl | rfl | rfl; all_goals (try subst hv); all_goals rfl) (by decide) ?_
  show z_W G _ _ _ _ _ [some (.ref 88)] _ _ _ _
  refine z_aload_n dX8_init_0 rfl rfl (by decide) ?_
  refine z_oinit lmX8_1 z_oi (by decide) (Nat.le_of_ble_eq_true rfl) dX8_init_1 ?_
  exact z_vret ⟨rfl, rfl, rfl⟩ rfl dX8_init_4
set_option maxRecDepth 100000 in
theorem cX8_init_89 {G : z_G} {d : Nat} {I : Nat → Nat → Int32} {R : Nat → Nat → Nat} (hd : 1 ≤ d) (hz : z_Z 90 I R) : z_M G d 0 0 eX8_init [.ref 89] (z_T 90) (I, R) (z_EC 90 (I, R)) := by
  obtain ⟨d, rfl⟩ := z_pos (D := 0) hd
  refine z_M_of (by decide +kernel) (by intro v hv; simp at hv; try rcases hv with rfl | rfl | rfl; all_goals (try subst hv); all_goals rfl) (by decide) ?_
  show z_W G _ _ _ _ _ [some (.ref 89)] _ _ _ _
  refine z_aload_n dX8_init_0 rfl rfl (by decide) ?_
  refine z_oinit lmX8_1 z_oi (by decide) (Nat.le_of_ble_eq_true rfl) dX8_init_1 ?_
  exact z_vret ⟨rfl, rfl, rfl⟩ rfl dX8_init_4
set_option maxRecDepth 100000 in
theorem cX8_init_90 {G : z_G} {d : Nat} {I : Nat → Nat → Int32} {R : Nat → Nat → Nat} (hd : 1 ≤ d) (hz : z_Z 91 I R) : z_M G d 0 0 eX8_init [.ref 90] (z_T 91) (I, R) (z_EC 91 (I, R)) := by
  obtain ⟨d, rfl⟩ := z_pos (D := 0) hd
  refine z_M_of (by decide +kernel) (by intro v hv; simp at hv; try rcases hv with rfl | rfl | rfl; all_goals (try subst hv); all_goals rfl) (by decide) ?_
  show z_W G _ _ _ _ _ [some (.ref 90)] _ _ _ _
  refine z_aload_n dX8_init_0 rfl rfl (by decide) ?_
  refine z_oinit lmX8_1 z_oi (by decide) (Nat.le_of_ble_eq_true rfl) dX8_init_1 ?_
  exact z_vret ⟨rfl, rfl, rfl⟩ rfl dX8_init_4
set_option maxRecDepth 100000 in
theorem cX8_init_91 {G : z_G} {d : Nat} {I : Nat → Nat → Int32} {R : Nat → Nat → Nat} (hd : 1 ≤ d) (hz : z_Z 92 I R) : z_M G d 0 0 eX8_init [.ref 91] (z_T 92) (I, R) (z_EC 92 (I, R)) := by
  obtain ⟨d, rfl⟩ := z_pos (D := 0) hd
  refine z_M_of (by decide +kernel) (by intro v hv; simp at hv; try rcases hv with rfl | rfl | rfl; all_goals (try subst hv); all_goals rfl) (by decide) ?_
  show z_W G _ _ _ _ _ [some (.ref 91)] _ _ _ _
  refine z_aload_n dX8_init_0 rfl rfl (by decide) ?_
  refine z_oinit lmX8_1 z_oi (by decide) (Nat.le_of_ble_eq_true rfl) dX8_init_1 ?_
  exact z_vret ⟨rfl, rfl, rfl⟩ rfl dX8_init_4
set_option maxRecDepth 100000 in
theorem cX9_init_82 {G : z_G} {d : Nat} {I : Nat → Nat → Int32} {R : Nat → Nat → Nat} (hd : 2 ≤ d) (hz : z_Z 83 I R) : z_M G d 9 88 eX9_init [.ref 82] (z_T 83) (I, R) (z_EC 92 ((z_u I 82 2 (1 : Int32)), (z_v (z_v (z_v (z_v (z_v (z_v (z_v (z_v (z_v R 82 0 83) 83 0 84) 83 1 85) 83 2 86) 83 3 87) 83 4 88) 83 5 89) 83 6 90) 83 7 91))) := by
  obtain ⟨d, rfl⟩ := z_pos (D := 1) hd
  refine z_M_of (by decide +kernel) (by intro v hv; simp at hv; try rcases hv with rfl | rfl | rfl; all_goals (try subst hv); all_goals rfl) (by decide) ?_
  show z_W G _ _ _ _ _ [some (.ref 82), none] _ _ _ _
  refine z_aload_n dX9_init_0 rfl rfl (by decide) ?_
  refine z_oinit lmX9_3 z_oi (by decide) (Nat.le_of_ble_eq_true rfl) dX9_init_1 ?_
  refine z_aload_n dX9_init_4 rfl rfl (by decide) ?_
  refine z_bipush dX9_init_5 kb_8 ?_
  refine x_newQ (kc := 8) (ks := 80) (n := 83) (N := 8) (t := 1) (by decide +kernel) (Or.inr ⟨rfl, rfl⟩) hz (by decide) (by decide) rfl lcX9_9 dX9_init_7 ?_
  have hz := z_Z_m hz (show 83 ≤ 84 by decide)
  refine x_putR lfX9_11 rfl (by decide +kernel) (show 82 < 84 by decide) (Or.inr ⟨rfl, rfl, rfl⟩) dX9_init_10 ?_
  have hz := z_Z_v (a := 82) (k := 0) (v := 83) hz (by decide)
  refine z_iconst dX9_init_13 kc_0 ?_
  refine z_istore_n dX9_init_14 rfl (by decide) ?_
  show z_W G _ _ _ _ _ [some (.ref 82), some (.int (0 : Int32))] _ _ _ _
  refine z_iload_n dX9_init_15 rfl rfl ?_
  refine z_bipush dX9_init_16 kb_8 ?_
  refine z_icmp_ge (tgt := 40) dX9_init_18 (by decide) (fun c => absurd c (by decide)) (fun _ => ?_)
  refine z_aload_n dX9_init_21 rfl rfl (by decide) ?_
  refine x_getR (v := 83) lfX9_11 rfl (by decide +kernel) (show 82 < 84 by decide) rfl dX9_init_22 ?_
  refine z_iload_n dX9_init_25 rfl rfl ?_
  refine x_new (kc := 7) (ks := 70) (n := 84) (ci := 8) (N := 10) (by decide +kernel) kX8 rfl dvX8 lcX9_9 hz dX9_init_26 ?_
  have hz := z_Z_m hz (show 84 ≤ 85 by decide)
  refine z_dup dX9_init_29 rfl ?_
  refine x_cIN (kc := 7) (ks := 70) (mc := 0) (ms := 0) (n' := 85) (av := []) (cX8_init_84 (by omega) hz) oX8_init rfl lnX9_17 iX8_init rfl rfl _ rfl rfl (Nat.le_of_ble_eq_true rfl) dX9_init_30 ?_
  refine x_aast (j := 0) (t := 1) (N := 8) (by decide +kernel) (show 83 < 85 by decide) (Or.inr ⟨rfl, by decide +kernel⟩) (show 84 < 85 by decide) (by unfold vp_in; decide) (by decide) dX9_init_33 ?_
  have hz := z_Z_v (a := 83) (k := 0) (v := 84) hz (by decide)
  refine z_iinc (v := (1 : Int32)) dX9_init_34 rfl (by decide) (by decide) ?_
  show z_W G _ _ _ _ _ [some (.ref 82), some (.int (1 : Int32))] _ _ _ _
  refine z_goto (tgt := 15) dX9_init_37 (by decide) ?_
  refine z_iload_n dX9_init_15 rfl rfl ?_
  refine z_bipush dX9_init_16 kb_8 ?_
  refine z_icmp_ge (tgt := 40) dX9_init_18 (by decide) (fun c => absurd c (by decide)) (fun _ => ?_)
  refine z_aload_n dX9_init_21 rfl rfl (by decide) ?_
  refine x_getR (v := 83) lfX9_11 rfl (by decide +kernel) (show 82 < 85 by decide) rfl dX9_init_22 ?_
  refine z_iload_n dX9_init_25 rfl rfl ?_
  refine x_new (kc := 6) (ks := 60) (n := 85) (ci := 8) (N := 10) (by decide +kernel) kX8 rfl dvX8 lcX9_9 hz dX9_init_26 ?_
  have hz := z_Z_m hz (show 85 ≤ 86 by decide)
  refine z_dup dX9_init_29 rfl ?_
  refine x_cIN (kc := 6) (ks := 60) (mc := 0) (ms := 0) (n' := 86) (av := []) (cX8_init_85 (by omega) hz) oX8_init rfl lnX9_17 iX8_init rfl rfl _ rfl rfl (Nat.le_of_ble_eq_true rfl) dX9_init_30 ?_
  refine x_aast (j := 1) (t := 1) (N := 8) (by decide +kernel) (show 83 < 86 by decide) (Or.inr ⟨rfl, by decide +kernel⟩) (show 85 < 86 by decide) (by unfold vp_in; decide) (by decide) dX9_init_33 ?_
  have hz := z_Z_v (a := 83) (k := 1) (v := 85) hz (by decide)
  refine z_iinc (v := (2 : Int32)) dX9_init_34 rfl (by decide) (by decide) ?_
  show z_W G _ _ _ _ _ [some (.ref 82), some (.int (2 : Int32))] _ _ _ _
  refine z_goto (tgt := 15) dX9_init_37 (by decide) ?_
  refine z_iload_n dX9_init_15 rfl rfl ?_
  refine z_bipush dX9_init_16 kb_8 ?_
  refine z_icmp_ge (tgt := 40) dX9_init_18 (by decide) (fun c => absurd c (by decide)) (fun _ => ?_)
  refine z_aload_n dX9_init_21 rfl rfl (by decide) ?_
  refine x_getR (v := 83) lfX9_11 rfl (by decide +kernel) (show 82 < 86 by decide) rfl dX9_init_22 ?_
  refine z_iload_n dX9_init_25 rfl rfl ?_
  refine x_new (kc := 5) (ks := 50) (n := 86) (ci := 8) (N := 10) (by decide +kernel) kX8 rfl dvX8 lcX9_9 hz dX9_init_26 ?_
  have hz := z_Z_m hz (show 86 ≤ 87 by decide)
  refine z_dup dX9_init_29 rfl ?_
  refine x_cIN (kc := 5) (ks := 50) (mc := 0) (ms := 0) (n' := 87) (av := []) (cX8_init_86 (by omega) hz) oX8_init rfl lnX9_17 iX8_init rfl rfl _ rfl rfl (Nat.le_of_ble_eq_true rfl) dX9_init_30 ?_
  refine x_aast (j := 2) (t := 1) (N := 8) (by decide +kernel) (show 83 < 87 by decide) (Or.inr ⟨rfl, by decide +kernel⟩) (show 86 < 87 by decide) (by unfold vp_in; decide) (by decide) dX9_init_33 ?_
  have hz := z_Z_v (a := 83) (k := 2) (v := 86) hz (by decide)
  refine z_iinc (v := (3 : Int32)) dX9_init_34 rfl (by decide) (by decide) ?_
  show z_W G _ _ _ _ _ [some (.ref 82), some (.int (3 : Int32))] _ _ _ _
  refine z_goto (tgt := 15) dX9_init_37 (by decide) ?_
  refine z_iload_n dX9_init_15 rfl rfl ?_
  refine z_bipush dX9_init_16 kb_8 ?_
  refine z_icmp_ge (tgt := 40) dX9_init_18 (by decide) (fun c => absurd c (by decide)) (fun _ => ?_)
  refine z_aload_n dX9_init_21 rfl rfl (by decide) ?_
  refine x_getR (v := 83) lfX9_11 rfl (by decide +kernel) (show 82 < 87 by decide) rfl dX9_init_22 ?_
  refine z_iload_n dX9_init_25 rfl rfl ?_
  refine x_new (kc := 4) (ks := 40) (n := 87) (ci := 8) (N := 10) (by decide +kernel) kX8 rfl dvX8 lcX9_9 hz dX9_init_26 ?_
  have hz := z_Z_m hz (show 87 ≤ 88 by decide)
  refine z_dup dX9_init_29 rfl ?_
  refine x_cIN (kc := 4) (ks := 40) (mc := 0) (ms := 0) (n' := 88) (av := []) (cX8_init_87 (by omega) hz) oX8_init rfl lnX9_17 iX8_init rfl rfl _ rfl rfl (Nat.le_of_ble_eq_true rfl) dX9_init_30 ?_
  refine x_aast (j := 3) (t := 1) (N := 8) (by decide +kernel) (show 83 < 88 by decide) (Or.inr ⟨rfl, by decide +kernel⟩) (show 87 < 88 by decide) (by unfold vp_in; decide) (by decide) dX9_init_33 ?_
  have hz := z_Z_v (a := 83) (k := 3) (v := 87) hz (by decide)
  refine z_iinc (v := (4 : Int32)) dX9_init_34 rfl (by decide) (by decide) ?_
  show z_W G _ _ _ _ _ [some (.ref 82), some (.int (4 : Int32))] _ _ _ _
  refine z_goto (tgt := 15) dX9_init_37 (by decide) ?_
  refine z_iload_n dX9_init_15 rfl rfl ?_
  refine z_bipush dX9_init_16 kb_8 ?_
  refine z_icmp_ge (tgt := 40) dX9_init_18 (by decide) (fun c => absurd c (by decide)) (fun _ => ?_)
  refine z_aload_n dX9_init_21 rfl rfl (by decide) ?_
  refine x_getR (v := 83) lfX9_11 rfl (by decide +kernel) (show 82 < 88 by decide) rfl dX9_init_22 ?_
  refine z_iload_n dX9_init_25 rfl rfl ?_
  refine x_new (kc := 3) (ks := 30) (n := 88) (ci := 8) (N := 10) (by decide +kernel) kX8 rfl dvX8 lcX9_9 hz dX9_init_26 ?_
  have hz := z_Z_m hz (show 88 ≤ 89 by decide)
  refine z_dup dX9_init_29 rfl ?_
  refine x_cIN (kc := 3) (ks := 30) (mc := 0) (ms := 0) (n' := 89) (av := []) (cX8_init_88 (by omega) hz) oX8_init rfl lnX9_17 iX8_init rfl rfl _ rfl rfl (Nat.le_of_ble_eq_true rfl) dX9_init_30 ?_
  refine x_aast (j := 4) (t := 1) (N := 8) (by decide +kernel) (show 83 < 89 by decide) (Or.inr ⟨rfl, by decide +kernel⟩) (show 88 < 89 by decide) (by unfold vp_in; decide) (by decide) dX9_init_33 ?_
  have hz := z_Z_v (a := 83) (k := 4) (v := 88) hz (by decide)
  refine z_iinc (v := (5 : Int32)) dX9_init_34 rfl (by decide) (by decide) ?_
  show z_W G _ _ _ _ _ [some (.ref 82), some (.int (5 : Int32))] _ _ _ _
  refine z_goto (tgt := 15) dX9_init_37 (by decide) ?_
  refine z_iload_n dX9_init_15 rfl rfl ?_
  refine z_bipush dX9_init_16 kb_8 ?_
  refine z_icmp_ge (tgt := 40) dX9_init_18 (by decide) (fun c => absurd c (by decide)) (fun _ => ?_)
  refine z_aload_n dX9_init_21 rfl rfl (by decide) ?_
  refine x_getR (v := 83) lfX9_11 rfl (by decide +kernel) (show 82 < 89 by decide) rfl dX9_init_22 ?_
  refine z_iload_n dX9_init_25 rfl rfl ?_
  refine x_new (kc := 2) (ks := 20) (n := 89) (ci := 8) (N := 10) (by decide +kernel) kX8 rfl dvX8 lcX9_9 hz dX9_init_26 ?_
  have hz := z_Z_m hz (show 89 ≤ 90 by decide)
  refine z_dup dX9_init_29 rfl ?_
  refine x_cIN (kc := 2) (ks := 20) (mc := 0) (ms := 0) (n' := 90) (av := []) (cX8_init_89 (by omega) hz) oX8_init rfl lnX9_17 iX8_init rfl rfl _ rfl rfl (Nat.le_of_ble_eq_true rfl) dX9_init_30 ?_
  refine x_aast (j := 5) (t := 1) (N := 8) (by decide +kernel) (show 83 < 90 by decide) (Or.inr ⟨rfl, by decide +kernel⟩) (show 89 < 90 by decide) (by unfold vp_in; decide) (by decide) dX9_init_33 ?_
  have hz := z_Z_v (a := 83) (k := 5) (v := 89) hz (by decide)
  refine z_iinc (v := (6 : Int32)) dX9_init_34 rfl (by decide) (by decide) ?_
  show z_W G _ _ _ _ _ [some (.ref 82), some (.int (6 : Int32))] _ _ _ _
  refine z_goto (tgt := 15) dX9_init_37 (by decide) ?_
  refine z_iload_n dX9_init_15 rfl rfl ?_
  refine z_bipush dX9_init_16 kb_8 ?_
  refine z_icmp_ge (tgt := 40) dX9_init_18 (by decide) (fun c => absurd c (by decide)) (fun _ => ?_)
  refine z_aload_n dX9_init_21 rfl rfl (by decide) ?_
  refine x_getR (v := 83) lfX9_11 rfl (by decide +kernel) (show 82 < 90 by decide) rfl dX9_init_22 ?_
  refine z_iload_n dX9_init_25 rfl rfl ?_
  refine x_new (kc := 1) (ks := 10) (n := 90) (ci := 8) (N := 10) (by decide +kernel) kX8 rfl dvX8 lcX9_9 hz dX9_init_26 ?_
  have hz := z_Z_m hz (show 90 ≤ 91 by decide)
  refine z_dup dX9_init_29 rfl ?_
  refine x_cIN (kc := 1) (ks := 10) (mc := 0) (ms := 0) (n' := 91) (av := []) (cX8_init_90 (by omega) hz) oX8_init rfl lnX9_17 iX8_init rfl rfl _ rfl rfl (Nat.le_of_ble_eq_true rfl) dX9_init_30 ?_
  refine x_aast (j := 6) (t := 1) (N := 8) (by decide +kernel) (show 83 < 91 by decide) (Or.inr ⟨rfl, by decide +kernel⟩) (show 90 < 91 by decide) (by unfold vp_in; decide) (by decide) dX9_init_33 ?_
  have hz := z_Z_v (a := 83) (k := 6) (v := 90) hz (by decide)
  refine z_iinc (v := (7 : Int32)) dX9_init_34 rfl (by decide) (by decide) ?_
  show z_W G _ _ _ _ _ [some (.ref 82), some (.int (7 : Int32))] _ _ _ _
  refine z_goto (tgt := 15) dX9_init_37 (by decide) ?_
  refine z_iload_n dX9_init_15 rfl rfl ?_
  refine z_bipush dX9_init_16 kb_8 ?_
  refine z_icmp_ge (tgt := 40) dX9_init_18 (by decide) (fun c => absurd c (by decide)) (fun _ => ?_)
  refine z_aload_n dX9_init_21 rfl rfl (by decide) ?_
  refine x_getR (v := 83) lfX9_11 rfl (by decide +kernel) (show 82 < 91 by decide) rfl dX9_init_22 ?_
  refine z_iload_n dX9_init_25 rfl rfl ?_
  refine x_new (kc := 0) (ks := 0) (n := 91) (ci := 8) (N := 10) (by decide +kernel) kX8 rfl dvX8 lcX9_9 hz dX9_init_26 ?_
  have hz := z_Z_m hz (show 91 ≤ 92 by decide)
  refine z_dup dX9_init_29 rfl ?_
  refine x_cIN (kc := 0) (ks := 0) (mc := 0) (ms := 0) (n' := 92) (av := []) (cX8_init_91 (by omega) hz) oX8_init rfl lnX9_17 iX8_init rfl rfl _ rfl rfl (Nat.le_of_ble_eq_true rfl) dX9_init_30 ?_
  refine x_aast (j := 7) (t := 1) (N := 8) (by decide +kernel) (show 83 < 92 by decide) (Or.inr ⟨rfl, by decide +kernel⟩) (show 91 < 92 by decide) (by unfold vp_in; decide) (by decide) dX9_init_33 ?_
  have hz := z_Z_v (a := 83) (k := 7) (v := 91) hz (by decide)
  refine z_iinc (v := (8 : Int32)) dX9_init_34 rfl (by decide) (by decide) ?_
  show z_W G _ _ _ _ _ [some (.ref 82), some (.int (8 : Int32))] _ _ _ _
  refine z_goto (tgt := 15) dX9_init_37 (by decide) ?_
  refine z_iload_n dX9_init_15 rfl rfl ?_
  refine z_bipush dX9_init_16 kb_8 ?_
  refine z_icmp_ge (tgt := 40) dX9_init_18 (by decide) (fun _ => ?_) (fun c => absurd (by decide) c)
  refine z_aload_n dX9_init_40 rfl rfl (by decide) ?_
  refine z_iconst dX9_init_41 kc_1 ?_
  refine x_putI lfX9_18 rfl (by decide +kernel) (show 82 < 92 by decide) (Or.inl rfl) rfl rfl dX9_init_42 ?_
  have hz := z_Z_u (a := 82) (k := 2) (v := (1 : Int32)) hz (by decide)
  exact z_vret ⟨rfl, rfl, rfl⟩ rfl dX9_init_45
set_option maxRecDepth 100000 in
theorem cX1_init_92 {G : z_G} {d : Nat} {I : Nat → Nat → Int32} {R : Nat → Nat → Nat} (hd : 1 ≤ d) (hz : z_Z 93 I R) : z_M G d 1 8 eX1_init [.ref 92] (z_T 93) (I, R) (z_EC 94 (I, (z_v R 92 0 93))) := by
  obtain ⟨d, rfl⟩ := z_pos (D := 0) hd
  refine z_M_of (by decide +kernel) (by intro v hv; simp at hv; try rcases hv with rfl | rfl | rfl; all_goals (try subst hv); all_goals rfl) (by decide) ?_
  show z_W G _ _ _ _ _ [some (.ref 92)] _ _ _ _
  refine z_aload_n dX1_init_0 rfl rfl (by decide) ?_
  refine z_oinit lmX1_3 z_oi (by decide) (Nat.le_of_ble_eq_true rfl) dX1_init_1 ?_
  refine z_aload_n dX1_init_4 rfl rfl (by decide) ?_
  refine z_bipush dX1_init_5 kb_8 ?_
  refine x_newI (kc := 0) (ks := 0) (n := 93) (N := 8) (by decide +kernel) hz (by decide) (by decide) rfl dX1_init_7 ?_
  have hz := z_Z_m hz (show 93 ≤ 94 by decide)
  refine x_putR lfX1_9 rfl (by decide +kernel) (show 92 < 94 by decide) (Or.inr ⟨rfl, rfl, rfl⟩) dX1_init_9 ?_
  have hz := z_Z_v (a := 92) (k := 0) (v := 93) hz (by decide)
  exact z_vret ⟨rfl, rfl, rfl⟩ rfl dX1_init_12
set_option maxRecDepth 100000 in
theorem cX11_init_94 {G : z_G} {d : Nat} {I : Nat → Nat → Int32} {R : Nat → Nat → Nat} (hd : 1 ≤ d) (hz : z_Z 95 I R) : z_M G d 2 120 eX11_init [.ref 94] (z_T 95) (I, R) (z_EC 97 (I, (z_v (z_v R 94 0 95) 94 1 96))) := by
  obtain ⟨d, rfl⟩ := z_pos (D := 0) hd
  refine z_M_of (by decide +kernel) (by intro v hv; simp at hv; try rcases hv with rfl | rfl | rfl; all_goals (try subst hv); all_goals rfl) (by decide) ?_
  show z_W G _ _ _ _ _ [some (.ref 94)] _ _ _ _
  refine z_aload_n dX11_init_0 rfl rfl (by decide) ?_
  refine z_oinit lmX11_1 z_oi (by decide) (Nat.le_of_ble_eq_true rfl) dX11_init_1 ?_
  refine z_aload_n dX11_init_4 rfl rfl (by decide) ?_
  refine z_bipush dX11_init_5 kb_60 ?_
  refine x_newI (kc := 1) (ks := 60) (n := 95) (N := 60) (by decide +kernel) hz (by decide) (by decide) rfl dX11_init_7 ?_
  have hz := z_Z_m hz (show 95 ≤ 96 by decide)
  refine x_putR lfX11_9 rfl (by decide +kernel) (show 94 < 96 by decide) (Or.inr ⟨rfl, rfl, rfl⟩) dX11_init_9 ?_
  have hz := z_Z_v (a := 94) (k := 0) (v := 95) hz (by decide)
  refine z_aload_n dX11_init_12 rfl rfl (by decide) ?_
  refine z_bipush dX11_init_13 kb_60 ?_
  refine x_newI (kc := 0) (ks := 0) (n := 96) (N := 60) (by decide +kernel) hz (by decide) (by decide) rfl dX11_init_15 ?_
  have hz := z_Z_m hz (show 96 ≤ 97 by decide)
  refine x_putR lfX11_15 rfl (by decide +kernel) (show 94 < 97 by decide) (Or.inr ⟨rfl, rfl, rfl⟩) dX11_init_17 ?_
  have hz := z_Z_v (a := 94) (k := 1) (v := 96) hz (by decide)
  exact z_vret ⟨rfl, rfl, rfl⟩ rfl dX11_init_20
set_option maxRecDepth 100000 in
theorem cX0_init_97 {G : z_G} {d : Nat} {I : Nat → Nat → Int32} {R : Nat → Nat → Nat} (hd : 1 ≤ d) (hz : z_Z 98 I R) : z_M G d 4 240 eX0_init [.ref 97] (z_T 98) (I, R) (z_EC 102 (I, (z_v (z_v (z_v (z_v R 97 0 98) 97 1 99) 97 2 100) 97 4 101))) := by
  obtain ⟨d, rfl⟩ := z_pos (D := 0) hd
  refine z_M_of (by decide +kernel) (by intro v hv; simp at hv; try rcases hv with rfl | rfl | rfl; all_goals (try subst hv); all_goals rfl) (by decide) ?_
  show z_W G _ _ _ _ _ [some (.ref 97)] _ _ _ _
  refine z_aload_n dX0_init_0 rfl rfl (by decide) ?_
  refine z_oinit lmX0_3 z_oi (by decide) (Nat.le_of_ble_eq_true rfl) dX0_init_1 ?_
  refine z_aload_n dX0_init_4 rfl rfl (by decide) ?_
  refine z_bipush dX0_init_5 kb_60 ?_
  refine x_newI (kc := 3) (ks := 180) (n := 98) (N := 60) (by decide +kernel) hz (by decide) (by decide) rfl dX0_init_7 ?_
  have hz := z_Z_m hz (show 98 ≤ 99 by decide)
  refine x_putR lfX0_11 rfl (by decide +kernel) (show 97 < 99 by decide) (Or.inr ⟨rfl, rfl, rfl⟩) dX0_init_9 ?_
  have hz := z_Z_v (a := 97) (k := 0) (v := 98) hz (by decide)
  refine z_aload_n dX0_init_12 rfl rfl (by decide) ?_
  refine z_bipush dX0_init_13 kb_60 ?_
  refine x_newI (kc := 2) (ks := 120) (n := 99) (N := 60) (by decide +kernel) hz (by decide) (by decide) rfl dX0_init_15 ?_
  have hz := z_Z_m hz (show 99 ≤ 100 by decide)
  refine x_putR lfX0_17 rfl (by decide +kernel) (show 97 < 100 by decide) (Or.inr ⟨rfl, rfl, rfl⟩) dX0_init_17 ?_
  have hz := z_Z_v (a := 97) (k := 1) (v := 99) hz (by decide)
  refine z_aload_n dX0_init_20 rfl rfl (by decide) ?_
  refine z_bipush dX0_init_21 kb_60 ?_
  refine x_newI (kc := 1) (ks := 60) (n := 100) (N := 60) (by decide +kernel) hz (by decide) (by decide) rfl dX0_init_23 ?_
  have hz := z_Z_m hz (show 100 ≤ 101 by decide)
  refine x_putR lfX0_20 rfl (by decide +kernel) (show 97 < 101 by decide) (Or.inr ⟨rfl, rfl, rfl⟩) dX0_init_25 ?_
  have hz := z_Z_v (a := 97) (k := 2) (v := 100) hz (by decide)
  refine z_aload_n dX0_init_28 rfl rfl (by decide) ?_
  refine z_bipush dX0_init_29 kb_60 ?_
  refine x_newI (kc := 0) (ks := 0) (n := 101) (N := 60) (by decide +kernel) hz (by decide) (by decide) rfl dX0_init_31 ?_
  have hz := z_Z_m hz (show 101 ≤ 102 by decide)
  refine x_putR lfX0_23 rfl (by decide +kernel) (show 97 < 102 by decide) (Or.inr ⟨rfl, rfl, rfl⟩) dX0_init_33 ?_
  have hz := z_Z_v (a := 97) (k := 4) (v := 101) hz (by decide)
  exact z_vret ⟨rfl, rfl, rfl⟩ rfl dX0_init_36
set_option maxRecDepth 100000 in
theorem cX12_init_0 {G : z_G} {d : Nat} {I : Nat → Nat → Int32} {R : Nat → Nat → Nat} (hd : 3 ≤ d) (hz : z_Z 1 I R) : z_M G d 101 3801 eX12_init [.ref 0] (z_T 1) (I, R) (z_EC 102 ((z_u (z_u (z_u (z_u (z_u I 3 4 (15 : Int32)) 3 5 (120 : Int32)) 62 2 (1 : Int32)) 72 2 (1 : Int32)) 82 2 (1 : Int32)), (z_v (z_v (z_v (z_v (z_v (z_v (z_v (z_v (z_v (z_v (z_v (z_v (z_v (z_v (z_v (z_v (z_v (z_v (z_v (z_v (z_v (z_v (z_v (z_v (z_v (z_v (z_v (z_v (z_v (z_v (z_v (z_v (z_v (z_v (z_v (z_v (z_v (z_v (z_v (z_v (z_v (z_v (z_v (z_v (z_v (z_v (z_v (z_v (z_v (z_v (z_v (z_v (z_v (z_v (z_v (z_v (z_v (z_v (z_v (z_v (z_v (z_v (z_v (z_v (z_v (z_v (z_v (z_v (z_v (z_v (z_v (z_v (z_v (z_v (z_v (z_v (z_v (z_v (z_v (z_v (z_v (z_v (z_v (z_v (z_v (z_v (z_v (z_v (z_v (z_v (z_v (z_v (z_v (z_v (z_v (z_v (z_v (z_v (z_v (z_v (z_v (z_v (z_v (z_v (z_v (z_v R 1 0 2) 0 0 1) 3 0 4) 5 0 6) 5 1 7) 5 2 8) 4 0 5) 9 0 10) 9 1 11) 9 2 12) 4 1 9) 13 0 14) 13 1 15) 13 2 16) 4 2 13) 17 0 18) 17 1 19) 17 2 20) 4 3 17) 21 0 22) 21 1 23) 21 2 24) 4 4 21) 25 0 26) 25 1 27) 25 2 28) 4 5 25) 29 0 30) 29 1 31) 29 2 32) 4 6 29) 33 0 34) 33 1 35) 33 2 36) 4 7 33) 37 0 38) 37 1 39) 37 2 40) 3 1 37) 41 0 42) 41 1 43) 41 3 44) 41 4 45) 41 5 46) 41 6 47) 41 8 48) 3 2 41) 49 0 50) 49 1 51) 49 3 52) 49 4 53) 49 5 54) 49 6 55) 49 8 56) 3 3 49) 0 1 3) 57 0 1) 57 1 37) 0 2 57) 58 0 1) 58 1 49) 0 3 58) 59 0 3) 59 1 60) 59 2 61) 0 4 59) 62 0 63) 63 0 64) 63 1 65) 63 2 66) 63 3 67) 63 4 68) 63 5 69) 63 6 70) 63 7 71) 0 5 62) 72 0 73) 73 0 74) 73 1 75) 73 2 76) 73 3 77) 73 4 78) 73 5 79) 73 6 80) 73 7 81) 0 6 72) 82 0 83) 83 0 84) 83 1 85) 83 2 86) 83 3 87) 83 4 88) 83 5 89) 83 6 90) 83 7 91) 0 7 82) 92 0 93) 0 9 92) 94 0 95) 94 1 96) 0 10 94) 97 0 98) 97 1 99) 97 2 100) 97 4 101) 0 11 97))) := by
  obtain ⟨d, rfl⟩ := z_pos (D := 2) hd
  refine z_M_of (by decide +kernel) (by intro v hv; simp at hv; try rcases hv with rfl | rfl | rfl; all_goals (try subst hv); all_goals rfl) (by decide) ?_
  show z_W G _ _ _ _ _ [some (.ref 0)] _ _ _ _
  refine z_aload_n dX12_init_0 rfl rfl (by decide) ?_
  refine z_oinit lmX12_1 z_oi (by decide) (Nat.le_of_ble_eq_true rfl) dX12_init_1 ?_
  refine z_aload_n dX12_init_4 rfl rfl (by decide) ?_
  refine x_new (kc := 100) (ks := 3796) (n := 1) (ci := 10) (N := 5) (by decide +kernel) kX10 rfl dvX10 lcX12_7 hz dX12_init_5 ?_
  have hz := z_Z_m hz (show 1 ≤ 2 by decide)
  refine z_dup dX12_init_8 rfl ?_
  refine x_cI (kc := 99) (ks := 3536) (mc := 1) (ms := 260) (n' := 3) (av := []) (cX10_init_1 (by omega) hz) oX10_init rfl lmX12_9 iX10_init rfl rfl _ rfl rfl (Nat.le_of_ble_eq_true rfl) dX12_init_9 ?_
  have hz := z_Z_m hz (show 2 ≤ 3 by decide)
  have hz := z_Z_v (a := 1) (k := 0) (v := 2) hz (by decide)
  refine x_putR lfX12_10 rfl (by decide +kernel) (show 0 < 3 by decide) (Or.inr ⟨rfl, rfl, rfl⟩) dX12_init_12 ?_
  have hz := z_Z_v (a := 0) (k := 0) (v := 1) hz (by decide)
  refine z_aload_n dX12_init_15 rfl rfl (by decide) ?_
  refine x_new (kc := 98) (ks := 3530) (n := 3) (ci := 7) (N := 6) (by decide +kernel) kX7 rfl dvX7 lcX12_16 hz dX12_init_16 ?_
  have hz := z_Z_m hz (show 3 ≤ 4 by decide)
  refine z_dup dX12_init_19 rfl ?_
  refine x_cI (kc := 45) (ks := 683) (mc := 53) (ms := 2847) (n' := 57) (av := []) (cX7_init_3 (by omega) hz) oX7_init rfl lmX12_18 iX7_init rfl rfl _ rfl rfl (Nat.le_of_ble_eq_true rfl) dX12_init_20 ?_
  have hz := z_Z_m hz (show 4 ≤ 57 by decide)
  have hz := z_Z_u (a := 3) (k := 4) (v := (15 : Int32)) hz (by decide)
  have hz := z_Z_u (a := 3) (k := 5) (v := (120 : Int32)) hz (by decide)
  have hz := z_Z_v (a := 3) (k := 0) (v := 4) hz (by decide)
  have hz := z_Z_v (a := 5) (k := 0) (v := 6) hz (by decide)
  have hz := z_Z_v (a := 5) (k := 1) (v := 7) hz (by decide)
  have hz := z_Z_v (a := 5) (k := 2) (v := 8) hz (by decide)
  have hz := z_Z_v (a := 4) (k := 0) (v := 5) hz (by decide)
  have hz := z_Z_v (a := 9) (k := 0) (v := 10) hz (by decide)
  have hz := z_Z_v (a := 9) (k := 1) (v := 11) hz (by decide)
  have hz := z_Z_v (a := 9) (k := 2) (v := 12) hz (by decide)
  have hz := z_Z_v (a := 4) (k := 1) (v := 9) hz (by decide)
  have hz := z_Z_v (a := 13) (k := 0) (v := 14) hz (by decide)
  have hz := z_Z_v (a := 13) (k := 1) (v := 15) hz (by decide)
  have hz := z_Z_v (a := 13) (k := 2) (v := 16) hz (by decide)
  have hz := z_Z_v (a := 4) (k := 2) (v := 13) hz (by decide)
  have hz := z_Z_v (a := 17) (k := 0) (v := 18) hz (by decide)
  have hz := z_Z_v (a := 17) (k := 1) (v := 19) hz (by decide)
  have hz := z_Z_v (a := 17) (k := 2) (v := 20) hz (by decide)
  have hz := z_Z_v (a := 4) (k := 3) (v := 17) hz (by decide)
  have hz := z_Z_v (a := 21) (k := 0) (v := 22) hz (by decide)
  have hz := z_Z_v (a := 21) (k := 1) (v := 23) hz (by decide)
  have hz := z_Z_v (a := 21) (k := 2) (v := 24) hz (by decide)
  have hz := z_Z_v (a := 4) (k := 4) (v := 21) hz (by decide)
  have hz := z_Z_v (a := 25) (k := 0) (v := 26) hz (by decide)
  have hz := z_Z_v (a := 25) (k := 1) (v := 27) hz (by decide)
  have hz := z_Z_v (a := 25) (k := 2) (v := 28) hz (by decide)
  have hz := z_Z_v (a := 4) (k := 5) (v := 25) hz (by decide)
  have hz := z_Z_v (a := 29) (k := 0) (v := 30) hz (by decide)
  have hz := z_Z_v (a := 29) (k := 1) (v := 31) hz (by decide)
  have hz := z_Z_v (a := 29) (k := 2) (v := 32) hz (by decide)
  have hz := z_Z_v (a := 4) (k := 6) (v := 29) hz (by decide)
  have hz := z_Z_v (a := 33) (k := 0) (v := 34) hz (by decide)
  have hz := z_Z_v (a := 33) (k := 1) (v := 35) hz (by decide)
  have hz := z_Z_v (a := 33) (k := 2) (v := 36) hz (by decide)
  have hz := z_Z_v (a := 4) (k := 7) (v := 33) hz (by decide)
  have hz := z_Z_v (a := 37) (k := 0) (v := 38) hz (by decide)
  have hz := z_Z_v (a := 37) (k := 1) (v := 39) hz (by decide)
  have hz := z_Z_v (a := 37) (k := 2) (v := 40) hz (by decide)
  have hz := z_Z_v (a := 3) (k := 1) (v := 37) hz (by decide)
  have hz := z_Z_v (a := 41) (k := 0) (v := 42) hz (by decide)
  have hz := z_Z_v (a := 41) (k := 1) (v := 43) hz (by decide)
  have hz := z_Z_v (a := 41) (k := 3) (v := 44) hz (by decide)
  have hz := z_Z_v (a := 41) (k := 4) (v := 45) hz (by decide)
  have hz := z_Z_v (a := 41) (k := 5) (v := 46) hz (by decide)
  have hz := z_Z_v (a := 41) (k := 6) (v := 47) hz (by decide)
  have hz := z_Z_v (a := 41) (k := 8) (v := 48) hz (by decide)
  have hz := z_Z_v (a := 3) (k := 2) (v := 41) hz (by decide)
  have hz := z_Z_v (a := 49) (k := 0) (v := 50) hz (by decide)
  have hz := z_Z_v (a := 49) (k := 1) (v := 51) hz (by decide)
  have hz := z_Z_v (a := 49) (k := 3) (v := 52) hz (by decide)
  have hz := z_Z_v (a := 49) (k := 4) (v := 53) hz (by decide)
  have hz := z_Z_v (a := 49) (k := 5) (v := 54) hz (by decide)
  have hz := z_Z_v (a := 49) (k := 6) (v := 55) hz (by decide)
  have hz := z_Z_v (a := 49) (k := 8) (v := 56) hz (by decide)
  have hz := z_Z_v (a := 3) (k := 3) (v := 49) hz (by decide)
  refine x_putR lfX12_19 rfl (by decide +kernel) (show 0 < 57 by decide) (Or.inr ⟨rfl, rfl, rfl⟩) dX12_init_23 ?_
  have hz := z_Z_v (a := 0) (k := 1) (v := 3) hz (by decide)
  refine z_aload_n dX12_init_26 rfl rfl (by decide) ?_
  refine x_new (kc := 44) (ks := 681) (n := 57) (ci := 6) (N := 2) (by decide +kernel) kX6 rfl dvX6 lcX12_23 hz dX12_init_27 ?_
  have hz := z_Z_m hz (show 57 ≤ 58 by decide)
  refine z_dup dX12_init_30 rfl ?_
  refine z_aload_n dX12_init_31 rfl rfl (by decide) ?_
  refine x_getR (v := 1) lfX12_10 rfl (by decide +kernel) (show 0 < 58 by decide) rfl dX12_init_32 ?_
  refine z_aload_n dX12_init_35 rfl rfl (by decide) ?_
  refine x_getR (v := 3) lfX12_19 rfl (by decide +kernel) (show 0 < 58 by decide) rfl dX12_init_36 ?_
  refine x_getR (v := 37) lfX12_25 rfl (by decide +kernel) (show 3 < 58 by decide) rfl dX12_init_39 ?_
  refine x_cI (kc := 44) (ks := 681) (mc := 0) (ms := 0) (n' := 58) (av := [.ref 1, .ref 37]) (cX6_init_57 (by omega) hz) oX6_init rfl lmX12_29 iX6_init rfl rfl _ rfl rfl (Nat.le_of_ble_eq_true rfl) dX12_init_42 ?_
  have hz := z_Z_v (a := 57) (k := 0) (v := 1) hz (by decide)
  have hz := z_Z_v (a := 57) (k := 1) (v := 37) hz (by decide)
  refine x_putR lfX12_32 rfl (by decide +kernel) (show 0 < 58 by decide) (Or.inr ⟨rfl, rfl, rfl⟩) dX12_init_45 ?_
  have hz := z_Z_v (a := 0) (k := 2) (v := 57) hz (by decide)
  refine z_aload_n dX12_init_48 rfl rfl (by decide) ?_
  refine x_new (kc := 43) (ks := 679) (n := 58) (ci := 4) (N := 2) (by decide +kernel) kX4 rfl dvX4 lcX12_36 hz dX12_init_49 ?_
  have hz := z_Z_m hz (show 58 ≤ 59 by decide)
  refine z_dup dX12_init_52 rfl ?_
  refine z_aload_n dX12_init_53 rfl rfl (by decide) ?_
  refine x_getR (v := 1) lfX12_10 rfl (by decide +kernel) (show 0 < 59 by decide) rfl dX12_init_54 ?_
  refine z_aload_n dX12_init_57 rfl rfl (by decide) ?_
  refine x_getR (v := 3) lfX12_19 rfl (by decide +kernel) (show 0 < 59 by decide) rfl dX12_init_58 ?_
  refine x_getR (v := 49) lfX12_38 rfl (by decide +kernel) (show 3 < 59 by decide) rfl dX12_init_61 ?_
  refine x_cI (kc := 43) (ks := 679) (mc := 0) (ms := 0) (n' := 59) (av := [.ref 1, .ref 49]) (cX4_init_58 (by omega) hz) oX4_init rfl lmX12_42 iX4_init rfl rfl _ rfl rfl (Nat.le_of_ble_eq_true rfl) dX12_init_64 ?_
  have hz := z_Z_v (a := 58) (k := 0) (v := 1) hz (by decide)
  have hz := z_Z_v (a := 58) (k := 1) (v := 49) hz (by decide)
  refine x_putR lfX12_45 rfl (by decide +kernel) (show 0 < 59 by decide) (Or.inr ⟨rfl, rfl, rfl⟩) dX12_init_67 ?_
  have hz := z_Z_v (a := 0) (k := 3) (v := 58) hz (by decide)
  refine z_aload_n dX12_init_70 rfl rfl (by decide) ?_
  refine x_new (kc := 42) (ks := 673) (n := 59) (ci := 2) (N := 6) (by decide +kernel) kX2 rfl dvX2 lcX12_49 hz dX12_init_71 ?_
  have hz := z_Z_m hz (show 59 ≤ 60 by decide)
  refine z_dup dX12_init_74 rfl ?_
  refine z_aload_n dX12_init_75 rfl rfl (by decide) ?_
  refine x_getR (v := 3) lfX12_19 rfl (by decide +kernel) (show 0 < 60 by decide) rfl dX12_init_76 ?_
  refine x_cI (kc := 40) (ks := 657) (mc := 2) (ms := 16) (n' := 62) (av := [.ref 3]) (cX2_init_59 (by omega) hz) oX2_init rfl lmX12_51 iX2_init rfl rfl _ rfl rfl (Nat.le_of_ble_eq_true rfl) dX12_init_79 ?_
  have hz := z_Z_m hz (show 60 ≤ 62 by decide)
  have hz := z_Z_v (a := 59) (k := 0) (v := 3) hz (by decide)
  have hz := z_Z_v (a := 59) (k := 1) (v := 60) hz (by decide)
  have hz := z_Z_v (a := 59) (k := 2) (v := 61) hz (by decide)
  refine x_putR lfX12_54 rfl (by decide +kernel) (show 0 < 62 by decide) (Or.inr ⟨rfl, rfl, rfl⟩) dX12_init_82 ?_
  have hz := z_Z_v (a := 0) (k := 4) (v := 59) hz (by decide)
  refine z_aload_n dX12_init_85 rfl rfl (by decide) ?_
  refine x_new (kc := 39) (ks := 654) (n := 62) (ci := 9) (N := 3) (by decide +kernel) kX9 rfl dvX9 lcX12_58 hz dX12_init_86 ?_
  have hz := z_Z_m hz (show 62 ≤ 63 by decide)
  refine z_dup dX12_init_89 rfl ?_
  refine x_cI (kc := 30) (ks := 566) (mc := 9) (ms := 88) (n' := 72) (av := []) (cX9_init_62 (by omega) hz) oX9_init rfl lmX12_60 iX9_init rfl rfl _ rfl rfl (Nat.le_of_ble_eq_true rfl) dX12_init_90 ?_
  have hz := z_Z_m hz (show 63 ≤ 72 by decide)
  have hz := z_Z_u (a := 62) (k := 2) (v := (1 : Int32)) hz (by decide)
  have hz := z_Z_v (a := 62) (k := 0) (v := 63) hz (by decide)
  have hz := z_Z_v (a := 63) (k := 0) (v := 64) hz (by decide)
  have hz := z_Z_v (a := 63) (k := 1) (v := 65) hz (by decide)
  have hz := z_Z_v (a := 63) (k := 2) (v := 66) hz (by decide)
  have hz := z_Z_v (a := 63) (k := 3) (v := 67) hz (by decide)
  have hz := z_Z_v (a := 63) (k := 4) (v := 68) hz (by decide)
  have hz := z_Z_v (a := 63) (k := 5) (v := 69) hz (by decide)
  have hz := z_Z_v (a := 63) (k := 6) (v := 70) hz (by decide)
  have hz := z_Z_v (a := 63) (k := 7) (v := 71) hz (by decide)
  refine x_putR lfX12_61 rfl (by decide +kernel) (show 0 < 72 by decide) (Or.inr ⟨rfl, rfl, rfl⟩) dX12_init_93 ?_
  have hz := z_Z_v (a := 0) (k := 5) (v := 62) hz (by decide)
  refine z_aload_n dX12_init_96 rfl rfl (by decide) ?_
  refine x_new (kc := 29) (ks := 563) (n := 72) (ci := 9) (N := 3) (by decide +kernel) kX9 rfl dvX9 lcX12_58 hz dX12_init_97 ?_
  have hz := z_Z_m hz (show 72 ≤ 73 by decide)
  refine z_dup dX12_init_100 rfl ?_
  refine x_cI (kc := 20) (ks := 475) (mc := 9) (ms := 88) (n' := 82) (av := []) (cX9_init_72 (by omega) hz) oX9_init rfl lmX12_60 iX9_init rfl rfl _ rfl rfl (Nat.le_of_ble_eq_true rfl) dX12_init_101 ?_
  have hz := z_Z_m hz (show 73 ≤ 82 by decide)
  have hz := z_Z_u (a := 72) (k := 2) (v := (1 : Int32)) hz (by decide)
  have hz := z_Z_v (a := 72) (k := 0) (v := 73) hz (by decide)
  have hz := z_Z_v (a := 73) (k := 0) (v := 74) hz (by decide)
  have hz := z_Z_v (a := 73) (k := 1) (v := 75) hz (by decide)
  have hz := z_Z_v (a := 73) (k := 2) (v := 76) hz (by decide)
  have hz := z_Z_v (a := 73) (k := 3) (v := 77) hz (by decide)
  have hz := z_Z_v (a := 73) (k := 4) (v := 78) hz (by decide)
  have hz := z_Z_v (a := 73) (k := 5) (v := 79) hz (by decide)
  have hz := z_Z_v (a := 73) (k := 6) (v := 80) hz (by decide)
  have hz := z_Z_v (a := 73) (k := 7) (v := 81) hz (by decide)
  refine x_putR lfX12_65 rfl (by decide +kernel) (show 0 < 82 by decide) (Or.inr ⟨rfl, rfl, rfl⟩) dX12_init_104 ?_
  have hz := z_Z_v (a := 0) (k := 6) (v := 72) hz (by decide)
  refine z_aload_n dX12_init_107 rfl rfl (by decide) ?_
  refine x_new (kc := 19) (ks := 472) (n := 82) (ci := 9) (N := 3) (by decide +kernel) kX9 rfl dvX9 lcX12_58 hz dX12_init_108 ?_
  have hz := z_Z_m hz (show 82 ≤ 83 by decide)
  refine z_dup dX12_init_111 rfl ?_
  refine x_cI (kc := 10) (ks := 384) (mc := 9) (ms := 88) (n' := 92) (av := []) (cX9_init_82 (by omega) hz) oX9_init rfl lmX12_60 iX9_init rfl rfl _ rfl rfl (Nat.le_of_ble_eq_true rfl) dX12_init_112 ?_
  have hz := z_Z_m hz (show 83 ≤ 92 by decide)
  have hz := z_Z_u (a := 82) (k := 2) (v := (1 : Int32)) hz (by decide)
  have hz := z_Z_v (a := 82) (k := 0) (v := 83) hz (by decide)
  have hz := z_Z_v (a := 83) (k := 0) (v := 84) hz (by decide)
  have hz := z_Z_v (a := 83) (k := 1) (v := 85) hz (by decide)
  have hz := z_Z_v (a := 83) (k := 2) (v := 86) hz (by decide)
  have hz := z_Z_v (a := 83) (k := 3) (v := 87) hz (by decide)
  have hz := z_Z_v (a := 83) (k := 4) (v := 88) hz (by decide)
  have hz := z_Z_v (a := 83) (k := 5) (v := 89) hz (by decide)
  have hz := z_Z_v (a := 83) (k := 6) (v := 90) hz (by decide)
  have hz := z_Z_v (a := 83) (k := 7) (v := 91) hz (by decide)
  refine x_putR lfX12_68 rfl (by decide +kernel) (show 0 < 92 by decide) (Or.inr ⟨rfl, rfl, rfl⟩) dX12_init_115 ?_
  have hz := z_Z_v (a := 0) (k := 7) (v := 82) hz (by decide)
  refine z_aload_n dX12_init_118 rfl rfl (by decide) ?_
  refine x_new (kc := 9) (ks := 382) (n := 92) (ci := 1) (N := 2) (by decide +kernel) kX1 rfl dvX1 lcX12_71 hz dX12_init_119 ?_
  have hz := z_Z_m hz (show 92 ≤ 93 by decide)
  refine z_dup dX12_init_122 rfl ?_
  refine x_cI (kc := 8) (ks := 374) (mc := 1) (ms := 8) (n' := 94) (av := []) (cX1_init_92 (by omega) hz) oX1_init rfl lmX12_73 iX1_init rfl rfl _ rfl rfl (Nat.le_of_ble_eq_true rfl) dX12_init_123 ?_
  have hz := z_Z_m hz (show 93 ≤ 94 by decide)
  have hz := z_Z_v (a := 92) (k := 0) (v := 93) hz (by decide)
  refine x_putR lfX12_74 rfl (by decide +kernel) (show 0 < 94 by decide) (Or.inr ⟨rfl, rfl, rfl⟩) dX12_init_126 ?_
  have hz := z_Z_v (a := 0) (k := 9) (v := 92) hz (by decide)
  refine z_aload_n dX12_init_129 rfl rfl (by decide) ?_
  refine x_new (kc := 7) (ks := 366) (n := 94) (ci := 11) (N := 8) (by decide +kernel) kX11 rfl dvX11 lcX12_78 hz dX12_init_130 ?_
  have hz := z_Z_m hz (show 94 ≤ 95 by decide)
  refine z_dup dX12_init_133 rfl ?_
  refine x_cI (kc := 5) (ks := 246) (mc := 2) (ms := 120) (n' := 97) (av := []) (cX11_init_94 (by omega) hz) oX11_init rfl lmX12_80 iX11_init rfl rfl _ rfl rfl (Nat.le_of_ble_eq_true rfl) dX12_init_134 ?_
  have hz := z_Z_m hz (show 95 ≤ 97 by decide)
  have hz := z_Z_v (a := 94) (k := 0) (v := 95) hz (by decide)
  have hz := z_Z_v (a := 94) (k := 1) (v := 96) hz (by decide)
  refine x_putR lfX12_81 rfl (by decide +kernel) (show 0 < 97 by decide) (Or.inr ⟨rfl, rfl, rfl⟩) dX12_init_137 ?_
  have hz := z_Z_v (a := 0) (k := 10) (v := 94) hz (by decide)
  refine z_aload_n dX12_init_140 rfl rfl (by decide) ?_
  refine x_new (kc := 4) (ks := 240) (n := 97) (ci := 0) (N := 6) (by decide +kernel) kX0 rfl dvX0 lcX12_85 hz dX12_init_141 ?_
  have hz := z_Z_m hz (show 97 ≤ 98 by decide)
  refine z_dup dX12_init_144 rfl ?_
  refine x_cI (kc := 0) (ks := 0) (mc := 4) (ms := 240) (n' := 102) (av := []) (cX0_init_97 (by omega) hz) oX0_init rfl lmX12_87 iX0_init rfl rfl _ rfl rfl (Nat.le_of_ble_eq_true rfl) dX12_init_145 ?_
  have hz := z_Z_m hz (show 98 ≤ 102 by decide)
  have hz := z_Z_v (a := 97) (k := 0) (v := 98) hz (by decide)
  have hz := z_Z_v (a := 97) (k := 1) (v := 99) hz (by decide)
  have hz := z_Z_v (a := 97) (k := 2) (v := 100) hz (by decide)
  have hz := z_Z_v (a := 97) (k := 4) (v := 101) hz (by decide)
  refine x_putR lfX12_88 rfl (by decide +kernel) (show 0 < 102 by decide) (Or.inr ⟨rfl, rfl, rfl⟩) dX12_init_148 ?_
  have hz := z_Z_v (a := 0) (k := 11) (v := 97) hz (by decide)
  exact z_vret ⟨rfl, rfl, rfl⟩ rfl dX12_init_151
set_option maxRecDepth 100000 in
theorem cX13_init_102 {G : z_G} {d : Nat} {I : Nat → Nat → Int32} {R : Nat → Nat → Nat} (hd : 1 ≤ d) (hz : z_Z 103 I R) : z_M G d 32 4043 eX13_init [.ref 102] (z_T 103) (I, R) (z_EC 135 ((z_u (z_u (z_u I 103 81 (1 : Int32)) 102 3 (15 : Int32)) 102 4 (120 : Int32)), (z_v (z_v (z_v (z_v (z_v (z_v (z_v (z_v (z_v (z_v (z_v (z_v (z_v (z_v (z_v (z_v (z_v (z_v (z_v (z_v (z_v (z_v (z_v (z_v (z_v (z_v (z_v (z_v (z_v (z_v (z_v (z_v R 102 0 103) 102 1 104) 102 2 105) 102 5 106) 102 6 107) 102 7 108) 102 8 109) 102 9 110) 102 10 111) 102 21 112) 102 22 113) 102 23 114) 102 24 115) 102 25 116) 102 26 117) 102 27 118) 102 28 119) 102 29 120) 102 30 121) 102 31 122) 102 32 123) 102 33 124) 102 34 125) 102 35 126) 102 36 127) 102 37 128) 102 38 129) 102 39 130) 102 42 131) 102 52 132) 102 53 133) 102 56 134))) := by
  obtain ⟨d, rfl⟩ := z_pos (D := 0) hd
  refine z_M_of (by decide +kernel) (by intro v hv; simp at hv; try rcases hv with rfl | rfl | rfl; all_goals (try subst hv); all_goals rfl) (by decide) ?_
  show z_W G _ _ _ _ _ [some (.ref 102)] _ _ _ _
  refine z_aload_n dX13_init_0 rfl rfl (by decide) ?_
  refine z_oinit lmX13_1 z_oi (by decide) (Nat.le_of_ble_eq_true rfl) dX13_init_1 ?_
  refine z_aload_n dX13_init_4 rfl rfl (by decide) ?_
  refine z_bipush dX13_init_5 kb_82 ?_
  refine x_newI (kc := 31) (ks := 3961) (n := 103) (N := 82) (by decide +kernel) hz (by decide) (by decide) rfl dX13_init_7 ?_
  have hz := z_Z_m hz (show 103 ≤ 104 by decide)
  refine x_putR lfX13_7 rfl (by decide +kernel) (show 102 < 104 by decide) (Or.inr ⟨rfl, rfl, rfl⟩) dX13_init_9 ?_
  have hz := z_Z_v (a := 102) (k := 0) (v := 103) hz (by decide)
  refine z_aload_n dX13_init_12 rfl rfl (by decide) ?_
  refine z_bipush dX13_init_13 kb_82 ?_
  refine x_newI (kc := 30) (ks := 3879) (n := 104) (N := 82) (by decide +kernel) hz (by decide) (by decide) rfl dX13_init_15 ?_
  have hz := z_Z_m hz (show 104 ≤ 105 by decide)
  refine x_putR lfX13_13 rfl (by decide +kernel) (show 102 < 105 by decide) (Or.inr ⟨rfl, rfl, rfl⟩) dX13_init_17 ?_
  have hz := z_Z_v (a := 102) (k := 1) (v := 104) hz (by decide)
  refine z_aload_n dX13_init_20 rfl rfl (by decide) ?_
  refine z_bipush dX13_init_21 kb_82 ?_
  refine x_newI (kc := 29) (ks := 3797) (n := 105) (N := 82) (by decide +kernel) hz (by decide) (by decide) rfl dX13_init_23 ?_
  have hz := z_Z_m hz (show 105 ≤ 106 by decide)
  refine x_putR lfX13_16 rfl (by decide +kernel) (show 102 < 106 by decide) (Or.inr ⟨rfl, rfl, rfl⟩) dX13_init_25 ?_
  have hz := z_Z_v (a := 102) (k := 2) (v := 105) hz (by decide)
  refine z_aload_n dX13_init_28 rfl rfl (by decide) ?_
  refine z_sipush dX13_init_29 ks_480 ?_
  refine x_newI (kc := 28) (ks := 3317) (n := 106) (N := 480) (by decide +kernel) hz (by decide) (by decide) rfl dX13_init_32 ?_
  have hz := z_Z_m hz (show 106 ≤ 107 by decide)
  refine x_putR lfX13_19 rfl (by decide +kernel) (show 102 < 107 by decide) (Or.inr ⟨rfl, rfl, rfl⟩) dX13_init_34 ?_
  have hz := z_Z_v (a := 102) (k := 5) (v := 106) hz (by decide)
  refine z_aload_n dX13_init_37 rfl rfl (by decide) ?_
  refine z_sipush dX13_init_38 ks_480 ?_
  refine x_newI (kc := 27) (ks := 2837) (n := 107) (N := 480) (by decide +kernel) hz (by decide) (by decide) rfl dX13_init_41 ?_
  have hz := z_Z_m hz (show 107 ≤ 108 by decide)
  refine x_putR lfX13_22 rfl (by decide +kernel) (show 102 < 108 by decide) (Or.inr ⟨rfl, rfl, rfl⟩) dX13_init_43 ?_
  have hz := z_Z_v (a := 102) (k := 6) (v := 107) hz (by decide)
  refine z_aload_n dX13_init_46 rfl rfl (by decide) ?_
  refine z_sipush dX13_init_47 ks_480 ?_
  refine x_newI (kc := 26) (ks := 2357) (n := 108) (N := 480) (by decide +kernel) hz (by decide) (by decide) rfl dX13_init_50 ?_
  have hz := z_Z_m hz (show 108 ≤ 109 by decide)
  refine x_putR lfX13_25 rfl (by decide +kernel) (show 102 < 109 by decide) (Or.inr ⟨rfl, rfl, rfl⟩) dX13_init_52 ?_
  have hz := z_Z_v (a := 102) (k := 7) (v := 108) hz (by decide)
  refine z_aload_n dX13_init_55 rfl rfl (by decide) ?_
  refine z_sipush dX13_init_56 ks_480 ?_
  refine x_newI (kc := 25) (ks := 1877) (n := 109) (N := 480) (by decide +kernel) hz (by decide) (by decide) rfl dX13_init_59 ?_
  have hz := z_Z_m hz (show 109 ≤ 110 by decide)
  refine x_putR lfX13_28 rfl (by decide +kernel) (show 102 < 110 by decide) (Or.inr ⟨rfl, rfl, rfl⟩) dX13_init_61 ?_
  have hz := z_Z_v (a := 102) (k := 8) (v := 109) hz (by decide)
  refine z_aload_n dX13_init_64 rfl rfl (by decide) ?_
  refine z_bipush dX13_init_65 kb_8 ?_
  refine x_newI (kc := 24) (ks := 1869) (n := 110) (N := 8) (by decide +kernel) hz (by decide) (by decide) rfl dX13_init_67 ?_
  have hz := z_Z_m hz (show 110 ≤ 111 by decide)
  refine x_putR lfX13_31 rfl (by decide +kernel) (show 102 < 111 by decide) (Or.inr ⟨rfl, rfl, rfl⟩) dX13_init_69 ?_
  have hz := z_Z_v (a := 102) (k := 9) (v := 110) hz (by decide)
  refine z_aload_n dX13_init_72 rfl rfl (by decide) ?_
  refine z_sipush dX13_init_73 ks_260 ?_
  refine x_newB (kc := 23) (ks := 1609) (n := 111) (N := 260) (by decide +kernel) hz (by decide) (by decide) rfl dX13_init_76 ?_
  have hz := z_Z_m hz (show 111 ≤ 112 by decide)
  refine x_putR lfX13_34 rfl (by decide +kernel) (show 102 < 112 by decide) (Or.inr ⟨rfl, rfl, rfl⟩) dX13_init_78 ?_
  have hz := z_Z_v (a := 102) (k := 10) (v := 111) hz (by decide)
  refine z_aload_n dX13_init_81 rfl rfl (by decide) ?_
  refine z_sipush dX13_init_82 ks_260 ?_
  refine x_newI (kc := 22) (ks := 1349) (n := 112) (N := 260) (by decide +kernel) hz (by decide) (by decide) rfl dX13_init_85 ?_
  have hz := z_Z_m hz (show 112 ≤ 113 by decide)
  refine x_putR lfX13_38 rfl (by decide +kernel) (show 102 < 113 by decide) (Or.inr ⟨rfl, rfl, rfl⟩) dX13_init_87 ?_
  have hz := z_Z_v (a := 102) (k := 21) (v := 112) hz (by decide)
  refine z_aload_n dX13_init_90 rfl rfl (by decide) ?_
  refine z_sipush dX13_init_91 ks_260 ?_
  refine x_newI (kc := 21) (ks := 1089) (n := 113) (N := 260) (by decide +kernel) hz (by decide) (by decide) rfl dX13_init_94 ?_
  have hz := z_Z_m hz (show 113 ≤ 114 by decide)
  refine x_putR lfX13_41 rfl (by decide +kernel) (show 102 < 114 by decide) (Or.inr ⟨rfl, rfl, rfl⟩) dX13_init_96 ?_
  have hz := z_Z_v (a := 102) (k := 22) (v := 113) hz (by decide)
  refine z_aload_n dX13_init_99 rfl rfl (by decide) ?_
  refine z_bipush dX13_init_100 kb_16 ?_
  refine x_newI (kc := 20) (ks := 1073) (n := 114) (N := 16) (by decide +kernel) hz (by decide) (by decide) rfl dX13_init_102 ?_
  have hz := z_Z_m hz (show 114 ≤ 115 by decide)
  refine x_putR lfX13_44 rfl (by decide +kernel) (show 102 < 115 by decide) (Or.inr ⟨rfl, rfl, rfl⟩) dX13_init_104 ?_
  have hz := z_Z_v (a := 102) (k := 23) (v := 114) hz (by decide)
  refine z_aload_n dX13_init_107 rfl rfl (by decide) ?_
  refine z_bipush dX13_init_108 kb_16 ?_
  refine x_newI (kc := 19) (ks := 1057) (n := 115) (N := 16) (by decide +kernel) hz (by decide) (by decide) rfl dX13_init_110 ?_
  have hz := z_Z_m hz (show 115 ≤ 116 by decide)
  refine x_putR lfX13_47 rfl (by decide +kernel) (show 102 < 116 by decide) (Or.inr ⟨rfl, rfl, rfl⟩) dX13_init_112 ?_
  have hz := z_Z_v (a := 102) (k := 24) (v := 115) hz (by decide)
  refine z_aload_n dX13_init_115 rfl rfl (by decide) ?_
  refine z_bipush dX13_init_116 kb_16 ?_
  refine x_newI (kc := 18) (ks := 1041) (n := 116) (N := 16) (by decide +kernel) hz (by decide) (by decide) rfl dX13_init_118 ?_
  have hz := z_Z_m hz (show 116 ≤ 117 by decide)
  refine x_putR lfX13_50 rfl (by decide +kernel) (show 102 < 117 by decide) (Or.inr ⟨rfl, rfl, rfl⟩) dX13_init_120 ?_
  have hz := z_Z_v (a := 102) (k := 25) (v := 116) hz (by decide)
  refine z_aload_n dX13_init_123 rfl rfl (by decide) ?_
  refine z_bipush dX13_init_124 kb_16 ?_
  refine x_newI (kc := 17) (ks := 1025) (n := 117) (N := 16) (by decide +kernel) hz (by decide) (by decide) rfl dX13_init_126 ?_
  have hz := z_Z_m hz (show 117 ≤ 118 by decide)
  refine x_putR lfX13_53 rfl (by decide +kernel) (show 102 < 118 by decide) (Or.inr ⟨rfl, rfl, rfl⟩) dX13_init_128 ?_
  have hz := z_Z_v (a := 102) (k := 26) (v := 117) hz (by decide)
  refine z_aload_n dX13_init_131 rfl rfl (by decide) ?_
  refine z_sipush dX13_init_132 ks_260 ?_
  refine x_newI (kc := 16) (ks := 765) (n := 118) (N := 260) (by decide +kernel) hz (by decide) (by decide) rfl dX13_init_135 ?_
  have hz := z_Z_m hz (show 118 ≤ 119 by decide)
  refine x_putR lfX13_56 rfl (by decide +kernel) (show 102 < 119 by decide) (Or.inr ⟨rfl, rfl, rfl⟩) dX13_init_137 ?_
  have hz := z_Z_v (a := 102) (k := 27) (v := 118) hz (by decide)
  refine z_aload_n dX13_init_140 rfl rfl (by decide) ?_
  refine z_bipush dX13_init_141 kb_16 ?_
  refine x_newI (kc := 15) (ks := 749) (n := 119) (N := 16) (by decide +kernel) hz (by decide) (by decide) rfl dX13_init_143 ?_
  have hz := z_Z_m hz (show 119 ≤ 120 by decide)
  refine x_putR lfX13_59 rfl (by decide +kernel) (show 102 < 120 by decide) (Or.inr ⟨rfl, rfl, rfl⟩) dX13_init_145 ?_
  have hz := z_Z_v (a := 102) (k := 28) (v := 119) hz (by decide)
  refine z_aload_n dX13_init_148 rfl rfl (by decide) ?_
  refine z_bipush dX13_init_149 kb_16 ?_
  refine x_newI (kc := 14) (ks := 733) (n := 120) (N := 16) (by decide +kernel) hz (by decide) (by decide) rfl dX13_init_151 ?_
  have hz := z_Z_m hz (show 120 ≤ 121 by decide)
  refine x_putR lfX13_62 rfl (by decide +kernel) (show 102 < 121 by decide) (Or.inr ⟨rfl, rfl, rfl⟩) dX13_init_153 ?_
  have hz := z_Z_v (a := 102) (k := 29) (v := 120) hz (by decide)
  refine z_aload_n dX13_init_156 rfl rfl (by decide) ?_
  refine z_bipush dX13_init_157 kb_16 ?_
  refine x_newI (kc := 13) (ks := 717) (n := 121) (N := 16) (by decide +kernel) hz (by decide) (by decide) rfl dX13_init_159 ?_
  have hz := z_Z_m hz (show 121 ≤ 122 by decide)
  refine x_putR lfX13_65 rfl (by decide +kernel) (show 102 < 122 by decide) (Or.inr ⟨rfl, rfl, rfl⟩) dX13_init_161 ?_
  have hz := z_Z_v (a := 102) (k := 30) (v := 121) hz (by decide)
  refine z_aload_n dX13_init_164 rfl rfl (by decide) ?_
  refine z_bipush dX13_init_165 kb_16 ?_
  refine x_newI (kc := 12) (ks := 701) (n := 122) (N := 16) (by decide +kernel) hz (by decide) (by decide) rfl dX13_init_167 ?_
  have hz := z_Z_m hz (show 122 ≤ 123 by decide)
  refine x_putR lfX13_68 rfl (by decide +kernel) (show 102 < 123 by decide) (Or.inr ⟨rfl, rfl, rfl⟩) dX13_init_169 ?_
  have hz := z_Z_v (a := 102) (k := 31) (v := 122) hz (by decide)
  refine z_aload_n dX13_init_172 rfl rfl (by decide) ?_
  refine z_sipush dX13_init_173 ks_260 ?_
  refine x_newI (kc := 11) (ks := 441) (n := 123) (N := 260) (by decide +kernel) hz (by decide) (by decide) rfl dX13_init_176 ?_
  have hz := z_Z_m hz (show 123 ≤ 124 by decide)
  refine x_putR lfX13_71 rfl (by decide +kernel) (show 102 < 124 by decide) (Or.inr ⟨rfl, rfl, rfl⟩) dX13_init_178 ?_
  have hz := z_Z_v (a := 102) (k := 32) (v := 123) hz (by decide)
  refine z_aload_n dX13_init_181 rfl rfl (by decide) ?_
  refine z_bipush dX13_init_182 kb_8 ?_
  refine x_newI (kc := 10) (ks := 433) (n := 124) (N := 8) (by decide +kernel) hz (by decide) (by decide) rfl dX13_init_184 ?_
  have hz := z_Z_m hz (show 124 ≤ 125 by decide)
  refine x_putR lfX13_74 rfl (by decide +kernel) (show 102 < 125 by decide) (Or.inr ⟨rfl, rfl, rfl⟩) dX13_init_186 ?_
  have hz := z_Z_v (a := 102) (k := 33) (v := 124) hz (by decide)
  refine z_aload_n dX13_init_189 rfl rfl (by decide) ?_
  refine z_bipush dX13_init_190 kb_60 ?_
  refine x_newI (kc := 9) (ks := 373) (n := 125) (N := 60) (by decide +kernel) hz (by decide) (by decide) rfl dX13_init_192 ?_
  have hz := z_Z_m hz (show 125 ≤ 126 by decide)
  refine x_putR lfX13_77 rfl (by decide +kernel) (show 102 < 126 by decide) (Or.inr ⟨rfl, rfl, rfl⟩) dX13_init_194 ?_
  have hz := z_Z_v (a := 102) (k := 34) (v := 125) hz (by decide)
  refine z_aload_n dX13_init_197 rfl rfl (by decide) ?_
  refine z_bipush dX13_init_198 kb_60 ?_
  refine x_newI (kc := 8) (ks := 313) (n := 126) (N := 60) (by decide +kernel) hz (by decide) (by decide) rfl dX13_init_200 ?_
  have hz := z_Z_m hz (show 126 ≤ 127 by decide)
  refine x_putR lfX13_80 rfl (by decide +kernel) (show 102 < 127 by decide) (Or.inr ⟨rfl, rfl, rfl⟩) dX13_init_202 ?_
  have hz := z_Z_v (a := 102) (k := 35) (v := 126) hz (by decide)
  refine z_aload_n dX13_init_205 rfl rfl (by decide) ?_
  refine z_bipush dX13_init_206 kb_60 ?_
  refine x_newI (kc := 7) (ks := 253) (n := 127) (N := 60) (by decide +kernel) hz (by decide) (by decide) rfl dX13_init_208 ?_
  have hz := z_Z_m hz (show 127 ≤ 128 by decide)
  refine x_putR lfX13_83 rfl (by decide +kernel) (show 102 < 128 by decide) (Or.inr ⟨rfl, rfl, rfl⟩) dX13_init_210 ?_
  have hz := z_Z_v (a := 102) (k := 36) (v := 127) hz (by decide)
  refine z_aload_n dX13_init_213 rfl rfl (by decide) ?_
  refine z_bipush dX13_init_214 kb_60 ?_
  refine x_newI (kc := 6) (ks := 193) (n := 128) (N := 60) (by decide +kernel) hz (by decide) (by decide) rfl dX13_init_216 ?_
  have hz := z_Z_m hz (show 128 ≤ 129 by decide)
  refine x_putR lfX13_86 rfl (by decide +kernel) (show 102 < 129 by decide) (Or.inr ⟨rfl, rfl, rfl⟩) dX13_init_218 ?_
  have hz := z_Z_v (a := 102) (k := 37) (v := 128) hz (by decide)
  refine z_aload_n dX13_init_221 rfl rfl (by decide) ?_
  refine z_iconst dX13_init_222 kc_2 ?_
  refine x_newI (kc := 5) (ks := 191) (n := 129) (N := 2) (by decide +kernel) hz (by decide) (by decide) rfl dX13_init_223 ?_
  have hz := z_Z_m hz (show 129 ≤ 130 by decide)
  refine x_putR lfX13_89 rfl (by decide +kernel) (show 102 < 130 by decide) (Or.inr ⟨rfl, rfl, rfl⟩) dX13_init_225 ?_
  have hz := z_Z_v (a := 102) (k := 38) (v := 129) hz (by decide)
  refine z_aload_n dX13_init_228 rfl rfl (by decide) ?_
  refine z_iconst dX13_init_229 kc_2 ?_
  refine x_newI (kc := 4) (ks := 189) (n := 130) (N := 2) (by decide +kernel) hz (by decide) (by decide) rfl dX13_init_230 ?_
  have hz := z_Z_m hz (show 130 ≤ 131 by decide)
  refine x_putR lfX13_92 rfl (by decide +kernel) (show 102 < 131 by decide) (Or.inr ⟨rfl, rfl, rfl⟩) dX13_init_232 ?_
  have hz := z_Z_v (a := 102) (k := 39) (v := 130) hz (by decide)
  refine z_aload_n dX13_init_235 rfl rfl (by decide) ?_
  refine z_bipush dX13_init_236 kb_8 ?_
  refine x_newI (kc := 3) (ks := 181) (n := 131) (N := 8) (by decide +kernel) hz (by decide) (by decide) rfl dX13_init_238 ?_
  have hz := z_Z_m hz (show 131 ≤ 132 by decide)
  refine x_putR lfX13_95 rfl (by decide +kernel) (show 102 < 132 by decide) (Or.inr ⟨rfl, rfl, rfl⟩) dX13_init_240 ?_
  have hz := z_Z_v (a := 102) (k := 42) (v := 131) hz (by decide)
  refine z_aload_n dX13_init_243 rfl rfl (by decide) ?_
  refine z_bipush dX13_init_244 kb_60 ?_
  refine x_newI (kc := 2) (ks := 121) (n := 132) (N := 60) (by decide +kernel) hz (by decide) (by decide) rfl dX13_init_246 ?_
  have hz := z_Z_m hz (show 132 ≤ 133 by decide)
  refine x_putR lfX13_98 rfl (by decide +kernel) (show 102 < 133 by decide) (Or.inr ⟨rfl, rfl, rfl⟩) dX13_init_248 ?_
  have hz := z_Z_v (a := 102) (k := 52) (v := 132) hz (by decide)
  refine z_aload_n dX13_init_251 rfl rfl (by decide) ?_
  refine z_bipush dX13_init_252 kb_60 ?_
  refine x_newI (kc := 1) (ks := 61) (n := 133) (N := 60) (by decide +kernel) hz (by decide) (by decide) rfl dX13_init_254 ?_
  have hz := z_Z_m hz (show 133 ≤ 134 by decide)
  refine x_putR lfX13_101 rfl (by decide +kernel) (show 102 < 134 by decide) (Or.inr ⟨rfl, rfl, rfl⟩) dX13_init_256 ?_
  have hz := z_Z_v (a := 102) (k := 53) (v := 133) hz (by decide)
  refine z_aload_n dX13_init_259 rfl rfl (by decide) ?_
  refine z_bipush dX13_init_260 kb_61 ?_
  refine x_newI (kc := 0) (ks := 0) (n := 134) (N := 61) (by decide +kernel) hz (by decide) (by decide) rfl dX13_init_262 ?_
  have hz := z_Z_m hz (show 134 ≤ 135 by decide)
  refine x_putR lfX13_104 rfl (by decide +kernel) (show 102 < 135 by decide) (Or.inr ⟨rfl, rfl, rfl⟩) dX13_init_264 ?_
  have hz := z_Z_v (a := 102) (k := 56) (v := 134) hz (by decide)
  refine z_aload_n dX13_init_267 rfl rfl (by decide) ?_
  refine x_getR (v := 103) lfX13_7 rfl (by decide +kernel) (show 102 < 135 by decide) rfl dX13_init_268 ?_
  refine z_bipush dX13_init_271 kb_81 ?_
  refine z_iconst dX13_init_273 kc_1 ?_
  refine x_iast (j := 81) (N := 82) (by decide +kernel) (show 103 < 135 by decide) (by unfold vp_in; decide) (by decide) dX13_init_274 ?_
  have hz := z_Z_u (a := 103) (k := 81) (v := (1 : Int32)) hz (by decide)
  refine z_aload_n dX13_init_275 rfl rfl (by decide) ?_
  refine z_bipush dX13_init_276 kb_15 ?_
  refine x_putI lfX13_107 rfl (by decide +kernel) (show 102 < 135 by decide) (Or.inl rfl) rfl rfl dX13_init_278 ?_
  have hz := z_Z_u (a := 102) (k := 3) (v := (15 : Int32)) hz (by decide)
  refine z_aload_n dX13_init_281 rfl rfl (by decide) ?_
  refine z_bipush dX13_init_282 kb_120 ?_
  refine x_putI lfX13_111 rfl (by decide +kernel) (show 102 < 135 by decide) (Or.inl rfl) rfl rfl dX13_init_284 ?_
  have hz := z_Z_u (a := 102) (k := 4) (v := (120 : Int32)) hz (by decide)
  exact z_vret ⟨rfl, rfl, rfl⟩ rfl dX13_init_287
