theorem z_wn1 : Cond.arrayOver (.object "ClockChoir$Roll") ∈ lw_tbl := List.mem_of_getElem? (i := 142) (by decide +kernel)
theorem z_wn2 : Cond.arrayOver (.object "ClockChoir$Singer") ∈ lw_tbl := List.mem_of_getElem? (i := 291) (by decide +kernel)
theorem z_wn3 : Cond.arrayClass .int ∈ lw_tbl := List.mem_of_getElem? (i := 134) (by decide +kernel)
theorem z_wn4 : Cond.arrayClass .byte ∈ lw_tbl := List.mem_of_getElem? (i := 1301) (by decide +kernel)
theorem z_wn5 : Cond.laysStatic "ClockChoir$Law" "HIGHEST" "[I" ∈ lw_tbl := List.mem_of_getElem? (i := 806) (by decide +kernel)
theorem z_wn6 : Cond.initialized "ClockChoir$Law" ∈ lw_tbl := List.mem_of_getElem? (i := 92) (by decide +kernel)
theorem z_wnl : ∀ q ∈ z_nl, Cond.methodLinkNest q.1 q.2.1 q.2.2 "ClockChoir" ∈ lw_tbl := by
  have h : (z_nl.map fun q => some (Cond.methodLinkNest q.1 q.2.1 q.2.2 "ClockChoir")) = [293, 722, 743, 840, 1083].map (fun i => lw_tbl[i]?) := by decide +kernel
  intro q hq
  have h1 : some (Cond.methodLinkNest q.1 q.2.1 q.2.2 "ClockChoir") ∈ (z_nl.map fun q => some (Cond.methodLinkNest q.1 q.2.1 q.2.2 "ClockChoir")) := List.mem_map.mpr ⟨q, hq, rfl⟩
  rw [h] at h1
  obtain ⟨i, -, hi⟩ := List.mem_map.mp h1
  exact List.mem_of_getElem? hi
theorem z_known {ci : Nat} {s : State} {args : Array Value} (hts : ∀ w ∈ z_tb, w.before args s = true) (h : z_Kok ci) : ∃ (cC : ClassId) (iS : Nat → Nat), ∀ q : vw_C, vwCl[ci]? = some q → u_Kn s q.1 q.2.1 q.2.2 cC iS := by
  obtain ⟨C0, T0, N0, t0, g1, g2, g3, g4, g5, g6, g7⟩ := h
  obtain ⟨cC, iS, hk⟩ := u_known (C := C0) (T := T0) (N := N0) (n := N0) hts g3 (hts _ g6)
  exact ⟨cC, iS, fun q hq => by rw [g1] at hq; cases hq; exact hk⟩
theorem z_arr {s : State} {cA comp : ClassId} {kA : Class} {ty : FieldType} (h1 : s.vm.classes[cA]? = some kA) (h2 : kA.kind = .array comp ty) : ArrOfT s cA ty := fun N z => ⟨(fun k h => by cases h), kA, h1, comp, h2⟩
set_option maxHeartbeats 4000000 in
set_option maxRecDepth 100000 in
/-- THE LAW, from its entry, if its loop comes to 1 -/
theorem whole_start_open {p : Program} {e : Env} {s : State} {m : MethodId} {below : List Frame} {meth : Method} {c : Code} (l : Launch) {b L : Nat} {xs : Nat → Int32} (hmain : z_lp (fL_b xs L) 300 ((0 : Int32), z_I0, z_R0) = some 1) (C0 : lw_At p s m meth c b L xs) : W p l e room_1 s m #[Value.ref b] below meth c s.heap [] 0 0 (lw_Z below #[Value.ref b] s) (entryFrame m ([Value.ref b] : List Value).toArray 4) := by
  obtain ⟨hx, hb, hr, hml, hown, htl, hX, hbl, hlocks, hgv⟩ := id C0
  have hts : ∀ w ∈ z_tb, w.before #[Value.ref b] s = true := fun w hw => htl w (List.mem_filter.mp hw).1
  obtain ⟨c0, iS0, hKn0⟩ := z_known (ci := 0) hts kX0
  obtain ⟨c1, iS1, hKn1⟩ := z_known (ci := 1) hts kX1
  obtain ⟨c2, iS2, hKn2⟩ := z_known (ci := 2) hts kX2
  obtain ⟨c3, iS3, hKn3⟩ := z_known (ci := 3) hts kX3
  obtain ⟨c4, iS4, hKn4⟩ := z_known (ci := 4) hts kX4
  obtain ⟨c5, iS5, hKn5⟩ := z_known (ci := 5) hts kX5
  obtain ⟨c6, iS6, hKn6⟩ := z_known (ci := 6) hts kX6
  obtain ⟨c7, iS7, hKn7⟩ := z_known (ci := 7) hts kX7
  obtain ⟨c8, iS8, hKn8⟩ := z_known (ci := 8) hts kX8
  obtain ⟨c9, iS9, hKn9⟩ := z_known (ci := 9) hts kX9
  obtain ⟨c10, iS10, hKn10⟩ := z_known (ci := 10) hts kX10
  obtain ⟨c11, iS11, hKn11⟩ := z_known (ci := 11) hts kX11
  obtain ⟨c12, iS12, hKn12⟩ := z_known (ci := 12) hts kX12
  obtain ⟨c13, iS13, hKn13⟩ := z_known (ci := 13) hts kX13
  obtain ⟨dC, dI, hKc⟩ : ∃ (dC : Nat → ClassId) (dI : Nat → Nat → Nat), ∀ (k : Nat) (q : vw_C), vwCl[k]? = some q → u_Kn s q.1 q.2.1 q.2.2 (dC k) (dI k) := by
    refine ⟨fun k => if k = 0 then c0 else if k = 1 then c1 else if k = 2 then c2 else if k = 3 then c3 else if k = 4 then c4 else if k = 5 then c5 else if k = 6 then c6 else if k = 7 then c7 else if k = 8 then c8 else if k = 9 then c9 else if k = 10 then c10 else if k = 11 then c11 else if k = 12 then c12 else c13, fun k => if k = 0 then iS0 else if k = 1 then iS1 else if k = 2 then iS2 else if k = 3 then iS3 else if k = 4 then iS4 else if k = 5 then iS5 else if k = 6 then iS6 else if k = 7 then iS7 else if k = 8 then iS8 else if k = 9 then iS9 else if k = 10 then iS10 else if k = 11 then iS11 else if k = 12 then iS12 else iS13, ?_⟩
    intro k q hq
    match k, hq with
    | 0, hq => exact hKn0 q hq
    | 1, hq => exact hKn1 q hq
    | 2, hq => exact hKn2 q hq
    | 3, hq => exact hKn3 q hq
    | 4, hq => exact hKn4 q hq
    | 5, hq => exact hKn5 q hq
    | 6, hq => exact hKn6 q hq
    | 7, hq => exact hKn7 q hq
    | 8, hq => exact hKn8 q hq
    | 9, hq => exact hKn9 q hq
    | 10, hq => exact hKn10 q hq
    | 11, hq => exact hKn11 q hq
    | 12, hq => exact hKn12 q hq
    | 13, hq => exact hKn13 q hq
    | k + 14, hq => simp [vwCl] at hq
  obtain ⟨a0, k0, m0, p1, p2, p3⟩ := Cond.arrayClass_spec (htl _ z_wn3)
  obtain ⟨a1, k1, m1, p4, p5, p6⟩ := Cond.arrayClass_spec (htl _ z_wn4)
  obtain ⟨m2, a2, k2, p7, -, p8, p9, p10⟩ := Cond.arrayOver_spec (htl _ z_wn1)
  obtain ⟨m3, a3, k3, p11, -, p12, p13, p14⟩ := Cond.arrayOver_spec (htl _ z_wn2)
  have hA0 : ∀ a : Nat, a < s.heap.size → ¬ (fun q : Nat => s.heap.size ≤ q) a := fun a h => Nat.not_le.mpr h
  have hs := flat_of_before _ hgv
  obtain ⟨t, ht1, ht2⟩ := va_Tof (tm := .static "ClockChoir$Law" "HIGHEST" "[I") (ty := .int) (N := 5) (f := fun j => .int (z_hi j)) (A := fun q : Nat => s.heap.size ≤ q) (by decide) (hs _ (by decide +kernel)) (va_eqt (hs (.eq (.length (.static "ClockChoir$Law" "HIGHEST" "[I")) (.int 5)) (by decide +kernel))) (fun j hj => by
    match j, hj with
    | 0, _ => exact va_eqt (hs (.eq (.elem (.static "ClockChoir$Law" "HIGHEST" "[I") (.int 0)) (.int 60)) (by decide +kernel))
    | 1, _ => exact va_eqt (hs (.eq (.elem (.static "ClockChoir$Law" "HIGHEST" "[I") (.int 1)) (.int 60)) (by decide +kernel))
    | 2, _ => exact va_eqt (hs (.eq (.elem (.static "ClockChoir$Law" "HIGHEST" "[I") (.int 2)) (.int 20)) (by decide +kernel))
    | 3, _ => exact va_eqt (hs (.eq (.elem (.static "ClockChoir$Law" "HIGHEST" "[I") (.int 3)) (.int 10)) (by decide +kernel))
    | 4, _ => exact va_eqt (hs (.eq (.elem (.static "ClockChoir$Law" "HIGHEST" "[I") (.int 4)) (.int 0)) (by decide +kernel))) hA0
  have hZ := va_Zref (A := fun q : Nat => s.heap.size ≤ q) (htl _ z_wn5) (htl _ z_wn6) ht1 hA0
  let G : z_G := (l, s.heap.size, (fun k => if k = 100000 then b else t), (dC, dI), (fun k => if k = 0 then a0 else if k = 1 then a1 else if k = 2 then a2 else a3), L, xs)
  have hF : z_Fz G s s.heap := by
    refine ⟨?_, ht2, hZ⟩
    obtain ⟨scr, q1, q2, q3, q4, q5⟩ := hX
    exact ⟨scr, q1, q2, q3, Nat.le_of_eq q4.symm, by rw [q4], q5, hA0 b hbl⟩
  have hK : va_K (dC, dI) vwCl (z_tys G) s := by
    refine ⟨hKc, fun k q hq => ?_⟩
    match k, hq with
    | 0, hq => cases hq; exact ⟨z_arr p2 p3, p1⟩
    | 1, hq => cases hq; exact ⟨z_arr p5 p6, p4⟩
    | 2, hq => cases hq; exact ⟨z_arr p8 p9, k2, m2, p8, p9, p7, p10⟩
    | 3, hq => cases hq; exact ⟨z_arr p12 p13, k3, m3, p12, p13, p11, p14⟩
    | k + 4, hq => simp [z_tys] at hq
  have hN : z_Nw s := ⟨fun q hq => va_Nw.of rfl (htl _ (z_wnl q hq)), va_AO.of (htl _ z_wn1), va_AO.of (htl _ z_wn2)⟩
  have C : z_Cx G eL_law 1000 p room_1 s m #[Value.ref b] meth c := ⟨hx, hb, hml, hown, hts, hK, by decide, by decide, Nat.le_refl _, hF, fun h => absurd h (by decide), hN⟩
  have hcv : z_cv G (.ref 100000) = .ref b := rfl
  obtain ⟨ls, e1, e2⟩ := z_entry (G := G) (m := m) (av := [.ref 100000]) (n := 4) (by intro v hv; simp at hv; subst hv; rfl) (by decide)
  rw [show ([Value.ref b] : List Value).toArray = (([Value.ref 100000] : List Value).map (z_cv G)).toArray from rfl, e1]
  refine wL_start (G := G) (d := 1000) (by decide) hmain p e room_1 s m #[Value.ref b] below meth c s.heap [] 0 0 _ ls C ⟨by decide, rfl, fun k q hq => by simp [z_ws] at hq⟩ va_S.rf e2 (by decide) (by decide) ?_
  intro pc ls' r sh' h' H' locs' cells' slots' hq hrt hrd w S h1 h2
  have hq : r = some (.int 1) := hq
  subst hq
  refine va_forget (fun q hq => S.2.2 q hq) ?_
  refine W.widen (k := 600000) (n := 7302250) (by omega) (by omega) ?_
  exact lw_ret hx hb hr hlocks hrd
