/-! rows that make cells; frozen arrays -/
section ZA
variable {G : z_G} {me : z_Me} {d kc ks pc : Nat} {lv : List (Option Value)} {st : List Value} {sh : z_S} {h : z_H} {Q : Option Value → z_S → z_H → Prop}
theorem z_ws_app {kd : Nat × Nat} : z_ws G (sh ++ [kd]) h = z_ws G sh h ++ [(G.2.1 + sh.length, z_en G h sh.length kd)] := by
  unfold z_ws
  rw [List.mapIdx_concat]
theorem z_grow {H H1 : Heap} {kd : Nat × Nat} (w : z_Wd G sh h H) (hl : sh.length + 1 ≤ 100000) (z1 : H1.size = H.size + 1) (o1 : ∀ q : Nat, q < H.size → H1[q]? = H[q]?) (at' : va_at G.2.2.2.1 vwCl (H.size, z_en G h sh.length kd) H1) : z_Wd G (sh ++ [kd]) h H1 := by
  refine ⟨by simpa using hl, by rw [z1, w.2.1]; simp; omega, ?_⟩
  rw [z_ws_app]
  refine va_P.app (w.2.2.kept (fun k x hx => o1 x.1 ((w.2.2 k x hx).lt))) (fun k x hx => ?_)
  have hz : k < 1 := (List.getElem?_eq_some_iff.mp hx).1
  rw [show k = 0 by omega] at hx
  cases hx
  rw [← w.2.1]
  exact at'
theorem z_S_grow {s : State} {H H1 : Heap} {locs : List Loc} (S : va_S (z_A G) s.heap H locs) (z1 : H1.size = H.size + 1) (o1 : ∀ q : Nat, q < H.size → H1[q]? = H[q]?) : va_S (z_A G) s.heap H1 locs :=
  ⟨Nat.le_trans S.1 (by omega), fun x h1 h2 => (o1 x (Nat.lt_of_lt_of_le h1 S.1)).trans (S.2.1 x h1 h2), S.2.2⟩
theorem z_newad {H : Heap} (w : z_Wd G sh h H) (hl : sh.length + 1 ≤ 100000) : z_cv G (.ref sh.length) = .ref H.size := by rw [z_ref (by omega), w.2.1]
theorem z_newI {n : Int32} {N : Nat} (hn : ¬ n < 0) (hN : n.toNatClampNeg = N) (hb : N ≤ 10000) (hw : Cond.arrayClass .int ∈ z_tb) (hl : sh.length + 1 ≤ 100000) (hz : h.1 sh.length = fun _ => 0) (hd : decode me.2.1 pc = .ok (.newarray .int, 2))
    (k : z_W G me d kc ks (pc + 2) lv (.ref sh.length :: st) (sh ++ [(1, N)]) h Q) : z_W G me d (kc + 1) (ks + N) pc lv (.int n :: st) sh h Q := by
  intro p e Rm s m args below meth c H locs cells slots Post ls C w S l r1 r2 K
  refine va_newaK (atype := .int) C.1 C.2.1 (C.2.2.2.2.1 _ hw) rfl hd rfl hn hN (by show N * 4 ≤ _; omega) (by omega) (by omega) rfl fun H1 cA e1 z1 o1 hAr hNm => ?_
  have hc : cA = G.2.2.2.2.1 0 := by
    have h1 : s.vm.findClass ("[" ++ FieldType.int.toString) = some (G.2.2.2.2.1 0) := (C.2.2.2.2.2.1.2 0 _ rfl).2
    exact Option.some.inj (hNm.symm.trans h1)
  have e := k p e Rm s m args below meth c H1 locs (cells + 1) (slots + N) Post ls C (z_grow w hl z1 o1 (by
    show H1[H.size]? = some (vp_cell (G.2.2.2.2.1 0) (N, Sum.inl (h.1 sh.length)))
    rw [hz, e1, hc, vp_cell_i]
    rfl)) (z_S_grow S z1 o1) l (by omega) (by omega) (by rw [Nat.add_assoc, Nat.add_assoc, Nat.add_comm 1 kc, Nat.add_comm N ks]; exact K)
  rw [List.map_cons, z_newad w hl] at e
  exact e
theorem z_newB {n : Int32} {N : Nat} (hn : ¬ n < 0) (hN : n.toNatClampNeg = N) (hb : N ≤ 10000) (hw : Cond.arrayClass .byte ∈ z_tb) (hl : sh.length + 1 ≤ 100000) (hz : h.1 sh.length = fun _ => 0) (hd : decode me.2.1 pc = .ok (.newarray .byte, 2))
    (k : z_W G me d kc ks (pc + 2) lv (.ref sh.length :: st) (sh ++ [(2, N)]) h Q) : z_W G me d (kc + 1) (ks + N) pc lv (.int n :: st) sh h Q := by
  intro p e Rm s m args below meth c H locs cells slots Post ls C w S l r1 r2 K
  refine va_newaK (atype := .byte) C.1 C.2.1 (C.2.2.2.2.1 _ hw) rfl hd rfl hn hN (by show N * 1 ≤ _; omega) (by omega) (by omega) rfl fun H1 cA e1 z1 o1 hAr hNm => ?_
  have hc : cA = G.2.2.2.2.1 1 := by
    have h1 : s.vm.findClass ("[" ++ FieldType.byte.toString) = some (G.2.2.2.2.1 1) := (C.2.2.2.2.2.1.2 1 _ rfl).2
    exact Option.some.inj (hNm.symm.trans h1)
  have e := k p e Rm s m args below meth c H1 locs (cells + 1) (slots + N) Post ls C (z_grow w hl z1 o1 (by
    show H1[H.size]? = some (vp_cell (G.2.2.2.2.1 1) (N, Sum.inl (h.1 sh.length)))
    rw [hz, e1, hc, vp_cell_i]
    rfl)) (z_S_grow S z1 o1) l (by omega) (by omega) (by rw [Nat.add_assoc, Nat.add_assoc, Nat.add_comm 1 kc, Nat.add_comm N ks]; exact K)
  rw [List.map_cons, z_newad w hl] at e
  exact e
theorem z_newQ {n : Int32} {N t idx : Nat} {cn : String} (ht : (t = 0 ∧ cn = "ClockChoir$Roll") ∨ (t = 1 ∧ cn = "ClockChoir$Singer")) (hn : ¬ n < 0) (hN : n.toNatClampNeg = N) (hb : N ≤ 10000) (hw : Cond.classLink me.1.cls idx cn ∈ z_tb) (hl : sh.length + 1 ≤ 100000) (hz : h.2 sh.length = fun _ => 200000) (hd : decode me.2.1 pc = .ok (.anewarray idx, 3))
    (k : z_W G me d kc ks (pc + 3) lv (.ref sh.length :: st) (sh ++ [(t + 3, N)]) h Q) : z_W G me d (kc + 1) (ks + N) pc lv (.int n :: st) sh h Q := by
  intro p e Rm s m args below meth c H locs cells slots Post ls C w S l r1 r2 K
  have hao : va_AO cn s := by
    have hN := C.2.2.2.2.2.2.2.2.2.2.2
    rcases ht with ⟨-, rfl⟩ | ⟨-, rfl⟩
    · exact hN.2.1
    · exact hN.2.2
  have hty : (z_tys G)[t + 2]? = some (G.2.2.2.2.1 (t + 2), .object cn) := by
    rcases ht with ⟨rfl, rfl⟩ | ⟨rfl, rfl⟩ <;> rfl
  subst hN
  refine W.anew C.1 C.2.1 C.2.2.2.1 (C.2.2.2.2.1 _ hw) (va_AO.use hao) rfl hd rfl hn (by omega) (by omega) (by omega) fun cA kA comp f1 f2 f3 f4 => ?_
  generalize hH1 : H.push ({ cls := cA, slots := Array.replicate n.toNatClampNeg .null, vm := .none } : Cell) = H1
  have z1 : H1.size = H.size + 1 := by rw [← hH1, Array.size_push]
  have e1 : H1[H.size]? = some (arrV cA n.toNatClampNeg (fun _ => .null)) := by rw [← hH1, Array.getElem?_push_size, ← arrV_new]
  have o1 : ∀ q : Nat, q < H.size → H1[q]? = H[q]? := fun q hq => by rw [← hH1, Array.getElem?_push, if_neg (Nat.ne_of_lt hq)]
  have hc : cA = G.2.2.2.2.1 (t + 2) := by
    obtain ⟨_, _, -, -, -, h1⟩ := (C.2.2.2.2.2.1.2 (t + 2) _ hty).2
    exact Option.some.inj (f1.symm.trans h1)
  have e := k p e Rm s m args below meth c H1 locs (cells + 1) (slots + n.toNatClampNeg) Post ls C (z_grow w hl z1 o1 (by
    show H1[H.size]? = some (vp_cell (G.2.2.2.2.1 (t + 2)) (n.toNatClampNeg, Sum.inr (Sum.inr (Sum.inr (Sum.inr fun j => z_rf G (h.2 sh.length j))))))
    rw [hz, e1, hc, vp_cell_q]
    congr 2)) (z_S_grow S z1 o1) l (by omega) (by omega) (by rw [Nat.add_assoc, Nat.add_assoc, Nat.add_comm 1 kc, Nat.add_comm n.toNatClampNeg ks]; exact K)
  rw [List.map_cons, z_newad w hl] at e
  exact e
theorem z_new {idx ci N : Nat} {cn : String} (hk : z_Kok ci) (hc : (vwCl[ci]?).map (fun q => (q.1, q.2.2)) = some (cn, N)) (hdv : ∀ j, j < N → defaultValue (z_fty ci j) = if z_rfld ci j = true then .null else .int 0) (hw : Cond.classLink me.1.cls idx cn ∈ z_tb) (hl : sh.length + 1 ≤ 100000) (hz : h.1 sh.length = fun _ => 0) (hz2 : h.2 sh.length = fun _ => 200000) (hd : decode me.2.1 pc = .ok (.new idx, 3))
    (k : z_W G me d kc ks (pc + 3) lv (.ref sh.length :: st) (sh ++ [(0, ci)]) h Q) : z_W G me d (kc + 1) (ks + N) pc lv st sh h Q := by
  intro p e Rm s m args below meth c H locs cells slots Post ls C w S l r1 r2 K
  obtain ⟨C0, T0, N0, t0, g1, g2, g3, g4, g5, g6, g7⟩ := hk
  rw [g1] at hc
  have hc2 : (C0, N0) = (cn, N) := Option.some.inj hc
  have hcn : C0 = cn := congrArg Prod.fst hc2
  have hcN : N0 = N := congrArg Prod.snd hc2
  subst hcn
  subst hcN
  have hKn := C.2.2.2.2.2.1.1 ci _ g1
  refine W.newcK C.1 C.2.1 C.2.2.2.1 (C.2.2.2.2.1 _ hw) (C.2.2.2.2.1 _ g6) (C.2.2.2.2.1 _ g7) rfl hd (by omega) (by omega) hKn.2.1 rfl fun H1 kC hkC e1 z1 o1 => ?_
  have e := k p e Rm s m args below meth c H1 locs (cells + 1) (slots + N0) Post ls C (z_grow w hl z1 o1 (by
    refine ⟨_, g1, (u_born t0 C.2.2.2.2.1 g3 hKn hkC e1 g4).to (fun j hj => ?_)⟩
    have h1 := hdv j hj
    unfold z_fty at h1
    rw [g2] at h1
    show defaultValue (t0 j) = vp_V (z_fs G h sh.length ci) j
    unfold vp_V
    rw [List.getD_eq_getElem?_getD, z_fs_at g1 hj, hz, hz2]
    rw [show defaultValue (t0 j) = _ from h1]
    rfl)) (z_S_grow S z1 o1) l (by omega) (by omega) (by rw [Nat.add_assoc, Nat.add_assoc, Nat.add_comm 1 kc, Nat.add_comm N0 ks]; exact K)
  rw [List.map_cons, z_newad w hl] at e
  exact e
/-- the frozen arrays: the script (100000), HIGHEST (100001) -/
theorem z_gets {idx : Nat} (hl : Cond.fieldLink me.1.cls idx "ClockChoir$Law" "HIGHEST" "[I" ∈ z_tb) (hd : decode me.2.1 pc = .ok (.getstatic idx, 3))
    (k : z_W G me d kc ks (pc + 3) lv (.ref 100001 :: st) sh h Q) : z_W G me d kc ks pc lv st sh h Q := by
  intro p e Rm s m args below meth c H locs cells slots Post ls C w S l r1 r2 K
  exact va_gets C.1 C.2.1 C.2.2.2.2.2.2.2.2.2.1.2.2 S C.2.2.2.1 (C.2.2.2.2.1 _ hl) (fun _ h => h) hd (k p e Rm s m args below meth c H locs cells slots Post ls C w S l r1 r2 K)
theorem z_hald {i : Int32} (hin : vp_in i 5) (hd : decode me.2.1 pc = .ok (.iaload, 1))
    (k : z_W G me d kc ks (pc + 1) lv (.int (z_hi i.toNatClampNeg) :: st) sh h Q) : z_W G me d kc ks pc lv (.int i :: .ref 100001 :: st) sh h Q := by
  intro p e Rm s m args below meth c H locs cells slots Post ls C w S l r1 r2 K
  exact va_ti C.1 C.2.1 C.2.2.2.2.2.2.2.2.2.1.2.1 S hin rfl hd (k p e Rm s m args below meth c H locs cells slots Post ls C w S l r1 r2 K)
theorem z_sald {i : Int32} (hin : vp_in i G.2.2.2.2.2.1) (hd : decode me.2.1 pc = .ok (.iaload, 1))
    (k : z_W G me d kc ks (pc + 1) lv (.int (G.2.2.2.2.2.2 i.toNatClampNeg) :: st) sh h Q) : z_W G me d kc ks pc lv (.int i :: .ref 100000 :: st) sh h Q := by
  intro p e Rm s m args below meth c H locs cells slots Post ls C w S l r1 r2 K
  exact va_ti C.1 C.2.1 C.2.2.2.2.2.2.2.2.2.1.1 S hin rfl hd (k p e Rm s m args below meth c H locs cells slots Post ls C w S l r1 r2 K)
theorem z_hlen (hd : decode me.2.1 pc = .ok (.arraylength, 1)) (k : z_W G me d kc ks (pc + 1) lv (.int 5 :: st) sh h Q) : z_W G me d kc ks pc lv (.ref 100001 :: st) sh h Q := by
  intro p e Rm s m args below meth c H locs cells slots Post ls C w S l r1 r2 K
  exact va_tlen C.1 C.2.1 C.2.2.2.2.2.2.2.2.2.1.2.1 S rfl hd (k p e Rm s m args below meth c H locs cells slots Post ls C w S l r1 r2 K)
theorem z_slen (hd : decode me.2.1 pc = .ok (.arraylength, 1)) (k : z_W G me d kc ks (pc + 1) lv (.int (Int32.ofNat G.2.2.2.2.2.1) :: st) sh h Q) : z_W G me d kc ks pc lv (.ref 100000 :: st) sh h Q := by
  intro p e Rm s m args below meth c H locs cells slots Post ls C w S l r1 r2 K
  exact va_tlen C.1 C.2.1 C.2.2.2.2.2.2.2.2.2.1.1 S rfl hd (k p e Rm s m args below meth c H locs cells slots Post ls C w S l r1 r2 K)
end ZA
