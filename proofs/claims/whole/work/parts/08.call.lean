/-! a method's contract, calls, returns, entry -/
def z_ws0 (me : z_Me) : List Cond := Cond.code me.1 me.2.1 me.2.2.1 me.2.2.2 :: z_tb
def z_rm (d kc ks : Nat) : Room := { frames := d, cells := kc, slots := ks, locals := 64 * d }
def z_Pc (G : z_G) (av : List Value) (sh : z_S) (h : z_H) : Array Value → State → Prop := fun v U => v = (av.map (z_cv G)).toArray ∧ z_Wd G sh h U.heap ∧ va_K G.2.2.2.1 vwCl (z_tys G) U ∧ z_Fz G U U.heap ∧ z_Nw U
def z_Qc (G : z_G) (Q : Option Value → z_S → z_H → Prop) : Array Value → State → Outcome → State → Prop := fun _ u oc t => (∃ (r : Option Value) (sh : z_S) (h : z_H), oc = .returned r ∧ (r = none ∨ ∃ x : Int32, r = some (.int x)) ∧ Q r sh h ∧ z_Wd G sh h t.heap) ∧ va_F (z_A G) u t
/-- the contract: called with these arguments in this heap it returns, with Q -/
def z_M (G : z_G) (d kc ks : Nat) (me : z_Me) (av : List Value) (sh : z_S) (h : z_H) (Q : Option Value → z_S → z_H → Prop) : Prop :=
  Met G.1 me.1 (z_ws0 me) (z_rm d kc ks) (z_Pc G av sh h) (z_Qc G Q) kc ks (z_A G)
/-- what the tables say of a method of ours -/
def z_Ok (me : z_Me) (n : Nat) : Prop := Cond.code me.1 me.2.1 me.2.2.1 me.2.2.2 ∈ z_tb ∧ Cond.initialized me.1.cls ∈ z_tb ∧ (me.1.cls ≠ "java/lang/invoke/MethodHandle" ∧ me.1.cls ≠ "java/lang/invoke/VarHandle" ∧ (parseMethodDescriptor me.1.desc).map (fun d => d.parameters.length) = some n) ∧ me.2.2.1 ≤ 40
theorem z_good {me : z_Me} {n : Nat} (h : z_Ok me n) : GoodIn z_tb (z_ws0 me) := by
  intro w hw
  have h1 : w ∈ z_tb := by
    rcases List.mem_cons.mp hw with e | e
    · rw [e]; exact h.1
    · exact e
  exact ⟨h1, good_of_word (List.mem_filter.mp h1).2⟩
theorem z_blind (G : z_G) (av : List Value) (sh : z_S) (h : z_H) : FrameBlind (z_Pc G av sh h) := by
  intro a U g mk q
  obtain ⟨q1, q2, q3, q4, q5⟩ := q
  have al : U.vm.Alike (U.calling g mk a).vm := Vm.Alike.refl U.vm
  exact ⟨q1, q2, va_K.moved (u := U) (U := U.calling g mk a) al q3, ⟨q4.1.moved al, q4.2.1.moved al, va_Z.moved al q4.2.2⟩, fun w hw => va_Nw.same rfl (u := U) rfl (q5.1 w hw), q5.2.1.moved al, q5.2.2.moved al⟩
section ZC
variable {G : z_G} {me : z_Me} {d kc ks pc : Nat} {lv : List (Option Value)} {st : List Value} {sh : z_S} {h : z_H} {Q : Option Value → z_S → z_H → Prop}
theorem z_Fz_kept {U : State} {H H1 : Heap} (hf : z_Fz G U H) (hq : ∀ a : Nat, a < H.size → ¬ z_A G a → H1[a]? = H[a]?) : z_Fz G U H1 := ⟨hf.1.kept hq, hf.2.1.kept hq, hf.2.2.kept hq⟩
theorem z_Fz_moved {u U : State} {H : Heap} (hvm : u.vm.Alike U.vm) (hf : z_Fz G u H) : z_Fz G U H := ⟨hf.1.moved hvm, hf.2.1.moved hvm, hf.2.2.moved hvm⟩
theorem z_back {p : Program} {e : Env} {Rm : Room} {s : State} {m : MethodId} {args : Array Value} {below : List Frame} {meth : Method} {c : Code} {H : Heap} {locs : List Loc} {cells slots : Nat} {Post : State → Prop} {ls : Array Slot} {mc ms : Nat} {Q' : Option Value → z_S → z_H → Prop} {st0 : List Value} {a : Array Value}
    (hr : va_Run p G.1 e Rm s m args below meth c H locs cells slots mc ms (F0 m pc ls st0) (st.map (z_cv G)) (z_Qc G Q' a) (z_A G)) (hS : va_S (z_A G) s.heap H locs)
    (kk : ∀ (r : Option Value) (sh' : z_S) (h' : z_H) (H1 : Heap) (locs1 : List Loc), Q' r sh' h' → z_Wd G sh' h' H1 → va_S (z_A G) s.heap H1 locs1 → W p G.1 e Rm s m args below meth c H1 locs1 (cells + mc) (slots + ms) Post (F0 m (pc + 3) ls ((r.toList ++ st).map (z_cv G)))) : W p G.1 e Rm s m args below meth c H locs cells slots Post (F0 m pc ls st0) := by
  intro T hT X
  obtain ⟨v, st₀, t, T', L, h0, X', hL, e1, e2, ⟨⟨r, sh', h', hv, hi, hp, hb⟩, hz, hk⟩, stp⟩ := hr T hT X
  have hv : v = r := by cases hv; rfl
  subst hv
  rw [h0] at hz hk
  have em : (v.toList ++ st).map (z_cv G) = v.toList ++ st.map (z_cv G) := by
    rcases hi with rfl | ⟨x, rfl⟩ <;> rfl
  obtain ⟨t2, a1, b1⟩ := kk v sh' h' T'.heap (locs ++ L) hp (by rw [e1]; exact hb)
    ⟨Nat.le_trans hS.1 (by rw [e1]; exact hz), fun q h1 h2 => by rw [e1, hk q (Nat.lt_of_lt_of_le h1 hS.1) h2]; exact hS.2.1 q h1 h2, fun q hq => by
      rcases List.mem_append.mp hq with h | h
      · exact hS.2.2 q h
      · exact hL q h⟩ T' rfl X'
  rw [em] at a1
  exact ⟨t2, stp t2 a1, b1⟩
theorem z_pre {p : Program} {Rm : Room} {s : State} {m : MethodId} {args : Array Value} {meth : Method} {c : Code} {H : Heap} {locs : List Loc} {av : List Value} (C : z_Cx G me d p Rm s m args meth c) (w : z_Wd G sh h H) (S : va_S (z_A G) s.heap H locs) : ∀ U : State, U.heap = H → s.WarmedH U.vm → z_Pc G av sh h (av.map (z_cv G)).toArray U := by
  intro U hU hW
  have hN := C.2.2.2.2.2.2.2.2.2.2.2
  refine ⟨rfl, by rw [hU]; exact w, va_K.moved hW.alike C.2.2.2.2.2.1, ?_, fun q hq => va_Nw.warmM hW (hN.1 q hq), hN.2.1.moved hW.alike, hN.2.2.moved hW.alike⟩
  rw [hU]
  exact z_Fz_moved hW.alike (z_Fz_kept C.2.2.2.2.2.2.2.2.2.1 (fun a h1 h2 => S.2.1 a h1 h2))
theorem z_callB {me' : z_Me} {n mc ms idx : Nat} {Rm : Room} {s : State} {args : Array Value} {own : String} (ok : z_Ok me' n) (hts : ∀ w ∈ z_tb, w.before args s = true) (hl : Cond.methodLink own idx me'.1 ∈ z_tb) (h1 : d + 1 ≤ Rm.frames) (h2 : 64 * (d + 1) ≤ Rm.locals) :
    CallB Rm s args own idx me'.1 me'.2.1 me'.2.2.1 me'.2.2.2 (z_ws0 me') (z_rm d mc ms) mc ms n :=
  callB_of n hts (z_good ok) rfl rfl rfl (hts _ ok.2.1) (hts _ hl) ok.2.2.1 ⟨h1, by have := ok.2.2.2; show 8 + (me'.2.2.1 + 11) + 64 * d ≤ Rm.locals; omega⟩
theorem z_callS {me' : z_Me} {n mc ms idx : Nat} {av : List Value} {Q' : Option Value → z_S → z_H → Prop} (hM : z_M G d mc ms me' av sh h Q') (ok : z_Ok me' n) (hl : Cond.methodLink me.1.cls idx me'.1 ∈ z_tb) (hst : Cond.static me'.1 ∈ z_tb) (hn : av.length = n) (hr : (st.map fun v => v.category).sum ≤ 8) (hd : decode me.2.1 pc = .ok (.invokestatic idx, 3))
    (k : ∀ (r : Option Value) (sh' : z_S) (h' : z_H), Q' r sh' h' → z_W G me (d + 1) kc ks (pc + 3) lv (r.toList ++ st) sh' h' Q) : z_W G me (d + 1) (kc + mc) (ks + ms) pc lv (av.reverse ++ st) sh h Q := by
  intro p e Rm s m args below meth c H locs cells slots Post ls C w S l r1 r2 K
  refine z_back (mc := mc) (ms := ms) (va_runS (n := n) (As := av.map (z_cv G)) (rest := st.map (z_cv G)) ⟨C.1, C.2.1, C.2.2.1, C.2.2.2.1, C.2.2.2.2.1⟩ hM ⟨z_callB ok C.2.2.2.2.1 hl C.2.2.2.2.2.2.1 C.2.2.2.2.2.2.2.1, C.2.2.2.2.1 _ hst⟩ ⟨z_blind G av sh h, z_pre C w S⟩ rfl (by rw [List.length_map]; exact hn) l.1 (by show List.map _ _ = _; rw [List.map_append, List.map_reverse]) (lv_room (by rw [z_cats]; exact hr)) hd ⟨by omega, by omega⟩) S ?_
  intro r sh' h' H1 locs1 hq w1 S1
  exact k r sh' h' hq p e Rm s m args below meth c H1 locs1 _ _ Post ls C w1 S1 l (by omega) (by omega) (by rw [Nat.add_assoc, Nat.add_assoc, Nat.add_comm mc kc, Nat.add_comm ms ks]; exact K)
theorem z_callV {me' : z_Me} {n mc ms idx a ci : Nat} {av : List Value} {Q' : Option Value → z_S → z_H → Prop} (hM : z_M G d mc ms me' (.ref a :: av) sh h Q') (ok : z_Ok me' n) (hl : Cond.methodLink me.1.cls idx me'.1 ∈ z_tb) (hst : Cond.instanceMethod me'.1 ∈ z_tb ∧ Cond.selects me'.1.cls me'.1 me'.1 ∈ z_tb) (hs : sh[a]? = some (0, ci)) (hci : (vwCl[ci]?).map (fun q => q.1) = some me'.1.cls) (hn : av.length = n) (hr : (st.map fun v => v.category).sum ≤ 8) (hd : decode me.2.1 pc = .ok (.invokevirtual idx, 3))
    (k : ∀ (r : Option Value) (sh' : z_S) (h' : z_H), Q' r sh' h' → z_W G me (d + 1) kc ks (pc + 3) lv (r.toList ++ st) sh' h' Q) : z_W G me (d + 1) (kc + mc) (ks + ms) pc lv (av.reverse ++ .ref a :: st) sh h Q := by
  intro p e Rm s m args below meth c H locs cells slots Post ls C w S l r1 r2 K
  have hz : z_cv G (.ref a) = .ref (G.2.1 + a) := z_ref (Nat.lt_of_lt_of_le (z_lt hs) w.1)
  obtain ⟨q, hq1, hq2⟩ := Option.map_eq_some_iff.mp hci
  have hrc : ∃ cell : Cell, H[G.2.1 + a]? = some cell ∧ cell.vm.isStatics = false ∧ s.vm.findClass me'.1.cls = some cell.cls := by
    rw [← hq2]
    exact va_recv C.2.2.2.2.2.1 w.2.2 hq1 (z_ws_at hs)
  have hpre : ∀ U : State, U.heap = H → s.WarmedH U.vm → z_Pc G (.ref a :: av) sh h (Value.ref (G.2.1 + a) :: av.map (z_cv G)).toArray U := by
    have := z_pre (av := .ref a :: av) C w S
    rw [List.map_cons, hz] at this
    exact this
  refine z_back (mc := mc) (ms := ms) (va_runV (n := n) (C := me'.1.cls) (b := G.2.1 + a) (As := av.map (z_cv G)) (rest := st.map (z_cv G)) ⟨C.1, C.2.1, C.2.2.1, C.2.2.2.1, C.2.2.2.2.1⟩ hM ⟨z_callB ok C.2.2.2.2.1 hl C.2.2.2.2.2.2.1 C.2.2.2.2.2.2.2.1, C.2.2.2.2.1 _ hst.1, C.2.2.2.2.1 _ hst.2⟩ ⟨z_blind G _ sh h, hrc, hpre⟩ rfl (by rw [List.length_map]; exact hn) l.1 (by show List.map _ _ = _; rw [List.map_append, List.map_reverse, List.map_cons, hz]) (lv_room (by rw [z_cats]; exact hr)) hd ⟨by omega, by omega⟩) S ?_
  intro r sh' h' H1 locs1 hq w1 S1
  exact k r sh' h' hq p e Rm s m args below meth c H1 locs1 _ _ Post ls C w1 S1 l (by omega) (by omega) (by rw [Nat.add_assoc, Nat.add_assoc, Nat.add_comm mc kc, Nat.add_comm ms ks]; exact K)
theorem z_callI {me' : z_Me} {n mc ms idx a : Nat} {av : List Value} {Q' : Option Value → z_S → z_H → Prop} (hM : z_M G d mc ms me' (.ref a :: av) sh h Q') (ok : z_Ok me' n) (hnone : me'.2.2.2 = none) (hl : Cond.methodLink me.1.cls idx me'.1 ∈ z_tb) (hst : Cond.instanceMethod me'.1 ∈ z_tb) (hi : me'.1.name = "<init>") (ha : a < 100000) (hn : av.length = n) (hr : (st.map fun v => v.category).sum ≤ 8) (hd : decode me.2.1 pc = .ok (.invokespecial idx, 3))
    (k : ∀ (r : Option Value) (sh' : z_S) (h' : z_H), Q' r sh' h' → z_W G me (d + 1) kc ks (pc + 3) lv (r.toList ++ st) sh' h' Q) : z_W G me (d + 1) (kc + mc) (ks + ms) pc lv (av.reverse ++ .ref a :: st) sh h Q := by
  intro p e Rm s m args below meth c H locs cells slots Post ls C w S l r1 r2 K
  have hz : z_cv G (.ref a) = .ref (G.2.1 + a) := z_ref ha
  have hpre : ∀ U : State, U.heap = H → s.WarmedH U.vm → z_Pc G (.ref a :: av) sh h (Value.ref (G.2.1 + a) :: av.map (z_cv G)).toArray U := by
    have := z_pre (av := .ref a :: av) C w S
    rw [List.map_cons, hz] at this
    exact this
  have cb := z_callB (mc := mc) (ms := ms) ok C.2.2.2.2.1 hl C.2.2.2.2.2.2.1 C.2.2.2.2.2.2.2.1
  rw [hnone] at cb
  refine z_back (mc := mc) (ms := ms) (va_runI (n := n) (b := G.2.1 + a) (As := av.map (z_cv G)) (rest := st.map (z_cv G)) ⟨C.1, C.2.1, C.2.2.1, C.2.2.2.1, C.2.2.2.2.1⟩ hM ⟨cb, hi, C.2.2.2.2.1 _ hst⟩ ⟨z_blind G _ sh h, hpre⟩ rfl (by rw [List.length_map]; exact hn) l.1 (by show List.map _ _ = _; rw [List.map_append, List.map_reverse, List.map_cons, hz]) (lv_room (by rw [z_cats]; exact hr)) hd ⟨by omega, by omega⟩) S ?_
  intro r sh' h' H1 locs1 hq w1 S1
  exact k r sh' h' hq p e Rm s m args below meth c H1 locs1 _ _ Post ls C w1 S1 l (by omega) (by omega) (by rw [Nat.add_assoc, Nat.add_assoc, Nat.add_comm mc kc, Nat.add_comm ms ks]; exact K)
theorem z_callSN {me' : z_Me} {n mc ms idx : Nat} {av : List Value} {Q' : Option Value → z_S → z_H → Prop} (hM : z_M G d mc ms me' av sh h Q') (ok : z_Ok me' n) (hl : (me.1.cls, idx, me'.1) ∈ z_nl) (hst : Cond.static me'.1 ∈ z_tb) (hn : av.length = n) (hr : (st.map fun v => v.category).sum ≤ 8) (hd : decode me.2.1 pc = .ok (.invokestatic idx, 3))
    (k : ∀ (r : Option Value) (sh' : z_S) (h' : z_H), Q' r sh' h' → z_W G me (d + 1) kc ks (pc + 3) lv (r.toList ++ st) sh' h' Q) : z_W G me (d + 1) (kc + mc) (ks + ms) pc lv (av.reverse ++ st) sh h Q := by
  intro p e Rm s m args below meth c H locs cells slots Post ls C w S l r1 r2 K
  have hlo : 64 * (d + 1) ≤ Rm.locals := C.2.2.2.2.2.2.2.1
  have h40 := ok.2.2.2
  refine z_back (mc := mc) (ms := ms) (va_runSN (n := n) (host := "ClockChoir") (As := av.map (z_cv G)) (rest := st.map (z_cv G)) ⟨C.1, C.2.1, C.2.2.1, C.2.2.2.1, C.2.2.2.2.1⟩ hM ⟨va_cnB n C.2.2.2.2.1 (z_good ok) rfl rfl rfl (C.2.2.2.2.2.2.2.2.2.2.2.1 _ hl) (C.2.2.2.2.1 _ ok.2.1) ok.2.2.1 ⟨C.2.2.2.2.2.2.1, by show 8 + (me'.2.2.1 + 11) + 64 * d ≤ Rm.locals; omega⟩, C.2.2.2.2.1 _ hst, trivial⟩ ⟨z_blind G av sh h, z_pre C w S⟩ rfl (by rw [List.length_map]; exact hn) l.1 (by show List.map _ _ = _; rw [List.map_append, List.map_reverse]) (lv_room (by rw [z_cats]; exact hr)) hd ⟨by omega, by omega⟩) S ?_
  intro r sh' h' H1 locs1 hq w1 S1
  exact k r sh' h' hq p e Rm s m args below meth c H1 locs1 _ _ Post ls C w1 S1 l (by omega) (by omega) (by rw [Nat.add_assoc, Nat.add_assoc, Nat.add_comm mc kc, Nat.add_comm ms ks]; exact K)
theorem z_callIN {me' : z_Me} {n mc ms idx a : Nat} {av : List Value} {Q' : Option Value → z_S → z_H → Prop} (hM : z_M G d mc ms me' (.ref a :: av) sh h Q') (ok : z_Ok me' n) (hnone : me'.2.2.2 = none) (hl : (me.1.cls, idx, me'.1) ∈ z_nl) (hst : Cond.instanceMethod me'.1 ∈ z_tb) (hi : me'.1.name = "<init>") (ha : a < 100000) (hn : av.length = n) (hr : (st.map fun v => v.category).sum ≤ 8) (hd : decode me.2.1 pc = .ok (.invokespecial idx, 3))
    (k : ∀ (r : Option Value) (sh' : z_S) (h' : z_H), Q' r sh' h' → z_W G me (d + 1) kc ks (pc + 3) lv (r.toList ++ st) sh' h' Q) : z_W G me (d + 1) (kc + mc) (ks + ms) pc lv (av.reverse ++ .ref a :: st) sh h Q := by
  intro p e Rm s m args below meth c H locs cells slots Post ls C w S l r1 r2 K
  have hz : z_cv G (.ref a) = .ref (G.2.1 + a) := z_ref ha
  have hpre : ∀ U : State, U.heap = H → s.WarmedH U.vm → z_Pc G (.ref a :: av) sh h (Value.ref (G.2.1 + a) :: av.map (z_cv G)).toArray U := by
    have := z_pre (av := .ref a :: av) C w S
    rw [List.map_cons, hz] at this
    exact this
  have hlo : 64 * (d + 1) ≤ Rm.locals := C.2.2.2.2.2.2.2.1
  have h40 := ok.2.2.2
  have cb := va_cnB (R := Rm) (mc := mc) (ms := ms) (rm := z_rm d mc ms) n C.2.2.2.2.1 (z_good ok) rfl rfl rfl (C.2.2.2.2.2.2.2.2.2.2.2.1 _ hl) (C.2.2.2.2.1 _ ok.2.1) ok.2.2.1 ⟨C.2.2.2.2.2.2.1, by show 8 + (me'.2.2.1 + 11) + 64 * d ≤ Rm.locals; omega⟩
  rw [hnone] at cb
  refine z_back (mc := mc) (ms := ms) (va_runIN (n := n) (host := "ClockChoir") (b := G.2.1 + a) (As := av.map (z_cv G)) (rest := st.map (z_cv G)) ⟨C.1, C.2.1, C.2.2.1, C.2.2.2.1, C.2.2.2.2.1⟩ hM ⟨cb, hi, C.2.2.2.2.1 _ hst⟩ ⟨z_blind G _ sh h, hpre⟩ rfl (by rw [List.length_map]; exact hn) l.1 (by show List.map _ _ = _; rw [List.map_append, List.map_reverse, List.map_cons, hz]) (lv_room (by rw [z_cats]; exact hr)) hd ⟨by omega, by omega⟩) S ?_
  intro r sh' h' H1 locs1 hq w1 S1
  exact k r sh' h' hq p e Rm s m args below meth c H1 locs1 _ _ Post ls C w1 S1 l (by omega) (by omega) (by rw [Nat.add_assoc, Nat.add_assoc, Nat.add_comm mc kc, Nat.add_comm ms ks]; exact K)
theorem z_oinit {idx a : Nat} (hl : Cond.methodLink me.1.cls idx objectInit ∈ z_tb) (hi : Cond.instanceMethod objectInit ∈ z_tb ∧ Cond.code objectInit ⟨#[0xb1]⟩ 1 none ∈ z_tb) (ha : a < 100000) (hr : (st.map fun v => v.category).sum ≤ 8) (hd : decode me.2.1 pc = .ok (.invokespecial idx, 3))
    (k : z_W G me (d + 1) kc ks (pc + 3) lv st sh h Q) : z_W G me (d + 1) kc ks pc lv (.ref a :: st) sh h Q := by
  intro p e Rm s m args below meth c H locs cells slots Post ls C w S l r1 r2 K
  simp only [List.map_cons]
  rw [z_ref ha]
  have h7 := C.2.2.2.2.2.2.1
  have h8 := C.2.2.2.2.2.2.2.1
  exact W.objInit C.1 C.2.1 C.2.2.2.1 (C.2.2.2.2.1 _ hl) (C.2.2.2.2.1 _ hi.1) (C.2.2.2.2.1 _ hi.2) rfl (l.1.trans C.2.2.1.symm) rfl hd (by omega) (by
    have h9 : 2 * (F0 m pc ls (.ref (G.2.1 + a) :: st.map (z_cv G))).monitorRoom + ((st.map (z_cv G)).map fun v => v.category).sum ≤ 8 := lv_room (by rw [z_cats]; exact hr)
    omega) (k p e Rm s m args below meth c H locs cells slots Post ls C w S l r1 r2 K)
theorem z_iret {v : Int32} (hq : Q (some (.int v)) sh h) (hn : ∃ ty, me.2.2.2 = some ty ∧ narrow ty (.int v) = .int v) (hd : decode me.2.1 pc = .ok (.ireturn, 1)) : z_W G me d kc ks pc lv [.int v] sh h Q :=
  fun p e Rm s m args below meth c H locs cells slots Post ls C w S l r1 r2 K => K pc ls (some (.int v)) sh h H locs cells slots hq hn hd w S (Nat.le_add_right _ _) (Nat.le_add_right _ _)
theorem z_vret (hq : Q none sh h) (hn : me.2.2.2 = none) (hd : decode me.2.1 pc = .ok (.return_, 1)) : z_W G me d kc ks pc lv [] sh h Q :=
  fun p e Rm s m args below meth c H locs cells slots Post ls C w S l r1 r2 K => K pc ls none sh h H locs cells slots hq hn hd w S (Nat.le_add_right _ _) (Nat.le_add_right _ _)
theorem z_lsl {vs : List Value} (hv : ∀ v ∈ vs, v.category = 1) : (lg_sl (vs.map (z_cv G))).length = vs.length := by
  induction vs with
  | nil => rfl
  | cons v t ih =>
    have h1 := hv v List.mem_cons_self
    have e : lg_sl ((v :: t).map (z_cv G)) = Slot.val (z_cv G v) :: lg_sl (t.map (z_cv G)) := by
      unfold lg_sl
      rw [List.map_cons, List.flatMap_cons, if_neg (by rw [z_cat, h1]; decide)]
      rfl
    rw [e, List.length_cons, List.length_cons, ih (fun u hu => hv u (List.mem_cons_of_mem _ hu))]
theorem z_largs {vs : List Value} (hv : ∀ v ∈ vs, v.category = 1) : ∀ (i j : Nat) (v : Value), vs[j]? = some v → (i + j, z_cv G v) ∈ lv_args i (vs.map (z_cv G)) := by
  induction vs with
  | nil => intro i j v hj; simp at hj
  | cons u t ih =>
    intro i j v hj
    have h1 := hv u List.mem_cons_self
    rw [List.map_cons]
    unfold lv_args
    rw [if_neg (by rw [z_cat, h1]; decide)]
    cases j with
    | zero =>
      simp at hj
      subst hj
      exact List.mem_cons_self
    | succ j =>
      have := ih (fun u hu => hv u (List.mem_cons_of_mem _ hu)) (i + 1) j v (by simpa using hj)
      rw [show i + 1 + j = i + (j + 1) by omega] at this
      exact List.mem_cons_of_mem _ this
/-- the locals at a method's entry -/
def z_ent (av : List Value) (n : Nat) : List (Option Value) := av.map some ++ List.replicate (n - av.length) none
theorem z_entry {m : MethodId} {av : List Value} {n : Nat} (hv : ∀ v ∈ av, v.category = 1) (hn : av.length ≤ n) : ∃ ls : Array Slot, entryFrame m (av.map (z_cv G)).toArray n = F0 m 0 ls [] ∧ z_has G ls n (z_ent av n) := by
  have hl := lv_entry (av.map (z_cv G)) (n := n) (by rw [z_lsl hv]; exact hn)
  refine ⟨_, lg_entry_eq m _ n, hl.1, hl.2.1, fun i v hi => ?_⟩
  unfold z_ent at hi
  have hlt : i < av.length := by
    rcases Nat.lt_or_ge i av.length with q | q
    · exact q
    · rw [List.getElem?_append_right (by simpa using q)] at hi
      have := List.mem_of_getElem? hi
      rw [List.mem_replicate] at this
      cases this.2
  rw [List.getElem?_append_left (by simpa using hlt), List.getElem?_map] at hi
  obtain ⟨u, hu1, hu2⟩ := Option.map_eq_some_iff.mp hi
  cases hu2
  have hm := z_largs (G := G) hv 0 i v hu1
  rw [Nat.zero_add] at hm
  exact ⟨hl.2.2 _ hm, hv v (List.mem_of_getElem? hu1)⟩
/-- the contract out of a walk of the body -/
theorem z_M_of {av : List Value} (hpl : plainName me.1.cls = true) (hv : ∀ v ∈ av, v.category = 1) (hn : av.length ≤ me.2.2.1) (k : z_W G me d kc ks 0 (z_ent av me.2.2.1) [] sh h Q) : z_M G d kc ks me av sh h Q := by
  refine Met.ofW (cc := me.2.1) (maxL := me.2.2.1) (ret := me.2.2.2) hpl rfl ?_
  intro p e s m args below meth c s₁ B hml hp
  obtain ⟨rfl, hw, hK, hF, hN⟩ := hp
  have hts : ∀ w ∈ z_tb, w.before (av.map (z_cv G)).toArray s = true := fun w hw => atoms_spec (ws := z_ws0 me) B.pre w (List.mem_cons_of_mem _ hw)
  obtain ⟨ls, e1, e2⟩ := z_entry (G := G) (m := m) hv hn
  rw [e1]
  have C : z_Cx G me d p (headSpec (z_ws0 me) (z_rm d kc ks)).room s m (av.map (z_cv G)).toArray meth c := ⟨B.exec, B.bytes, hml, findClass_of_methodNamed B.named, hts, hK, Nat.le_refl _, Nat.le_refl _, by rw [hw.2.1]; exact Nat.le_add_right _ _, hF, fun q => ((name_of_methodNamed B.named B.method).1).trans q, hN⟩
  refine k p e _ s m _ below meth c s.heap [] 0 0 _ ls C hw va_S.rf e2 (by show 0 + kc ≤ kc; omega) (by show 0 + ks ≤ ks; omega) ?_
  intro pc ls r sh' h' H locs cells slots hq hrt hrd w S h1 h2
  refine W.widen (k := kc) (n := ks) (by omega) (by omega) ?_
  match r, hq, hrt, hrd with
  | none, hq, hrt, hrd => exact W.vret (Qc := z_Qc G Q) B.exec B.bytes (B.returns.trans hrt) (fun t ht hW => ⟨⟨none, sh', h', rfl, Or.inl rfl, hq, by rw [ht]; exact w⟩, S.F ht⟩) S.2.2 hrd B.notSynchronized
  | some (.int v), hq, hrt, hrd =>
    obtain ⟨ty, ht1, ht2⟩ := hrt
    exact W.zret (Qc := z_Qc G Q) B.exec B.bytes (B.returns.trans ht1) ht2 (fun t ht hW => ⟨⟨some (.int v), sh', h', rfl, Or.inr ⟨v, rfl⟩, hq, by rw [ht]; exact w⟩, S.F ht⟩) S.2.2 hrd B.notSynchronized
end ZC
