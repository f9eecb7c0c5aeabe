/-! rows that write; the kit's rows with the heap's size told -/
section ZP
variable {p : Program} {l : Launch} {e : Env} {R : Room} {s : State} {m : MethodId} {args : Array Value} {below : List Frame} {meth : Method} {c : Code} {H : Heap} {locs : List Loc} {cells slots : Nat} {Q : State → Prop}
variable {cc : ByteArray} {pc : Nat} {ls : Array Slot} {rest : List Value} {D : va_G} {cl : List vw_C} {A : Nat → Prop} {a : Nat} {tys : List (ClassId × FieldType)} {ws : va_W} {H0 : Heap}
theorem z_vput (hexec : p.tables.exec = Jvm.exec) (hb : c.code = cc) {own C : String} {T : u_T} {N ci index : Nat} {Ts : List Cond} (hts : ∀ w ∈ Ts, w.before args s = true) (hin : ∀ w ∈ u_ws C T N, w ∈ Ts) (ty0 : Nat → FieldType) (hty : ∀ k, k < N → parseFieldDescriptor (T k).2.2.1 = some (ty0 k)) (hnm : ∀ a, a < N → ∀ b, b < N → a ≠ b → (T a).2.1 ≠ (T b).2.1) (hown : s.vm.findClass own = some m.cls) (hK : va_K D cl tys s) (hP : va_P D cl ws H) (hD : va_D A ws) (hS0 : va_S A H0 H locs) (q0 : Nat) {fs : List Value} (he : ws[q0]? = some (a, .inr (ci, fs))) (hc : cl[ci]? = some (C, T, N)) (k : Nat) (hk : k < N) (hlink : (Cond.fieldLink own index (T k).1 (T k).2.1 (T k).2.2.1).before args s = true) (hfin : (T k).2.2.2 = false ∨ ((T k).2.2.2 = true ∧ meth.name = "<init>" ∧ (T k).1 = own)) {v : Value} (hn : narrow (ty0 k) v = v) (hfit : fits (ty0 k) v = true) (hl : k < fs.length)
    (hdg : decode cc pc = .ok (.putfield index, 3)) (kk : ∀ (H1 : Heap) (locs1 : List Loc), H1.size = H.size → va_P D cl (ws.set q0 (a, .inr (ci, fs.set k v))) H1 → va_S A H0 H1 locs1 → W p l e R s m args below meth c H1 locs1 cells slots Q (F0 m (pc + 3) ls rest)) : W p l e R s m args below meth c H locs cells slots Q (F0 m pc ls (v :: .ref a :: rest)) := by
  have hap := va_apart (own := own) hts hin ty0 hty hnm hK hc
  have hd := hty k hk
  obtain ⟨r, h1, cell, q1, q2, q3, q4⟩ := hP q0 _ he
  have hr : r = (C, T, N) := Option.some.inj (h1.symm.trans hc)
  subst hr
  obtain ⟨hS, hfc, kC, hkC, hkind⟩ := hK.1 ci _ hc
  obtain ⟨cf, kf, fi, f, hi, hsl⟩ := hS k hk
  have hlay := hts _ (hin _ (u_in_lay hk))
  unfold u_lay at hlay
  have hst := (u_facts hfc hkC (u_lays hts hin hk) hi).1
  rcases hfin with hfin | ⟨hfin, hin2, hdecl⟩
  · rw [if_neg (by rw [hfin]; decide)] at hlay
    have h6 := u_store hfc hkC hkind hlay hi hd hn hfit
    refine W.putK hexec hb (f := f) ⟨hown, hlink, ⟨_, _, _, hi⟩, hst⟩ (by rw [q2]; exact h6) q1 q3 (by rw [hsl]; exact k2_hasslot (q4 k hk)) rfl rfl hdg fun H' e1 e2 e3 => ?_
    rw [hsl] at e1 ⊢
    exact kk H' _ e2 (hP.set hD he ⟨_, hc, t_OB.to (V := updV (vp_V fs) k v) ⟨_, e1, q2, q3, t_set q4 hap hk v⟩ (fun j _ => vp_updV_set hl v j)⟩ e3) (hS0.put e2 e3 (hD.2 q0 _ he))
  · rw [if_pos hfin] at hlay
    have hcf : m.cls = cf := by
      obtain ⟨_, _, c', _, _, _, -, -, hf', -, -, -, hown2, -⟩ := Cond.laysFinal_spec hlay
      have e1 : c' = cf := by have := hi.symm.trans hf'; simp at this; exact this.1.symm
      rw [hdecl] at hown2
      rw [← e1]; exact Option.some.inj (hown.symm.trans hown2)
    have h6 := u_fits hfc hkC hkind (Or.inr hlay) hi hd hn hfit
    refine W.putFinK hexec hb hown hlink hi hst hcf hin2 (by rw [q2]; exact h6) q1 q3 (by rw [hsl]; exact k2_hasslot (q4 k hk)) rfl rfl hdg fun H' e1 e2 e3 => ?_
    rw [hsl] at e1 ⊢
    exact kk H' _ e2 (hP.set hD he ⟨_, hc, t_OB.to (V := updV (vp_V fs) k v) ⟨_, e1, q2, q3, t_set q4 hap hk v⟩ (fun j _ => vp_updV_set hl v j)⟩ e3) (hS0.put e2 e3 (hD.2 q0 _ he))
theorem z_viast (hexec : p.tables.exec = Jvm.exec) (hb : c.code = cc) (hK : va_K D cl tys s) (hP : va_P D cl ws H) (hD : va_D A ws) (hS : va_S A H0 H locs) (q0 t0 : Nat) {cA : ClassId} {n : Nat} {f : Nat → Int32} (ha : ws[q0]? = some (a, .inl (cA, n, .inl f))) (ht : tys[t0]? = some (cA, .int)) {i : Int32} {x : Int32} (hin : vp_in i n) (hdg : decode cc pc = .ok (.iastore, 1))
    (kk : ∀ (H1 : Heap) (locs1 : List Loc), H1.size = H.size → va_P D cl (ws.set q0 (a, .inl (cA, n, .inl (upd f i.toNatClampNeg x)))) H1 → va_S A H0 H1 locs1 → W p l e R s m args below meth c H1 locs1 cells slots Q (F0 m (pc + 1) ls rest)) : W p l e R s m args below meth c H locs cells slots Q (F0 m pc ls (.int x :: .int i :: .ref a :: rest)) := by
  refine W.iast hexec hb (hP q0 _ ha) ((hK.2 t0 _ ht).1 n (fun j => .int (f j))) (fun q => by cases q) (by show ¬ (i < 0 ∨ (arrV _ _ _).slots.size ≤ _); rw [arrV_size]; exact hin) rfl rfl hdg fun H1 e z oq => ?_
  refine kk H1 _ z (hP.set hD ha ?_ oq) (hS.put z oq (hD.2 q0 _ ha))
  show H1[a]? = some (vp_cell _ _)
  rw [e]
  rw [vp_cell_i, vp_cell_i, arrV_store]
  congr 2
  funext q
  by_cases hq : q = i.toNatClampNeg
  · subst hq
    simp [updV, upd]
  · simp [updV, upd, hq]
theorem z_vbast (hexec : p.tables.exec = Jvm.exec) (hb : c.code = cc) (hK : va_K D cl tys s) (hP : va_P D cl ws H) (hD : va_D A ws) (hS : va_S A H0 H locs) (q0 t0 : Nat) {cA : ClassId} {n : Nat} {f : Nat → Int32} (ha : ws[q0]? = some (a, .inl (cA, n, .inl f))) (ht : tys[t0]? = some (cA, .byte)) {i : Int32} {x : Int32} (hin : vp_in i n) (hdg : decode cc pc = .ok (.bastore, 1))
    (kk : ∀ (H1 : Heap) (locs1 : List Loc), H1.size = H.size → va_P D cl (ws.set q0 (a, .inl (cA, n, .inl (upd f i.toNatClampNeg (vp_nar .byte x))))) H1 → va_S A H0 H1 locs1 → W p l e R s m args below meth c H1 locs1 cells slots Q (F0 m (pc + 1) ls rest)) : W p l e R s m args below meth c H locs cells slots Q (F0 m pc ls (.int x :: .int i :: .ref a :: rest)) := by
  refine W.bast hexec hb (hP q0 _ ha) ((hK.2 t0 _ ht).1 n (fun j => .int (f j))) (fun q => by cases q) (by show ¬ (i < 0 ∨ (arrV _ _ _).slots.size ≤ _); rw [arrV_size]; exact hin) rfl rfl hdg fun H1 e z oq => ?_
  refine kk H1 _ z (hP.set hD ha ?_ oq) (hS.put z oq (hD.2 q0 _ ha))
  show H1[a]? = some (vp_cell _ _)
  rw [e]
  rw [vp_cell_i, vp_cell_i, arrV_store]
  congr 2
  funext q
  by_cases hq : q = i.toNatClampNeg
  · subst hq
    simp [updV, upd, vp_nar]
    try rfl
  · simp [updV, upd, hq]
theorem z_vastq (hexec : p.tables.exec = Jvm.exec) (hb : c.code = cc) (hK : va_K D cl tys s) (hP : va_P D cl ws H) (hD : va_D A ws) (hS : va_S A H0 H locs) (q0 t0 qk ci : Nat) {cA : ClassId} {r : vw_C} {n v : Nat} {vs : List Value} {f : Nat → Option Nat} (ha : ws[q0]? = some (a, .inl (cA, n, .inr (.inr (.inr (.inr f)))))) (ht : tys[t0]? = some (cA, .object r.1)) (hv : ws[qk]? = some (v, .inr (ci, vs))) (hc : cl[ci]? = some r) {i : Int32} (hin : vp_in i n) (hdg : decode cc pc = .ok (.aastore, 1))
    (kk : ∀ (H1 : Heap) (locs1 : List Loc), H1.size = H.size → va_P D cl (ws.set q0 (a, .inl (cA, n, .inr (.inr (.inr (.inr (va_up f i.toNatClampNeg (some v)))))))) H1 → va_S A H0 H1 locs1 → W p l e R s m args below meth c H1 locs1 cells slots Q (F0 m (pc + 1) ls rest)) : W p l e R s m args below meth c H locs cells slots Q (F0 m pc ls (.ref v :: .int i :: .ref a :: rest)) := by
  have hlt : i.toNatClampNeg < n := Nat.not_le.mp fun q => hin (Or.inr q)
  have h0 : ¬ i < 0 := fun q => hin (Or.inl q)
  obtain ⟨r', hr', cellV, g1, g2, g3, -⟩ := hP qk _ hv
  have hcls := (hK.1 ci r hc).2
  obtain ⟨kA, comp, k1, k2, k3, -⟩ := (hK.2 t0 _ ht).2
  have hcomp : comp = D.1 ci := Option.some.inj (k3.symm.trans hcls.1)
  subst hcomp
  obtain ⟨kC, hkC, -⟩ := hcls.2
  refine W.aast hexec hb (hP q0 _ ha) (fun q h => by cases h) (fun h => by cases h) k1 k2 rfl hkC ⟨h0, by show _ < (arrV _ _ _).slots.size; rw [arrV_size]; exact hlt⟩ g1 (fun q h => by rw [g3] at h; cases h) (by rw [g2]; exact hkC) (by rw [g2]; exact va_assign hcls) rfl rfl hdg fun H1 e z oq => ?_
  refine kk H1 _ z (hP.set hD ha ?_ oq) (hS.put z oq (hD.2 q0 _ ha))
  show H1[a]? = some (vp_cell _ _)
  rw [e]
  rw [vp_cell_q, vp_cell_q, arrV_store]
  congr 2
  funext q
  by_cases hq : q = i.toNatClampNeg
  · subst hq
    simp [updV, va_up, va_rf]
  · simp [updV, va_up, hq]
end ZP
section ZQ
variable {G : z_G} {me : z_Me} {d kc ks pc : Nat} {lv : List (Option Value)} {st : List Value} {sh : z_S} {h : z_H} {Q : Option Value → z_S → z_H → Prop}
theorem z_fs_len {ci a : Nat} {q : vw_C} (hc : vwCl[ci]? = some q) : (z_fs G h a ci).length = q.2.2 := by
  unfold z_fs z_nf
  rw [hc]
  simp
theorem z_fs_setI {a ci k : Nat} {v : Int32} {q : vw_C} (hc : vwCl[ci]? = some q) (hr : z_rfld ci k = false) (hk : k < q.2.2) : z_fs G (z_uI h a k v) a ci = (z_fs G h a ci).set k (.int v) := by
  apply List.ext_getElem?
  intro j
  by_cases hj : j < q.2.2
  · rw [z_fs_at hc hj, List.getElem?_set]
    by_cases hkj : k = j
    · subst hkj
      have hlen : k < (z_fs G h a ci).length := by rw [z_fs_len hc]; exact hj
      simp [hr, hlen, z_uI, upd]
    · rw [if_neg hkj, z_fs_at hc hj]
      have : j ≠ k := fun z => hkj z.symm
      simp [z_uI, upd, this]
  · rw [List.getElem?_eq_none (by rw [z_fs_len hc]; omega), List.getElem?_eq_none (by rw [List.length_set, z_fs_len hc]; omega)]
theorem z_fs_setR {a ci k : Nat} {v : Nat} {q : vw_C} (hc : vwCl[ci]? = some q) (hr : z_rfld ci k = true) (hk : k < q.2.2) : z_fs G (z_uR h a k v) a ci = (z_fs G h a ci).set k (va_rf (z_rf G v)) := by
  apply List.ext_getElem?
  intro j
  by_cases hj : j < q.2.2
  · rw [z_fs_at hc hj, List.getElem?_set]
    by_cases hkj : k = j
    · subst hkj
      have hlen : k < (z_fs G h a ci).length := by rw [z_fs_len hc]; exact hj
      simp [hr, hlen, z_uR]
    · rw [if_neg hkj, z_fs_at hc hj]
      have : j ≠ k := fun z => hkj z.symm
      simp [z_uR, this]
  · rw [List.getElem?_eq_none (by rw [z_fs_len hc]; omega), List.getElem?_eq_none (by rw [List.length_set, z_fs_len hc]; omega)]
theorem z_uI_o {a k : Nat} {v : Int32} : (∀ b, b ≠ a → (z_uI h a k v).1 b = h.1 b) ∧ ∀ b, b ≠ a → (z_uI h a k v).2 b = h.2 b := ⟨fun b hb => by simp [z_uI, hb], fun _ _ => rfl⟩
theorem z_uR_o {a k v : Nat} : (∀ b, b ≠ a → (z_uR h a k v).1 b = h.1 b) ∧ ∀ b, b ≠ a → (z_uR h a k v).2 b = h.2 b := ⟨fun _ _ => rfl, fun b hb => by simp [z_uR, hb]⟩
/-- may this method write that field: it isn't final, or this is a constructor of its class -/
def z_wr (me : z_Me) (ci k : Nat) : Prop := match vwCl[ci]? with
  | some q => (q.2.1 k).2.2.2 = false ∨ ((q.2.1 k).2.2.2 = true ∧ me.1.name = "<init>" ∧ (q.2.1 k).1 = me.1.cls)
  | none => False
theorem z_putI {a ci f idx : Nat} {v : Int32} (hl : z_FL me.1.cls idx ci f) (hr : z_rfld ci f = false) (hs : sh[a]? = some (0, ci)) (hw : z_wr me ci f) (hn : narrow (z_fty ci f) (.int v) = .int v) (hf : fits (z_fty ci f) (.int v) = true) (hd : decode me.2.1 pc = .ok (.putfield idx, 3))
    (k : z_W G me d kc ks (pc + 3) lv st sh (z_uI h a f v) Q) : z_W G me d kc ks pc lv (.int v :: .ref a :: st) sh h Q := by
  intro p e Rm s m args below meth c H locs cells slots Post ls C w S l r1 r2 K
  obtain ⟨⟨C0, T0, N0, t0, g1, g2, g3, g4, g5, g6, g7⟩, C1, T1, N1, g8, g9, g10⟩ := hl
  rw [g1] at g8; cases g8
  unfold z_fty at hn hf
  rw [g2] at hn hf
  unfold z_wr at hw
  rw [g1] at hw
  simp only [List.map_cons]
  rw [z_ref (Nat.lt_of_lt_of_le (z_lt hs) w.1)]
  refine z_vput C.1 C.2.1 C.2.2.2.2.1 g3 t0 g4 g5 C.2.2.2.1 C.2.2.2.2.2.1 w.2.2 (z_D G sh h) S a (z_ws_at hs) g1 f g9 (C.2.2.2.2.1 _ g10) (hw.imp id (fun z => ⟨z.1, C.2.2.2.2.2.2.2.2.2.2.1 z.2.1, z.2.2⟩)) hn hf (by rw [z_fs_len g1]; exact g9) hd fun H1 locs1 e1 e2 e3 => ?_
  refine k p e Rm s m args below meth c H1 locs1 cells slots Post ls C ⟨w.1, e1.trans w.2.1, ?_⟩ e3 l r1 r2 K
  rw [z_ws_set hs z_uI_o.1 z_uI_o.2]
  show va_P _ _ (List.set _ a (_, Sum.inr (ci, z_fs G (z_uI h a f v) a ci))) H1
  rw [z_fs_setI g1 hr g9]
  exact e2
theorem z_putR {a ci f idx : Nat} {v : Nat} (hl : z_FL me.1.cls idx ci f) (hr : z_rfld ci f = true) (hs : sh[a]? = some (0, ci)) (hw : z_wr me ci f) (hd : decode me.2.1 pc = .ok (.putfield idx, 3))
    (k : z_W G me d kc ks (pc + 3) lv st sh (z_uR h a f v) Q) : z_W G me d kc ks pc lv (.ref v :: .ref a :: st) sh h Q := by
  intro p e Rm s m args below meth c H locs cells slots Post ls C w S l r1 r2 K
  obtain ⟨⟨C0, T0, N0, t0, g1, g2, g3, g4, g5, g6, g7⟩, C1, T1, N1, g8, g9, g10⟩ := hl
  rw [g1] at g8; cases g8
  have hrt : z_isr (t0 f) = true := by
    unfold z_rfld at hr
    rw [g2] at hr
    exact hr
  have hn : narrow (t0 f) (z_cv G (.ref v)) = z_cv G (.ref v) ∧ fits (t0 f) (z_cv G (.ref v)) = true := by
    show narrow (t0 f) (va_rf (z_rf G v)) = _ ∧ _
    show narrow (t0 f) (va_rf (z_rf G v)) = va_rf (z_rf G v) ∧ fits (t0 f) (va_rf (z_rf G v)) = true
    cases z_rf G v <;> (cases hty : t0 f <;> rw [hty] at hrt <;> first | (cases hrt; done) | exact ⟨rfl, rfl⟩)
  unfold z_wr at hw
  rw [g1] at hw
  simp only [List.map_cons]
  rw [z_ref (k := a) (Nat.lt_of_lt_of_le (z_lt hs) w.1)]
  refine z_vput C.1 C.2.1 C.2.2.2.2.1 g3 t0 g4 g5 C.2.2.2.1 C.2.2.2.2.2.1 w.2.2 (z_D G sh h) S a (z_ws_at hs) g1 f g9 (C.2.2.2.2.1 _ g10) (hw.imp id (fun z => ⟨z.1, C.2.2.2.2.2.2.2.2.2.2.1 z.2.1, z.2.2⟩)) hn.1 hn.2 (by rw [z_fs_len g1]; exact g9) hd fun H1 locs1 e1 e2 e3 => ?_
  refine k p e Rm s m args below meth c H1 locs1 cells slots Post ls C ⟨w.1, e1.trans w.2.1, ?_⟩ e3 l r1 r2 K
  rw [z_ws_set hs z_uR_o.1 z_uR_o.2]
  show va_P _ _ (List.set _ a (_, Sum.inr (ci, z_fs G (z_uR h a f v) a ci))) H1
  rw [z_fs_setR g1 hr g9]
  exact e2
theorem z_iast {a n : Nat} {i x : Int32} (hs : sh[a]? = some (1, n)) (hin : vp_in i n) (hd : decode me.2.1 pc = .ok (.iastore, 1))
    (k : z_W G me d kc ks (pc + 1) lv st sh (z_uI h a i.toNatClampNeg x) Q) : z_W G me d kc ks pc lv (.int x :: .int i :: .ref a :: st) sh h Q := by
  intro p e Rm s m args below meth c H locs cells slots Post ls C w S l r1 r2 K
  simp only [List.map_cons]
  rw [z_ref (Nat.lt_of_lt_of_le (z_lt hs) w.1)]
  refine z_viast C.1 C.2.1 C.2.2.2.2.2.1 w.2.2 (z_D G sh h) S a 0 (z_ws_at hs) rfl hin hd fun H1 locs1 e1 e2 e3 => ?_
  refine k p e Rm s m args below meth c H1 locs1 cells slots Post ls C ⟨w.1, e1.trans w.2.1, ?_⟩ e3 l r1 r2 K
  rw [z_ws_set hs z_uI_o.1 z_uI_o.2]
  show va_P _ _ (List.set _ a (_, Sum.inl (_, n, Sum.inl ((z_uI h a i.toNatClampNeg x).1 a)))) H1
  rw [show (z_uI h a i.toNatClampNeg x).1 a = upd (h.1 a) i.toNatClampNeg x from by simp [z_uI]]
  exact e2
theorem z_bast {a n : Nat} {i x : Int32} (hs : sh[a]? = some (2, n)) (hin : vp_in i n) (hd : decode me.2.1 pc = .ok (.bastore, 1))
    (k : z_W G me d kc ks (pc + 1) lv st sh (z_uI h a i.toNatClampNeg (vp_nar .byte x)) Q) : z_W G me d kc ks pc lv (.int x :: .int i :: .ref a :: st) sh h Q := by
  intro p e Rm s m args below meth c H locs cells slots Post ls C w S l r1 r2 K
  simp only [List.map_cons]
  rw [z_ref (Nat.lt_of_lt_of_le (z_lt hs) w.1)]
  refine z_vbast C.1 C.2.1 C.2.2.2.2.2.1 w.2.2 (z_D G sh h) S a 1 (z_ws_at hs) rfl hin hd fun H1 locs1 e1 e2 e3 => ?_
  refine k p e Rm s m args below meth c H1 locs1 cells slots Post ls C ⟨w.1, e1.trans w.2.1, ?_⟩ e3 l r1 r2 K
  rw [z_ws_set hs z_uI_o.1 z_uI_o.2]
  show va_P _ _ (List.set _ a (_, Sum.inl (_, n, Sum.inl ((z_uI h a i.toNatClampNeg (vp_nar .byte x)).1 a)))) H1
  rw [show (z_uI h a i.toNatClampNeg (vp_nar .byte x)).1 a = upd (h.1 a) i.toNatClampNeg (vp_nar .byte x) from by simp [z_uI]]
  exact e2
/-- into an array of Rolls (t = 0) or of Singers (t = 1) -/
theorem z_aast {a n t v : Nat} {i : Int32} (hs : sh[a]? = some (t + 3, n)) (hv : (t = 0 ∧ sh[v]? = some (0, 5)) ∨ (t = 1 ∧ sh[v]? = some (0, 8))) (hin : vp_in i n) (hd : decode me.2.1 pc = .ok (.aastore, 1))
    (k : z_W G me d kc ks (pc + 1) lv st sh (z_uR h a i.toNatClampNeg v) Q) : z_W G me d kc ks pc lv (.ref v :: .int i :: .ref a :: st) sh h Q := by
  intro p e Rm s m args below meth c H locs cells slots Post ls C w S l r1 r2 K
  have key : ∀ (H1 : Heap) (locs1 : List Loc), H1.size = H.size → va_P G.2.2.2.1 vwCl ((z_ws G sh h).set a (G.2.1 + a, Sum.inl (G.2.2.2.2.1 (t + 2), n, Sum.inr (Sum.inr (Sum.inr (Sum.inr (va_up (fun j => z_rf G (h.2 a j)) i.toNatClampNeg (some (G.2.1 + v))))))))) H1 → v < 100000 → va_S (z_A G) s.heap H1 locs1 → W p G.1 e Rm s m args below meth c H1 locs1 cells slots Post (F0 m (pc + 1) ls (st.map (z_cv G))) := by
    intro H1 locs1 e1 e2 hv2 e3
    refine k p e Rm s m args below meth c H1 locs1 cells slots Post ls C ⟨w.1, e1.trans w.2.1, ?_⟩ e3 l r1 r2 K
    rw [z_ws_set hs z_uR_o.1 z_uR_o.2]
    have e : z_en G (z_uR h a i.toNatClampNeg v) a (t + 3, n) = Sum.inl (G.2.2.2.2.1 (t + 2), n, Sum.inr (Sum.inr (Sum.inr (Sum.inr (va_up (fun j => z_rf G (h.2 a j)) i.toNatClampNeg (some (G.2.1 + v))))))) := by
      unfold z_en
      dsimp only
      congr 7
      funext j
      unfold va_up z_uR
      by_cases hj : j = i.toNatClampNeg
      · simp [hj, z_rf, z_ad, hv2, show v ≠ 200000 by omega]
      · simp [hj]
    rw [e]
    exact e2
  simp only [List.map_cons]
  rcases hv with ⟨rfl, hv⟩ | ⟨rfl, hv⟩
  · have hv2 := Nat.lt_of_lt_of_le (z_lt hv) w.1
    rw [z_ref (k := a) (Nat.lt_of_lt_of_le (z_lt hs) w.1), z_ref (k := v) hv2]
    exact z_vastq (r := (RX5, TX5, 4)) C.1 C.2.1 C.2.2.2.2.2.1 w.2.2 (z_D G sh h) S a 2 v 5 (z_ws_at hs) rfl (z_ws_at hv) rfl hin hd fun H1 locs1 e1 e2 e3 => key H1 locs1 e1 e2 hv2 e3
  · have hv2 := Nat.lt_of_lt_of_le (z_lt hv) w.1
    rw [z_ref (k := a) (Nat.lt_of_lt_of_le (z_lt hs) w.1), z_ref (k := v) hv2]
    exact z_vastq (r := (RX8, TX8, 10)) C.1 C.2.1 C.2.2.2.2.2.1 w.2.2 (z_D G sh h) S a 3 v 8 (z_ws_at hs) rfl (z_ws_at hv) rfl hin hd fun H1 locs1 e1 e2 e3 => key H1 locs1 e1 e2 hv2 e3
end ZQ
