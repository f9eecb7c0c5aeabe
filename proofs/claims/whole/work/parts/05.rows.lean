section ZR
variable {G : z_G} {me : z_Me} {d kc ks pc : Nat} {lv : List (Option Value)} {st : List Value} {sh : z_S} {h : z_H} {Q : Option Value → z_S → z_H → Prop}
theorem z_iadd {x y : Int32} (hd : decode me.2.1 pc = .ok (.iadd, 1)) 
    (k : z_W G me d kc ks (pc + 1) lv (.int (x + y) :: st) sh h Q) : z_W G me d kc ks (pc) lv (.int y :: .int x :: st) sh h Q :=
  fun p e Rm s m args below meth c H locs cells slots Post ls C w S l r1 r2 K => lv_iadd C.1 C.2.1 hd (k p e Rm s m args below meth c H locs cells slots Post ls C w S l r1 r2 K)
theorem z_isub {x y : Int32} (hd : decode me.2.1 pc = .ok (.isub, 1)) 
    (k : z_W G me d kc ks (pc + 1) lv (.int (x - y) :: st) sh h Q) : z_W G me d kc ks (pc) lv (.int y :: .int x :: st) sh h Q :=
  fun p e Rm s m args below meth c H locs cells slots Post ls C w S l r1 r2 K => lv_isub C.1 C.2.1 hd (k p e Rm s m args below meth c H locs cells slots Post ls C w S l r1 r2 K)
theorem z_imul {x y : Int32} (hd : decode me.2.1 pc = .ok (.imul, 1)) 
    (k : z_W G me d kc ks (pc + 1) lv (.int (x * y) :: st) sh h Q) : z_W G me d kc ks (pc) lv (.int y :: .int x :: st) sh h Q :=
  fun p e Rm s m args below meth c H locs cells slots Post ls C w S l r1 r2 K => lv_imul C.1 C.2.1 hd (k p e Rm s m args below meth c H locs cells slots Post ls C w S l r1 r2 K)
theorem z_iand {x y : Int32} (hd : decode me.2.1 pc = .ok (.iand, 1)) 
    (k : z_W G me d kc ks (pc + 1) lv (.int (x &&& y) :: st) sh h Q) : z_W G me d kc ks (pc) lv (.int y :: .int x :: st) sh h Q :=
  fun p e Rm s m args below meth c H locs cells slots Post ls C w S l r1 r2 K => lv_iand C.1 C.2.1 hd (k p e Rm s m args below meth c H locs cells slots Post ls C w S l r1 r2 K)
theorem z_ior {x y : Int32} (hd : decode me.2.1 pc = .ok (.ior, 1)) 
    (k : z_W G me d kc ks (pc + 1) lv (.int (x ||| y) :: st) sh h Q) : z_W G me d kc ks (pc) lv (.int y :: .int x :: st) sh h Q :=
  fun p e Rm s m args below meth c H locs cells slots Post ls C w S l r1 r2 K => lv_ior C.1 C.2.1 hd (k p e Rm s m args below meth c H locs cells slots Post ls C w S l r1 r2 K)
theorem z_ixor {x y : Int32} (hd : decode me.2.1 pc = .ok (.ixor, 1)) 
    (k : z_W G me d kc ks (pc + 1) lv (.int (x ^^^ y) :: st) sh h Q) : z_W G me d kc ks (pc) lv (.int y :: .int x :: st) sh h Q :=
  fun p e Rm s m args below meth c H locs cells slots Post ls C w S l r1 r2 K => lv_ixor C.1 C.2.1 hd (k p e Rm s m args below meth c H locs cells slots Post ls C w S l r1 r2 K)
theorem z_idiv {x y : Int32} (hd : decode me.2.1 pc = .ok (.idiv, 1)) (hne : ¬ y = 0)
    (k : z_W G me d kc ks (pc + 1) lv (.int (x / y) :: st) sh h Q) : z_W G me d kc ks (pc) lv (.int y :: .int x :: st) sh h Q :=
  fun p e Rm s m args below meth c H locs cells slots Post ls C w S l r1 r2 K => lv_idiv C.1 C.2.1 hd hne (k p e Rm s m args below meth c H locs cells slots Post ls C w S l r1 r2 K)
theorem z_irem {x y : Int32} (hd : decode me.2.1 pc = .ok (.irem, 1)) (hne : ¬ y = 0)
    (k : z_W G me d kc ks (pc + 1) lv (.int (x - x / y * y) :: st) sh h Q) : z_W G me d kc ks (pc) lv (.int y :: .int x :: st) sh h Q :=
  fun p e Rm s m args below meth c H locs cells slots Post ls C w S l r1 r2 K => lv_irem C.1 C.2.1 hd hne (k p e Rm s m args below meth c H locs cells slots Post ls C w S l r1 r2 K)
theorem z_ineg {x : Int32} (hd : decode me.2.1 pc = .ok (.ineg, 1)) 
    (k : z_W G me d kc ks (pc + 1) lv (.int (-x) :: st) sh h Q) : z_W G me d kc ks (pc) lv (.int x :: st) sh h Q :=
  fun p e Rm s m args below meth c H locs cells slots Post ls C w S l r1 r2 K => lv_ineg C.1 C.2.1 hd (k p e Rm s m args below meth c H locs cells slots Post ls C w S l r1 r2 K)
theorem z_ishl {x y : Int32} (hd : decode me.2.1 pc = .ok (.ishl, 1)) 
    (k : z_W G me d kc ks (pc + 1) lv (.int (x <<< (y &&& 31)) :: st) sh h Q) : z_W G me d kc ks (pc) lv (.int y :: .int x :: st) sh h Q :=
  fun p e Rm s m args below meth c H locs cells slots Post ls C w S l r1 r2 K => lv_ishl C.1 C.2.1 hd (k p e Rm s m args below meth c H locs cells slots Post ls C w S l r1 r2 K)
theorem z_ishr {x y : Int32} (hd : decode me.2.1 pc = .ok (.ishr, 1)) 
    (k : z_W G me d kc ks (pc + 1) lv (.int (x >>> (y &&& 31)) :: st) sh h Q) : z_W G me d kc ks (pc) lv (.int y :: .int x :: st) sh h Q :=
  fun p e Rm s m args below meth c H locs cells slots Post ls C w S l r1 r2 K => lv_ishr C.1 C.2.1 hd (k p e Rm s m args below meth c H locs cells slots Post ls C w S l r1 r2 K)
theorem z_iushr {x y : Int32} (hd : decode me.2.1 pc = .ok (.iushr, 1)) 
    (k : z_W G me d kc ks (pc + 1) lv (.int ((x.toUInt32 >>> (y.toUInt32 &&& Int32.toUInt32 31)).toInt32) :: st) sh h Q) : z_W G me d kc ks (pc) lv (.int y :: .int x :: st) sh h Q :=
  fun p e Rm s m args below meth c H locs cells slots Post ls C w S l r1 r2 K => lv_iushr C.1 C.2.1 hd rfl (k p e Rm s m args below meth c H locs cells slots Post ls C w S l r1 r2 K)
theorem z_i2b {x : Int32} (hd : decode me.2.1 pc = .ok (.i2b, 1)) 
    (k : z_W G me d kc ks (pc + 1) lv (.int (x.toInt8.toInt32) :: st) sh h Q) : z_W G me d kc ks (pc) lv (.int x :: st) sh h Q :=
  fun p e Rm s m args below meth c H locs cells slots Post ls C w S l r1 r2 K => lv_i2b C.1 C.2.1 hd rfl (k p e Rm s m args below meth c H locs cells slots Post ls C w S l r1 r2 K)
theorem z_iconst {n : Int} {v : Int32} (hd : decode me.2.1 pc = .ok (.iconst n, 1)) (hv : Int32.ofInt n = v)
    (k : z_W G me d kc ks (pc + 1) lv (.int v :: st) sh h Q) : z_W G me d kc ks (pc) lv (st) sh h Q :=
  fun p e Rm s m args below meth c H locs cells slots Post ls C w S l r1 r2 K => lv_iconst C.1 C.2.1 hd hv (k p e Rm s m args below meth c H locs cells slots Post ls C w S l r1 r2 K)
theorem z_bipush {n : Int} {v : Int32} (hd : decode me.2.1 pc = .ok (.bipush n, 2)) (hv : (Int8.ofInt n).toInt32 = v)
    (k : z_W G me d kc ks (pc + 2) lv (.int v :: st) sh h Q) : z_W G me d kc ks (pc) lv (st) sh h Q :=
  fun p e Rm s m args below meth c H locs cells slots Post ls C w S l r1 r2 K => lv_bipush C.1 C.2.1 hd hv (k p e Rm s m args below meth c H locs cells slots Post ls C w S l r1 r2 K)
theorem z_sipush {n : Int} {v : Int32} (hd : decode me.2.1 pc = .ok (.sipush n, 3)) (hv : (Int16.ofInt n).toInt32 = v)
    (k : z_W G me d kc ks (pc + 3) lv (.int v :: st) sh h Q) : z_W G me d kc ks (pc) lv (st) sh h Q :=
  fun p e Rm s m args below meth c H locs cells slots Post ls C w S l r1 r2 K => lv_sipush C.1 C.2.1 hd hv (k p e Rm s m args below meth c H locs cells slots Post ls C w S l r1 r2 K)
theorem z_ldc {idx : Nat} {v : Int32} (hd : decode me.2.1 pc = .ok (.ldc idx, 2)) (hc : Cond.constant me.1.cls idx v ∈ z_tb)
    (k : z_W G me d kc ks (pc + 2) lv (.int v :: st) sh h Q) : z_W G me d kc ks (pc) lv (st) sh h Q :=
  fun p e Rm s m args below meth c H locs cells slots Post ls C w S l r1 r2 K => lv_ldc C.1 C.2.1 C.2.2.2.1 (C.2.2.2.2.1 _ hc) hd (k p e Rm s m args below meth c H locs cells slots Post ls C w S l r1 r2 K)
theorem z_ldcw {idx : Nat} {v : Int32} (hd : decode me.2.1 pc = .ok (.ldc_w idx, 3)) (hc : Cond.constant me.1.cls idx v ∈ z_tb)
    (k : z_W G me d kc ks (pc + 3) lv (.int v :: st) sh h Q) : z_W G me d kc ks (pc) lv (st) sh h Q :=
  fun p e Rm s m args below meth c H locs cells slots Post ls C w S l r1 r2 K => lv_ldcw C.1 C.2.1 C.2.2.2.1 (C.2.2.2.2.1 _ hc) hd (k p e Rm s m args below meth c H locs cells slots Post ls C w S l r1 r2 K)
theorem z_iload_n {i : Fin 4} {j : Nat} {x : Int32} (hd : decode me.2.1 pc = .ok (.iload_n i, 1)) (hi : (i : Nat) = j) (hl : lv[j]? = some (some (.int x)))
    (k : z_W G me d kc ks (pc + 1) lv (.int x :: st) sh h Q) : z_W G me d kc ks (pc) lv (st) sh h Q :=
  fun p e Rm s m args below meth c H locs cells slots Post ls C w S l r1 r2 K => lv_iload_n C.1 C.2.1 hd hi (l.2.2 _ _ hl).1 (k p e Rm s m args below meth c H locs cells slots Post ls C w S l r1 r2 K)
theorem z_iload {j : Nat} {x : Int32} (hd : decode me.2.1 pc = .ok (.iload j, 2)) (hl : lv[j]? = some (some (.int x)))
    (k : z_W G me d kc ks (pc + 2) lv (.int x :: st) sh h Q) : z_W G me d kc ks (pc) lv (st) sh h Q :=
  fun p e Rm s m args below meth c H locs cells slots Post ls C w S l r1 r2 K => lv_iload C.1 C.2.1 hd (l.2.2 _ _ hl).1 (k p e Rm s m args below meth c H locs cells slots Post ls C w S l r1 r2 K)
theorem z_aload_n {i : Fin 4} {j a : Nat} (hd : decode me.2.1 pc = .ok (.aload_n i, 1)) (hi : (i : Nat) = j) (hl : lv[j]? = some (some (.ref a))) (ha : a < 200000)
    (k : z_W G me d kc ks (pc + 1) lv (.ref a :: st) sh h Q) : z_W G me d kc ks (pc) lv (st) sh h Q := by
  intro p e Rm s m args below meth c H locs cells slots Post ls C w S l r1 r2 K
  have k := k p e Rm s m args below meth c H locs cells slots Post ls C w S l r1 r2 K
  have hg := (l.2.2 _ _ hl).1
  simp only [List.map_cons] at k
  rw [show z_cv G (.ref a) = .ref (z_ad G a) from by show va_rf (z_rf G a) = _; unfold z_rf; rw [if_neg (by omega)]; rfl] at k hg
  exact lv_aload_n C.1 C.2.1 hd hi hg k
theorem z_aload {j a : Nat} (hd : decode me.2.1 pc = .ok (.aload j, 2)) (hl : lv[j]? = some (some (.ref a))) (ha : a < 200000)
    (k : z_W G me d kc ks (pc + 2) lv (.ref a :: st) sh h Q) : z_W G me d kc ks (pc) lv (st) sh h Q := by
  intro p e Rm s m args below meth c H locs cells slots Post ls C w S l r1 r2 K
  have k := k p e Rm s m args below meth c H locs cells slots Post ls C w S l r1 r2 K
  have hg := (l.2.2 _ _ hl).1
  simp only [List.map_cons] at k
  rw [show z_cv G (.ref a) = .ref (z_ad G a) from by show va_rf (z_rf G a) = _; unfold z_rf; rw [if_neg (by omega)]; rfl] at k hg
  exact lv_aload C.1 C.2.1 hd hg k
theorem z_has_set {ls : Array Slot} {n i : Nat} {lv : List (Option Value)} {v : Value} {ls' : Array Slot} (hv : v.category = 1)
    (h' : lv_has ls' n ((i, z_cv G v) :: ((List.range lv.length).filterMap fun j => match lv[j]? with
      | some (some w) => some (j, z_cv G w)
      | _ => none).filter (fun q => !(q.1 == i) && !(q.1 + 1 == i && q.2.category == 2)))) (hl : z_has G ls n lv) : z_has G ls' n (lv.set i (some v)) := by
  refine ⟨h'.1, h'.2.1, fun j w hj => ?_⟩
  rw [List.getElem?_set] at hj
  by_cases hij : i = j
  · subst hij
    rw [if_pos rfl] at hj
    split at hj
    · cases hj
      exact ⟨h'.2.2 (i, z_cv G v) List.mem_cons_self, hv⟩
    · cases hj
  · rw [if_neg hij] at hj
    have hc := (hl.2.2 j w hj).2
    refine ⟨h'.2.2 (j, z_cv G w) (List.mem_cons_of_mem _ (List.mem_filter.mpr ⟨List.mem_filterMap.mpr ⟨j, List.mem_range.mpr (List.getElem?_eq_some_iff.mp hj).1, by rw [hj]⟩, ?_⟩)), hc⟩
    have h1 : (j == i) = false := by simpa using fun z => hij z.symm
    have h2 : ((z_cv G w).category == 2) = false := by rw [z_cat, hc]; rfl
    simp only [h1, h2]
    simp
theorem z_has_lv {ls : Array Slot} {n : Nat} {lv : List (Option Value)} (hl : z_has G ls n lv) : lv_has ls n ((List.range lv.length).filterMap fun j => match lv[j]? with
      | some (some w) => some (j, z_cv G w)
      | _ => none) := by
  refine ⟨hl.1, hl.2.1, fun q hq => ?_⟩
  obtain ⟨j, -, hj⟩ := List.mem_filterMap.mp hq
  cases hw : lv[j]? with
  | none => rw [hw] at hj; cases hj
  | some ow =>
    cases ow with
    | none => rw [hw] at hj; cases hj
    | some w =>
      rw [hw] at hj
      cases hj
      exact (hl.2.2 j w hw).1
theorem z_sub {lv' : List (Option Value)} (hs : ∀ (i : Nat) (v : Value), lv'[i]? = some (some v) → lv[i]? = some (some v)) (k : z_W G me d kc ks pc lv' st sh h Q) : z_W G me d kc ks pc lv st sh h Q :=
  fun p e Rm s m args below meth c H locs cells slots Post ls C w S l r1 r2 K => k p e Rm s m args below meth c H locs cells slots Post ls C w S ⟨l.1, l.2.1, fun i v hv => l.2.2 i v (hs i v hv)⟩ r1 r2 K
theorem z_istore_n {i : Fin 4} {j : Nat} {x : Int32} (hd : decode me.2.1 pc = .ok (.istore_n i, 1)) (hi : (i : Nat) = j) (hn : j < me.2.2.1)
    (k : z_W G me d kc ks (pc + 1) (lv.set j (some (.int x))) st sh h Q) : z_W G me d kc ks (pc) lv (.int x :: st) sh h Q :=
  fun p e Rm s m args below meth c H locs cells slots Post ls C w S l r1 r2 K => lv_istore_n C.1 C.2.1 hd hi (z_has_lv l) hn rfl (fun ls' hl' => k p e Rm s m args below meth c H locs cells slots Post ls' C w S (z_has_set (v := .int x) rfl hl' l) r1 r2 K)
theorem z_istore {j : Nat} {x : Int32} (hd : decode me.2.1 pc = .ok (.istore j, 2))  (hn : j < me.2.2.1)
    (k : z_W G me d kc ks (pc + 2) (lv.set j (some (.int x))) st sh h Q) : z_W G me d kc ks (pc) lv (.int x :: st) sh h Q :=
  fun p e Rm s m args below meth c H locs cells slots Post ls C w S l r1 r2 K => lv_istore C.1 C.2.1 hd (z_has_lv l) hn rfl (fun ls' hl' => k p e Rm s m args below meth c H locs cells slots Post ls' C w S (z_has_set (v := .int x) rfl hl' l) r1 r2 K)
theorem z_astore_n {i : Fin 4} {j : Nat} {a : Nat} (hd : decode me.2.1 pc = .ok (.astore_n i, 1)) (hi : (i : Nat) = j) (hn : j < me.2.2.1) (ha : a < 200000)
    (k : z_W G me d kc ks (pc + 1) (lv.set j (some (.ref a))) st sh h Q) : z_W G me d kc ks (pc) lv (.ref a :: st) sh h Q := by
  intro p e_ Rm s m args below meth c H locs cells slots Post ls C w S l r1 r2 K
  have e : z_cv G (.ref a) = .ref (z_ad G a) := by show va_rf (z_rf G a) = _; unfold z_rf; rw [if_neg (by omega)]; rfl
  simp only [List.map_cons]
  rw [e]
  exact lv_astore_n C.1 C.2.1 hd hi (z_has_lv l) hn rfl (fun ls' hl' => k p e_ Rm s m args below meth c H locs cells slots Post ls' C w S (z_has_set (v := .ref a) rfl (by rw [e]; exact hl') l) r1 r2 K)
theorem z_astore {j : Nat} {a : Nat} (hd : decode me.2.1 pc = .ok (.astore j, 2))  (hn : j < me.2.2.1) (ha : a < 200000)
    (k : z_W G me d kc ks (pc + 2) (lv.set j (some (.ref a))) st sh h Q) : z_W G me d kc ks (pc) lv (.ref a :: st) sh h Q := by
  intro p e_ Rm s m args below meth c H locs cells slots Post ls C w S l r1 r2 K
  have e : z_cv G (.ref a) = .ref (z_ad G a) := by show va_rf (z_rf G a) = _; unfold z_rf; rw [if_neg (by omega)]; rfl
  simp only [List.map_cons]
  rw [e]
  exact lv_astore C.1 C.2.1 hd (z_has_lv l) hn rfl (fun ls' hl' => k p e_ Rm s m args below meth c H locs cells slots Post ls' C w S (z_has_set (v := .ref a) rfl (by rw [e]; exact hl') l) r1 r2 K)
theorem z_iinc {j : Nat} {n : Int} {x v : Int32} (hd : decode me.2.1 pc = .ok (.iinc j n, 3)) (hl : lv[j]? = some (some (.int x))) (hv : x + Int32.ofInt n = v) (hn : j < me.2.2.1)
    (k : z_W G me d kc ks (pc + 3) (lv.set j (some (.int v))) st sh h Q) : z_W G me d kc ks (pc) lv (st) sh h Q := by
  intro p e Rm s m args below meth c H locs cells slots Post ls C w S l r1 r2 K
  have hm : (j, z_cv G (.int x)) ∈ ((List.range lv.length).filterMap fun j => match lv[j]? with
      | some (some w) => some (j, z_cv G w)
      | _ => none) := List.mem_filterMap.mpr ⟨j, List.mem_range.mpr (List.getElem?_eq_some_iff.mp hl).1, by rw [hl]⟩
  obtain ⟨q, hq⟩ := List.getElem?_of_mem hm
  exact lv_iinc C.1 C.2.1 hd (z_has_lv l) hq hv hn rfl (fun ls' hl' => k p e Rm s m args below meth c H locs cells slots Post ls' C w S (z_has_set (v := .int v) rfl hl' l) r1 r2 K)
theorem z_dup {v : Value} (hd : decode me.2.1 pc = .ok (.dup, 1)) (hv : v.category = 1)
    (k : z_W G me d kc ks (pc + 1) lv (v :: v :: st) sh h Q) : z_W G me d kc ks (pc) lv (v :: st) sh h Q :=
  fun p e Rm s m args below meth c H locs cells slots Post ls C w S l r1 r2 K => lv_dup C.1 C.2.1 hd (by rw [z_cat]; exact hv) (k p e Rm s m args below meth c H locs cells slots Post ls C w S l r1 r2 K)
theorem z_pop {v : Value} (hd : decode me.2.1 pc = .ok (.pop, 1)) (hv : v.category = 1)
    (k : z_W G me d kc ks (pc + 1) lv (st) sh h Q) : z_W G me d kc ks (pc) lv (v :: st) sh h Q :=
  fun p e Rm s m args below meth c H locs cells slots Post ls C w S l r1 r2 K => lv_pop C.1 C.2.1 hd (by rw [z_cat]; exact hv) (k p e Rm s m args below meth c H locs cells slots Post ls C w S l r1 r2 K)
theorem z_dup2 {v u : Value} (hd : decode me.2.1 pc = .ok (.dup2, 1)) (hv : v.category = 1) (hu : u.category = 1)
    (k : z_W G me d kc ks (pc + 1) lv (v :: u :: v :: u :: st) sh h Q) : z_W G me d kc ks (pc) lv (v :: u :: st) sh h Q :=
  fun p e Rm s m args below meth c H locs cells slots Post ls C w S l r1 r2 K => lv_dup2_11 C.1 C.2.1 hd (by rw [z_cat]; exact hv) (by rw [z_cat]; exact hu) (k p e Rm s m args below meth c H locs cells slots Post ls C w S l r1 r2 K)
theorem z_goto {off : Int} {tgt : Nat} (hd : decode me.2.1 pc = .ok (.goto off, 3)) (ht : (pc : Int) + off = (tgt : Int)) (k : z_W G me d kc ks (tgt) lv (st) sh h Q) : z_W G me d kc ks (pc) lv (st) sh h Q :=
  fun p e Rm s m args below meth c H locs cells slots Post ls C w S l r1 r2 K => lv_goto C.1 C.2.1 hd ht (k p e Rm s m args below meth c H locs cells slots Post ls C w S l r1 r2 K)
end ZR
