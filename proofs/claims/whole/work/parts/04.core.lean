/-! an abstract heap: a list of kinds (0, class), (1, n) an int array, (2, n) a byte array, (3, n) Roll[], (4, n) Singer[]; whole numbers I a k; references R a k (cell numbers; 200000 is null; from 100000 on frozen cells) -/
abbrev z_S : Type := List (Nat × Nat)
abbrev z_H : Type := (Nat → Nat → Int32) × (Nat → Nat → Nat)
/-- launch, base, frozen cells, class ids, array class ids, the script -/
abbrev z_G : Type := Launch × Nat × (Nat → Nat) × va_G × (Nat → ClassId) × Nat × (Nat → Int32)
def z_ad (G : z_G) (k : Nat) : Nat := if k < 100000 then G.2.1 + k else G.2.2.1 k
def z_rf (G : z_G) (k : Nat) : Option Nat := if k = 200000 then none else some (z_ad G k)
def z_cv (G : z_G) (v : Value) : Value := match v with
  | .ref k => va_rf (z_rf G k)
  | w => w
def z_A (G : z_G) : Nat → Prop := fun q => G.2.1 ≤ q
def z_tyl : List (Nat → FieldType) := [tyX0, tyX1, tyX2, tyX3, tyX4, tyX5, tyX6, tyX7, tyX8, tyX9, tyX10, tyX11, tyX12, tyX13]
def z_isr (t : FieldType) : Bool := match t with
  | .object _ => true
  | .array _ => true
  | _ => false
def z_nf (ci : Nat) : Nat := match vwCl[ci]? with
  | some q => q.2.2
  | none => 0
def z_rfld (ci k : Nat) : Bool := match z_tyl[ci]? with
  | some t => z_isr (t k)
  | none => false
def z_fs (G : z_G) (h : z_H) (a ci : Nat) : List Value := (List.range (z_nf ci)).map fun j => if z_rfld ci j = true then va_rf (z_rf G (h.2 a j)) else .int (h.1 a j)
def z_en (G : z_G) (h : z_H) (a : Nat) (kd : Nat × Nat) : va_E := match kd.1 with
  | 0 => .inr (kd.2, z_fs G h a kd.2)
  | 1 => .inl (G.2.2.2.2.1 0, kd.2, .inl (h.1 a))
  | 2 => .inl (G.2.2.2.2.1 1, kd.2, .inl (h.1 a))
  | t + 3 => .inl (G.2.2.2.2.1 (t + 2), kd.2, .inr (.inr (.inr (.inr fun j => z_rf G (h.2 a j)))))
def z_ws (G : z_G) (sh : z_S) (h : z_H) : va_W := sh.mapIdx fun a kd => (G.2.1 + a, z_en G h a kd)
def z_tys (G : z_G) : List (ClassId × FieldType) := [(G.2.2.2.2.1 0, .int), (G.2.2.2.2.1 1, .byte), (G.2.2.2.2.1 2, .object "ClockChoir$Roll"), (G.2.2.2.2.1 3, .object "ClockChoir$Singer")]
def z_Wd (G : z_G) (sh : z_S) (h : z_H) (H : Heap) : Prop := sh.length ≤ 100000 ∧ H.size = G.2.1 + sh.length ∧ va_P G.2.2.2.1 vwCl (z_ws G sh h) H
def z_hi (j : Nat) : Int32 := match j with
  | 0 => 60
  | 1 => 60
  | 2 => 20
  | 3 => 10
  | _ => 0
def z_Fz (G : z_G) (U : State) (H : Heap) : Prop := va_T .int (G.2.2.1 100000) G.2.2.2.2.2.1 (fun j => .int (G.2.2.2.2.2.2 j)) (z_A G) U H ∧ va_T .int (G.2.2.1 100001) 5 (fun j => .int (z_hi j)) (z_A G) U H ∧ va_Z "ClockChoir$Law" "HIGHEST" "[I" (.ref (G.2.2.1 100001)) (z_A G) U H
/-- the words that stay true in every state behind the start -/
def z_tb : List Cond := lw_tbl.filter goodWord
theorem z_in {w : Cond} (i : Nat) (h : lw_tbl[i]? = some w) (hg : goodWord w = true) : w ∈ z_tb := List.mem_filter.mpr ⟨List.mem_of_getElem? h, hg⟩
/-- links of nest mates -/
def z_nl : List (String × Nat × MethodName) := [("ClockChoir$Stage", 17, yX8_init), ("ClockChoir$Score", 39, yX12_isSinger), ("ClockChoir$Conductor", 34, yX12_isSinger), ("ClockChoir$Stage", 29, yX12_isSinger), ("ClockChoir$Circle", 33, yX12_isSinger)]
def z_Nw (U : State) : Prop := (∀ q ∈ z_nl, va_Nw (.methodLinkNest q.1 q.2.1 q.2.2 "ClockChoir") U) ∧ va_AO "ClockChoir$Roll" U ∧ va_AO "ClockChoir$Singer" U
/-- a method: its name, code, locals, return type -/
abbrev z_Me : Type := MethodName × ByteArray × Nat × Option FieldType
def z_Cx (G : z_G) (me : z_Me) (d : Nat) (p : Program) (Rm : Room) (s : State) (m : MethodId) (args : Array Value) (meth : Method) (c : Code) : Prop :=
  p.tables.exec = Jvm.exec ∧ c.code = me.2.1 ∧ c.maxLocals = me.2.2.1 ∧ s.vm.findClass me.1.cls = some m.cls ∧ (∀ w ∈ z_tb, w.before args s = true) ∧ va_K G.2.2.2.1 vwCl (z_tys G) s ∧ d ≤ Rm.frames ∧ 64 * d ≤ Rm.locals ∧ G.2.1 ≤ s.heap.size ∧ z_Fz G s s.heap ∧ (me.1.name = "<init>" → meth.name = "<init>") ∧ z_Nw s
def z_has (G : z_G) (ls : Array Slot) (n : Nat) (lv : List (Option Value)) : Prop := ls.size = n ∧ lv_wf ls ∧ ∀ (i : Nat) (v : Value), lv[i]? = some (some v) → ls[i]? = some (.val (z_cv G v)) ∧ v.category = 1
def z_Rt (me : z_Me) (r : Option Value) : Prop := match r with
  | none => me.2.2.2 = none
  | some (.int v) => ∃ ty, me.2.2.2 = some ty ∧ narrow ty (.int v) = .int v
  | _ => False
def z_rd (me : z_Me) (pc : Nat) (r : Option Value) : Prop := match r with
  | none => decode me.2.1 pc = .ok (.return_, 1)
  | some _ => decode me.2.1 pc = .ok (.ireturn, 1)
/-- what a method's end must be, in a given frame -/
def z_K (G : z_G) (me : z_Me) (p : Program) (e : Env) (Rm : Room) (s : State) (m : MethodId) (args : Array Value) (below : List Frame) (meth : Method) (c : Code) (kc ks : Nat) (Post : State → Prop) (Q : Option Value → z_S → z_H → Prop) : Prop :=
  ∀ (pc : Nat) (ls : Array Slot) (r : Option Value) (sh : z_S) (h : z_H) (H : Heap) (locs : List Loc) (cells slots : Nat), Q r sh h → z_Rt me r → z_rd me pc r → z_Wd G sh h H → va_S (z_A G) s.heap H locs → cells ≤ kc → slots ≤ ks →
    W p G.1 e Rm s m args below meth c H locs cells slots Post (F0 m pc ls (r.toList.map (z_cv G)))
/-- the abstract machine's judgement: from here the method comes to a return with Q; d frames, kc cells, ks slots may be used -/
def z_W (G : z_G) (me : z_Me) (d kc ks pc : Nat) (lv : List (Option Value)) (st : List Value) (sh : z_S) (h : z_H) (Q : Option Value → z_S → z_H → Prop) : Prop :=
  ∀ (p : Program) (e : Env) (Rm : Room) (s : State) (m : MethodId) (args : Array Value) (below : List Frame) (meth : Method) (c : Code) (H : Heap) (locs : List Loc) (cells slots : Nat) (Post : State → Prop) (ls : Array Slot),
    z_Cx G me d p Rm s m args meth c → z_Wd G sh h H → va_S (z_A G) s.heap H locs → z_has G ls me.2.2.1 lv → cells + kc ≤ Rm.cells → slots + ks ≤ Rm.slots →
    z_K G me p e Rm s m args below meth c (cells + kc) (slots + ks) Post Q →
    W p G.1 e Rm s m args below meth c H locs cells slots Post (F0 m pc ls (st.map (z_cv G)))
theorem z_cat (G : z_G) (v : Value) : (z_cv G v).category = v.category := by
  cases v <;> try rfl
  rename_i k
  show (va_rf (z_rf G k)).category = 1
  unfold z_rf
  split <;> rfl
theorem z_cats (G : z_G) (st : List Value) : ((st.map (z_cv G)).map fun v => v.category) = st.map fun v => v.category := by
  induction st with
  | nil => rfl
  | cons v t ih => simp only [List.map_cons, z_cat, ih]
theorem z_ref {G : z_G} {k : Nat} (h : k < 100000) : z_cv G (.ref k) = .ref (G.2.1 + k) := by
  show va_rf (z_rf G k) = _
  unfold z_rf z_ad
  rw [if_neg (by omega), if_pos h]
  rfl
theorem z_ws_at {G : z_G} {sh : z_S} {h : z_H} {a : Nat} {kd : Nat × Nat} (hk : sh[a]? = some kd) : (z_ws G sh h)[a]? = some (G.2.1 + a, z_en G h a kd) := by
  unfold z_ws
  rw [List.getElem?_mapIdx, hk]
  rfl
theorem z_ws_inv {G : z_G} {sh : z_S} {h : z_H} {a : Nat} {q : Nat × va_E} (hk : (z_ws G sh h)[a]? = some q) : ∃ kd, sh[a]? = some kd ∧ q = (G.2.1 + a, z_en G h a kd) := by
  unfold z_ws at hk
  rw [List.getElem?_mapIdx] at hk
  cases hs : sh[a]? with
  | none => rw [hs] at hk; cases hk
  | some kd =>
    rw [hs] at hk
    exact ⟨kd, rfl, (Option.some.inj hk).symm⟩
theorem z_D (G : z_G) (sh : z_S) (h : z_H) : va_D (z_A G) (z_ws G sh h) := by
  refine ⟨fun i j p q hi hj e => ?_, fun k q hk => ?_⟩
  · obtain ⟨_, -, rfl⟩ := z_ws_inv hi
    obtain ⟨_, -, rfl⟩ := z_ws_inv hj
    dsimp only at e
    omega
  · obtain ⟨_, -, rfl⟩ := z_ws_inv hk
    exact Nat.le_add_right _ _
theorem z_lt {sh : z_S} {a : Nat} {kd : Nat × Nat} (h : sh[a]? = some kd) : a < sh.length := (List.getElem?_eq_some_iff.mp h).1
/-- a changed whole number, a changed reference -/
def z_uI (h : z_H) (a k : Nat) (v : Int32) : z_H := (fun b => if b = a then upd (h.1 a) k v else h.1 b, h.2)
def z_uR (h : z_H) (a k v : Nat) : z_H := (h.1, fun b => if b = a then (fun j => if j = k then v else h.2 a j) else h.2 b)
theorem z_ws_set {G : z_G} {sh : z_S} {h h' : z_H} {a : Nat} {kd : Nat × Nat} (hk : sh[a]? = some kd) (hI : ∀ b, b ≠ a → h'.1 b = h.1 b) (hR : ∀ b, b ≠ a → h'.2 b = h.2 b) : z_ws G sh h' = (z_ws G sh h).set a (G.2.1 + a, z_en G h' a kd) := by
  have hl := z_lt hk
  apply List.ext_getElem?
  intro j
  rw [List.getElem?_set]
  by_cases hj : a = j
  · subst hj
    rw [z_ws_at hk, if_pos rfl, if_pos (by unfold z_ws; rw [List.length_mapIdx]; exact hl)]
  · rw [if_neg hj]
    unfold z_ws
    rw [List.getElem?_mapIdx, List.getElem?_mapIdx]
    cases sh[j]? with
    | none => rfl
    | some q =>
      have e : z_en G h' j q = z_en G h j q := by
        unfold z_en z_fs
        rw [hI j (fun z => hj z.symm), hR j (fun z => hj z.symm)]
      simp only [Option.map_some, e]
