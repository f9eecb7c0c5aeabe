/-! rows of the heap -/
section ZB
variable {G : z_G} {me : z_Me} {d kc ks pc : Nat} {lv : List (Option Value)} {st : List Value} {sh : z_S} {h : z_H} {Q : Option Value → z_S → z_H → Prop}
theorem z_icmp_eq {x y : Int32} {off : Int} {tgt : Nat} (hd : decode me.2.1 pc = .ok (.if_icmp .eq off, 3)) (ht : (pc : Int) + off = (tgt : Int)) (kt : x = y → z_W G me d kc ks tgt lv st sh h Q) (kf : ¬ x = y → z_W G me d kc ks (pc + 3) lv st sh h Q) : z_W G me d kc ks pc lv (.int y :: .int x :: st) sh h Q :=
  fun p e Rm s m args below meth c H locs cells slots Post ls C w S l r1 r2 K => lv_icmp_eq C.1 C.2.1 hd ht (fun q => kt q p e Rm s m args below meth c H locs cells slots Post ls C w S l r1 r2 K) (fun q => kf q p e Rm s m args below meth c H locs cells slots Post ls C w S l r1 r2 K)
theorem z_icmp_ne {x y : Int32} {off : Int} {tgt : Nat} (hd : decode me.2.1 pc = .ok (.if_icmp .ne off, 3)) (ht : (pc : Int) + off = (tgt : Int)) (kt : ¬ x = y → z_W G me d kc ks tgt lv st sh h Q) (kf : x = y → z_W G me d kc ks (pc + 3) lv st sh h Q) : z_W G me d kc ks pc lv (.int y :: .int x :: st) sh h Q :=
  fun p e Rm s m args below meth c H locs cells slots Post ls C w S l r1 r2 K => lv_icmp_ne C.1 C.2.1 hd ht (fun q => kt q p e Rm s m args below meth c H locs cells slots Post ls C w S l r1 r2 K) (fun q => kf q p e Rm s m args below meth c H locs cells slots Post ls C w S l r1 r2 K)
theorem z_icmp_lt {x y : Int32} {off : Int} {tgt : Nat} (hd : decode me.2.1 pc = .ok (.if_icmp .lt off, 3)) (ht : (pc : Int) + off = (tgt : Int)) (kt : x < y → z_W G me d kc ks tgt lv st sh h Q) (kf : ¬ x < y → z_W G me d kc ks (pc + 3) lv st sh h Q) : z_W G me d kc ks pc lv (.int y :: .int x :: st) sh h Q :=
  fun p e Rm s m args below meth c H locs cells slots Post ls C w S l r1 r2 K => lv_icmp_lt C.1 C.2.1 hd ht (fun q => kt q p e Rm s m args below meth c H locs cells slots Post ls C w S l r1 r2 K) (fun q => kf q p e Rm s m args below meth c H locs cells slots Post ls C w S l r1 r2 K)
theorem z_icmp_ge {x y : Int32} {off : Int} {tgt : Nat} (hd : decode me.2.1 pc = .ok (.if_icmp .ge off, 3)) (ht : (pc : Int) + off = (tgt : Int)) (kt : y ≤ x → z_W G me d kc ks tgt lv st sh h Q) (kf : ¬ y ≤ x → z_W G me d kc ks (pc + 3) lv st sh h Q) : z_W G me d kc ks pc lv (.int y :: .int x :: st) sh h Q :=
  fun p e Rm s m args below meth c H locs cells slots Post ls C w S l r1 r2 K => lv_icmp_ge C.1 C.2.1 hd ht (fun q => kt q p e Rm s m args below meth c H locs cells slots Post ls C w S l r1 r2 K) (fun q => kf q p e Rm s m args below meth c H locs cells slots Post ls C w S l r1 r2 K)
theorem z_icmp_gt {x y : Int32} {off : Int} {tgt : Nat} (hd : decode me.2.1 pc = .ok (.if_icmp .gt off, 3)) (ht : (pc : Int) + off = (tgt : Int)) (kt : y < x → z_W G me d kc ks tgt lv st sh h Q) (kf : ¬ y < x → z_W G me d kc ks (pc + 3) lv st sh h Q) : z_W G me d kc ks pc lv (.int y :: .int x :: st) sh h Q :=
  fun p e Rm s m args below meth c H locs cells slots Post ls C w S l r1 r2 K => lv_icmp_gt C.1 C.2.1 hd ht (fun q => kt q p e Rm s m args below meth c H locs cells slots Post ls C w S l r1 r2 K) (fun q => kf q p e Rm s m args below meth c H locs cells slots Post ls C w S l r1 r2 K)
theorem z_icmp_le {x y : Int32} {off : Int} {tgt : Nat} (hd : decode me.2.1 pc = .ok (.if_icmp .le off, 3)) (ht : (pc : Int) + off = (tgt : Int)) (kt : x ≤ y → z_W G me d kc ks tgt lv st sh h Q) (kf : ¬ x ≤ y → z_W G me d kc ks (pc + 3) lv st sh h Q) : z_W G me d kc ks pc lv (.int y :: .int x :: st) sh h Q :=
  fun p e Rm s m args below meth c H locs cells slots Post ls C w S l r1 r2 K => lv_icmp_le C.1 C.2.1 hd ht (fun q => kt q p e Rm s m args below meth c H locs cells slots Post ls C w S l r1 r2 K) (fun q => kf q p e Rm s m args below meth c H locs cells slots Post ls C w S l r1 r2 K)
theorem z_if_eq {x : Int32} {off : Int} {tgt : Nat} (hd : decode me.2.1 pc = .ok (.ifCond .eq off, 3)) (ht : (pc : Int) + off = (tgt : Int)) (kt : x = 0 → z_W G me d kc ks tgt lv st sh h Q) (kf : ¬ x = 0 → z_W G me d kc ks (pc + 3) lv st sh h Q) : z_W G me d kc ks pc lv (.int x :: st) sh h Q :=
  fun p e Rm s m args below meth c H locs cells slots Post ls C w S l r1 r2 K => lv_if_eq C.1 C.2.1 hd ht (fun q => kt q p e Rm s m args below meth c H locs cells slots Post ls C w S l r1 r2 K) (fun q => kf q p e Rm s m args below meth c H locs cells slots Post ls C w S l r1 r2 K)
theorem z_if_ne {x : Int32} {off : Int} {tgt : Nat} (hd : decode me.2.1 pc = .ok (.ifCond .ne off, 3)) (ht : (pc : Int) + off = (tgt : Int)) (kt : ¬ x = 0 → z_W G me d kc ks tgt lv st sh h Q) (kf : x = 0 → z_W G me d kc ks (pc + 3) lv st sh h Q) : z_W G me d kc ks pc lv (.int x :: st) sh h Q :=
  fun p e Rm s m args below meth c H locs cells slots Post ls C w S l r1 r2 K => lv_if_ne C.1 C.2.1 hd ht (fun q => kt q p e Rm s m args below meth c H locs cells slots Post ls C w S l r1 r2 K) (fun q => kf q p e Rm s m args below meth c H locs cells slots Post ls C w S l r1 r2 K)
theorem z_if_lt {x : Int32} {off : Int} {tgt : Nat} (hd : decode me.2.1 pc = .ok (.ifCond .lt off, 3)) (ht : (pc : Int) + off = (tgt : Int)) (kt : x < 0 → z_W G me d kc ks tgt lv st sh h Q) (kf : ¬ x < 0 → z_W G me d kc ks (pc + 3) lv st sh h Q) : z_W G me d kc ks pc lv (.int x :: st) sh h Q :=
  fun p e Rm s m args below meth c H locs cells slots Post ls C w S l r1 r2 K => lv_if_lt C.1 C.2.1 hd ht (fun q => kt q p e Rm s m args below meth c H locs cells slots Post ls C w S l r1 r2 K) (fun q => kf q p e Rm s m args below meth c H locs cells slots Post ls C w S l r1 r2 K)
theorem z_if_ge {x : Int32} {off : Int} {tgt : Nat} (hd : decode me.2.1 pc = .ok (.ifCond .ge off, 3)) (ht : (pc : Int) + off = (tgt : Int)) (kt : 0 ≤ x → z_W G me d kc ks tgt lv st sh h Q) (kf : ¬ 0 ≤ x → z_W G me d kc ks (pc + 3) lv st sh h Q) : z_W G me d kc ks pc lv (.int x :: st) sh h Q :=
  fun p e Rm s m args below meth c H locs cells slots Post ls C w S l r1 r2 K => lv_if_ge C.1 C.2.1 hd ht (fun q => kt q p e Rm s m args below meth c H locs cells slots Post ls C w S l r1 r2 K) (fun q => kf q p e Rm s m args below meth c H locs cells slots Post ls C w S l r1 r2 K)
theorem z_if_gt {x : Int32} {off : Int} {tgt : Nat} (hd : decode me.2.1 pc = .ok (.ifCond .gt off, 3)) (ht : (pc : Int) + off = (tgt : Int)) (kt : 0 < x → z_W G me d kc ks tgt lv st sh h Q) (kf : ¬ 0 < x → z_W G me d kc ks (pc + 3) lv st sh h Q) : z_W G me d kc ks pc lv (.int x :: st) sh h Q :=
  fun p e Rm s m args below meth c H locs cells slots Post ls C w S l r1 r2 K => lv_if_gt C.1 C.2.1 hd ht (fun q => kt q p e Rm s m args below meth c H locs cells slots Post ls C w S l r1 r2 K) (fun q => kf q p e Rm s m args below meth c H locs cells slots Post ls C w S l r1 r2 K)
theorem z_if_le {x : Int32} {off : Int} {tgt : Nat} (hd : decode me.2.1 pc = .ok (.ifCond .le off, 3)) (ht : (pc : Int) + off = (tgt : Int)) (kt : x ≤ 0 → z_W G me d kc ks tgt lv st sh h Q) (kf : ¬ x ≤ 0 → z_W G me d kc ks (pc + 3) lv st sh h Q) : z_W G me d kc ks pc lv (.int x :: st) sh h Q :=
  fun p e Rm s m args below meth c H locs cells slots Post ls C w S l r1 r2 K => lv_if_le C.1 C.2.1 hd ht (fun q => kt q p e Rm s m args below meth c H locs cells slots Post ls C w S l r1 r2 K) (fun q => kf q p e Rm s m args below meth c H locs cells slots Post ls C w S l r1 r2 K)
theorem z_tabIn {dflt lo hi : Int} {offs : Array Int} {len : Nat} {x : Int32} {off : Int} {tgt : Nat} (hd : decode me.2.1 pc = .ok (.tableswitch dflt lo hi offs, len)) (h1 : ¬ x.toInt < lo) (h2 : ¬ hi < x.toInt) (ho : offs[(x.toInt - lo).toNat]? = some off) (ht : (pc : Int) + off = (tgt : Int)) (k : z_W G me d kc ks tgt lv st sh h Q) : z_W G me d kc ks pc lv (.int x :: st) sh h Q :=
  fun p e Rm s m args below meth c H locs cells slots Post ls C w S l r1 r2 K => lv_tableIn C.1 C.2.1 hd h1 h2 ho ht (k p e Rm s m args below meth c H locs cells slots Post ls C w S l r1 r2 K)
theorem z_tabOut {dflt lo hi : Int} {offs : Array Int} {len : Nat} {x : Int32} {tgt : Nat} (hd : decode me.2.1 pc = .ok (.tableswitch dflt lo hi offs, len)) (hx : x.toInt < lo ∨ hi < x.toInt) (ht : (pc : Int) + dflt = (tgt : Int)) (k : z_W G me d kc ks tgt lv st sh h Q) : z_W G me d kc ks pc lv (.int x :: st) sh h Q :=
  fun p e Rm s m args below meth c H locs cells slots Post ls C w S l r1 r2 K => lv_tableOut C.1 C.2.1 hd hx ht (k p e Rm s m args below meth c H locs cells slots Post ls C w S l r1 r2 K)
theorem z_look {dflt : Int} {ps : Array (Int × Int)} {len : Nat} {x : Int32} {off : Int} {tgt : Nat} (hd : decode me.2.1 pc = .ok (.lookupswitch dflt ps, len)) (hp : (ps.toList.zip (ps.toList.drop 1)).all (fun (a, next) => a.1 < next.1) = true) (ho : Op.lookupswitch.offset ps.toList dflt x.toInt = off) (ht : (pc : Int) + off = (tgt : Int)) (k : z_W G me d kc ks tgt lv st sh h Q) : z_W G me d kc ks pc lv (.int x :: st) sh h Q :=
  fun p e Rm s m args below meth c H locs cells slots Post ls C w S l r1 r2 K => lv_lookup C.1 C.2.1 hd hp ho ht (k p e Rm s m args below meth c H locs cells slots Post ls C w S l r1 r2 K)
/-- what the tables say of a class of ours -/
def z_Kok (ci : Nat) : Prop := ∃ (C : String) (T : u_T) (N : Nat) (t : Nat → FieldType), vwCl[ci]? = some (C, T, N) ∧ z_tyl[ci]? = some t ∧ (∀ w ∈ u_ws C T N, w ∈ z_tb) ∧ (∀ k, k < N → parseFieldDescriptor (T k).2.2.1 = some (t k)) ∧ (∀ a, a < N → ∀ b, b < N → a ≠ b → (T a).2.1 ≠ (T b).2.1) ∧ Cond.instantiable C N ∈ z_tb ∧ Cond.initialized C ∈ z_tb
/-- a link to a field: of class ci, its place k -/
def z_FL (own : String) (idx ci k : Nat) : Prop := z_Kok ci ∧ ∃ (C : String) (T : u_T) (N : Nat), vwCl[ci]? = some (C, T, N) ∧ k < N ∧ Cond.fieldLink own idx (T k).1 (T k).2.1 (T k).2.2.1 ∈ z_tb
def z_fty (ci k : Nat) : FieldType := match z_tyl[ci]? with
  | some t => t k
  | none => .int
def z_fin (ci k : Nat) : Bool := match vwCl[ci]? with
  | some q => (q.2.1 k).2.2.2
  | none => true
theorem z_fs_at {ci k : Nat} {a : Nat} {q : vw_C} (hc : vwCl[ci]? = some q) (hk : k < q.2.2) : (z_fs G h a ci)[k]? = some (if z_rfld ci k = true then va_rf (z_rf G (h.2 a k)) else .int (h.1 a k)) := by
  unfold z_fs z_nf
  rw [hc]
  dsimp only
  rw [List.getElem?_map, List.getElem?_range hk]
  rfl
theorem z_getI {a ci f idx : Nat} (hl : z_FL me.1.cls idx ci f) (hr : z_rfld ci f = false) (hs : sh[a]? = some (0, ci)) (hd : decode me.2.1 pc = .ok (.getfield idx, 3))
    (k : z_W G me d kc ks (pc + 3) lv (.int (h.1 a f) :: st) sh h Q) : z_W G me d kc ks pc lv (.ref a :: st) sh h Q := by
  intro p e Rm s m args below meth c H locs cells slots Post ls C w S l r1 r2 K
  obtain ⟨⟨C0, T0, N0, t0, g1, g2, g3, g4, g5, g6, g7⟩, C1, T1, N1, g8, g9, g10⟩ := hl
  rw [g1] at g8; cases g8
  simp only [List.map_cons]
  rw [z_ref (Nat.lt_of_lt_of_le (z_lt hs) w.1)]
  refine va_get C.1 C.2.1 C.2.2.2.2.1 g3 C.2.2.2.1 C.2.2.2.2.2.1 w.2.2 a (z_ws_at hs) g1 f g9 (C.2.2.2.2.1 _ g10) (fun _ h => h) (v := .int (h.1 a f)) ?_ hd (k p e Rm s m args below meth c H locs cells slots Post ls C w S l r1 r2 K)
  rw [z_fs_at g1 g9, hr]; rfl
theorem z_getR {a ci f idx : Nat} (hl : z_FL me.1.cls idx ci f) (hr : z_rfld ci f = true) (hs : sh[a]? = some (0, ci)) (hd : decode me.2.1 pc = .ok (.getfield idx, 3))
    (k : z_W G me d kc ks (pc + 3) lv (.ref (h.2 a f) :: st) sh h Q) : z_W G me d kc ks pc lv (.ref a :: st) sh h Q := by
  intro p e Rm s m args below meth c H locs cells slots Post ls C w S l r1 r2 K
  obtain ⟨⟨C0, T0, N0, t0, g1, g2, g3, g4, g5, g6, g7⟩, C1, T1, N1, g8, g9, g10⟩ := hl
  rw [g1] at g8; cases g8
  simp only [List.map_cons]
  rw [z_ref (Nat.lt_of_lt_of_le (z_lt hs) w.1)]
  refine va_get C.1 C.2.1 C.2.2.2.2.1 g3 C.2.2.2.1 C.2.2.2.2.2.1 w.2.2 a (z_ws_at hs) g1 f g9 (C.2.2.2.2.1 _ g10) (fun _ h => h) (v := z_cv G (.ref (h.2 a f))) ?_ hd (k p e Rm s m args below meth c H locs cells slots Post ls C w S l r1 r2 K)
  rw [z_fs_at g1 g9, hr]; rfl
theorem z_iald {a n idx : Nat} {i : Int32} (hs : sh[a]? = some (1, n)) (hin : vp_in i n) (hd : decode me.2.1 pc = .ok (.iaload, 1))
    (k : z_W G me d kc ks (pc + 1) lv (.int (h.1 a i.toNatClampNeg) :: st) sh h Q) : z_W G me d kc ks pc lv (.int i :: .ref a :: st) sh h Q := by
  intro p e Rm s m args below meth c H locs cells slots Post ls C w S l r1 r2 K
  simp only [List.map_cons]
  rw [z_ref (Nat.lt_of_lt_of_le (z_lt hs) w.1)]
  exact va_iald C.1 C.2.1 C.2.2.2.2.2.1 w.2.2 a 0 (z_ws_at hs) rfl hin hd (k p e Rm s m args below meth c H locs cells slots Post ls C w S l r1 r2 K)
theorem z_bald {a n idx : Nat} {i : Int32} (hs : sh[a]? = some (2, n)) (hin : vp_in i n) (hd : decode me.2.1 pc = .ok (.baload, 1))
    (k : z_W G me d kc ks (pc + 1) lv (.int (h.1 a i.toNatClampNeg) :: st) sh h Q) : z_W G me d kc ks pc lv (.int i :: .ref a :: st) sh h Q := by
  intro p e Rm s m args below meth c H locs cells slots Post ls C w S l r1 r2 K
  simp only [List.map_cons]
  rw [z_ref (Nat.lt_of_lt_of_le (z_lt hs) w.1)]
  exact va_bald C.1 C.2.1 C.2.2.2.2.2.1 w.2.2 a 1 (z_ws_at hs) rfl hin hd (k p e Rm s m args below meth c H locs cells slots Post ls C w S l r1 r2 K)
theorem z_aald {a n t : Nat} {i : Int32} (ht : t = 0 ∨ t = 1) (hs : sh[a]? = some (t + 3, n)) (hin : vp_in i n) (hd : decode me.2.1 pc = .ok (.aaload, 1))
    (k : z_W G me d kc ks (pc + 1) lv (.ref (h.2 a i.toNatClampNeg) :: st) sh h Q) : z_W G me d kc ks pc lv (.int i :: .ref a :: st) sh h Q := by
  intro p e Rm s m args below meth c H locs cells slots Post ls C w S l r1 r2 K
  simp only [List.map_cons]
  rw [z_ref (Nat.lt_of_lt_of_le (z_lt hs) w.1)]
  rcases ht with rfl | rfl
  · exact va_aldq C.1 C.2.1 C.2.2.2.2.2.1 w.2.2 a 2 (z_ws_at hs) rfl hin hd (k p e Rm s m args below meth c H locs cells slots Post ls C w S l r1 r2 K)
  · exact va_aldq C.1 C.2.1 C.2.2.2.2.2.1 w.2.2 a 3 (z_ws_at hs) rfl hin hd (k p e Rm s m args below meth c H locs cells slots Post ls C w S l r1 r2 K)
theorem z_alen {a n t : Nat} (ht : t < 4) (hs : sh[a]? = some (t + 1, n)) (hd : decode me.2.1 pc = .ok (.arraylength, 1))
    (k : z_W G me d kc ks (pc + 1) lv (.int (Int32.ofNat n) :: st) sh h Q) : z_W G me d kc ks pc lv (.ref a :: st) sh h Q := by
  intro p e Rm s m args below meth c H locs cells slots Post ls C w S l r1 r2 K
  simp only [List.map_cons]
  rw [z_ref (Nat.lt_of_lt_of_le (z_lt hs) w.1)]
  match t, ht, hs with
  | 0, _, hs => exact va_alen C.1 C.2.1 C.2.2.2.2.2.1 w.2.2 a 0 (z_ws_at hs) rfl rfl hd (k p e Rm s m args below meth c H locs cells slots Post ls C w S l r1 r2 K)
  | 1, _, hs => exact va_alen C.1 C.2.1 C.2.2.2.2.2.1 w.2.2 a 1 (z_ws_at hs) rfl rfl hd (k p e Rm s m args below meth c H locs cells slots Post ls C w S l r1 r2 K)
  | 2, _, hs => exact va_alen C.1 C.2.1 C.2.2.2.2.2.1 w.2.2 a 2 (z_ws_at hs) rfl rfl hd (k p e Rm s m args below meth c H locs cells slots Post ls C w S l r1 r2 K)
  | 3, _, hs => exact va_alen C.1 C.2.1 C.2.2.2.2.2.1 w.2.2 a 3 (z_ws_at hs) rfl rfl hd (k p e Rm s m args below meth c H locs cells slots Post ls C w S l r1 r2 K)
end ZB
