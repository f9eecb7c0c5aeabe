/-! combinators and rows for the printed functions; the shape of the heap behind the constructors -/
def z_SH : z_S := [(0, 12), (0, 10), (1, 260), (0, 7), (3, 8), (0, 5), (1, 60), (1, 60), (1, 61), (0, 5), (1, 60), (1, 60), (1, 61), (0, 5), (1, 60), (1, 60), (1, 61), (0, 5), (1, 60), (1, 60), (1, 61), (0, 5), (1, 60), (1, 60), (1, 61), (0, 5), (1, 60), (1, 60), (1, 61), (0, 5), (1, 60), (1, 60), (1, 61), (0, 5), (1, 60), (1, 60), (1, 61), (0, 5), (1, 60), (1, 60), (1, 61), (0, 3), (1, 240), (1, 240), (1, 16), (1, 16), (1, 16), (1, 16), (1, 32), (0, 3), (1, 240), (1, 240), (1, 16), (1, 16), (1, 16), (1, 16), (1, 32), (0, 6), (0, 4), (0, 2), (1, 8), (1, 8), (0, 9), (4, 8), (0, 8), (0, 8), (0, 8), (0, 8), (0, 8), (0, 8), (0, 8), (0, 8), (0, 9), (4, 8), (0, 8), (0, 8), (0, 8), (0, 8), (0, 8), (0, 8), (0, 8), (0, 8), (0, 9), (4, 8), (0, 8), (0, 8), (0, 8), (0, 8), (0, 8), (0, 8), (0, 8), (0, 8), (0, 1), (1, 8), (0, 11), (1, 60), (1, 60), (0, 0), (1, 60), (1, 60), (1, 60), (1, 60), (0, 13), (1, 82), (1, 82), (1, 82), (1, 480), (1, 480), (1, 480), (1, 480), (1, 8), (2, 260), (1, 260), (1, 260), (1, 16), (1, 16), (1, 16), (1, 16), (1, 260), (1, 16), (1, 16), (1, 16), (1, 16), (1, 260), (1, 8), (1, 60), (1, 60), (1, 60), (1, 60), (1, 2), (1, 2), (1, 8), (1, 60), (1, 60), (1, 61)]
def z_u (I : Nat → Nat → Int32) (a k : Nat) (v : Int32) : Nat → Nat → Int32 := fun b => if b = a then upd (I a) k v else I b
def z_v (R : Nat → Nat → Nat) (a k v : Nat) : Nat → Nat → Nat := fun b => if b = a then (fun j => if j = k then v else R a j) else R b
def z_rem (x y : Int32) : Int32 := x - x / y * y
def z_shl (x y : Int32) : Int32 := x <<< (y &&& 31)
def z_shr (x y : Int32) : Int32 := x >>> (y &&& 31)
def z_ushr (x y : Int32) : Int32 := (x.toUInt32 >>> (y.toUInt32 &&& Int32.toUInt32 31)).toInt32
def z_max (x y : Int32) : Int32 := if x < y then y else x
def z_min (x y : Int32) : Int32 := if y < x then y else x
def z_abs (x : Int32) : Int32 := if 0 ≤ x then x else 0 - x
def z_len (t a : Nat) : Nat := match z_SH[a]? with
  | some q => if q.1 = t then q.2 else 0
  | none => 0
/-- place i lies in the array a of kind t -/
abbrev z_ok (t a : Nat) (i : Int32) : Prop := ¬ (i < 0 ∨ z_len t a ≤ i.toNatClampNeg)
abbrev z_ob (a ci : Nat) : Prop := z_SH[a]? = some (0, ci)
def z_g {α : Type} (c : Prop) [Decidable c] (x : Option α) : Option α := if c then x else none
def z_l {α β : Type} (e : α) (k : α → β) : β := k e
def z_b {α β : Type} (x : Option α) (k : α → Option β) : Option β := match x with
  | some v => k v
  | none => none
/-- a loop: the body goes on (inl) or comes out (inr) -/
def z_lp {S X : Type} (body : S → Option (S ⊕ X)) : Nat → S → Option X
  | 0, _ => none
  | n + 1, s => match body s with
    | some (.inl s') => z_lp body n s'
    | some (.inr x) => some x
    | none => none
def z_x {A B C : Type} (q : A ⊕ B) (f : A → C) (g : B → C) : C := match q with
  | .inl a => f a
  | .inr b => g b
theorem z_x_l {A B C : Type} {a : A} {f : A → C} {g : B → C} {r : C} (h : z_x (.inl a) f g = r) : f a = r := h
theorem z_x_r {A B C : Type} {b : B} {f : A → C} {g : B → C} {r : C} (h : z_x (.inr b) f g = r) : g b = r := h
def z_or {S X : Type} (P : S → Prop) (E : X → Prop) : S ⊕ X → Prop
  | .inl s => P s
  | .inr x => E x
theorem z_g_el {α : Type} {c : Prop} [Decidable c] {x : Option α} {r : α} (h : z_g c x = some r) : c ∧ x = some r := by
  unfold z_g at h
  by_cases hc : c
  · rw [if_pos hc] at h; exact ⟨hc, h⟩
  · rw [if_neg hc] at h; cases h
theorem z_l_el {α β : Type} {e : α} {k : α → β} {r : β} (h : z_l e k = r) {y : α} (ey : y = e) : k y = r := by subst ey; exact h
theorem z_b_el {α β : Type} {x : Option α} {k : α → Option β} {r : β} (h : z_b x k = some r) : ∃ v, x = some v ∧ k v = some r := by
  cases x with
  | none => cases h
  | some v => exact ⟨v, rfl, h⟩
theorem z_if_t {α : Type} {c : Prop} [Decidable c] {a b r : α} (h : (if c then a else b) = r) (hc : c) : a = r := by rw [if_pos hc] at h; exact h
theorem z_if_f {α : Type} {c : Prop} [Decidable c] {a b r : α} (h : (if c then a else b) = r) (hc : ¬ c) : b = r := by rw [if_neg hc] at h; exact h
theorem z_lp_el {S X : Type} {body : S → Option (S ⊕ X)} {P : S → Prop} {E : X → Prop} (hb : ∀ s o, body s = some o → z_or P E o → P s) : ∀ (n : Nat) (s : S) (x : X), z_lp body n s = some x → E x → P s := by
  intro n
  induction n with
  | zero => intro s x h; cases h
  | succ n ih =>
    intro s x h hx
    unfold z_lp at h
    cases ho : body s with
    | none => rw [ho] at h; cases h
    | some o =>
      rw [ho] at h
      cases o with
      | inl s' => exact hb s _ ho (ih s' x h hx)
      | inr y => cases h; exact hb s _ ho hx
theorem z_dl {a b d : Nat} (h : Nat.ble (a + 1) b = true) (hd : b ≤ d) : a ≤ d - 1 := Nat.le_sub_of_add_le (Nat.le_trans (Nat.le_of_ble_eq_true h) hd)
theorem z_okl {a : Nat} {q : Nat × Nat} (h : z_SH[a]? = some q) : a < 200000 := Nat.lt_of_lt_of_le (z_lt h) (show z_SH.length ≤ 200000 by decide +kernel)
theorem z_ok_el {t a : Nat} {i : Int32} (h : z_ok t a i) : ∃ n, z_SH[a]? = some (t, n) ∧ vp_in i n := by
  unfold z_ok z_len at h
  cases hs : z_SH[a]? with
  | none => rw [hs] at h; exact absurd (Or.inr (Nat.zero_le _)) h
  | some q =>
    rw [hs] at h
    obtain ⟨q1, q2⟩ := q
    dsimp only at h
    by_cases e : q1 = t
    · subst e
      rw [if_pos rfl] at h
      exact ⟨q2, rfl, h⟩
    · rw [if_neg e] at h
      exact absurd (Or.inr (Nat.zero_le _)) h
def z_E (r : Option Value) (h : z_H) : Option Value → z_S → z_H → Prop := fun r' sh' h' => r' = r ∧ sh' = z_SH ∧ h' = h
/-- fewer known locals -/
def z_le : List (Option Value) → List (Option Value) → Prop
  | [], _ => True
  | none :: t, _ :: t' => z_le t t'
  | some v :: t, w :: t' => w = some v ∧ z_le t t'
  | _ :: _, [] => False
theorem z_le_el : ∀ (l l' : List (Option Value)), z_le l l' → ∀ (i : Nat) (v : Value), l[i]? = some (some v) → l'[i]? = some (some v)
  | [], _, _, i, v, hi => by simp at hi
  | none :: t, [], h, _, _, _ => h.elim
  | some _ :: t, [], h, _, _, _ => h.elim
  | none :: t, w :: t', h, i, v, hi => by
    cases i with
    | zero => simp at hi
    | succ i => simpa using z_le_el t t' h i v (by simpa using hi)
  | some u :: t, w :: t', h, i, v, hi => by
    cases i with
    | zero =>
      have h1 : u = v := by simpa using hi
      subst h1
      simpa using h.1
    | succ i => simpa using z_le_el t t' h.2 i v (by simpa using hi)
/-- methods that call each other: the k-th of them, its object, its number -/
abbrev z_RT : Type := Nat → Nat → Int32 → (Nat → Nat → Int32) → (Nat → Nat → Nat) → Option (Int32 × (Nat → Nat → Int32))
def z_RC (G : z_G) (d : Nat) (sel : Nat → z_Me) (rec : z_RT) : Prop := ∀ (k a : Nat) (x : Int32) (I : Nat → Nat → Int32) (R : Nat → Nat → Nat) (q : Int32 × (Nat → Nat → Int32)), rec k a x I R = some q → z_M G (d - 1) 0 0 (sel k) [.ref a, .int x] z_SH (I, R) (z_E (some (.int q.1)) (q.2, R))
theorem z_le_0 {l : List (Option Value)} : z_le [] l := trivial
theorem z_le_n {t t' : List (Option Value)} {w : Option Value} (h : z_le t t') : z_le (none :: t) (w :: t') := h
theorem z_le_c {t t' : List (Option Value)} {v : Value} {w : Option Value} (hw : w = some v) (h : z_le t t') : z_le (some v :: t) (w :: t') := ⟨hw, h⟩
section YR
variable {G : z_G} {me : z_Me} {d pc : Nat} {lv : List (Option Value)} {st : List Value} {I : Nat → Nat → Int32} {R : Nat → Nat → Nat} {Q : Option Value → z_S → z_H → Prop}
theorem y_sub {lv' : List (Option Value)} (k : z_W G me d 0 0 pc lv' st z_SH (I, R) Q) (hs : z_le lv' lv) : z_W G me d 0 0 pc lv st z_SH (I, R) Q := z_sub (z_le_el lv' lv hs) k
theorem y_istore_n {i : Fin 4} {j : Nat} {x : Int32} (lv' : Int32 → List (Option Value)) (hd : decode me.2.1 pc = .ok (.istore_n i, 1)) (hi : (i : Nat) = j) (hn : j < me.2.2.1) (hlv : ∀ y, lv.set j (some (.int y)) = lv' y) (k : ∀ y, y = x → z_W G me d 0 0 (pc + 1) (lv' y) st z_SH (I, R) Q) : z_W G me d 0 0 pc lv (.int x :: st) z_SH (I, R) Q := z_istore_n hd hi hn (by rw [hlv]; exact k x rfl)
theorem y_istore {j : Nat} {x : Int32} (lv' : Int32 → List (Option Value)) (hd : decode me.2.1 pc = .ok (.istore j, 2)) (hn : j < me.2.2.1) (hlv : ∀ y, lv.set j (some (.int y)) = lv' y) (k : ∀ y, y = x → z_W G me d 0 0 (pc + 2) (lv' y) st z_SH (I, R) Q) : z_W G me d 0 0 pc lv (.int x :: st) z_SH (I, R) Q := z_istore hd hn (by rw [hlv]; exact k x rfl)
theorem y_istore_n0 {i : Fin 4} {j : Nat} {x : Int32} (lv' : List (Option Value)) (hd : decode me.2.1 pc = .ok (.istore_n i, 1)) (hi : (i : Nat) = j) (hn : j < me.2.2.1) (hlv : lv.set j (some (.int x)) = lv') (k : z_W G me d 0 0 (pc + 1) lv' st z_SH (I, R) Q) : z_W G me d 0 0 pc lv (.int x :: st) z_SH (I, R) Q := z_istore_n hd hi hn (by rw [hlv]; exact k)
theorem y_istore0 {j : Nat} {x : Int32} (lv' : List (Option Value)) (hd : decode me.2.1 pc = .ok (.istore j, 2)) (hn : j < me.2.2.1) (hlv : lv.set j (some (.int x)) = lv') (k : z_W G me d 0 0 (pc + 2) lv' st z_SH (I, R) Q) : z_W G me d 0 0 pc lv (.int x :: st) z_SH (I, R) Q := z_istore hd hn (by rw [hlv]; exact k)
theorem y_iinc {j : Nat} {n : Int} {x c : Int32} (lv' : Int32 → List (Option Value)) (hd : decode me.2.1 pc = .ok (.iinc j n, 3)) (hl : lv[j]? = some (some (.int x))) (hc : Int32.ofInt n = c) (hn : j < me.2.2.1) (hlv : ∀ y, lv.set j (some (.int y)) = lv' y) (k : ∀ y, y = x + c → z_W G me d 0 0 (pc + 3) (lv' y) st z_SH (I, R) Q) : z_W G me d 0 0 pc lv st z_SH (I, R) Q := z_iinc hd hl rfl hn (by rw [hlv]; exact k _ (by rw [hc]))
theorem y_astore_n {i : Fin 4} {j a : Nat} (lv' : List (Option Value)) (hd : decode me.2.1 pc = .ok (.astore_n i, 1)) (hi : (i : Nat) = j) (hn : j < me.2.2.1) (ha : a < 200000) (hlv : lv.set j (some (.ref a)) = lv') (k : z_W G me d 0 0 (pc + 1) lv' st z_SH (I, R) Q) : z_W G me d 0 0 pc lv (.ref a :: st) z_SH (I, R) Q := z_astore_n hd hi hn ha (by rw [hlv]; exact k)
theorem y_astore {j a : Nat} (lv' : List (Option Value)) (hd : decode me.2.1 pc = .ok (.astore j, 2)) (hn : j < me.2.2.1) (ha : a < 200000) (hlv : lv.set j (some (.ref a)) = lv') (k : z_W G me d 0 0 (pc + 2) lv' st z_SH (I, R) Q) : z_W G me d 0 0 pc lv (.ref a :: st) z_SH (I, R) Q := z_astore hd hn ha (by rw [hlv]; exact k)
theorem y_getI {a ci f idx : Nat} (hl : z_FL me.1.cls idx ci f) (hr : z_rfld ci f = false) (hs : z_ob a ci) (hd : decode me.2.1 pc = .ok (.getfield idx, 3)) (k : z_W G me d 0 0 (pc + 3) lv (.int (I a f) :: st) z_SH (I, R) Q) : z_W G me d 0 0 pc lv (.ref a :: st) z_SH (I, R) Q := z_getI hl hr hs hd k
theorem y_getR {a ci f idx : Nat} (hl : z_FL me.1.cls idx ci f) (hr : z_rfld ci f = true) (hs : z_ob a ci) (hd : decode me.2.1 pc = .ok (.getfield idx, 3)) (k : z_W G me d 0 0 (pc + 3) lv (.ref (R a f) :: st) z_SH (I, R) Q) : z_W G me d 0 0 pc lv (.ref a :: st) z_SH (I, R) Q := z_getR hl hr hs hd k
theorem y_putI {a ci f idx : Nat} {v : Int32} (hl : z_FL me.1.cls idx ci f) (hr : z_rfld ci f = false) (hs : z_ob a ci) (hw : z_fin ci f = false) (hn : narrow (z_fty ci f) (.int v) = .int v) (hf : fits (z_fty ci f) (.int v) = true) (hd : decode me.2.1 pc = .ok (.putfield idx, 3)) (k : ∀ I1, I1 = z_u I a f v → z_W G me d 0 0 (pc + 3) lv st z_SH (I1, R) Q) : z_W G me d 0 0 pc lv (.int v :: .ref a :: st) z_SH (I, R) Q := by
  refine z_putI hl hr hs ?_ hn hf hd (k _ rfl)
  unfold z_wr
  unfold z_fin at hw
  obtain ⟨C0, T0, N0, t0, g1, -⟩ := hl.1
  rw [g1] at hw ⊢
  exact Or.inl hw
theorem y_putR {a ci f idx v : Nat} (hl : z_FL me.1.cls idx ci f) (hr : z_rfld ci f = true) (hs : z_ob a ci) (hw : z_fin ci f = false) (hd : decode me.2.1 pc = .ok (.putfield idx, 3)) (k : ∀ R1, R1 = z_v R a f v → z_W G me d 0 0 (pc + 3) lv st z_SH (I, R1) Q) : z_W G me d 0 0 pc lv (.ref v :: .ref a :: st) z_SH (I, R) Q := by
  refine z_putR hl hr hs ?_ hd (k _ rfl)
  unfold z_wr
  unfold z_fin at hw
  obtain ⟨C0, T0, N0, t0, g1, -⟩ := hl.1
  rw [g1] at hw ⊢
  exact Or.inl hw
theorem y_iald {a : Nat} {i : Int32} (hg : z_ok 1 a i) (hd : decode me.2.1 pc = .ok (.iaload, 1)) (k : z_W G me d 0 0 (pc + 1) lv (.int (I a i.toNatClampNeg) :: st) z_SH (I, R) Q) : z_W G me d 0 0 pc lv (.int i :: .ref a :: st) z_SH (I, R) Q := by
  obtain ⟨n, h1, h2⟩ := z_ok_el hg
  exact z_iald (idx := 0) h1 h2 hd k
theorem y_bald {a : Nat} {i : Int32} (hg : z_ok 2 a i) (hd : decode me.2.1 pc = .ok (.baload, 1)) (k : z_W G me d 0 0 (pc + 1) lv (.int (I a i.toNatClampNeg) :: st) z_SH (I, R) Q) : z_W G me d 0 0 pc lv (.int i :: .ref a :: st) z_SH (I, R) Q := by
  obtain ⟨n, h1, h2⟩ := z_ok_el hg
  exact z_bald (idx := 0) h1 h2 hd k
theorem y_aald {a t : Nat} {i : Int32} (ht : t = 0 ∨ t = 1) (hg : z_ok (t + 3) a i) (hd : decode me.2.1 pc = .ok (.aaload, 1)) (k : z_W G me d 0 0 (pc + 1) lv (.ref (R a i.toNatClampNeg) :: st) z_SH (I, R) Q) : z_W G me d 0 0 pc lv (.int i :: .ref a :: st) z_SH (I, R) Q := by
  obtain ⟨n, h1, h2⟩ := z_ok_el hg
  exact z_aald ht h1 h2 hd k
theorem y_iast {a : Nat} {i x : Int32} (hg : z_ok 1 a i) (hd : decode me.2.1 pc = .ok (.iastore, 1)) (k : ∀ I1, I1 = z_u I a i.toNatClampNeg x → z_W G me d 0 0 (pc + 1) lv st z_SH (I1, R) Q) : z_W G me d 0 0 pc lv (.int x :: .int i :: .ref a :: st) z_SH (I, R) Q := by
  obtain ⟨n, h1, h2⟩ := z_ok_el hg
  exact z_iast h1 h2 hd (k _ rfl)
theorem y_bast {a : Nat} {i x : Int32} (hg : z_ok 2 a i) (hd : decode me.2.1 pc = .ok (.bastore, 1)) (k : ∀ I1, I1 = z_u I a i.toNatClampNeg (vp_nar .byte x) → z_W G me d 0 0 (pc + 1) lv st z_SH (I1, R) Q) : z_W G me d 0 0 pc lv (.int x :: .int i :: .ref a :: st) z_SH (I, R) Q := by
  obtain ⟨n, h1, h2⟩ := z_ok_el hg
  exact z_bast h1 h2 hd (k _ rfl)
theorem y_aast {a t v : Nat} {i : Int32} (hg : z_ok (t + 3) a i) (hv : (t = 0 ∧ z_ob v 5) ∨ (t = 1 ∧ z_ob v 8)) (hd : decode me.2.1 pc = .ok (.aastore, 1)) (k : ∀ R1, R1 = z_v R a i.toNatClampNeg v → z_W G me d 0 0 (pc + 1) lv st z_SH (I, R1) Q) : z_W G me d 0 0 pc lv (.ref v :: .int i :: .ref a :: st) z_SH (I, R) Q := by
  obtain ⟨n, h1, h2⟩ := z_ok_el hg
  exact z_aast h1 hv h2 hd (k _ rfl)
/-- the array a of ints has a length -/
abbrev z_ar (a : Nat) : Prop := (z_SH[a]?).map (fun q => q.1) = some 1
theorem y_alen {a : Nat} (hg : z_ar a) (hd : decode me.2.1 pc = .ok (.arraylength, 1)) (k : z_W G me d 0 0 (pc + 1) lv (.int (Int32.ofNat (z_len 1 a)) :: st) z_SH (I, R) Q) : z_W G me d 0 0 pc lv (.ref a :: st) z_SH (I, R) Q := by
  obtain ⟨q, h1, h2⟩ := Option.map_eq_some_iff.mp hg
  obtain ⟨q1, n⟩ := q
  dsimp only at h2
  subst h2
  refine z_alen (t := 0) (by decide) h1 hd ?_
  rw [show n = z_len 1 a from by unfold z_len; rw [h1]; rfl]
  exact k
theorem z_ar_lt {a : Nat} (hg : z_ar a) : a < 200000 := by
  obtain ⟨q, h1, h2⟩ := Option.map_eq_some_iff.mp hg
  exact z_okl h1
theorem y_irem {x y : Int32} (hd : decode me.2.1 pc = .ok (.irem, 1)) (hne : ¬ y = 0) (k : z_W G me d 0 0 (pc + 1) lv (.int (z_rem x y) :: st) z_SH (I, R) Q) : z_W G me d 0 0 pc lv (.int y :: .int x :: st) z_SH (I, R) Q := z_irem hd hne k
theorem y_ishl {x y : Int32} (hd : decode me.2.1 pc = .ok (.ishl, 1)) (k : z_W G me d 0 0 (pc + 1) lv (.int (z_shl x y) :: st) z_SH (I, R) Q) : z_W G me d 0 0 pc lv (.int y :: .int x :: st) z_SH (I, R) Q := z_ishl hd k
theorem y_ishr {x y : Int32} (hd : decode me.2.1 pc = .ok (.ishr, 1)) (k : z_W G me d 0 0 (pc + 1) lv (.int (z_shr x y) :: st) z_SH (I, R) Q) : z_W G me d 0 0 pc lv (.int y :: .int x :: st) z_SH (I, R) Q := z_ishr hd k
theorem y_iushr {x y : Int32} (hd : decode me.2.1 pc = .ok (.iushr, 1)) (k : z_W G me d 0 0 (pc + 1) lv (.int (z_ushr x y) :: st) z_SH (I, R) Q) : z_W G me d 0 0 pc lv (.int y :: .int x :: st) z_SH (I, R) Q := z_iushr hd k
theorem z_pos {D d : Nat} (h : D + 1 ≤ d) : ∃ e, d = e + 1 := ⟨d - 1, by omega⟩
theorem y_cSi {me' : z_Me} {n idx : Nat} {av : List Value} {I' : Nat → Nat → Int32} {R' : Nat → Nat → Nat} {r : Int32} (hd1 : 1 ≤ d) (hM : z_M G (d - 1) 0 0 me' av z_SH (I, R) (z_E (some (.int r)) (I', R'))) (ok : z_Ok me' n) (hl : Cond.methodLink me.1.cls idx me'.1 ∈ z_tb) (hst : Cond.static me'.1 ∈ z_tb) (st0 : List Value) (hs0 : st0 = av.reverse ++ st) (hn : av.length = n) (hr : (st.map fun v => v.category).sum ≤ 8) (hd : decode me.2.1 pc = .ok (.invokestatic idx, 3)) (k : z_W G me d 0 0 (pc + 3) lv (.int r :: st) z_SH (I', R') Q) : z_W G me d 0 0 pc lv st0 z_SH (I, R) Q := by
  subst hs0
  obtain ⟨e, rfl⟩ := z_pos (D := 0) hd1
  refine z_callS (kc := 0) (ks := 0) hM ok hl hst hn hr hd ?_
  rintro r' sh' h' ⟨rfl, rfl, rfl⟩
  exact k
theorem y_cSv {me' : z_Me} {n idx : Nat} {av : List Value} {I' : Nat → Nat → Int32} {R' : Nat → Nat → Nat} (hd1 : 1 ≤ d) (hM : z_M G (d - 1) 0 0 me' av z_SH (I, R) (z_E none (I', R'))) (ok : z_Ok me' n) (hl : Cond.methodLink me.1.cls idx me'.1 ∈ z_tb) (hst : Cond.static me'.1 ∈ z_tb) (st0 : List Value) (hs0 : st0 = av.reverse ++ st) (hn : av.length = n) (hr : (st.map fun v => v.category).sum ≤ 8) (hd : decode me.2.1 pc = .ok (.invokestatic idx, 3)) (k : z_W G me d 0 0 (pc + 3) lv st z_SH (I', R') Q) : z_W G me d 0 0 pc lv st0 z_SH (I, R) Q := by
  subst hs0
  obtain ⟨e, rfl⟩ := z_pos (D := 0) hd1
  refine z_callS (kc := 0) (ks := 0) hM ok hl hst hn hr hd ?_
  rintro r' sh' h' ⟨rfl, rfl, rfl⟩
  exact k
theorem y_cNi {me' : z_Me} {n idx : Nat} {av : List Value} {I' : Nat → Nat → Int32} {R' : Nat → Nat → Nat} {r : Int32} (hd1 : 1 ≤ d) (hM : z_M G (d - 1) 0 0 me' av z_SH (I, R) (z_E (some (.int r)) (I', R'))) (ok : z_Ok me' n) (hl : (me.1.cls, idx, me'.1) ∈ z_nl) (hst : Cond.static me'.1 ∈ z_tb) (st0 : List Value) (hs0 : st0 = av.reverse ++ st) (hn : av.length = n) (hr : (st.map fun v => v.category).sum ≤ 8) (hd : decode me.2.1 pc = .ok (.invokestatic idx, 3)) (k : z_W G me d 0 0 (pc + 3) lv (.int r :: st) z_SH (I', R') Q) : z_W G me d 0 0 pc lv st0 z_SH (I, R) Q := by
  subst hs0
  obtain ⟨e, rfl⟩ := z_pos (D := 0) hd1
  refine z_callSN (kc := 0) (ks := 0) hM ok hl hst hn hr hd ?_
  rintro r' sh' h' ⟨rfl, rfl, rfl⟩
  exact k
theorem y_cVi {me' : z_Me} {n idx a ci : Nat} {av : List Value} {I' : Nat → Nat → Int32} {R' : Nat → Nat → Nat} {r : Int32} (hd1 : 1 ≤ d) (hM : z_M G (d - 1) 0 0 me' (.ref a :: av) z_SH (I, R) (z_E (some (.int r)) (I', R'))) (ok : z_Ok me' n) (hl : Cond.methodLink me.1.cls idx me'.1 ∈ z_tb) (hst : Cond.instanceMethod me'.1 ∈ z_tb ∧ Cond.selects me'.1.cls me'.1 me'.1 ∈ z_tb) (hs : z_ob a ci) (hci : (vwCl[ci]?).map (fun q => q.1) = some me'.1.cls) (st0 : List Value) (hs0 : st0 = av.reverse ++ .ref a :: st) (hn : av.length = n) (hr : (st.map fun v => v.category).sum ≤ 8) (hd : decode me.2.1 pc = .ok (.invokevirtual idx, 3)) (k : z_W G me d 0 0 (pc + 3) lv (.int r :: st) z_SH (I', R') Q) : z_W G me d 0 0 pc lv st0 z_SH (I, R) Q := by
  subst hs0
  obtain ⟨e, rfl⟩ := z_pos (D := 0) hd1
  refine z_callV (kc := 0) (ks := 0) hM ok hl hst hs hci hn hr hd ?_
  rintro r' sh' h' ⟨rfl, rfl, rfl⟩
  exact k
theorem y_cVv {me' : z_Me} {n idx a ci : Nat} {av : List Value} {I' : Nat → Nat → Int32} {R' : Nat → Nat → Nat} (hd1 : 1 ≤ d) (hM : z_M G (d - 1) 0 0 me' (.ref a :: av) z_SH (I, R) (z_E none (I', R'))) (ok : z_Ok me' n) (hl : Cond.methodLink me.1.cls idx me'.1 ∈ z_tb) (hst : Cond.instanceMethod me'.1 ∈ z_tb ∧ Cond.selects me'.1.cls me'.1 me'.1 ∈ z_tb) (hs : z_ob a ci) (hci : (vwCl[ci]?).map (fun q => q.1) = some me'.1.cls) (st0 : List Value) (hs0 : st0 = av.reverse ++ .ref a :: st) (hn : av.length = n) (hr : (st.map fun v => v.category).sum ≤ 8) (hd : decode me.2.1 pc = .ok (.invokevirtual idx, 3)) (k : z_W G me d 0 0 (pc + 3) lv st z_SH (I', R') Q) : z_W G me d 0 0 pc lv st0 z_SH (I, R) Q := by
  subst hs0
  obtain ⟨e, rfl⟩ := z_pos (D := 0) hd1
  refine z_callV (kc := 0) (ks := 0) hM ok hl hst hs hci hn hr hd ?_
  rintro r' sh' h' ⟨rfl, rfl, rfl⟩
  exact k
theorem z_mjs : Cond.static Lib.Math.max.name ∈ z_tb ∧ Cond.static Lib.Math.min.name ∈ z_tb ∧ Cond.static Lib.Math.abs.name ∈ z_tb ∧ Cond.initialized "java/lang/Math" ∈ z_tb ∧ Cond.code Lib.Math.max.name Lib.Math.max.code 2 (some .int) ∈ z_tb ∧ Cond.code Lib.Math.min.name Lib.Math.min.code 2 (some .int) ∈ z_tb ∧ Cond.code Lib.Math.abs.name Lib.Math.abs.code 1 (some .int) ∈ z_tb := ⟨sJ9_max_7cf53, sJ9_min_7cf53, sJ9_abs_0f7a4, oJ9_max_7cf53.2.1, oJ9_max_7cf53.1, oJ9_min_7cf53.1, oJ9_abs_0f7a4.1⟩
theorem y_max {idx : Nat} {x y : Int32} (hd1 : 1 ≤ d) (hl : Cond.methodLink me.1.cls idx yJ9_max_7cf53 ∈ z_tb) (hr : (st.map fun v => v.category).sum ≤ 8) (hd : decode me.2.1 pc = .ok (.invokestatic idx, 3)) (k : z_W G me d 0 0 (pc + 3) lv (.int (z_max x y) :: st) z_SH (I, R) Q) : z_W G me d 0 0 pc lv (.int y :: .int x :: st) z_SH (I, R) Q := by
  intro p e Rm s m args below meth c H locs cells slots Post ls C w S l r1 r2 K
  have h7 := C.2.2.2.2.2.2.1
  have h8 := C.2.2.2.2.2.2.2.1
  have hw := C.2.2.2.2.1
  exact va_mmax C.1 C.2.1 (C.2.2.1.trans l.1.symm) C.2.2.2.1 (hw _ hl) (hw _ z_mjs.1) (hw _ z_mjs.2.2.2.1) (hw _ z_mjs.2.2.2.2.1) (by omega) (by rw [z_cats]; omega) (by omega) (by omega) hd (k p e Rm s m args below meth c H locs cells slots Post ls C w S l r1 r2 K)
theorem y_min {idx : Nat} {x y : Int32} (hd1 : 1 ≤ d) (hl : Cond.methodLink me.1.cls idx yJ9_min_7cf53 ∈ z_tb) (hr : (st.map fun v => v.category).sum ≤ 8) (hd : decode me.2.1 pc = .ok (.invokestatic idx, 3)) (k : z_W G me d 0 0 (pc + 3) lv (.int (z_min x y) :: st) z_SH (I, R) Q) : z_W G me d 0 0 pc lv (.int y :: .int x :: st) z_SH (I, R) Q := by
  intro p e Rm s m args below meth c H locs cells slots Post ls C w S l r1 r2 K
  have h7 := C.2.2.2.2.2.2.1
  have h8 := C.2.2.2.2.2.2.2.1
  have hw := C.2.2.2.2.1
  exact va_mmin C.1 C.2.1 (C.2.2.1.trans l.1.symm) C.2.2.2.1 (hw _ hl) (hw _ z_mjs.2.1) (hw _ z_mjs.2.2.2.1) (hw _ z_mjs.2.2.2.2.2.1) (by omega) (by rw [z_cats]; omega) (by omega) (by omega) hd (k p e Rm s m args below meth c H locs cells slots Post ls C w S l r1 r2 K)
theorem y_abs {idx : Nat} {x : Int32} (hd1 : 1 ≤ d) (hl : Cond.methodLink me.1.cls idx yJ9_abs_0f7a4 ∈ z_tb) (hr : (st.map fun v => v.category).sum ≤ 8) (hd : decode me.2.1 pc = .ok (.invokestatic idx, 3)) (k : z_W G me d 0 0 (pc + 3) lv (.int (z_abs x) :: st) z_SH (I, R) Q) : z_W G me d 0 0 pc lv (.int x :: st) z_SH (I, R) Q := by
  intro p e Rm s m args below meth c H locs cells slots Post ls C w S l r1 r2 K
  have h7 := C.2.2.2.2.2.2.1
  have h8 := C.2.2.2.2.2.2.2.1
  have hw := C.2.2.2.2.1
  exact va_mabs C.1 C.2.1 (C.2.2.1.trans l.1.symm) C.2.2.2.1 (hw _ hl) (hw _ z_mjs.2.2.1) (hw _ z_mjs.2.2.2.1) (hw _ z_mjs.2.2.2.2.2.2) (by omega) (by rw [z_cats]; omega) (by omega) (by omega) hd (k p e Rm s m args below meth c H locs cells slots Post ls C w S l r1 r2 K)
theorem y_M_of {av : List Value} (lv : List (Option Value)) (hpl : plainName me.1.cls = true) (hv : av.all (fun v => v.category == 1) = true) (hn : Nat.ble av.length me.2.2.1 = true) (hlv : z_ent av me.2.2.1 = lv) (k : z_W G me d 0 0 0 lv [] z_SH (I, R) Q) : z_M G d 0 0 me av z_SH (I, R) Q :=
  z_M_of hpl (fun v h => by simpa using List.all_eq_true.mp hv v h) (Nat.le_of_ble_eq_true hn) (by rw [hlv]; exact k)
theorem z_bn {v : Int32} (h : v = 0 ∨ v = 1) : narrow .boolean (.int v) = .int v := by
  rcases h with rfl | rfl <;> rfl
theorem z_bf {v : Int32} (h : v = 0 ∨ v = 1) : fits .boolean (.int v) = true := by
  rcases h with rfl | rfl <;> rfl
theorem z_toInt_ne {x k : Int32} (h : ¬ x = k) : ¬ x.toInt = k.toInt := fun e => h (Int32.toInt_inj.mp e)
end YR
