/-! THE GROUND: worlds of numbered cells, contexts of a walk, one row an instruction -/
abbrev zSt : Type := (Nat → Nat → Int32) × (Nat → Nat → Int64)
abbrev zShp : Type := (Nat × List Nat) ⊕ (Nat × Nat × Nat)
def zslt (ad : Nat → Nat) (a : Nat → Int32) (b : Nat → Int64) (j : Nat) : Nat → Value
  | 0 => .int (a j)
  | 1 => .long (b j)
  | r + 2 => .ref (ad r)
def zsl (ad : Nat → Nat) (a : Nat → Int32) (b : Nat → Int64) : Nat → List Nat → List Value
  | _, [] => []
  | j, k :: t => zslt ad a b j k :: zsl ad a b (j + 1) t
def zcel (ad : Nat → Nat) (aC : Nat → ClassId) (a : Nat → Int32) (b : Nat → Int64) : zShp → va_E
  | .inl (ci, L) => .inr (ci, zsl ad a b 0 L)
  | .inr (t, len, 0) => .inl (aC t, len, .inl a)
  | .inr (t, len, 1) => .inl (aC t, len, .inr (.inl b))
  | .inr (t, len, r + 2) => .inl (aC t, len, .inr (.inr (.inr (.inr (fun i => some (ad (r + i)))))))
def zgw (n : Nat) (sh : Nat → zShp) (ad : Nat → Nat) (aC : Nat → ClassId) (st : zSt) : va_W := (List.range n).map fun c => (ad c, zcel ad aC (st.1 c) (st.2 c) (sh c))
def zup {α : Type} (f : Nat → Nat → α) (c j : Nat) (v : α) : Nat → Nat → α := fun c' j' => if c' = c ∧ j' = j then v else f c' j'
def zwI (st : zSt) (c j : Nat) (v : Int32) : zSt := (zup st.1 c j v, st.2)
def zwL (st : zSt) (c j : Nat) (v : Int64) : zSt := (st.1, zup st.2 c j v)
def ztys (aC : Nat → ClassId) : List (ClassId × FieldType) := [(aC 0, .int), (aC 1, .long), (aC 2, .boolean), (aC 3, .object "ArchipelagoFerries$Ship"), (aC 4, .object "ArchipelagoFerries$Crew"), (aC 5, .object "ArchipelagoFerries$Sailing"), (aC 6, .object "ArchipelagoFerries$Booking")]
theorem zgw_len (n : Nat) (sh : Nat → zShp) (ad : Nat → Nat) (aC : Nat → ClassId) (st : zSt) : (zgw n sh ad aC st).length = n := by
  simp [zgw]
theorem zgw_at {n : Nat} {sh : Nat → zShp} {ad : Nat → Nat} {aC : Nat → ClassId} {st : zSt} {rest : va_W} {c : Nat} (h : c < n) {e : va_E} (he : zcel ad aC (st.1 c) (st.2 c) (sh c) = e) : (zgw n sh ad aC st ++ rest)[c]? = some (ad c, e) := by
  rw [List.getElem?_append_left (by rw [zgw_len]; exact h), ← he]
  simp [zgw, h]
theorem zsl_at (ad : Nat → Nat) (a : Nat → Int32) (b : Nat → Int64) : ∀ (L : List Nat) (i j k : Nat), L[j]? = some k → (zsl ad a b i L)[j]? = some (zslt ad a b (i + j) k)
  | [], i, j, k, h => by simp at h
  | x :: t, i, 0, k, h => by
    simp at h
    simp [zsl, h]
  | x :: t, i, j + 1, k, h => by
    have h2 : t[j]? = some k := by simpa using h
    have := zsl_at ad a b t (i + 1) j k h2
    simp only [zsl, List.getElem?_cons_succ, this]
    rw [show i + 1 + j = i + (j + 1) by omega]
theorem zsl_len (ad : Nat → Nat) (a : Nat → Int32) (b : Nat → Int64) : ∀ (L : List Nat) (i : Nat), (zsl ad a b i L).length = L.length
  | [], i => rfl
  | x :: t, i => by simp [zsl, zsl_len ad a b t (i + 1)]
theorem zsl_ext (ad : Nat → Nat) {a a' : Nat → Int32} {b b' : Nat → Int64} : ∀ (L : List Nat) (i : Nat), (∀ j, i ≤ j → a j = a' j) → (∀ j, i ≤ j → b j = b' j) → zsl ad a b i L = zsl ad a' b' i L
  | [], i, _, _ => rfl
  | x :: t, i, h1, h2 => by
    have e : zslt ad a b i x = zslt ad a' b' i x := by
      match x with
      | 0 => simp [zslt, h1 i (Nat.le_refl _)]
      | 1 => simp [zslt, h2 i (Nat.le_refl _)]
      | r + 2 => rfl
    simp only [zsl, e, zsl_ext ad t (i + 1) (fun j h => h1 j (by omega)) (fun j h => h2 j (by omega))]
theorem zsl_setI (ad : Nat → Nat) (a : Nat → Int32) (b : Nat → Int64) (v : Int32) : ∀ (L : List Nat) (i j : Nat), L[j]? = some 0 → (zsl ad a b i L).set j (.int v) = zsl ad (fun q => if q = i + j then v else a q) b i L
  | [], i, j, h => by simp at h
  | x :: t, i, 0, h => by
    have hx : x = 0 := by simpa using h
    subst hx
    simp only [zsl, List.set_cons_zero, zslt, Nat.add_zero, if_true]
    rw [zsl_ext ad t (i + 1) (a := a) (a' := fun q => if q = i then v else a q) (b := b) (b' := b) (fun q h => by simp [show q ≠ i by omega]) (fun _ _ => rfl)]
  | x :: t, i, j + 1, h => by
    have h2 : t[j]? = some 0 := by simpa using h
    have ih := zsl_setI ad a b v t (i + 1) j h2
    have e : zslt ad a b i x = zslt ad (fun q => if q = i + (j + 1) then v else a q) b i x := by
      match x with
      | 0 => simp [zslt]
      | 1 => rfl
      | r + 2 => rfl
    simp only [zsl, List.set_cons_succ, ih, ← e]
    rw [show i + 1 + j = i + (j + 1) by omega]
theorem zsl_setL (ad : Nat → Nat) (a : Nat → Int32) (b : Nat → Int64) (v : Int64) : ∀ (L : List Nat) (i j : Nat), L[j]? = some 1 → (zsl ad a b i L).set j (.long v) = zsl ad a (fun q => if q = i + j then v else b q) i L
  | [], i, j, h => by simp at h
  | x :: t, i, 0, h => by
    have hx : x = 1 := by simpa using h
    subst hx
    simp only [zsl, List.set_cons_zero, zslt, Nat.add_zero, if_true]
    rw [zsl_ext ad t (i + 1) (a := a) (a' := a) (b := b) (b' := fun q => if q = i then v else b q) (fun _ _ => rfl) (fun q h => by simp [show q ≠ i by omega])]
  | x :: t, i, j + 1, h => by
    have h2 : t[j]? = some 1 := by simpa using h
    have ih := zsl_setL ad a b v t (i + 1) j h2
    have e : zslt ad a b i x = zslt ad a (fun q => if q = i + (j + 1) then v else b q) i x := by
      match x with
      | 0 => rfl
      | 1 => simp [zslt]
      | r + 2 => rfl
    simp only [zsl, List.set_cons_succ, ih, ← e]
    rw [show i + 1 + j = i + (j + 1) by omega]
theorem zgw_set {n : Nat} {sh : Nat → zShp} {ad : Nat → Nat} {aC : Nat → ClassId} {st st' : zSt} {rest : va_W} {c : Nat} (h : c < n) {e : va_E} (he : zcel ad aC (st'.1 c) (st'.2 c) (sh c) = e) (h1 : ∀ q, q ≠ c → st'.1 q = st.1 q ∧ st'.2 q = st.2 q) : (zgw n sh ad aC st ++ rest).set c (ad c, e) = zgw n sh ad aC st' ++ rest := by
  rw [List.set_append_left _ _ (by rw [zgw_len]; exact h)]
  congr 1
  apply List.ext_getElem?
  intro i
  rw [List.getElem?_set, zgw_len]
  by_cases hi : c = i
  · subst hi
    simp [zgw, h, he]
  · simp only [hi, if_false]
    by_cases hn : i < n
    · have := h1 i (fun q => hi q.symm)
      simp [zgw, hn, this.1, this.2]
    · simp [zgw, hn]
theorem zwI_off {st : zSt} {c j : Nat} {v : Int32} : ∀ q, q ≠ c → (zwI st c j v).1 q = st.1 q ∧ (zwI st c j v).2 q = st.2 q := fun q h => ⟨by funext k; simp [zwI, zup, h], rfl⟩
theorem zwL_off {st : zSt} {c j : Nat} {v : Int64} : ∀ q, q ≠ c → (zwL st c j v).1 q = st.1 q ∧ (zwL st c j v).2 q = st.2 q := fun q h => ⟨rfl, by funext k; simp [zwL, zup, h]⟩
theorem zwI_at (st : zSt) (c j : Nat) (v : Int32) : (zwI st c j v).1 c = (fun q => if q = j then v else st.1 c q) := by funext k; simp [zwI, zup]
theorem zwL_at (st : zSt) (c j : Nat) (v : Int64) : (zwL st c j v).2 c = (fun q => if q = j then v else st.2 c q) := by funext k; simp [zwL, zup]
/-! the context of a walk -/
abbrev zCx : Type := (Program × Launch × Env × Room) × (State × MethodId × Array Value × List Frame) × (Method × Code × Nat × Nat × Nat) × (State → Prop) × (va_G × (Nat → ClassId) × (Nat → Nat) × va_W) × (Nat → Prop)
abbrev zCx.p (X : zCx) : Program := X.1.1
abbrev zCx.l (X : zCx) : Launch := X.1.2.1
abbrev zCx.e (X : zCx) : Env := X.1.2.2.1
abbrev zCx.R (X : zCx) : Room := X.1.2.2.2
abbrev zCx.s (X : zCx) : State := X.2.1.1
abbrev zCx.m (X : zCx) : MethodId := X.2.1.2.1
abbrev zCx.args (X : zCx) : Array Value := X.2.1.2.2.1
abbrev zCx.below (X : zCx) : List Frame := X.2.1.2.2.2
abbrev zCx.meth (X : zCx) : Method := X.2.2.1.1
abbrev zCx.c (X : zCx) : Code := X.2.2.1.2.1
abbrev zCx.cells (X : zCx) : Nat := X.2.2.1.2.2.1
abbrev zCx.slots (X : zCx) : Nat := X.2.2.1.2.2.2.1
abbrev zCx.nL (X : zCx) : Nat := X.2.2.1.2.2.2.2
abbrev zCx.Q (X : zCx) : State → Prop := X.2.2.2.1
abbrev zCx.D (X : zCx) : va_G := X.2.2.2.2.1.1
abbrev zCx.aC (X : zCx) : Nat → ClassId := X.2.2.2.2.1.2.1
abbrev zCx.ad (X : zCx) : Nat → Nat := X.2.2.2.2.1.2.2.1
abbrev zCx.rest (X : zCx) : va_W := X.2.2.2.2.1.2.2.2
abbrev zCx.A (X : zCx) : Nat → Prop := X.2.2.2.2.2
/-- from this frame, over any heap that holds the cells ws, the walk comes to its end -/
def zGw (X : zCx) (ws : va_W) (pc : Nat) (lv : List (Nat × Value)) (stk : List Value) : Prop :=
  ∀ (H : Heap) (locs : List Loc) (ls : Array Slot), va_P X.D vwCl ws H → va_D X.A ws → va_S X.A X.s.heap H locs → lv_has ls X.nL lv → W X.p X.l X.e X.R X.s X.m X.args X.below X.meth X.c H locs X.cells X.slots X.Q (F0 X.m pc ls stk)
/-- the same, with the numbered world st ahead of the rest -/
abbrev zG (n : Nat) (sh : Nat → zShp) (X : zCx) (st : zSt) (pc : Nat) (lv : List (Nat × Value)) (stk : List Value) : Prop := zGw X (zgw n sh X.ad X.aC st ++ X.rest) pc lv stk
/-- the words of private members of a nest mate -/
def zisN : Cond → Bool
  | .fieldLinkNest .. => true
  | .methodLinkNest .. => true
  | .castable .. => true
  | .declares .. => true
  | _ => false
def zNs (U : State) : Prop := ∀ w ∈ tables_1, zisN w = true → va_Nw w U
theorem zNs.moved {u U : State} (h : zNs u) (hvm : u.vm = U.vm) : zNs U := fun w hw hn => by
  have h1 := h w hw hn
  cases w <;> first | exact va_Nw.same rfl hvm h1 | exact absurd hn (by simp [zisN])
theorem zNs.warm {u U : State} (h : zNs u) (hW : u.WarmedH U.vm) : zNs U := fun w hw hn => by
  have h1 := h w hw hn
  cases w <;> first | exact va_Nw.warmF hW h1 | exact va_Nw.warmM hW h1 | exact va_tabs rfl (rfl : (u.setVm U.vm).vm = U.vm) (Cond.faceAtom_setVm hW.alike _ rfl h1) | exact absurd hn (by simp [zisN])
def zOk (X : zCx) (own : String) (cc : ByteArray) (rm : Room) : Prop :=
  (X.p.tables.exec = Jvm.exec ∧ X.c.code = cc) ∧ X.c.maxLocals = X.nL ∧ X.s.vm.findClass own = some X.m.cls ∧ (∀ w ∈ zWL, w.before X.args X.s = true) ∧ va_K X.D vwCl (ztys X.aC) X.s ∧ zNs X.s ∧ X.meth.locks = false ∧ (∀ q, X.s.heap.size ≤ q → X.A q) ∧ X.R = rm ∧ (X.cells ≤ X.R.cells ∧ X.slots ≤ X.R.slots)
section ZR
variable {X : zCx} {own : String} {cc : ByteArray} {rm : Room} {ws : va_W} {pc : Nat} {lv : List (Nat × Value)} {stk : List Value}
theorem zOk.w (hX : zOk X own cc rm) {w : Cond} (h : w ∈ zWL) : w.before X.args X.s = true := hX.2.2.2.1 w h
theorem zOk.t (hX : zOk X own cc rm) {w : Cond} (h : w ∈ tables_1) (g : goodWord w = true) : w.before X.args X.s = true := hX.2.2.2.1 w (zwl_in h g)
theorem zOk.n (hX : zOk X own cc rm) {w : Cond} (h : w ∈ tables_1) (g : zisN w = true) : va_Nw w X.s := hX.2.2.2.2.2.1 w h g
theorem zOk.nb (hX : zOk X own cc rm) {w : Cond} (h : w ∈ tables_1) (g : zisN w = true) : w.before X.args X.s = true := by
  have h1 := hX.n h g
  cases w <;> first | exact va_Nw.use rfl h1 | exact absurd g (by simp [zisN])
theorem z_iconst (hX : zOk X own cc rm) {n : Int} {v : Int32} (hdg : decode cc pc = .ok (.iconst n, 1)) (hv : Int32.ofInt n = v) (kk : zGw X ws (pc + 1) lv (.int v :: stk)) : zGw X ws pc lv stk := fun H locs ls hP hD hS hl => lv_iconst hX.1.1 hX.1.2 hdg hv (kk H locs ls hP hD hS hl)
theorem z_bipush (hX : zOk X own cc rm) {n : Int} {v : Int32} (hdg : decode cc pc = .ok (.bipush n, 2)) (hv : (Int8.ofInt n).toInt32 = v) (kk : zGw X ws (pc + 2) lv (.int v :: stk)) : zGw X ws pc lv stk := fun H locs ls hP hD hS hl => lv_bipush hX.1.1 hX.1.2 hdg hv (kk H locs ls hP hD hS hl)
theorem z_sipush (hX : zOk X own cc rm) {n : Int} {v : Int32} (hdg : decode cc pc = .ok (.sipush n, 3)) (hv : (Int16.ofInt n).toInt32 = v) (kk : zGw X ws (pc + 3) lv (.int v :: stk)) : zGw X ws pc lv stk := fun H locs ls hP hD hS hl => lv_sipush hX.1.1 hX.1.2 hdg hv (kk H locs ls hP hD hS hl)
theorem z_lconst (hX : zOk X own cc rm) {n : Fin 2} {v : Int64} (hdg : decode cc pc = .ok (.lconst n, 1)) (hv : Int64.ofNat (n : Nat) = v) (kk : zGw X ws (pc + 1) lv (.long v :: stk)) : zGw X ws pc lv stk := fun H locs ls hP hD hS hl => lv_lconst hX.1.1 hX.1.2 hdg hv (kk H locs ls hP hD hS hl)
theorem z_iload_n (hX : zOk X own cc rm) {k : Fin 4} {i : Nat} {x : Int32} (j : Nat) (hdg : decode cc pc = .ok (.iload_n k, 1)) (hi : (k : Nat) = i) (hj : lv[j]? = some (i, .int x)) (kk : zGw X ws (pc + 1) lv (.int x :: stk)) : zGw X ws pc lv stk := fun H locs ls hP hD hS hl => lv_iload_n hX.1.1 hX.1.2 hdg hi (lv_at hl j hj) (kk H locs ls hP hD hS hl)
theorem z_iload (hX : zOk X own cc rm) {i : Nat} {x : Int32} (j : Nat) (hdg : decode cc pc = .ok (.iload i, 2)) (hj : lv[j]? = some (i, .int x)) (kk : zGw X ws (pc + 2) lv (.int x :: stk)) : zGw X ws pc lv stk := fun H locs ls hP hD hS hl => lv_iload hX.1.1 hX.1.2 hdg (lv_at hl j hj) (kk H locs ls hP hD hS hl)
theorem z_lload_n (hX : zOk X own cc rm) {k : Fin 4} {i : Nat} {x : Int64} (j : Nat) (hdg : decode cc pc = .ok (.lload_n k, 1)) (hi : (k : Nat) = i) (hj : lv[j]? = some (i, .long x)) (kk : zGw X ws (pc + 1) lv (.long x :: stk)) : zGw X ws pc lv stk := fun H locs ls hP hD hS hl => lv_lload_n hX.1.1 hX.1.2 hdg hi (lv_at hl j hj) (kk H locs ls hP hD hS hl)
theorem z_lload (hX : zOk X own cc rm) {i : Nat} {x : Int64} (j : Nat) (hdg : decode cc pc = .ok (.lload i, 2)) (hj : lv[j]? = some (i, .long x)) (kk : zGw X ws (pc + 2) lv (.long x :: stk)) : zGw X ws pc lv stk := fun H locs ls hP hD hS hl => lv_lload hX.1.1 hX.1.2 hdg (lv_at hl j hj) (kk H locs ls hP hD hS hl)
theorem z_aload_n (hX : zOk X own cc rm) {k : Fin 4} {i x : Nat} (j : Nat) (hdg : decode cc pc = .ok (.aload_n k, 1)) (hi : (k : Nat) = i) (hj : lv[j]? = some (i, .ref x)) (kk : zGw X ws (pc + 1) lv (.ref x :: stk)) : zGw X ws pc lv stk := fun H locs ls hP hD hS hl => lv_aload_n hX.1.1 hX.1.2 hdg hi (lv_at hl j hj) (kk H locs ls hP hD hS hl)
theorem z_aload (hX : zOk X own cc rm) {i x : Nat} (j : Nat) (hdg : decode cc pc = .ok (.aload i, 2)) (hj : lv[j]? = some (i, .ref x)) (kk : zGw X ws (pc + 2) lv (.ref x :: stk)) : zGw X ws pc lv stk := fun H locs ls hP hD hS hl => lv_aload hX.1.1 hX.1.2 hdg (lv_at hl j hj) (kk H locs ls hP hD hS hl)
theorem z_istore_n (hX : zOk X own cc rm) {k : Fin 4} {i : Nat} {x : Int32} (lv' : List (Nat × Value)) (hdg : decode cc pc = .ok (.istore_n k, 1)) (hi : (k : Nat) = i) (hn : i < X.nL) (ks : List Nat) (hl' : lv_pick ((i, Value.int x) :: lv.filter (fun q => !(q.1 == i) && !(q.1 + 1 == i && q.2.category == 2))) ks = lv') (kk : zGw X ws (pc + 1) lv' stk) : zGw X ws pc lv (.int x :: stk) := fun H locs ls hP hD hS hl => lv_istore_n hX.1.1 hX.1.2 hdg hi hl hn rfl (fun ls' h' => kk H locs ls' hP hD hS (lv_sub h' ks hl'))
theorem z_istore (hX : zOk X own cc rm) {i : Nat} {x : Int32} (lv' : List (Nat × Value)) (hdg : decode cc pc = .ok (.istore i, 2)) (hn : i < X.nL) (ks : List Nat) (hl' : lv_pick ((i, Value.int x) :: lv.filter (fun q => !(q.1 == i) && !(q.1 + 1 == i && q.2.category == 2))) ks = lv') (kk : zGw X ws (pc + 2) lv' stk) : zGw X ws pc lv (.int x :: stk) := fun H locs ls hP hD hS hl => lv_istore hX.1.1 hX.1.2 hdg hl hn rfl (fun ls' h' => kk H locs ls' hP hD hS (lv_sub h' ks hl'))
theorem z_lstore_n (hX : zOk X own cc rm) {k : Fin 4} {i : Nat} {x : Int64} (lv' : List (Nat × Value)) (hdg : decode cc pc = .ok (.lstore_n k, 1)) (hi : (k : Nat) = i) (hn : i + 1 < X.nL) (ks : List Nat) (hl' : lv_pick ((i, Value.long x) :: lv.filter (fun q => !(q.1 == i) && (!(q.1 == i + 1) && !(q.1 + 1 == i && q.2.category == 2)))) ks = lv') (kk : zGw X ws (pc + 1) lv' stk) : zGw X ws pc lv (.long x :: stk) := fun H locs ls hP hD hS hl => lv_lstore_n hX.1.1 hX.1.2 hdg hi hl hn rfl (fun ls' h' => kk H locs ls' hP hD hS (lv_sub h' ks hl'))
theorem z_lstore (hX : zOk X own cc rm) {i : Nat} {x : Int64} (lv' : List (Nat × Value)) (hdg : decode cc pc = .ok (.lstore i, 2)) (hn : i + 1 < X.nL) (ks : List Nat) (hl' : lv_pick ((i, Value.long x) :: lv.filter (fun q => !(q.1 == i) && (!(q.1 == i + 1) && !(q.1 + 1 == i && q.2.category == 2)))) ks = lv') (kk : zGw X ws (pc + 2) lv' stk) : zGw X ws pc lv (.long x :: stk) := fun H locs ls hP hD hS hl => lv_lstore hX.1.1 hX.1.2 hdg hl hn rfl (fun ls' h' => kk H locs ls' hP hD hS (lv_sub h' ks hl'))
theorem z_astore_n (hX : zOk X own cc rm) {k : Fin 4} {i x : Nat} (lv' : List (Nat × Value)) (hdg : decode cc pc = .ok (.astore_n k, 1)) (hi : (k : Nat) = i) (hn : i < X.nL) (ks : List Nat) (hl' : lv_pick ((i, Value.ref x) :: lv.filter (fun q => !(q.1 == i) && !(q.1 + 1 == i && q.2.category == 2))) ks = lv') (kk : zGw X ws (pc + 1) lv' stk) : zGw X ws pc lv (.ref x :: stk) := fun H locs ls hP hD hS hl => lv_astore_n hX.1.1 hX.1.2 hdg hi hl hn rfl (fun ls' h' => kk H locs ls' hP hD hS (lv_sub h' ks hl'))
theorem z_astore (hX : zOk X own cc rm) {i x : Nat} (lv' : List (Nat × Value)) (hdg : decode cc pc = .ok (.astore i, 2)) (hn : i < X.nL) (ks : List Nat) (hl' : lv_pick ((i, Value.ref x) :: lv.filter (fun q => !(q.1 == i) && !(q.1 + 1 == i && q.2.category == 2))) ks = lv') (kk : zGw X ws (pc + 2) lv' stk) : zGw X ws pc lv (.ref x :: stk) := fun H locs ls hP hD hS hl => lv_astore hX.1.1 hX.1.2 hdg hl hn rfl (fun ls' h' => kk H locs ls' hP hD hS (lv_sub h' ks hl'))
theorem z_iinc (hX : zOk X own cc rm) {i j : Nat} {n : Int} {x v : Int32} (lv' : List (Nat × Value)) (hdg : decode cc pc = .ok (.iinc i n, 3)) (hj : lv[j]? = some (i, .int x)) (hv : Int32.ofInt n = v) (hn : i < X.nL) (ks : List Nat) (hl' : lv_pick ((i, Value.int (x + v)) :: lv.filter (fun q => !(q.1 == i) && !(q.1 + 1 == i && q.2.category == 2))) ks = lv') (kk : zGw X ws (pc + 3) lv' stk) : zGw X ws pc lv stk := fun H locs ls hP hD hS hl => lv_iinc hX.1.1 hX.1.2 hdg hl hj (by rw [hv]) hn rfl (fun ls' h' => kk H locs ls' hP hD hS (lv_sub h' ks hl'))
/-- fewer locals, in another order -/
theorem z_locals (ks : List Nat) (lv' : List (Nat × Value)) (hl' : lv_pick lv ks = lv') (kk : zGw X ws pc lv' stk) : zGw X ws pc lv stk := fun H locs ls hP hD hS hl => kk H locs ls hP hD hS (lv_sub hl ks hl')
theorem z_iadd (hX : zOk X own cc rm) {x y : Int32} (hdg : decode cc pc = .ok (.iadd, 1)) (kk : zGw X ws (pc + 1) lv (.int (x + y) :: stk)) : zGw X ws pc lv (.int y :: .int x :: stk) := fun H locs ls hP hD hS hl => lv_iadd hX.1.1 hX.1.2 hdg (kk H locs ls hP hD hS hl)
theorem z_isub (hX : zOk X own cc rm) {x y : Int32} (hdg : decode cc pc = .ok (.isub, 1)) (kk : zGw X ws (pc + 1) lv (.int (x - y) :: stk)) : zGw X ws pc lv (.int y :: .int x :: stk) := fun H locs ls hP hD hS hl => lv_isub hX.1.1 hX.1.2 hdg (kk H locs ls hP hD hS hl)
theorem z_imul (hX : zOk X own cc rm) {x y : Int32} (hdg : decode cc pc = .ok (.imul, 1)) (kk : zGw X ws (pc + 1) lv (.int (x * y) :: stk)) : zGw X ws pc lv (.int y :: .int x :: stk) := fun H locs ls hP hD hS hl => lv_imul hX.1.1 hX.1.2 hdg (kk H locs ls hP hD hS hl)
theorem z_iand (hX : zOk X own cc rm) {x y : Int32} (hdg : decode cc pc = .ok (.iand, 1)) (kk : zGw X ws (pc + 1) lv (.int (x &&& y) :: stk)) : zGw X ws pc lv (.int y :: .int x :: stk) := fun H locs ls hP hD hS hl => lv_iand hX.1.1 hX.1.2 hdg (kk H locs ls hP hD hS hl)
theorem z_ixor (hX : zOk X own cc rm) {x y : Int32} (hdg : decode cc pc = .ok (.ixor, 1)) (kk : zGw X ws (pc + 1) lv (.int (x ^^^ y) :: stk)) : zGw X ws pc lv (.int y :: .int x :: stk) := fun H locs ls hP hD hS hl => lv_ixor hX.1.1 hX.1.2 hdg (kk H locs ls hP hD hS hl)
theorem z_idiv (hX : zOk X own cc rm) {x y : Int32} (hdg : decode cc pc = .ok (.idiv, 1)) (hne : ¬ y = 0) (kk : zGw X ws (pc + 1) lv (.int (x / y) :: stk)) : zGw X ws pc lv (.int y :: .int x :: stk) := fun H locs ls hP hD hS hl => lv_idiv hX.1.1 hX.1.2 hdg hne (kk H locs ls hP hD hS hl)
theorem z_irem (hX : zOk X own cc rm) {x y : Int32} (hdg : decode cc pc = .ok (.irem, 1)) (hne : ¬ y = 0) (kk : zGw X ws (pc + 1) lv (.int (x - x / y * y) :: stk)) : zGw X ws pc lv (.int y :: .int x :: stk) := fun H locs ls hP hD hS hl => lv_irem hX.1.1 hX.1.2 hdg hne (kk H locs ls hP hD hS hl)
theorem z_ineg (hX : zOk X own cc rm) {x : Int32} (hdg : decode cc pc = .ok (.ineg, 1)) (kk : zGw X ws (pc + 1) lv (.int (-x) :: stk)) : zGw X ws pc lv (.int x :: stk) := fun H locs ls hP hD hS hl => lv_ineg hX.1.1 hX.1.2 hdg (kk H locs ls hP hD hS hl)
theorem z_ladd (hX : zOk X own cc rm) {x y : Int64} (hdg : decode cc pc = .ok (.ladd, 1)) (kk : zGw X ws (pc + 1) lv (.long (x + y) :: stk)) : zGw X ws pc lv (.long y :: .long x :: stk) := fun H locs ls hP hD hS hl => lv_ladd hX.1.1 hX.1.2 hdg (kk H locs ls hP hD hS hl)
theorem z_lsub (hX : zOk X own cc rm) {x y : Int64} (hdg : decode cc pc = .ok (.lsub, 1)) (kk : zGw X ws (pc + 1) lv (.long (x - y) :: stk)) : zGw X ws pc lv (.long y :: .long x :: stk) := fun H locs ls hP hD hS hl => lv_lsub hX.1.1 hX.1.2 hdg (kk H locs ls hP hD hS hl)
theorem z_lmul (hX : zOk X own cc rm) {x y : Int64} (hdg : decode cc pc = .ok (.lmul, 1)) (kk : zGw X ws (pc + 1) lv (.long (x * y) :: stk)) : zGw X ws pc lv (.long y :: .long x :: stk) := fun H locs ls hP hD hS hl => lv_lmul hX.1.1 hX.1.2 hdg (kk H locs ls hP hD hS hl)
theorem z_i2l (hX : zOk X own cc rm) {x : Int32} (hdg : decode cc pc = .ok (.i2l, 1)) (kk : zGw X ws (pc + 1) lv (.long x.toInt64 :: stk)) : zGw X ws pc lv (.int x :: stk) := fun H locs ls hP hD hS hl => lv_i2l hX.1.1 hX.1.2 hdg rfl (kk H locs ls hP hD hS hl)
theorem z_i2f (hX : zOk X own cc rm) {x : Int32} (hdg : decode cc pc = .ok (.i2f, 1)) (kk : zGw X ws (pc + 1) lv (.float (FP.i2f x) :: stk)) : zGw X ws pc lv (.int x :: stk) := fun H locs ls hP hD hS hl => lv_i2f hX.1.1 hX.1.2 hdg (kk H locs ls hP hD hS hl)
theorem z_f2i (hX : zOk X own cc rm) {x : UInt32} (hdg : decode cc pc = .ok (.f2i, 1)) (kk : zGw X ws (pc + 1) lv (.int (FP.f2i x) :: stk)) : zGw X ws pc lv (.float x :: stk) := fun H locs ls hP hD hS hl => lv_f2i hX.1.1 hX.1.2 hdg (kk H locs ls hP hD hS hl)
theorem z_fmul (hX : zOk X own cc rm) {x y : UInt32} (hdg : decode cc pc = .ok (.fmul, 1)) (hne : vf_n32 (FP.fmul x y)) (kk : zGw X ws (pc + 1) lv (.float (FP.fmul x y) :: stk)) : zGw X ws pc lv (.float y :: .float x :: stk) := fun H locs ls hP hD hS hl => lv_fmul hX.1.1 hX.1.2 hdg hne (kk H locs ls hP hD hS hl)
theorem z_fdiv (hX : zOk X own cc rm) {x y : UInt32} (hdg : decode cc pc = .ok (.fdiv, 1)) (hne : vf_n32 (FP.fdiv x y)) (kk : zGw X ws (pc + 1) lv (.float (FP.fdiv x y) :: stk)) : zGw X ws pc lv (.float y :: .float x :: stk) := fun H locs ls hP hD hS hl => lv_fdiv hX.1.1 hX.1.2 hdg hne (kk H locs ls hP hD hS hl)
theorem z_ldcf (hX : zOk X own cc rm) {index : Nat} {v : UInt32} (hdg : decode cc pc = .ok (.ldc index, 2)) (hw : Cond.constantFloat own index v ∈ tables_1) (kk : zGw X ws (pc + 2) lv (.float v :: stk)) : zGw X ws pc lv stk := fun H locs ls hP hD hS hl => lv_ldcf hX.1.1 hX.1.2 hX.2.2.1 (hX.t hw rfl) hdg (kk H locs ls hP hD hS hl)
theorem z_ldc2 (hX : zOk X own cc rm) {index : Nat} {v : Int64} (hdg : decode cc pc = .ok (.ldc2_w index, 3)) (hw : Cond.constantLong own index v ∈ tables_1) (kk : zGw X ws (pc + 3) lv (.long v :: stk)) : zGw X ws pc lv stk := fun H locs ls hP hD hS hl => lv_ldc2 hX.1.1 hX.1.2 hX.2.2.1 (hX.t hw rfl) hdg (kk H locs ls hP hD hS hl)
theorem z_dup (hX : zOk X own cc rm) {va : Value} (hdg : decode cc pc = .ok (.dup, 1)) (hva : va.category = 1) (kk : zGw X ws (pc + 1) lv (va :: va :: stk)) : zGw X ws pc lv (va :: stk) := fun H locs ls hP hD hS hl => lv_dup hX.1.1 hX.1.2 hdg hva (kk H locs ls hP hD hS hl)
theorem z_dup2 (hX : zOk X own cc rm) {va vb : Value} (hdg : decode cc pc = .ok (.dup2, 1)) (hva : va.category = 1) (hvb : vb.category = 1) (kk : zGw X ws (pc + 1) lv (va :: vb :: va :: vb :: stk)) : zGw X ws pc lv (va :: vb :: stk) := fun H locs ls hP hD hS hl => lv_dup2_11 hX.1.1 hX.1.2 hdg hva hvb (kk H locs ls hP hD hS hl)
theorem z_pop (hX : zOk X own cc rm) {va : Value} (hdg : decode cc pc = .ok (.pop, 1)) (hva : va.category = 1) (kk : zGw X ws (pc + 1) lv stk) : zGw X ws pc lv (va :: stk) := fun H locs ls hP hD hS hl => lv_pop hX.1.1 hX.1.2 hdg hva (kk H locs ls hP hD hS hl)
theorem z_goto (hX : zOk X own cc rm) {off : Int} (tgt : Nat) (hdg : decode cc pc = .ok (.goto off, 3)) (ht : (pc : Int) + off = (tgt : Int)) (kk : zGw X ws tgt lv stk) : zGw X ws pc lv stk := fun H locs ls hP hD hS hl => lv_goto hX.1.1 hX.1.2 hdg ht (kk H locs ls hP hD hS hl)
theorem z_if_eq (hX : zOk X own cc rm) {x : Int32} {off : Int} (tgt : Nat) (hdg : decode cc pc = .ok (.ifCond .eq off, 3)) (ht : (pc : Int) + off = (tgt : Int)) (kt : x = 0 → zGw X ws tgt lv stk) (kf : ¬ x = 0 → zGw X ws (pc + 3) lv stk) : zGw X ws pc lv (.int x :: stk) := fun H locs ls hP hD hS hl => lv_if_eq hX.1.1 hX.1.2 hdg ht (fun c => kt c H locs ls hP hD hS hl) (fun c => kf c H locs ls hP hD hS hl)
theorem z_if_ne (hX : zOk X own cc rm) {x : Int32} {off : Int} (tgt : Nat) (hdg : decode cc pc = .ok (.ifCond .ne off, 3)) (ht : (pc : Int) + off = (tgt : Int)) (kt : ¬ x = 0 → zGw X ws tgt lv stk) (kf : x = 0 → zGw X ws (pc + 3) lv stk) : zGw X ws pc lv (.int x :: stk) := fun H locs ls hP hD hS hl => lv_if_ne hX.1.1 hX.1.2 hdg ht (fun c => kt c H locs ls hP hD hS hl) (fun c => kf c H locs ls hP hD hS hl)
theorem z_if_lt (hX : zOk X own cc rm) {x : Int32} {off : Int} (tgt : Nat) (hdg : decode cc pc = .ok (.ifCond .lt off, 3)) (ht : (pc : Int) + off = (tgt : Int)) (kt : x < 0 → zGw X ws tgt lv stk) (kf : ¬ x < 0 → zGw X ws (pc + 3) lv stk) : zGw X ws pc lv (.int x :: stk) := fun H locs ls hP hD hS hl => lv_if_lt hX.1.1 hX.1.2 hdg ht (fun c => kt c H locs ls hP hD hS hl) (fun c => kf c H locs ls hP hD hS hl)
theorem z_if_ge (hX : zOk X own cc rm) {x : Int32} {off : Int} (tgt : Nat) (hdg : decode cc pc = .ok (.ifCond .ge off, 3)) (ht : (pc : Int) + off = (tgt : Int)) (kt : 0 ≤ x → zGw X ws tgt lv stk) (kf : ¬ 0 ≤ x → zGw X ws (pc + 3) lv stk) : zGw X ws pc lv (.int x :: stk) := fun H locs ls hP hD hS hl => lv_if_ge hX.1.1 hX.1.2 hdg ht (fun c => kt c H locs ls hP hD hS hl) (fun c => kf c H locs ls hP hD hS hl)
theorem z_if_gt (hX : zOk X own cc rm) {x : Int32} {off : Int} (tgt : Nat) (hdg : decode cc pc = .ok (.ifCond .gt off, 3)) (ht : (pc : Int) + off = (tgt : Int)) (kt : 0 < x → zGw X ws tgt lv stk) (kf : ¬ 0 < x → zGw X ws (pc + 3) lv stk) : zGw X ws pc lv (.int x :: stk) := fun H locs ls hP hD hS hl => lv_if_gt hX.1.1 hX.1.2 hdg ht (fun c => kt c H locs ls hP hD hS hl) (fun c => kf c H locs ls hP hD hS hl)
theorem z_if_le (hX : zOk X own cc rm) {x : Int32} {off : Int} (tgt : Nat) (hdg : decode cc pc = .ok (.ifCond .le off, 3)) (ht : (pc : Int) + off = (tgt : Int)) (kt : x ≤ 0 → zGw X ws tgt lv stk) (kf : ¬ x ≤ 0 → zGw X ws (pc + 3) lv stk) : zGw X ws pc lv (.int x :: stk) := fun H locs ls hP hD hS hl => lv_if_le hX.1.1 hX.1.2 hdg ht (fun c => kt c H locs ls hP hD hS hl) (fun c => kf c H locs ls hP hD hS hl)
theorem z_icmp_eq (hX : zOk X own cc rm) {x y : Int32} {off : Int} (tgt : Nat) (hdg : decode cc pc = .ok (.if_icmp .eq off, 3)) (ht : (pc : Int) + off = (tgt : Int)) (kt : x = y → zGw X ws tgt lv stk) (kf : ¬ x = y → zGw X ws (pc + 3) lv stk) : zGw X ws pc lv (.int y :: .int x :: stk) := fun H locs ls hP hD hS hl => lv_icmp_eq hX.1.1 hX.1.2 hdg ht (fun c => kt c H locs ls hP hD hS hl) (fun c => kf c H locs ls hP hD hS hl)
theorem z_icmp_ne (hX : zOk X own cc rm) {x y : Int32} {off : Int} (tgt : Nat) (hdg : decode cc pc = .ok (.if_icmp .ne off, 3)) (ht : (pc : Int) + off = (tgt : Int)) (kt : ¬ x = y → zGw X ws tgt lv stk) (kf : x = y → zGw X ws (pc + 3) lv stk) : zGw X ws pc lv (.int y :: .int x :: stk) := fun H locs ls hP hD hS hl => lv_icmp_ne hX.1.1 hX.1.2 hdg ht (fun c => kt c H locs ls hP hD hS hl) (fun c => kf c H locs ls hP hD hS hl)
theorem z_icmp_lt (hX : zOk X own cc rm) {x y : Int32} {off : Int} (tgt : Nat) (hdg : decode cc pc = .ok (.if_icmp .lt off, 3)) (ht : (pc : Int) + off = (tgt : Int)) (kt : x < y → zGw X ws tgt lv stk) (kf : ¬ x < y → zGw X ws (pc + 3) lv stk) : zGw X ws pc lv (.int y :: .int x :: stk) := fun H locs ls hP hD hS hl => lv_icmp_lt hX.1.1 hX.1.2 hdg ht (fun c => kt c H locs ls hP hD hS hl) (fun c => kf c H locs ls hP hD hS hl)
theorem z_icmp_ge (hX : zOk X own cc rm) {x y : Int32} {off : Int} (tgt : Nat) (hdg : decode cc pc = .ok (.if_icmp .ge off, 3)) (ht : (pc : Int) + off = (tgt : Int)) (kt : y ≤ x → zGw X ws tgt lv stk) (kf : ¬ y ≤ x → zGw X ws (pc + 3) lv stk) : zGw X ws pc lv (.int y :: .int x :: stk) := fun H locs ls hP hD hS hl => lv_icmp_ge hX.1.1 hX.1.2 hdg ht (fun c => kt c H locs ls hP hD hS hl) (fun c => kf c H locs ls hP hD hS hl)
theorem z_icmp_gt (hX : zOk X own cc rm) {x y : Int32} {off : Int} (tgt : Nat) (hdg : decode cc pc = .ok (.if_icmp .gt off, 3)) (ht : (pc : Int) + off = (tgt : Int)) (kt : y < x → zGw X ws tgt lv stk) (kf : ¬ y < x → zGw X ws (pc + 3) lv stk) : zGw X ws pc lv (.int y :: .int x :: stk) := fun H locs ls hP hD hS hl => lv_icmp_gt hX.1.1 hX.1.2 hdg ht (fun c => kt c H locs ls hP hD hS hl) (fun c => kf c H locs ls hP hD hS hl)
theorem z_icmp_le (hX : zOk X own cc rm) {x y : Int32} {off : Int} (tgt : Nat) (hdg : decode cc pc = .ok (.if_icmp .le off, 3)) (ht : (pc : Int) + off = (tgt : Int)) (kt : x ≤ y → zGw X ws tgt lv stk) (kf : ¬ x ≤ y → zGw X ws (pc + 3) lv stk) : zGw X ws pc lv (.int y :: .int x :: stk) := fun H locs ls hP hD hS hl => lv_icmp_le hX.1.1 hX.1.2 hdg ht (fun c => kt c H locs ls hP hD hS hl) (fun c => kf c H locs ls hP hD hS hl)
end ZR
