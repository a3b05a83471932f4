/-! contracts of constructors over any world; rows for an object that is being made, new cells behind it -/
section ZCU
abbrev zat (X : zCx) (c n : Nat) : zCx := (X.1, X.2.1, (X.meth, X.c, c, n, X.nL), X.2.2.2.1, X.2.2.2.2.1, X.2.2.2.2.2)
def zAO (U : State) : Prop := va_AO "ArchipelagoFerries$Ship" U ∧ va_AO "ArchipelagoFerries$Crew" U ∧ va_AO "ArchipelagoFerries$Sailing" U ∧ va_AO "ArchipelagoFerries$Booking" U
theorem zAO.moved {u U : State} (hvm : u.vm.Alike U.vm) (h : zAO u) : zAO U := ⟨h.1.moved hvm, h.2.1.moved hvm, h.2.2.1.moved hvm, h.2.2.2.moved hvm⟩
def zAw (ws : va_W) (sz : Nat) : Nat → Prop := fun q => (∃ (k : Nat) (e : va_E), ws[k]? = some (q, e)) ∨ sz ≤ q
def zInW (D : va_G) (aC : Nat → ClassId) (ws : va_W) (sz : Nat) (U : State) : Prop := U.heap.size = sz ∧ va_P D vwCl ws U.heap ∧ va_K D vwCl (ztys aC) U ∧ va_D (fun _ => True) ws ∧ zNs U ∧ zAO U
def zOutW (D : va_G) (A : Nat → Prop) (P : va_W → Prop) (t : State) : Prop := ∃ ws' : va_W, P ws' ∧ va_P D vwCl ws' t.heap ∧ va_D A ws'
def zMetI (l : Launch) (y : MethodName) (cc : ByteArray) (mL : Nat) (rm : Room) (mc ms : Nat) (Pre : va_W → Nat → Prop) (Post : (Nat → ClassId) → va_W → Nat → va_W → Prop) : Prop :=
  ∀ (D : va_G) (aC : Nat → ClassId) (ws : va_W) (a sz : Nat), Pre ws a → Met l y (.code y cc mL none :: zWL) rm (va_Pc [.ref a] (zInW D aC ws sz)) (zQ none (zOutW D (zAw ws sz) (Post aC ws a)) (zAw ws sz)) mc ms (zAw ws sz)
def zPostI (X : zCx) (mc ms : Nat) (P : va_W → Prop) : Prop := X.meth.sig.returnType = none ∧ X.Q = MQ X.below (zQ none (zOutW X.D X.A P) X.A) X.args X.s mc ms X.A
variable {X : zCx} {own : String} {cc : ByteArray} {rm : Room} {ws : va_W} {pc : Nat} {lv : List (Nat × Value)} {stk : List Value}
theorem zat_ok (h : zOk X own cc rm) (c n : Nat) (hr : c ≤ X.R.cells ∧ n ≤ X.R.slots) : zOk (zat X c n) own cc rm := ⟨h.1, h.2.1, h.2.2.1, h.2.2.2.1, h.2.2.2.2.1, h.2.2.2.2.2.1, h.2.2.2.2.2.2.1, h.2.2.2.2.2.2.2.1, h.2.2.2.2.2.2.2.2.1, hr.1, hr.2⟩
theorem zmetI_of {l : Launch} {y : MethodName} {mL mc ms : Nat} {Pre : va_W → Nat → Prop} {Post : (Nat → ClassId) → va_W → Nat → va_W → Prop} (hy : plainFor y = true) (hm : 1 ≤ mL) (hyn : y.name = "<init>")
    (h : ∀ X : zCx, X.l = l → X.nL = mL → X.R = rm → zOk (zat X 0 0) y.cls cc rm → zAO X.s → X.meth.name = "<init>" → ∀ (ws : va_W) (a : Nat), Pre ws a → zPostI X mc ms (Post X.aC ws a) → zGw (zat X 0 0) ws 0 [(0, .ref a)] []) : zMetI l y cc mL rm mc ms Pre Post := by
  intro D aC ws a sz hpre
  refine z_ofW (cc := cc) (maxL := mL) (ret := none) hy rfl ?_
  intro p e s m args below meth c s₁ B hml hv
  obtain ⟨rfl, hsz, hP, hK, hD0, hN, hAO⟩ := hv
  subst hsz
  have hts := atoms_spec (ws := .code y cc mL none :: zWL) B.pre
  have hown : s.vm.findClass y.cls = some m.cls := findClass_of_methodNamed B.named
  have hin : meth.name = y.name := (name_of_methodNamed B.named B.method).1
  have hD : va_D (zAw ws s.heap.size) ws := ⟨hD0.1, fun k q hk => Or.inl ⟨k, q.2, hk⟩⟩
  have hl := lv_entry ([.ref a]) (n := mL) hm
  rw [lg_entry_eq]
  exact h ((p, l, e, rm), (s, m, ([.ref a] : List Value).toArray, below), (meth, c, 0, 0, mL), MQ below (zQ none (zOutW D (zAw ws s.heap.size) (Post aC ws a)) (zAw ws s.heap.size)) ([.ref a] : List Value).toArray s mc ms (zAw ws s.heap.size), (D, aC, fun _ => 0, []), zAw ws s.heap.size) rfl rfl rfl
    ⟨⟨B.exec, B.bytes⟩, hml, hown, fun w hw => hts w (List.mem_cons_of_mem _ hw), hK, hN, B.notSynchronized, fun q hq => Or.inr hq, rfl, Nat.zero_le _, Nat.zero_le _⟩ hAO (hin.trans hyn) ws a hpre ⟨B.returns, rfl⟩ s.heap [] _ hP hD va_S.rf hl
theorem z_vretI {mc ms : Nat} {P : va_W → Prop} (hX : zOk (zat X mc ms) own cc rm) (hQ : zPostI X mc ms P) (hP : P ws) (hdg : decode cc pc = .ok (.return_, 1)) : zGw (zat X mc ms) ws pc lv [] := fun H locs ls hP' hD hS hl => by
  show W X.p X.l X.e X.R X.s X.m X.args X.below X.meth X.c H locs mc ms X.Q (F0 X.m pc ls [])
  rw [hQ.2]
  exact W.vret hX.1.1 hX.1.2 hQ.1 (fun t ht hW => ⟨⟨rfl, ws, hP, by rw [ht]; exact hP', hD⟩, hS.F ht⟩) hS.2.2 hdg hX.2.2.2.2.2.2.1
theorem z_blindI {D : va_G} {aC : Nat → ClassId} {sz : Nat} {av : List Value} : FrameBlind (va_Pc av (zInW D aC ws sz)) := fun a U g mk q => by
  obtain ⟨q0, q1, q2, q3, q4, q5, q6⟩ := q
  exact ⟨q0, q1, q2, va_K.moved (u := U) (U := U.calling g mk a) (Vm.Alike.refl U.vm) q3, q4, zNs.moved q5 rfl, zAO.moved (u := U) (U := U.calling g mk a) (Vm.Alike.refl U.vm) q6⟩
theorem z_preI (hX : zOk X own cc rm) (hAO : zAO X.s) {H : Heap} {A : Nat → Prop} (hP : va_P X.D vwCl ws H) (hD : va_D A ws) {av : List Value} {a : Array Value} (ha : a = av.toArray) : ∀ U : State, U.heap = H → X.s.WarmedH U.vm → va_Pc av (zInW X.D X.aC ws H.size) a U := fun U hU hW =>
  ⟨ha, by rw [hU], by rw [hU]; exact hP, va_K.moved hW.alike hX.2.2.2.2.1, hD.weaken (fun _ _ _ _ => trivial), hX.2.2.2.2.2.1.warm hW, hAO.moved hW.alike⟩
theorem zAw_sub {sz : Nat} {A : Nat → Prop} (h : va_D A ws) (hA : ∀ q, sz ≤ q → A q) : ∀ q, zAw ws sz q → A q := by
  intro q hq
  rcases hq with ⟨k, e, hk⟩ | hq
  · exact h.2 k (q, e) hk
  · exact hA q hq
theorem z_backI (hX : zOk X own cc rm) {mc ms : Nat} {P : va_W → Prop} {stk0 : List Value} {H : Heap} {locs : List Loc} {ls : Array Slot}
    (hD : va_D X.A ws) (hS : va_S X.A X.s.heap H locs) (hl : lv_has ls X.nL lv)
    (hr : va_Run X.p X.l X.e X.R X.s X.m X.args X.below X.meth X.c H locs X.cells X.slots mc ms (F0 X.m pc ls stk0) stk (zQ none (zOutW X.D (zAw ws H.size) P) (zAw ws H.size) X.args) (zAw ws H.size))
    (kk : ∀ ws', P ws' → zGw (zat X (X.cells + mc) (X.slots + ms)) ws' (pc + 3) lv stk) : W X.p X.l X.e X.R X.s X.m X.args X.below X.meth X.c H locs X.cells X.slots X.Q (F0 X.m pc ls stk0) := by
  intro T hT XS
  obtain ⟨v, st₀, t, T', L, h0, X', hL, e1, e2, ⟨⟨hv, ws', hp, hb1, hb2⟩, hz, hk⟩, hst⟩ := hr T hT XS
  cases hv
  rw [h0] at hz hk
  have hA : ∀ q, zAw ws H.size q → X.A q := zAw_sub hD (fun q hq => hX.2.2.2.2.2.2.2.1 q (Nat.le_trans hS.1 hq))
  have hD1 : va_D X.A ws' := hb2.weaken (fun k q hk hq => hA _ hq)
  have hS1 : va_S X.A X.s.heap T'.heap (locs ++ L) := ⟨Nat.le_trans hS.1 (by rw [e1]; exact hz), fun q h1 h2 => by rw [e1, hk q (Nat.lt_of_lt_of_le h1 hS.1) (fun z => h2 (hA q z))]; exact hS.2.1 q h1 h2, fun q hq => by
      rcases List.mem_append.mp hq with h | h
      · exact hS.2.2 q h
      · exact hA _ (hL q h)⟩
  obtain ⟨t2, a1, b1⟩ := kk ws' hp T'.heap (locs ++ L) ls (by rw [e1]; exact hb1) hD1 hS1 hl T' rfl X'
  exact ⟨t2, hst t2 a1, b1⟩
def zCalI (y : MethodName) (cc : ByteArray) (mL : Nat) : Prop := y.name = "<init>" ∧ Cond.instanceMethod y ∈ tables_1 ∧ Cond.initialized y.cls ∈ tables_1 ∧ Cond.code y cc mL none ∈ tables_1 ∧ (y.cls ≠ "java/lang/invoke/MethodHandle" ∧ y.cls ≠ "java/lang/invoke/VarHandle" ∧ (parseMethodDescriptor y.desc).map (fun d => d.parameters.length) = some 0)
variable {y : MethodName} {cc' : ByteArray} {mL' mc ms index : Nat} {rm' : Room} {Pre : va_W → Nat → Prop} {Post : (Nat → ClassId) → va_W → Nat → va_W → Prop} {a : Nat}
theorem z_callI (hX : zOk X own cc rm) (hAO : zAO X.s) (hc : zMetI X.l y cc' mL' rm' mc ms Pre Post) (hy : zCalI y cc' mL') (hpre : Pre ws a) (hdg : decode cc pc = .ok (.invokespecial index, 3)) (hw : Cond.methodLink own index y ∈ tables_1) (hR : rm'.frames + 1 ≤ rm.frames ∧ 8 + (mL' + 11) + rm'.locals ≤ rm.locals) (hrc : rm'.cells = mc ∧ rm'.slots = ms) (hr : X.cells + mc ≤ X.R.cells ∧ X.slots + ms ≤ X.R.slots) (hcat : (stk.map fun v => v.category).sum ≤ 8) (kk : ∀ ws', Post X.aC ws a ws' → zGw (zat X (X.cells + mc) (X.slots + ms)) ws' (pc + 3) lv stk) : zGw X ws pc lv (.ref a :: stk) := fun H locs ls hP hD hS hl => by
  have hR2 : rm'.frames + 1 ≤ X.R.frames ∧ 8 + (mL' + 11) + rm'.locals ≤ X.R.locals := by rw [hX.2.2.2.2.2.2.2.2.1]; exact hR
  have hcb := cwI (R := X.R) (own := own) (index := index) 0 hX.2.2.2.1 (zgoodc hy.2.2.2.1) rfl hrc.1 hrc.2 (hX.t hy.2.2.1 rfl) (hX.t hw rfl) (hX.t hy.2.1 rfl) hy.1 hy.2.2.2.2 hR2
  exact z_backI hX hD hS hl (va_runI (As := []) (b := a) (rest := stk) (g := F0 X.m pc ls (.ref a :: stk)) ⟨hX.1.1, hX.1.2, hX.2.1, hX.2.2.1, hX.2.2.2.1⟩ (hc X.D X.aC ws a H.size hpre) hcb ⟨z_blindI, z_preI hX hAO hP hD rfl⟩ rfl rfl hl.1 rfl (lv_room hcat) hdg hr) kk
theorem z_callIN (hX : zOk X own cc rm) (hAO : zAO X.s) (hc : zMetI X.l y cc' mL' rm' mc ms Pre Post) (hy : zCalI y cc' mL') (hpre : Pre ws a) {host : String} (hdg : decode cc pc = .ok (.invokespecial index, 3)) (hw : Cond.methodLinkNest own index y host ∈ tables_1) (hR : rm'.frames + 1 ≤ rm.frames ∧ 8 + (mL' + 11) + rm'.locals ≤ rm.locals) (hrc : rm'.cells = mc ∧ rm'.slots = ms) (hr : X.cells + mc ≤ X.R.cells ∧ X.slots + ms ≤ X.R.slots) (hcat : (stk.map fun v => v.category).sum ≤ 8) (kk : ∀ ws', Post X.aC ws a ws' → zGw (zat X (X.cells + mc) (X.slots + ms)) ws' (pc + 3) lv stk) : zGw X ws pc lv (.ref a :: stk) := fun H locs ls hP hD hS hl => by
  have hR2 : rm'.frames + 1 ≤ X.R.frames ∧ 8 + (mL' + 11) + rm'.locals ≤ X.R.locals := by rw [hX.2.2.2.2.2.2.2.2.1]; exact hR
  have hcb := va_cnB (R := X.R) (own := own) (index := index) 0 hX.2.2.2.1 (zgoodc hy.2.2.2.1) rfl hrc.1 hrc.2 (hX.n hw rfl) (hX.t hy.2.2.1 rfl) hy.2.2.2.2 hR2
  exact z_backI hX hD hS hl (va_runIN (As := []) (b := a) (rest := stk) (g := F0 X.m pc ls (.ref a :: stk)) ⟨hX.1.1, hX.1.2, hX.2.1, hX.2.2.1, hX.2.2.2.1⟩ (hc X.D X.aC ws a H.size hpre) ⟨hcb, hy.1, hX.t hy.2.1 rfl⟩ ⟨z_blindI, z_preI hX hAO hP hD rfl⟩ rfl rfl hl.1 rfl (lv_room hcat) hdg hr) kk
theorem z_getw (hX : zOk X own cc rm) (q0 : Nat) {ci k : Nat} {C : String} {T : u_T} {N : Nat} {v : Value} {fs : List Value} (hdg : decode cc pc = .ok (.getfield index, 3)) (he : ws[q0]? = some (a, .inr (ci, fs))) (hcl : vwCl[ci]? = some (C, T, N)) (hin : ∀ w ∈ u_ws C T N, w ∈ zWL) (hk : k < N) (hlk : Cond.fieldLink own index (T k).1 (T k).2.1 (T k).2.2.1 ∈ tables_1) (hv : fs[k]? = some v) (kk : zGw X ws (pc + 3) lv (v :: stk)) : zGw X ws pc lv (.ref a :: stk) := fun H locs ls hP hD hS hl =>
  va_get hX.1.1 hX.1.2 hX.2.2.2.1 hin hX.2.2.1 hX.2.2.2.2.1 hP q0 he hcl k hk (hX.t hlk rfl) (fun _ h => h) hv hdg (kk H locs ls hP hD hS hl)
theorem z_iastw (hX : zOk X own cc rm) (q0 : Nat) {cA : ClassId} {n : Nat} {f : Nat → Int32} {i x : Int32} (hdg : decode cc pc = .ok (.iastore, 1)) (ha : ws[q0]? = some (a, .inl (cA, n, .inl f))) (ht : (ztys X.aC)[0]? = some (cA, .int)) (hin : vp_in i n) (kk : zGw X (ws.set q0 (a, .inl (cA, n, .inl (upd f i.toNatClampNeg x)))) (pc + 1) lv stk) : zGw X ws pc lv (.int x :: .int i :: .ref a :: stk) := fun H locs ls hP hD hS hl =>
  va_iast hX.1.1 hX.1.2 hX.2.2.2.2.1 hP hD hS q0 0 ha ht hin hdg (fun H1 l1 h1 h2 h3 => kk H1 l1 ls h1 h2 h3 hl)
theorem zlt_ok {a b : Nat} (h : Nat.ble (a + 1) b = true) : a < b := Nat.le_of_ble_eq_true h
/-- the world ws with the object a at its place k, and cells behind -/
abbrev zob (ws : va_W) (k a ci : Nat) (fs : List Value) (nw : va_W) : va_W := ws.set k (a, .inr (ci, fs)) ++ nw
theorem zob_at {k ci : Nat} {fs : List Value} {nw : va_W} (hk : k < ws.length) : (zob ws k a ci fs nw)[k]? = some (a, .inr (ci, fs)) := by
  rw [List.getElem?_append_left (by rw [List.length_set]; exact hk), List.getElem?_set_self hk]
theorem zob_set {k ci : Nat} {fs fs' : List Value} {nw : va_W} (hk : k < ws.length) : (zob ws k a ci fs nw).set k (a, .inr (ci, fs')) = zob ws k a ci fs' nw := by
  rw [List.set_append_left _ _ (by rw [List.length_set]; exact hk), List.set_set]
theorem zob_self {k ci : Nat} {fs : List Value} (h : ws[k]? = some (a, .inr (ci, fs))) : ws = zob ws k a ci fs [] := by
  obtain ⟨hk, e⟩ := List.getElem?_eq_some_iff.mp h
  show ws = ws.set k (a, .inr (ci, fs)) ++ []
  rw [List.append_nil, ← e, List.set_getElem_self]
theorem zset_last {α : Type} (A : List α) (x y : α) : (A ++ [x]).set A.length y = A ++ [y] := by
  rw [List.set_append_right _ _ (Nat.le_refl _), Nat.sub_self]
  rfl
theorem zat_last {α : Type} (A : List α) (x : α) : (A ++ [x])[A.length]? = some x := by
  rw [List.getElem?_append_right (Nat.le_refl _), Nat.sub_self]
  rfl
theorem p_put (hX : zOk X own cc rm) {k ci j : Nat} {C : String} {T : u_T} {N : Nat} {ty0 : Nat → FieldType} {ty : FieldType} {v : Value} {fs fs' : List Value} {nw : va_W} (hq : k < ws.length) (hdg : decode cc pc = .ok (.putfield index, 3)) (hcl : vwCl[ci]? = some (C, T, N)) (hin : ∀ w ∈ u_ws C T N, w ∈ zWL) (hty : ∀ k, k < N → parseFieldDescriptor (T k).2.2.1 = some (ty0 k)) (hnm : ∀ a, a < N → ∀ b, b < N → a ≠ b → (T a).2.1 ≠ (T b).2.1) (hk : j < N) (hlk : Cond.fieldLink own index (T j).1 (T j).2.1 (T j).2.2.1 ∈ tables_1) (hfin : (T j).2.2.2 = false) (hd : ty0 j = ty) (hn : narrow ty v = v) (hf : fits ty v = true) (hl : j < fs.length) (hfs : fs.set j v = fs') (kk : zGw X (zob ws k a ci fs' nw) (pc + 3) lv stk) : zGw X (zob ws k a ci fs nw) pc lv (v :: .ref a :: stk) :=
  z_putw hX k hdg (zob_at hq) hcl hin hty hnm hk hlk hfin hd hn hf hl (by rw [zob_set hq, hfs]; exact kk)
theorem p_putF (hX : zOk X own cc rm) (hini : X.meth.name = "<init>") {k ci j : Nat} {C : String} {T : u_T} {N : Nat} {ty0 : Nat → FieldType} {ty : FieldType} {v : Value} {fs fs' : List Value} {nw : va_W} (hq : k < ws.length) (hdg : decode cc pc = .ok (.putfield index, 3)) (hcl : vwCl[ci]? = some (C, T, N)) (hin : ∀ w ∈ u_ws C T N, w ∈ zWL) (hty : ∀ k, k < N → parseFieldDescriptor (T k).2.2.1 = some (ty0 k)) (hnm : ∀ a, a < N → ∀ b, b < N → a ≠ b → (T a).2.1 ≠ (T b).2.1) (hk : j < N) (hlk : Cond.fieldLink own index (T j).1 (T j).2.1 (T j).2.2.1 ∈ tables_1) (hfin : (T j).2.2.2 = true) (hdecl : (T j).1 = own) (hd : ty0 j = ty) (hn : narrow ty v = v) (hf : fits ty v = true) (hl : j < fs.length) (hfs : fs.set j v = fs') (kk : zGw X (zob ws k a ci fs' nw) (pc + 3) lv stk) : zGw X (zob ws k a ci fs nw) pc lv (v :: .ref a :: stk) :=
  z_putFw hX k hdg (zob_at hq) hcl hin hty hnm hk hlk hfin hini hdecl hd hn hf hl (by rw [zob_set hq, hfs]; exact kk)
end ZCU
