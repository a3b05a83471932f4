/-! the law's wrappers: try, catch; both ways they return -/
abbrev zbump (X : zCx) : zCx := (X.1, X.2.1, (X.meth, X.c, X.cells + 1, X.slots + 6, X.nL), X.Q, X.2.2.2.2)
def zOkW (X : zCx) (own : String) (cc : ByteArray) (rm : Room) (hh : List (Nat × Nat × Nat × Nat)) : Prop := zOk X own cc rm ∧ zXs X.A X.s X.s.heap ∧ X.c.exceptionTable.toList = tableOf hh ∧ X.l.stackTraces = false ∧ (X.cells = 0 ∧ X.slots = 0) ∧ (1 ≤ rm.cells ∧ 6 ≤ rm.slots)
def zMetW (l : Launch) (y : MethodName) (cc : ByteArray) (mL : Nat) (ret : Option FieldType) (hh : List (Nat × Nat × Nat × Nat)) (rm : Room) (n : Nat) (sh : Nat → zShp) (av : (Nat → Nat) → List Value) (st : zSt) (rv : (Nat → Nat) → Option Value) (u : zSt) : Prop :=
  ∀ (D : va_G) (aC : Nat → ClassId) (ad : Nat → Nat) (rest : va_W) (sz : Nat), Met l y (.codeWith y cc mL ret hh :: zWL) rm (va_Pc (av ad) (zInX D aC ad rest n sh st sz)) (zQ (rv ad) (zOut D aC ad rest n sh (zA ad n rest sz) u) (zA ad n rest sz)) 1 6 (zA ad n rest sz)
theorem zmetW_of {l : Launch} {y : MethodName} {cc : ByteArray} {mL : Nat} {ret : Option FieldType} {hh : List (Nat × Nat × Nat × Nat)} {rm : Room} {n : Nat} {sh : Nat → zShp} {av : (Nat → Nat) → List Value} {st : zSt} {rv : (Nat → Nat) → Option Value} {u : zSt} (hfl : l.stackTraces = false) (hcw : Cond.codeWith y cc mL ret hh ∈ tables_1)
    (hy : plainName y.cls = true) (hn : ∀ ad, (lg_sl (av ad)).length ≤ mL) (hrm : 1 ≤ rm.cells ∧ 6 ≤ rm.slots)
    (h : ∀ X : zCx, X.l = l → X.nL = mL → zOkW X y.cls cc rm hh → zPost (zbump X) n sh ret (rv X.ad) u → zG n sh X st 0 (lv_args 0 (av X.ad)) []) : zMetW l y cc mL ret hh rm n sh av st rv u := by
  intro D aC ad rest sz
  refine va_MetW (cc := cc) (maxL := mL) (ret := ret) (hh := hh) hy rfl ?_
  intro p e s m args below meth c s₁ B hml hv
  obtain ⟨rfl, ⟨hsz, hP, hK, hD0, hN⟩, hZ⟩ := hv
  subst hsz
  have hts := atoms_spec (ws := .codeWith y cc mL ret hh :: zWL) B.pre
  have hown : s.vm.findClass y.cls = some m.cls := findClass_of_methodNamed B.named
  have hD := zA_self (sz := s.heap.size) hD0
  have hl := lv_entry (av ad) (n := mL) (hn ad)
  have htab : c.exceptionTable.toList = tableOf hh := vx_table (x := y) B (hts _ List.mem_cons_self)
  rw [lg_entry_eq]
  exact h ((p, l, e, rm), (s, m, (av ad).toArray, below), (meth, c, 0, 0, mL), MQ below (zQ (rv ad) (zOut D aC ad rest n sh (zA ad n rest s.heap.size) u) (zA ad n rest s.heap.size)) (av ad).toArray s 1 6 (zA ad n rest s.heap.size), (D, aC, ad, rest), zA ad n rest s.heap.size) rfl rfl
    ⟨⟨⟨B.exec, B.bytes⟩, hml, hown, fun w hw => hts w (List.mem_cons_of_mem _ hw), hK, hN, B.notSynchronized, fun q hq => Or.inr (Or.inr hq), rfl, Nat.zero_le _, Nat.zero_le _⟩, hZ, htab, hfl, ⟨rfl, rfl⟩, hrm⟩ ⟨B.returns, rfl⟩ s.heap [] _ hP hD va_S.rf hl
section ZW
variable {X : zCx} {own : String} {cc : ByteArray} {rm : Room} {hh : List (Nat × Nat × Nat × Nat)} {pc : Nat} {lv : List (Nat × Value)} {stk : List Value} {n : Nat} {sh : Nat → zShp} {st u : zSt} {k : Nat}
theorem zOkW.bump (hX : zOkW X own cc rm hh) : zOk (zbump X) own cc rm := ⟨hX.1.1, hX.1.2.1, hX.1.2.2.1, hX.1.2.2.2.1, hX.1.2.2.2.2.1, hX.1.2.2.2.2.2.1, hX.1.2.2.2.2.2.2.1, hX.1.2.2.2.2.2.2.2.1, hX.1.2.2.2.2.2.2.2.2.1, by show X.cells + 1 ≤ X.R.cells; rw [hX.2.2.2.2.1.1, hX.1.2.2.2.2.2.2.2.2.1]; exact hX.2.2.2.2.2.1, by show X.slots + 6 ≤ X.R.slots; rw [hX.2.2.2.2.1.2, hX.1.2.2.2.2.2.2.2.2.1]; exact hX.2.2.2.2.2.2⟩
theorem z_widen (kk : zG n sh (zbump X) st pc lv stk) : zG n sh X st pc lv stk := fun H locs ls hP hD hS hl => W.widen (Nat.le_succ _) (Nat.le_add_right _ _) (kk H locs ls hP hD hS hl)
variable {y : MethodName} {cc' : ByteArray} {mL' : Nat} {ret' : Option FieldType} {rm' : Room} {av : (Nat → Nat) → List Value} {index na : Nat} {As stk0 : List Value}
theorem z_catchV (hX : zOkW X own cc rm hh) (pre : List ExceptionTableEntry) (x : ExceptionTableEntry) (suf : List ExceptionTableEntry) (hc : zMx X.l y cc' mL' ret' rm' n sh av st k u) (hy : zCal y cc' mL' ret' na) (b : Nat) {ci : Nat} {L : List Nat} {T : u_T} {N : Nat} (hdg : decode cc pc = .ok (.invokevirtual index, 3)) (hw : Cond.methodLink own index y ∈ tables_1) (hb : b < n) (hsb : sh b = .inl (ci, L)) (hcl : vwCl[ci]? = some (y.cls, T, N)) (hav : av X.ad = .ref (X.ad b) :: As) (hst : stk0 = As.reverse ++ .ref (X.ad b) :: stk) (hna : As.length = na) (hR : rm'.frames + 1 ≤ rm.frames ∧ 8 + (mL' + 11) + rm'.locals ≤ rm.locals) (hrc : rm'.cells = 1 ∧ rm'.slots = 6) (hcat : (stk.map fun v => v.category).sum ≤ 8)
    (hsplit : tableOf hh = pre ++ x :: suf) (hpass : ∀ z ∈ pre, covers z pc = false ∨ (z.catchType ≠ 0 ∧ ∃ nm : String, (Cond.classLink own z.catchType nm).before X.args X.s = true ∧ va_Nc (zEx k) nm X.s)) (hcov : covers x pc = true) (h0 : x.catchType ≠ 0) (hlink : Cond.classLink own x.catchType (zEx k) ∈ tables_1) (hcast : Cond.castable (zEx k) (zEx k) ∈ tables_1) (kk : ∀ q : Nat, zG n sh (zbump X) u x.handlerPc lv [.ref q]) : zG n sh X st pc lv stk0 := fun H locs ls hP hD hS hl => by
  have hR2 : rm'.frames + 1 ≤ X.R.frames ∧ 8 + (mL' + 11) + rm'.locals ≤ X.R.locals := by rw [hX.1.2.2.2.2.2.2.2.2.1]; exact hR
  have hcb := callB_of (R := X.R) (own := own) (index := index) na hX.1.2.2.2.1 (zgoodc hy.2.2.2.1) rfl hrc.1 hrc.2 (hX.1.t hy.2.2.1 rfl) (hX.1.t hw rfl) hy.2.2.2.2 hR2
  have hM := hc X.D X.aC X.ad X.rest H.size
  rw [hav] at hM
  have hA : ∀ q, zA X.ad n X.rest H.size q → X.A q := zA_sub hD (fun q hq => hX.1.2.2.2.2.2.2.2.1 q (Nat.le_trans hS.1 hq))
  have hr := vx_runV (As := As) (rest := stk) (g := F0 X.m pc ls stk0) (locs := locs) (cells := X.cells) (slots := X.slots) (p := X.p) (e := X.e) (below := X.below) (meth := X.meth) ⟨hX.1.1.1, hX.1.1.2, hX.1.2.1, hX.1.2.2.1, hX.1.2.2.2.1⟩ hM ⟨hcb, hX.1.t hy.1 rfl, hX.1.w hy.2.1⟩ ⟨z_blindX, va_recv hX.1.2.2.2.2.1 hP hcl (zgw_at hb (by rw [hsb]; rfl)), z_preX hX.1 hX.2.1 hP hD hS rfl⟩ rfl hna hl.1 hst (lv_room hcat) hdg ⟨by rw [hX.2.2.2.2.1.1, hX.1.2.2.2.2.2.2.2.2.1]; exact hX.2.2.2.2.2.1, by rw [hX.2.2.2.2.1.2, hX.1.2.2.2.2.2.2.2.2.1]; exact hX.2.2.2.2.2.2⟩
  refine vx_callv hr hS (fun q _ h => h.elim) hA (fun q _ h => hA q h) (fun E ce q9 _ t H1 locs1 ht hvm _ hB hz hk hS1 hq hce hE => ?_) (fun _ _ _ _ _ _ hpost => hpost.elim)
  obtain ⟨rfl, hB1, hB2⟩ := hB
  refine vx_catch hX.1.2.2.1 pre x suf (hX.2.2.1.trans hsplit) hpass hcov h0 (hX.1.t hlink rfl) (hX.1.nb hcast rfl) hq hce hE ?_
  exact kk q9 H1 locs1 ls (by rw [← ht]; exact hB1) (hB2.weaken (fun _ _ _ h => hA _ h)) hS1 hl
theorem z_npass (hX : zOkW X own cc rm hh) {z : ExceptionTableEntry} (i : Nat) (h0 : z.catchType ≠ 0) (hl : Cond.classLink own z.catchType (zEx i) ∈ tables_1) (hk : 1 ≤ k ∧ k ≤ 4 ∧ 2 ≤ i ∧ i ≤ 3 ∧ k ≠ i) : covers z pc = false ∨ (z.catchType ≠ 0 ∧ ∃ nm : String, (Cond.classLink own z.catchType nm).before X.args X.s = true ∧ va_Nc (zEx k) nm X.s) := Or.inr ⟨h0, zEx i, hX.1.t hl rfl, hX.2.1.2 k i hk.1 hk.2.1 hk.2.2.1 hk.2.2.2.1 hk.2.2.2.2⟩
theorem z_astoreA {ws : va_W} (hX : zOk X own cc rm) {i q : Nat} (hdg : decode cc pc = .ok (.astore i, 2)) (hn : i < X.nL) (kk : zGw X ws (pc + 2) [] stk) : zGw X ws pc lv (.ref q :: stk) := fun H locs ls hP hD hS hl => lv_astore hX.1.1 hX.1.2 hdg hl hn rfl (fun ls' h' => kk H locs ls' hP hD hS ⟨h'.1, h'.2.1, fun q h => absurd h List.not_mem_nil⟩)
theorem z_astoreA_n {ws : va_W} (hX : zOk X own cc rm) {k : Fin 4} {i q : Nat} (hdg : decode cc pc = .ok (.astore_n k, 1)) (hi : (k : Nat) = i) (hn : i < X.nL) (kk : zGw X ws (pc + 1) [] stk) : zGw X ws pc lv (.ref q :: stk) := fun H locs ls hP hD hS hl => lv_astore_n hX.1.1 hX.1.2 hdg hi hl hn rfl (fun ls' h' => kk H locs ls' hP hD hS ⟨h'.1, h'.2.1, fun q h => absurd h List.not_mem_nil⟩)
end ZW
abbrev zshr (x y : Int32) : Int32 := x >>> (y &&& 31)
def zScr (X : zCx) (b L : Nat) (xs : Nat → Int32) : Prop := va_X b L xs X.s X.s.heap ∧ b < X.s.heap.size ∧ ¬ X.A b
section ZL
variable {X : zCx} {own : String} {cc : ByteArray} {rm : Room} {pc : Nat} {lv : List (Nat × Value)} {stk : List Value} {n : Nat} {sh : Nat → zShp} {st u : zSt}
theorem zbump_ok (h : zOk X own cc rm) (hr : X.cells + 1 ≤ X.R.cells ∧ X.slots + 6 ≤ X.R.slots) : zOk (zbump X) own cc rm := ⟨h.1, h.2.1, h.2.2.1, h.2.2.2.1, h.2.2.2.2.1, h.2.2.2.2.2.1, h.2.2.2.2.2.2.1, h.2.2.2.2.2.2.2.1, h.2.2.2.2.2.2.2.2.1, hr.1, hr.2⟩
theorem z_sld {ws : va_W} (hX : zOk X own cc rm) {b L : Nat} {xs : Nat → Int32} (hs : zScr X b L xs) {i v : Int32} (hdg : decode cc pc = .ok (.iaload, 1)) (hi : vp_in i L) (hv : v = xs i.toNatClampNeg) (kk : zGw X ws (pc + 1) lv (.int v :: stk)) : zGw X ws pc lv (.int i :: .ref b :: stk) := fun H locs ls hP hD hS hl => va_sld hX.1.1 hX.1.2 hs.1 hs.2.1 hs.2.2 hS hi hdg (by rw [← hv]; exact kk H locs ls hP hD hS hl)
theorem z_slen {ws : va_W} (hX : zOk X own cc rm) {b L : Nat} {xs : Nat → Int32} (hs : zScr X b L xs) (hdg : decode cc pc = .ok (.arraylength, 1)) (kk : zGw X ws (pc + 1) lv (.int (nI L) :: stk)) : zGw X ws pc lv (.ref b :: stk) := fun H locs ls hP hD hS hl => va_slen hX.1.1 hX.1.2 hs.1 hs.2.1 hs.2.2 hS hdg (kk H locs ls hP hD hS hl)
theorem zgoodw {y : MethodName} {cc' : ByteArray} {mL' : Nat} {ret' : Option FieldType} {hh : List (Nat × Nat × Nat × Nat)} (h : Cond.codeWith y cc' mL' ret' hh ∈ tables_1) : GoodIn zWL (.codeWith y cc' mL' ret' hh :: zWL) := fun w hw => (List.mem_cons.mp hw).elim (fun e => by rw [e]; exact zwl_good _ (zwl_in h rfl)) (fun h => zwl_good _ h)
theorem z_ldci {ws : va_W} (hX : zOk X own cc rm) {index : Nat} {v : Int32} (hdg : decode cc pc = .ok (.ldc index, 2)) (hw : Cond.constant own index v ∈ tables_1) (kk : zGw X ws (pc + 2) lv (.int v :: stk)) : zGw X ws pc lv stk := fun H locs ls hP hD hS hl => lv_ldc hX.1.1 hX.1.2 hX.2.2.1 (hX.t hw rfl) hdg (kk H locs ls hP hD hS hl)
theorem z_lcmp {ws : va_W} (hX : zOk X own cc rm) {x y : Int64} (hdg : decode cc pc = .ok (.lcmp, 1)) (kk : zGw X ws (pc + 1) lv (.int (lg_cmp x y) :: stk)) : zGw X ws pc lv (.long y :: .long x :: stk) := fun H locs ls hP hD hS hl => W.lcmp hX.1.1 hX.1.2 hdg (kk H locs ls hP hD hS hl)
theorem z_ishr {ws : va_W} (hX : zOk X own cc rm) {x y : Int32} (hdg : decode cc pc = .ok (.ishr, 1)) (kk : zGw X ws (pc + 1) lv (.int (zshr x y) :: stk)) : zGw X ws pc lv (.int y :: .int x :: stk) := fun H locs ls hP hD hS hl => lv_ishr hX.1.1 hX.1.2 hdg (kk H locs ls hP hD hS hl)
theorem z_backW (hX : zOk X own cc rm) {u : zSt} {rv : Option Value} {stk0 : List Value} {H : Heap} {locs : List Loc} {ls : Array Slot}
    (hP : va_P X.D vwCl (zgw n sh X.ad X.aC st ++ X.rest) H) (hD : va_D X.A (zgw n sh X.ad X.aC st ++ X.rest)) (hS : va_S X.A X.s.heap H locs) (hl : lv_has ls X.nL lv)
    (hr : va_Run X.p X.l X.e X.R X.s X.m X.args X.below X.meth X.c H locs X.cells X.slots 1 6 (F0 X.m pc ls stk0) stk (zQ rv (zOut X.D X.aC X.ad X.rest n sh (zA X.ad n X.rest H.size) u) (zA X.ad n X.rest H.size) X.args) (zA X.ad n X.rest H.size))
    (kk : zG n sh (zbump X) u (pc + 3) lv (rv.toList ++ stk)) : W X.p X.l X.e X.R X.s X.m X.args X.below X.meth X.c H locs X.cells X.slots X.Q (F0 X.m pc ls stk0) := by
  intro T hT XS
  obtain ⟨v, st₀, t, T', L, h0, X', hL, e1, e2, ⟨⟨hv, hb⟩, hz, hk⟩, hst⟩ := hr T hT XS
  cases hv
  rw [h0] at hz hk
  have hA : ∀ q, zA X.ad n X.rest H.size q → X.A q := zA_sub hD (fun q hq => hX.2.2.2.2.2.2.2.1 q (Nat.le_trans hS.1 hq))
  have hD1 : va_D X.A (zgw n sh X.ad X.aC u ++ X.rest) := hb.2.weaken (fun k q hk hq => hA _ hq)
  have hS1 : va_S X.A X.s.heap T'.heap (locs ++ L) := ⟨Nat.le_trans hS.1 (by rw [e1]; exact hz), fun q h1 h2 => by rw [e1, hk q (Nat.lt_of_lt_of_le h1 hS.1) (fun z => h2 (hA q z))]; exact hS.2.1 q h1 h2, fun q hq => by
      rcases List.mem_append.mp hq with h | h
      · exact hS.2.2 q h
      · exact hA _ (hL q h)⟩
  obtain ⟨t2, a1, b1⟩ := kk T'.heap (locs ++ L) ls (by rw [e1]; exact hb.1) hD1 hS1 hl T' rfl X'
  exact ⟨t2, hst t2 a1, b1⟩
variable {y : MethodName} {cc' : ByteArray} {mL' : Nat} {ret' : Option FieldType} {rm' : Room} {av : (Nat → Nat) → List Value} {rv : (Nat → Nat) → Option Value} {index na : Nat} {As stk0 stk' : List Value}
theorem z_callW (hX : zOk X own cc rm) (hZ : zXs X.A X.s X.s.heap) {hh : List (Nat × Nat × Nat × Nat)} (hc : zMetW X.l y cc' mL' ret' hh rm' n sh av st rv u)
    (hy : Cond.static y ∈ tables_1 ∧ Cond.initialized y.cls ∈ tables_1 ∧ Cond.codeWith y cc' mL' ret' hh ∈ tables_1 ∧ (y.cls ≠ "java/lang/invoke/MethodHandle" ∧ y.cls ≠ "java/lang/invoke/VarHandle" ∧ (parseMethodDescriptor y.desc).map (fun d => d.parameters.length) = some na))
    (hdg : decode cc pc = .ok (.invokestatic index, 3)) (hw : Cond.methodLink own index y ∈ tables_1) (hav : av X.ad = As) (hst : stk0 = As.reverse ++ stk) (hna : As.length = na) (hR : rm'.frames + 1 ≤ rm.frames ∧ 8 + (mL' + 11) + rm'.locals ≤ rm.locals) (hrc : rm'.cells = 1 ∧ rm'.slots = 6) (hcat : (stk.map fun v => v.category).sum ≤ 8) (hr : X.cells + 1 ≤ X.R.cells ∧ X.slots + 6 ≤ X.R.slots) (hk : (rv X.ad).toList ++ stk = stk') (kk : zG n sh (zbump X) u (pc + 3) lv stk') : zG n sh X st pc lv stk0 := fun H locs ls hP hD hS hl => by
  have hR2 : rm'.frames + 1 ≤ X.R.frames ∧ 8 + (mL' + 11) + rm'.locals ≤ X.R.locals := by rw [hX.2.2.2.2.2.2.2.2.1]; exact hR
  have hM := hc X.D X.aC X.ad X.rest H.size
  rw [hav] at hM
  have hsig : ∀ sig, parseMethodDescriptor y.desc = some sig → na = sig.parameters.length := fun sig h => by
    have h2 := hy.2.2.2.2.2
    rw [h] at h2
    exact (Option.some.inj h2).symm
  exact z_backW hX hP hD hS hl (vx_runSW (As := As) (rest := stk) (g := F0 X.m pc ls stk0) ⟨hX.1.1, hX.1.2, hX.2.1, hX.2.2.1, hX.2.2.2.1⟩ hM ⟨⟨hrc.1, hrc.2, hR2.1, hR2.2, pay_in hX.2.2.2.1 (zgoodw hy.2.2.1), List.mem_cons_self⟩, hX.t hy.2.2.1 rfl, hX.t hy.2.1 rfl, ⟨hy.2.2.2.1, hy.2.2.2.2.1⟩, hsig, hX.t hw rfl, hX.t hy.1 rfl⟩ ⟨z_blindX, z_preX hX hZ hP hD hS rfl⟩ rfl hna hl.1 hst (lv_room hcat) hdg hr) (by rw [hk]; exact kk)
theorem z_callWk {B N K k : Nat} (hX : ∀ j, j ≤ K → zOk (zat X (B + j) (N + 6 * j)) own cc rm) (hk : k + 1 ≤ K) (hZ : zXs X.A X.s X.s.heap) {hh : List (Nat × Nat × Nat × Nat)} (hc : zMetW X.l y cc' mL' ret' hh rm' n sh av st rv u)
    (hy : Cond.static y ∈ tables_1 ∧ Cond.initialized y.cls ∈ tables_1 ∧ Cond.codeWith y cc' mL' ret' hh ∈ tables_1 ∧ (y.cls ≠ "java/lang/invoke/MethodHandle" ∧ y.cls ≠ "java/lang/invoke/VarHandle" ∧ (parseMethodDescriptor y.desc).map (fun d => d.parameters.length) = some na))
    (hdg : decode cc pc = .ok (.invokestatic index, 3)) (hw : Cond.methodLink own index y ∈ tables_1) (hav : av X.ad = As) (hst : stk0 = As.reverse ++ stk) (hna : As.length = na) (hR : rm'.frames + 1 ≤ rm.frames ∧ 8 + (mL' + 11) + rm'.locals ≤ rm.locals) (hrc : rm'.cells = 1 ∧ rm'.slots = 6) (hcat : (stk.map fun v => v.category).sum ≤ 8) (hk' : (rv X.ad).toList ++ stk = stk') (kk : zG n sh (zat X (B + (k + 1)) (N + 6 * (k + 1))) u (pc + 3) lv stk') : zG n sh (zat X (B + k) (N + 6 * k)) st pc lv stk0 := by
  have h1 := (hX (k + 1) hk).2.2.2.2.2.2.2.2.2
  have e : N + 6 * (k + 1) = N + 6 * k + 6 := by omega
  rw [e] at h1 kk
  exact z_callW (X := zat X (B + k) (N + 6 * k)) (hX k (Nat.le_of_succ_le hk)) hZ hc hy hdg hw hav hst hna hR hrc hcat h1 hk' kk
def zPcS (ad : Nat → Nat) (D : va_G) (aC : Nat → ClassId) (rest : va_W) (n : Nat) (sh : Nat → zShp) (st : zSt) (sz b L : Nat) (xs : Nat → Int32) (U : State) : Prop := zIn D aC ad rest n sh st sz U ∧ va_X b L xs U U.heap ∧ b < U.heap.size ∧ ¬ zA ad n rest U.heap.size b
def zMetS (l : Launch) (y : MethodName) (cc : ByteArray) (mL : Nat) (ret : Option FieldType) (rm : Room) (n : Nat) (sh : Nat → zShp) (b L : Nat) (xs : Nat → Int32) (av : (Nat → Nat) → List Value) (st : zSt) (rv : (Nat → Nat) → Option Value) (u : zSt) : Prop :=
  ∀ (D : va_G) (aC : Nat → ClassId) (ad : Nat → Nat) (rest : va_W) (sz : Nat), Met l y (.code y cc mL ret :: zWL) rm (va_Pc (av ad) (zPcS ad D aC rest n sh st sz b L xs)) (zQ (rv ad) (zOut D aC ad rest n sh (zA ad n rest sz) u) (zA ad n rest sz)) 0 0 (zA ad n rest sz)
theorem zmetS_of {l : Launch} {mL : Nat} {ret : Option FieldType} {b L : Nat} {xs : Nat → Int32} (hy : plainFor y = true) (hn : ∀ ad, (lg_sl (av ad)).length ≤ mL)
    (h : ∀ X : zCx, X.l = l → X.nL = mL → zOk X y.cls cc rm → zScr X b L xs → zPost X n sh ret (rv X.ad) u → zG n sh X st 0 (lv_args 0 (av X.ad)) []) : zMetS l y cc mL ret rm n sh b L xs av st rv u := by
  intro D aC ad rest sz
  refine z_ofW (cc := cc) (maxL := mL) (ret := ret) hy rfl ?_
  intro p e s m args below meth c s₁ B hml hv
  obtain ⟨rfl, ⟨hsz, hP, hK, hD0, hN⟩, hs1, hs2, hs3⟩ := hv
  subst hsz
  have hts := atoms_spec (ws := .code y cc mL ret :: zWL) B.pre
  have hown : s.vm.findClass y.cls = some m.cls := findClass_of_methodNamed B.named
  have hD := zA_self (sz := s.heap.size) hD0
  have hl := lv_entry (av ad) (n := mL) (hn ad)
  rw [lg_entry_eq]
  exact h ((p, l, e, rm), (s, m, (av ad).toArray, below), (meth, c, 0, 0, mL), MQ below (zQ (rv ad) (zOut D aC ad rest n sh (zA ad n rest s.heap.size) u) (zA ad n rest s.heap.size)) (av ad).toArray s 0 0 (zA ad n rest s.heap.size), (D, aC, ad, rest), zA ad n rest s.heap.size) rfl rfl
    ⟨⟨B.exec, B.bytes⟩, hml, hown, fun w hw => hts w (List.mem_cons_of_mem _ hw), hK, hN, B.notSynchronized, fun q hq => Or.inr (Or.inr hq), rfl, Nat.zero_le _, Nat.zero_le _⟩ ⟨hs1, hs2, hs3⟩ ⟨B.returns, rfl⟩ s.heap [] _ hP hD va_S.rf hl
theorem z_blindS {D : va_G} {aC : Nat → ClassId} {ad : Nat → Nat} {rest : va_W} {sz b L : Nat} {xs : Nat → Int32} {av : List Value} : FrameBlind (va_Pc av (zPcS ad D aC rest n sh st sz b L xs)) := fun a U g mk q => by
  obtain ⟨q0, ⟨q1, q2, q3, q4, q5⟩, q6, q7, q8⟩ := q
  exact ⟨q0, ⟨q1, q2, va_K.moved (u := U) (U := U.calling g mk a) (Vm.Alike.refl U.vm) q3, q4, zNs.moved q5 rfl⟩, va_X.moved (u := U) (U := U.calling g mk a) (Vm.Alike.refl U.vm) q6, q7, q8⟩
theorem z_preS (hX : zOk X own cc rm) {b L : Nat} {xs : Nat → Int32} (hs : zScr X b L xs) {H : Heap} {locs : List Loc} (hP : va_P X.D vwCl (zgw n sh X.ad X.aC st ++ X.rest) H) (hD : va_D X.A (zgw n sh X.ad X.aC st ++ X.rest)) (hS : va_S X.A X.s.heap H locs) {av : List Value} {a : Array Value} (ha : a = av.toArray) : ∀ U : State, U.heap = H → X.s.WarmedH U.vm → va_Pc av (zPcS X.ad X.D X.aC X.rest n sh st H.size b L xs) a U := fun U hU hW => by
  obtain ⟨h1, h2⟩ := z_pre hX hP hD ha U hU hW
  refine ⟨h1, h2, ?_⟩
  rw [hU]
  exact ⟨va_X.moved hW.alike (hs.1.kept (hS.2.1 b hs.2.1 hs.2.2)), Nat.lt_of_lt_of_le hs.2.1 hS.1, fun q => hs.2.2 (zA_sub hD (fun q hq => hX.2.2.2.2.2.2.2.1 q (Nat.le_trans hS.1 hq)) b q)⟩
theorem z_callSS (hX : zOk X own cc rm) {b L : Nat} {xs : Nat → Int32} (hs : zScr X b L xs) (hc : zMetS X.l y cc' mL' ret' rm' n sh b L xs av st rv u) (hy : zCalS y cc' mL' ret' na) (hdg : decode cc pc = .ok (.invokestatic index, 3)) (hw : Cond.methodLink own index y ∈ tables_1) (hav : av X.ad = As) (hst : stk0 = As.reverse ++ stk) (hna : As.length = na) (hR : rm'.frames + 1 ≤ rm.frames ∧ 8 + (mL' + 11) + rm'.locals ≤ rm.locals) (hrc : rm'.cells = 0 ∧ rm'.slots = 0) (hcat : (stk.map fun v => v.category).sum ≤ 8) (hk : (rv X.ad).toList ++ stk = stk') (kk : zG n sh X u (pc + 3) lv stk') : zG n sh X st pc lv stk0 := fun H locs ls hP hD hS hl => by
  have hR2 : rm'.frames + 1 ≤ X.R.frames ∧ 8 + (mL' + 11) + rm'.locals ≤ X.R.locals := by rw [hX.2.2.2.2.2.2.2.2.1]; exact hR
  have hcb := callB_of (R := X.R) (own := own) (index := index) na hX.2.2.2.1 (zgoodc hy.2.2.1) rfl hrc.1 hrc.2 (hX.t hy.2.1 rfl) (hX.t hw rfl) hy.2.2.2 hR2
  have hM := hc X.D X.aC X.ad X.rest H.size
  rw [hav] at hM
  exact z_back hX hP hD hS hl (va_runS (As := As) (rest := stk) (g := F0 X.m pc ls stk0) ⟨hX.1.1, hX.1.2, hX.2.1, hX.2.2.1, hX.2.2.2.1⟩ hM ⟨hcb, hX.t hy.1 rfl⟩ ⟨z_blindS, z_preS hX hs hP hD hS rfl⟩ rfl hna hl.1 hst (lv_room hcat) hdg hX.2.2.2.2.2.2.2.2.2) (by rw [hk]; exact kk)
end ZL
