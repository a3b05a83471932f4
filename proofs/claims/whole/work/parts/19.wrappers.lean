/-! the law's wrappers: try, catch; both ways they return -/
abbrev zbump (X : zCx) : zCx := (X.1, X.2.1, (X.meth, X.c, X.cells + 1, X.slots + 6, X.nL), X.Q, X.2.2.2.2)
def zOkW (X : zCx) (own : String) (cc : ByteArray) (rm : Room) (hh : List (Nat × Nat × Nat × Nat)) : Prop := zOk X own cc rm ∧ zXs X.A X.s X.s.heap ∧ X.c.exceptionTable.toList = tableOf hh ∧ X.l.stackTraces = false ∧ (X.cells = 0 ∧ X.slots = 0) ∧ (1 ≤ rm.cells ∧ 6 ≤ rm.slots)
def zMetW (l : Launch) (y : MethodName) (cc : ByteArray) (mL : Nat) (ret : Option FieldType) (hh : List (Nat × Nat × Nat × Nat)) (rm : Room) (n : Nat) (sh : Nat → zShp) (av : (Nat → Nat) → List Value) (st : zSt) (rv : (Nat → Nat) → Option Value) (u : zSt) : Prop :=
  ∀ (D : va_G) (aC : Nat → ClassId) (ad : Nat → Nat) (rest : va_W) (sz : Nat), Met l y (.codeWith y cc mL ret hh :: zWL) rm (va_Pc (av ad) (zInX D aC ad rest n sh st sz)) (zQ (rv ad) (zOut D aC ad rest n sh (zA ad n rest sz) u) (zA ad n rest sz)) 1 6 (zA ad n rest sz)
theorem zmetW_of {l : Launch} {y : MethodName} {cc : ByteArray} {mL : Nat} {ret : Option FieldType} {hh : List (Nat × Nat × Nat × Nat)} {rm : Room} {n : Nat} {sh : Nat → zShp} {av : (Nat → Nat) → List Value} {st : zSt} {rv : (Nat → Nat) → Option Value} {u : zSt} (hfl : l.stackTraces = false) (hcw : Cond.codeWith y cc mL ret hh ∈ tables_1)
    (hy : plainName y.cls = true) (hn : ∀ ad, (lg_sl (av ad)).length ≤ mL) (hrm : 1 ≤ rm.cells ∧ 6 ≤ rm.slots)
    (h : ∀ X : zCx, X.l = l → X.nL = mL → zOkW X y.cls cc rm hh → zPost (zbump X) n sh ret (rv X.ad) u → zG n sh X st 0 (lv_args 0 (av X.ad)) []) : zMetW l y cc mL ret hh rm n sh av st rv u := by
  intro D aC ad rest sz
  refine va_MetW (cc := cc) (maxL := mL) (ret := ret) (hh := hh) hy rfl ?_
  intro p e s m args below meth c s₁ B hml hv
  obtain ⟨rfl, ⟨hsz, hP, hK, hD0, hN⟩, hZ⟩ := hv
  subst hsz
  have hts := atoms_spec (ws := .codeWith y cc mL ret hh :: zWL) B.pre
  have hown : s.vm.findClass y.cls = some m.cls := findClass_of_methodNamed B.named
  have hD := zA_self (sz := s.heap.size) hD0
  have hl := lv_entry (av ad) (n := mL) (hn ad)
  have htab : c.exceptionTable.toList = tableOf hh := vx_table (x := y) B (hts _ List.mem_cons_self)
  rw [lg_entry_eq]
  exact h ((p, l, e, rm), (s, m, (av ad).toArray, below), (meth, c, 0, 0, mL), MQ below (zQ (rv ad) (zOut D aC ad rest n sh (zA ad n rest s.heap.size) u) (zA ad n rest s.heap.size)) (av ad).toArray s 1 6 (zA ad n rest s.heap.size), (D, aC, ad, rest), zA ad n rest s.heap.size) rfl rfl
    ⟨⟨⟨B.exec, B.bytes⟩, hml, hown, fun w hw => hts w (List.mem_cons_of_mem _ hw), hK, hN, B.notSynchronized, fun q hq => Or.inr (Or.inr hq), rfl, Nat.zero_le _, Nat.zero_le _⟩, hZ, htab, hfl, ⟨rfl, rfl⟩, hrm⟩ ⟨B.returns, rfl⟩ s.heap [] _ hP hD va_S.rf hl
section ZW
variable {X : zCx} {own : String} {cc : ByteArray} {rm : Room} {hh : List (Nat × Nat × Nat × Nat)} {pc : Nat} {lv : List (Nat × Value)} {stk : List Value} {n : Nat} {sh : Nat → zShp} {st u : zSt} {k : Nat}
theorem zOkW.bump (hX : zOkW X own cc rm hh) : zOk (zbump X) own cc rm := ⟨hX.1.1, hX.1.2.1, hX.1.2.2.1, hX.1.2.2.2.1, hX.1.2.2.2.2.1, hX.1.2.2.2.2.2.1, hX.1.2.2.2.2.2.2.1, hX.1.2.2.2.2.2.2.2.1, hX.1.2.2.2.2.2.2.2.2.1, by show X.cells + 1 ≤ X.R.cells; rw [hX.2.2.2.2.1.1, hX.1.2.2.2.2.2.2.2.2.1]; exact hX.2.2.2.2.2.1, by show X.slots + 6 ≤ X.R.slots; rw [hX.2.2.2.2.1.2, hX.1.2.2.2.2.2.2.2.2.1]; exact hX.2.2.2.2.2.2⟩
theorem z_widen (kk : zG n sh (zbump X) st pc lv stk) : zG n sh X st pc lv stk := fun H locs ls hP hD hS hl => W.widen (Nat.le_succ _) (Nat.le_add_right _ _) (kk H locs ls hP hD hS hl)
variable {y : MethodName} {cc' : ByteArray} {mL' : Nat} {ret' : Option FieldType} {rm' : Room} {av : (Nat → Nat) → List Value} {index na : Nat} {As stk0 : List Value}
theorem z_catchV (hX : zOkW X own cc rm hh) (pre : List ExceptionTableEntry) (x : ExceptionTableEntry) (suf : List ExceptionTableEntry) (hc : zMx X.l y cc' mL' ret' rm' n sh av st k u) (hy : zCal y cc' mL' ret' na) (b : Nat) {ci : Nat} {L : List Nat} {T : u_T} {N : Nat} (hdg : decode cc pc = .ok (.invokevirtual index, 3)) (hw : Cond.methodLink own index y ∈ tables_1) (hb : b < n) (hsb : sh b = .inl (ci, L)) (hcl : vwCl[ci]? = some (y.cls, T, N)) (hav : av X.ad = .ref (X.ad b) :: As) (hst : stk0 = As.reverse ++ .ref (X.ad b) :: stk) (hna : As.length = na) (hR : rm'.frames + 1 ≤ rm.frames ∧ 8 + (mL' + 11) + rm'.locals ≤ rm.locals) (hrc : rm'.cells = 1 ∧ rm'.slots = 6) (hcat : (stk.map fun v => v.category).sum ≤ 8)
    (hsplit : tableOf hh = pre ++ x :: suf) (hpass : ∀ z ∈ pre, covers z pc = false ∨ (z.catchType ≠ 0 ∧ ∃ nm : String, (Cond.classLink own z.catchType nm).before X.args X.s = true ∧ va_Nc (zEx k) nm X.s)) (hcov : covers x pc = true) (h0 : x.catchType ≠ 0) (hlink : Cond.classLink own x.catchType (zEx k) ∈ tables_1) (hcast : Cond.castable (zEx k) (zEx k) ∈ tables_1) (kk : ∀ q : Nat, zG n sh (zbump X) u x.handlerPc lv [.ref q]) : zG n sh X st pc lv stk0 := fun H locs ls hP hD hS hl => by
  have hR2 : rm'.frames + 1 ≤ X.R.frames ∧ 8 + (mL' + 11) + rm'.locals ≤ X.R.locals := by rw [hX.1.2.2.2.2.2.2.2.2.1]; exact hR
  have hcb := callB_of (R := X.R) (own := own) (index := index) na hX.1.2.2.2.1 (zgoodc hy.2.2.2.1) rfl hrc.1 hrc.2 (hX.1.t hy.2.2.1 rfl) (hX.1.t hw rfl) hy.2.2.2.2 hR2
  have hM := hc X.D X.aC X.ad X.rest H.size
  rw [hav] at hM
  have hA : ∀ q, zA X.ad n X.rest H.size q → X.A q := zA_sub hD (fun q hq => hX.1.2.2.2.2.2.2.2.1 q (Nat.le_trans hS.1 hq))
  have hr := vx_runV (As := As) (rest := stk) (g := F0 X.m pc ls stk0) (locs := locs) (cells := X.cells) (slots := X.slots) (p := X.p) (e := X.e) (below := X.below) (meth := X.meth) ⟨hX.1.1.1, hX.1.1.2, hX.1.2.1, hX.1.2.2.1, hX.1.2.2.2.1⟩ hM ⟨hcb, hX.1.t hy.1 rfl, hX.1.w hy.2.1⟩ ⟨z_blindX, va_recv hX.1.2.2.2.2.1 hP hcl (zgw_at hb (by rw [hsb]; rfl)), z_preX hX.1 hX.2.1 hP hD hS rfl⟩ rfl hna hl.1 hst (lv_room hcat) hdg ⟨by rw [hX.2.2.2.2.1.1, hX.1.2.2.2.2.2.2.2.2.1]; exact hX.2.2.2.2.2.1, by rw [hX.2.2.2.2.1.2, hX.1.2.2.2.2.2.2.2.2.1]; exact hX.2.2.2.2.2.2⟩
  refine vx_callv hr hS (fun q _ h => h.elim) hA (fun q _ h => hA q h) (fun E ce q9 _ t H1 locs1 ht hvm _ hB hz hk hS1 hq hce hE => ?_) (fun _ _ _ _ _ _ hpost => hpost.elim)
  obtain ⟨rfl, hB1, hB2⟩ := hB
  refine vx_catch hX.1.2.2.1 pre x suf (hX.2.2.1.trans hsplit) hpass hcov h0 (hX.1.t hlink rfl) (hX.1.nb hcast rfl) hq hce hE ?_
  exact kk q9 H1 locs1 ls (by rw [← ht]; exact hB1) (hB2.weaken (fun _ _ _ h => hA _ h)) hS1 hl
theorem z_npass (hX : zOkW X own cc rm hh) {z : ExceptionTableEntry} (i : Nat) (h0 : z.catchType ≠ 0) (hl : Cond.classLink own z.catchType (zEx i) ∈ tables_1) (hk : 1 ≤ k ∧ k ≤ 4 ∧ 1 ≤ i ∧ i ≤ 4 ∧ k ≠ i) : covers z pc = false ∨ (z.catchType ≠ 0 ∧ ∃ nm : String, (Cond.classLink own z.catchType nm).before X.args X.s = true ∧ va_Nc (zEx k) nm X.s) := Or.inr ⟨h0, zEx i, hX.1.t hl rfl, hX.2.1.2 k i hk.1 hk.2.1 hk.2.2.1 hk.2.2.2.1 hk.2.2.2.2⟩
theorem z_astoreA {ws : va_W} (hX : zOk X own cc rm) {i q : Nat} (hdg : decode cc pc = .ok (.astore i, 2)) (hn : i < X.nL) (kk : zGw X ws (pc + 2) [] stk) : zGw X ws pc lv (.ref q :: stk) := fun H locs ls hP hD hS hl => lv_astore hX.1.1 hX.1.2 hdg hl hn rfl (fun ls' h' => kk H locs ls' hP hD hS ⟨h'.1, h'.2.1, fun q h => absurd h List.not_mem_nil⟩)
theorem z_astoreA_n {ws : va_W} (hX : zOk X own cc rm) {k : Fin 4} {i q : Nat} (hdg : decode cc pc = .ok (.astore_n k, 1)) (hi : (k : Nat) = i) (hn : i < X.nL) (kk : zGw X ws (pc + 1) [] stk) : zGw X ws pc lv (.ref q :: stk) := fun H locs ls hP hD hS hl => lv_astore_n hX.1.1 hX.1.2 hdg hi hl hn rfl (fun ls' h' => kk H locs ls' hP hD hS ⟨h'.1, h'.2.1, fun q h => absurd h List.not_mem_nil⟩)
end ZW
abbrev zr_L_ship : Room := { frames := 8, cells := 1, slots := 6, locals := 139 }
def f_L_ship (st : zSt) (a1 : Int32) (a2 : Int32) (a3 : Int32) (a4 : Int32) (a5 : Int32) (a6 : Int32) : Option (Int32 × zSt) := ((f_X6_ship st a1 a2 a3 a4 a5 a6).bind fun q1 => (zlet (zwL q1.2 98 (0 : Int32).toNatClampNeg ((q1.1).toInt64)) fun s4 => some (0, s4)))
set_option maxHeartbeats 4000000 in
set_option maxRecDepth 100000 in
theorem t_L_ship (X : zCx) (out : Int32 × zSt) (hX : zOk X RL cL_ship zr_L_ship) (hQ : zPost X 99 shC (some .int) (some (.int out.1)) out.2) (hnl : X.nL = 9) (st : zSt) (a1 : Int32) (a2 : Int32) (a3 : Int32) (a4 : Int32) (a5 : Int32) (a6 : Int32) (hf : f_L_ship st a1 a2 a3 a4 a5 a6 = some out) : zG 99 shC X st 0 [(0, .ref (X.ad 0)), (1, .int a1), (2, .int a2), (3, .int a3), (4, .int a4), (5, .int a5), (6, .int a6), (7, .ref (X.ad 98))] [] := by
  unfold f_L_ship at hf
  refine z_aload hX 7 dL_ship_0 rfl ?_
  refine z_iconst (v := 0) hX dL_ship_2 (by decide) ?_
  refine z_aload_n hX 0 dL_ship_3 rfl rfl ?_
  refine z_iload_n hX 1 dL_ship_4 rfl rfl ?_
  refine z_iload_n hX 2 dL_ship_5 rfl rfl ?_
  refine z_iload_n hX 3 dL_ship_6 rfl rfl ?_
  refine z_iload hX 4 dL_ship_7 rfl ?_
  refine z_iload hX 5 dL_ship_9 rfl ?_
  refine z_iload hX 6 dL_ship_11 rfl ?_
  obtain ⟨q1, e2, hf⟩ := zbind hf
  refine z_callV (stk := [.int 0, .ref (X.ad 98)]) (stk' := [.int q1.1, .int 0, .ref (X.ad 98)]) hX (c_X6_ship X.l st a1 a2 a3 a4 a5 a6 q1 e2) zb_X6_ship 0 dL_ship_13 zm_313 (by decide) shC_0 rfl rfl rfl rfl ⟨by decide, by decide⟩ ⟨rfl, rfl⟩ (Nat.le_of_ble_eq_true rfl) rfl ?_
  refine z_i2l hX dL_ship_16 ?_
  refine z_last hX 98 dL_ship_17 (by decide) shC_98 (show zin 0 1 by decide) ?_
  obtain ⟨s4, h5, hf⟩ := zlet_ex hf
  refine z_name h5 ?_
  refine z_goto hX 33 dL_ship_18 (by decide) ?_
  refine z_iconst (v := 0) hX dL_ship_33 (by decide) ?_
  obtain rfl := Option.some.inj hf
  exact z_iret hX hQ dL_ship_34 rfl
abbrev zh_L_ship : List (Nat × Nat × Nat × Nat) := [(0, 18, 21, 13), (0, 18, 25, 15), (0, 18, 29, 17)]
theorem cw_L_ship (l : Launch) (hfl : l.stackTraces = false) (st : zSt) (a1 : Int32) (a2 : Int32) (a3 : Int32) (a4 : Int32) (a5 : Int32) (a6 : Int32) (out : Int32 × zSt) (hf : f_L_ship st a1 a2 a3 a4 a5 a6 = some out) : zMetW l yL_ship cL_ship 9 (some .int) zh_L_ship zr_L_ship 99 shC (fun ad => [.ref (ad 0), .int a1, .int a2, .int a3, .int a4, .int a5, .int a6, .ref (ad 98)]) st (fun _ => some (.int out.1)) out.2 :=
  zmetW_of hfl zm_309 (by decide) (fun _ => Nat.le_of_ble_eq_true rfl) (by decide) (fun X _ hnl hX hQ => z_widen (t_L_ship (zbump X) out hX.bump hQ hnl st a1 a2 a3 a4 a5 a6 hf))
theorem zbW_L_ship : Cond.static yL_ship ∈ tables_1 ∧ Cond.initialized yL_ship.cls ∈ tables_1 ∧ Cond.codeWith yL_ship cL_ship 9 (some .int) zh_L_ship ∈ tables_1 ∧ (yL_ship.cls ≠ "java/lang/invoke/MethodHandle" ∧ yL_ship.cls ≠ "java/lang/invoke/VarHandle" ∧ (parseMethodDescriptor yL_ship.desc).map (fun d => d.parameters.length) = some 8) := ⟨zm_308, zm_0, zm_309, by decide, by decide, rfl⟩
set_option maxHeartbeats 4000000 in
set_option maxRecDepth 100000 in
theorem cwx_L_ship_1 (l : Launch) (hfl : l.stackTraces = false) (st : zSt) (a1 : Int32) (a2 : Int32) (a3 : Int32) (a4 : Int32) (a5 : Int32) (a6 : Int32) (u : zSt) (hf : fx_X6_ship st a1 a2 a3 a4 a5 a6 = some (1, u)) : zMetW l yL_ship cL_ship 9 (some .int) zh_L_ship zr_L_ship 99 shC (fun ad => [.ref (ad 0), .int a1, .int a2, .int a3, .int a4, .int a5, .int a6, .ref (ad 98)]) st (fun _ => some (.int 1)) u := by
  refine zmetW_of hfl zm_309 (by decide) (fun _ => Nat.le_of_ble_eq_true rfl) (by decide) (fun X _ hnl hX hQ => ?_)
  show zG 99 shC X st 0 [(0, .ref (X.ad 0)), (1, .int a1), (2, .int a2), (3, .int a3), (4, .int a4), (5, .int a5), (6, .int a6), (7, .ref (X.ad 98))] []
  refine z_aload hX.1 7 dL_ship_0 rfl ?_
  refine z_iconst (v := 0) hX.1 dL_ship_2 (by decide) ?_
  refine z_aload_n hX.1 0 dL_ship_3 rfl rfl ?_
  refine z_iload_n hX.1 1 dL_ship_4 rfl rfl ?_
  refine z_iload_n hX.1 2 dL_ship_5 rfl rfl ?_
  refine z_iload_n hX.1 3 dL_ship_6 rfl rfl ?_
  refine z_iload hX.1 4 dL_ship_7 rfl ?_
  refine z_iload hX.1 5 dL_ship_9 rfl ?_
  refine z_iload hX.1 6 dL_ship_11 rfl ?_
  refine z_catchV (k := 1) (stk := [.int 0, .ref (X.ad 98)]) hX [] ⟨0, 18, 21, 13⟩ [⟨0, 18, 25, 15⟩, ⟨0, 18, 29, 17⟩] (cx_X6_ship X.l hX.2.2.2.1 st a1 a2 a3 a4 a5 a6 (1, u) hf) zb_X6_ship 0 dL_ship_13 zm_313 (by decide) shC_0 rfl rfl rfl rfl ⟨by decide, by decide⟩ ⟨rfl, rfl⟩ (Nat.le_of_ble_eq_true rfl) rfl (fun z hz => absurd hz List.not_mem_nil) (by decide) (by decide) zm_310 zm_322 (fun q => ?_)
  refine z_astoreA hX.bump dL_ship_21 (by show 8 < X.nL; rw [hnl]; decide) ?_
  refine z_iconst (v := 1) hX.bump dL_ship_23 (by decide) ?_
  exact z_iret hX.bump hQ dL_ship_24 rfl
set_option maxHeartbeats 4000000 in
set_option maxRecDepth 100000 in
theorem cwx_L_ship_2 (l : Launch) (hfl : l.stackTraces = false) (st : zSt) (a1 : Int32) (a2 : Int32) (a3 : Int32) (a4 : Int32) (a5 : Int32) (a6 : Int32) (u : zSt) (hf : fx_X6_ship st a1 a2 a3 a4 a5 a6 = some (2, u)) : zMetW l yL_ship cL_ship 9 (some .int) zh_L_ship zr_L_ship 99 shC (fun ad => [.ref (ad 0), .int a1, .int a2, .int a3, .int a4, .int a5, .int a6, .ref (ad 98)]) st (fun _ => some (.int 2)) u := by
  refine zmetW_of hfl zm_309 (by decide) (fun _ => Nat.le_of_ble_eq_true rfl) (by decide) (fun X _ hnl hX hQ => ?_)
  show zG 99 shC X st 0 [(0, .ref (X.ad 0)), (1, .int a1), (2, .int a2), (3, .int a3), (4, .int a4), (5, .int a5), (6, .int a6), (7, .ref (X.ad 98))] []
  refine z_aload hX.1 7 dL_ship_0 rfl ?_
  refine z_iconst (v := 0) hX.1 dL_ship_2 (by decide) ?_
  refine z_aload_n hX.1 0 dL_ship_3 rfl rfl ?_
  refine z_iload_n hX.1 1 dL_ship_4 rfl rfl ?_
  refine z_iload_n hX.1 2 dL_ship_5 rfl rfl ?_
  refine z_iload_n hX.1 3 dL_ship_6 rfl rfl ?_
  refine z_iload hX.1 4 dL_ship_7 rfl ?_
  refine z_iload hX.1 5 dL_ship_9 rfl ?_
  refine z_iload hX.1 6 dL_ship_11 rfl ?_
  refine z_catchV (k := 2) (stk := [.int 0, .ref (X.ad 98)]) hX [⟨0, 18, 21, 13⟩] ⟨0, 18, 25, 15⟩ [⟨0, 18, 29, 17⟩] (cx_X6_ship X.l hX.2.2.2.1 st a1 a2 a3 a4 a5 a6 (2, u) hf) zb_X6_ship 0 dL_ship_13 zm_313 (by decide) shC_0 rfl rfl rfl rfl ⟨by decide, by decide⟩ ⟨rfl, rfl⟩ (Nat.le_of_ble_eq_true rfl) rfl (List.forall_mem_cons.mpr ⟨z_npass hX 1 (by decide) zm_310 (by decide), fun z hz => absurd hz List.not_mem_nil⟩) (by decide) (by decide) zm_311 zm_392 (fun q => ?_)
  refine z_astoreA hX.bump dL_ship_25 (by show 8 < X.nL; rw [hnl]; decide) ?_
  refine z_iconst (v := 2) hX.bump dL_ship_27 (by decide) ?_
  exact z_iret hX.bump hQ dL_ship_28 rfl
set_option maxHeartbeats 4000000 in
set_option maxRecDepth 100000 in
theorem cwx_L_ship_3 (l : Launch) (hfl : l.stackTraces = false) (st : zSt) (a1 : Int32) (a2 : Int32) (a3 : Int32) (a4 : Int32) (a5 : Int32) (a6 : Int32) (u : zSt) (hf : fx_X6_ship st a1 a2 a3 a4 a5 a6 = some (3, u)) : zMetW l yL_ship cL_ship 9 (some .int) zh_L_ship zr_L_ship 99 shC (fun ad => [.ref (ad 0), .int a1, .int a2, .int a3, .int a4, .int a5, .int a6, .ref (ad 98)]) st (fun _ => some (.int 3)) u := by
  refine zmetW_of hfl zm_309 (by decide) (fun _ => Nat.le_of_ble_eq_true rfl) (by decide) (fun X _ hnl hX hQ => ?_)
  show zG 99 shC X st 0 [(0, .ref (X.ad 0)), (1, .int a1), (2, .int a2), (3, .int a3), (4, .int a4), (5, .int a5), (6, .int a6), (7, .ref (X.ad 98))] []
  refine z_aload hX.1 7 dL_ship_0 rfl ?_
  refine z_iconst (v := 0) hX.1 dL_ship_2 (by decide) ?_
  refine z_aload_n hX.1 0 dL_ship_3 rfl rfl ?_
  refine z_iload_n hX.1 1 dL_ship_4 rfl rfl ?_
  refine z_iload_n hX.1 2 dL_ship_5 rfl rfl ?_
  refine z_iload_n hX.1 3 dL_ship_6 rfl rfl ?_
  refine z_iload hX.1 4 dL_ship_7 rfl ?_
  refine z_iload hX.1 5 dL_ship_9 rfl ?_
  refine z_iload hX.1 6 dL_ship_11 rfl ?_
  refine z_catchV (k := 3) (stk := [.int 0, .ref (X.ad 98)]) hX [⟨0, 18, 21, 13⟩, ⟨0, 18, 25, 15⟩] ⟨0, 18, 29, 17⟩ [] (cx_X6_ship X.l hX.2.2.2.1 st a1 a2 a3 a4 a5 a6 (3, u) hf) zb_X6_ship 0 dL_ship_13 zm_313 (by decide) shC_0 rfl rfl rfl rfl ⟨by decide, by decide⟩ ⟨rfl, rfl⟩ (Nat.le_of_ble_eq_true rfl) rfl (List.forall_mem_cons.mpr ⟨z_npass hX 1 (by decide) zm_310 (by decide), List.forall_mem_cons.mpr ⟨z_npass hX 2 (by decide) zm_311 (by decide), fun z hz => absurd hz List.not_mem_nil⟩⟩) (by decide) (by decide) zm_312 zm_410 (fun q => ?_)
  refine z_astoreA hX.bump dL_ship_29 (by show 8 < X.nL; rw [hnl]; decide) ?_
  refine z_iconst (v := 3) hX.bump dL_ship_31 (by decide) ?_
  exact z_iret hX.bump hQ dL_ship_32 rfl
abbrev zr_L_fill : Room := { frames := 9, cells := 1, slots := 6, locals := 155 }
def f_L_fill (st : zSt) (a1 : Int32) (a2 : Int32) : Option (Int32 × zSt) := ((f_X6_fill st a1 a2).bind fun q1 => (zlet (zwL q1.2 98 (0 : Int32).toNatClampNeg ((q1.1).toInt64)) fun s4 => some (0, s4)))
set_option maxHeartbeats 4000000 in
set_option maxRecDepth 100000 in
theorem t_L_fill (X : zCx) (out : Int32 × zSt) (hX : zOk X RL cL_fill zr_L_fill) (hQ : zPost X 99 shC (some .int) (some (.int out.1)) out.2) (hnl : X.nL = 5) (st : zSt) (a1 : Int32) (a2 : Int32) (hf : f_L_fill st a1 a2 = some out) : zG 99 shC X st 0 [(0, .ref (X.ad 0)), (1, .int a1), (2, .int a2), (3, .ref (X.ad 98))] [] := by
  unfold f_L_fill at hf
  refine z_aload_n hX 3 dL_fill_0 rfl rfl ?_
  refine z_iconst (v := 0) hX dL_fill_1 (by decide) ?_
  refine z_aload_n hX 0 dL_fill_2 rfl rfl ?_
  refine z_iload_n hX 1 dL_fill_3 rfl rfl ?_
  refine z_iload_n hX 2 dL_fill_4 rfl rfl ?_
  obtain ⟨q1, e2, hf⟩ := zbind hf
  refine z_callV (stk := [.int 0, .ref (X.ad 98)]) (stk' := [.int q1.1, .int 0, .ref (X.ad 98)]) hX (c_X6_fill X.l st a1 a2 q1 e2) zb_X6_fill 0 dL_fill_5 zm_430 (by decide) shC_0 rfl rfl rfl rfl ⟨by decide, by decide⟩ ⟨rfl, rfl⟩ (Nat.le_of_ble_eq_true rfl) rfl ?_
  refine z_i2l hX dL_fill_8 ?_
  refine z_last hX 98 dL_fill_9 (by decide) shC_98 (show zin 0 1 by decide) ?_
  obtain ⟨s4, h5, hf⟩ := zlet_ex hf
  refine z_name h5 ?_
  refine z_goto hX 25 dL_fill_10 (by decide) ?_
  refine z_iconst (v := 0) hX dL_fill_25 (by decide) ?_
  obtain rfl := Option.some.inj hf
  exact z_iret hX hQ dL_fill_26 rfl
abbrev zh_L_fill : List (Nat × Nat × Nat × Nat) := [(0, 10, 13, 13), (0, 10, 17, 15), (0, 10, 21, 17)]
theorem cw_L_fill (l : Launch) (hfl : l.stackTraces = false) (st : zSt) (a1 : Int32) (a2 : Int32) (out : Int32 × zSt) (hf : f_L_fill st a1 a2 = some out) : zMetW l yL_fill cL_fill 5 (some .int) zh_L_fill zr_L_fill 99 shC (fun ad => [.ref (ad 0), .int a1, .int a2, .ref (ad 98)]) st (fun _ => some (.int out.1)) out.2 :=
  zmetW_of hfl zm_429 (by decide) (fun _ => Nat.le_of_ble_eq_true rfl) (by decide) (fun X _ hnl hX hQ => z_widen (t_L_fill (zbump X) out hX.bump hQ hnl st a1 a2 hf))
theorem zbW_L_fill : Cond.static yL_fill ∈ tables_1 ∧ Cond.initialized yL_fill.cls ∈ tables_1 ∧ Cond.codeWith yL_fill cL_fill 5 (some .int) zh_L_fill ∈ tables_1 ∧ (yL_fill.cls ≠ "java/lang/invoke/MethodHandle" ∧ yL_fill.cls ≠ "java/lang/invoke/VarHandle" ∧ (parseMethodDescriptor yL_fill.desc).map (fun d => d.parameters.length) = some 4) := ⟨zm_428, zm_0, zm_429, by decide, by decide, rfl⟩
set_option maxHeartbeats 4000000 in
set_option maxRecDepth 100000 in
theorem cwx_L_fill_1 (l : Launch) (hfl : l.stackTraces = false) (st : zSt) (a1 : Int32) (a2 : Int32) (u : zSt) (hf : fx_X6_fill st a1 a2 = some (1, u)) : zMetW l yL_fill cL_fill 5 (some .int) zh_L_fill zr_L_fill 99 shC (fun ad => [.ref (ad 0), .int a1, .int a2, .ref (ad 98)]) st (fun _ => some (.int 1)) u := by
  refine zmetW_of hfl zm_429 (by decide) (fun _ => Nat.le_of_ble_eq_true rfl) (by decide) (fun X _ hnl hX hQ => ?_)
  show zG 99 shC X st 0 [(0, .ref (X.ad 0)), (1, .int a1), (2, .int a2), (3, .ref (X.ad 98))] []
  refine z_aload_n hX.1 3 dL_fill_0 rfl rfl ?_
  refine z_iconst (v := 0) hX.1 dL_fill_1 (by decide) ?_
  refine z_aload_n hX.1 0 dL_fill_2 rfl rfl ?_
  refine z_iload_n hX.1 1 dL_fill_3 rfl rfl ?_
  refine z_iload_n hX.1 2 dL_fill_4 rfl rfl ?_
  refine z_catchV (k := 1) (stk := [.int 0, .ref (X.ad 98)]) hX [] ⟨0, 10, 13, 13⟩ [⟨0, 10, 17, 15⟩, ⟨0, 10, 21, 17⟩] (cx_X6_fill X.l hX.2.2.2.1 st a1 a2 (1, u) hf) zb_X6_fill 0 dL_fill_5 zm_430 (by decide) shC_0 rfl rfl rfl rfl ⟨by decide, by decide⟩ ⟨rfl, rfl⟩ (Nat.le_of_ble_eq_true rfl) rfl (fun z hz => absurd hz List.not_mem_nil) (by decide) (by decide) zm_310 zm_322 (fun q => ?_)
  refine z_astoreA hX.bump dL_fill_13 (by show 4 < X.nL; rw [hnl]; decide) ?_
  refine z_iconst (v := 1) hX.bump dL_fill_15 (by decide) ?_
  exact z_iret hX.bump hQ dL_fill_16 rfl
set_option maxHeartbeats 4000000 in
set_option maxRecDepth 100000 in
theorem cwx_L_fill_2 (l : Launch) (hfl : l.stackTraces = false) (st : zSt) (a1 : Int32) (a2 : Int32) (u : zSt) (hf : fx_X6_fill st a1 a2 = some (2, u)) : zMetW l yL_fill cL_fill 5 (some .int) zh_L_fill zr_L_fill 99 shC (fun ad => [.ref (ad 0), .int a1, .int a2, .ref (ad 98)]) st (fun _ => some (.int 2)) u := by
  refine zmetW_of hfl zm_429 (by decide) (fun _ => Nat.le_of_ble_eq_true rfl) (by decide) (fun X _ hnl hX hQ => ?_)
  show zG 99 shC X st 0 [(0, .ref (X.ad 0)), (1, .int a1), (2, .int a2), (3, .ref (X.ad 98))] []
  refine z_aload_n hX.1 3 dL_fill_0 rfl rfl ?_
  refine z_iconst (v := 0) hX.1 dL_fill_1 (by decide) ?_
  refine z_aload_n hX.1 0 dL_fill_2 rfl rfl ?_
  refine z_iload_n hX.1 1 dL_fill_3 rfl rfl ?_
  refine z_iload_n hX.1 2 dL_fill_4 rfl rfl ?_
  refine z_catchV (k := 2) (stk := [.int 0, .ref (X.ad 98)]) hX [⟨0, 10, 13, 13⟩] ⟨0, 10, 17, 15⟩ [⟨0, 10, 21, 17⟩] (cx_X6_fill X.l hX.2.2.2.1 st a1 a2 (2, u) hf) zb_X6_fill 0 dL_fill_5 zm_430 (by decide) shC_0 rfl rfl rfl rfl ⟨by decide, by decide⟩ ⟨rfl, rfl⟩ (Nat.le_of_ble_eq_true rfl) rfl (List.forall_mem_cons.mpr ⟨z_npass hX 1 (by decide) zm_310 (by decide), fun z hz => absurd hz List.not_mem_nil⟩) (by decide) (by decide) zm_311 zm_392 (fun q => ?_)
  refine z_astoreA hX.bump dL_fill_17 (by show 4 < X.nL; rw [hnl]; decide) ?_
  refine z_iconst (v := 2) hX.bump dL_fill_19 (by decide) ?_
  exact z_iret hX.bump hQ dL_fill_20 rfl
set_option maxHeartbeats 4000000 in
set_option maxRecDepth 100000 in
theorem cwx_L_fill_3 (l : Launch) (hfl : l.stackTraces = false) (st : zSt) (a1 : Int32) (a2 : Int32) (u : zSt) (hf : fx_X6_fill st a1 a2 = some (3, u)) : zMetW l yL_fill cL_fill 5 (some .int) zh_L_fill zr_L_fill 99 shC (fun ad => [.ref (ad 0), .int a1, .int a2, .ref (ad 98)]) st (fun _ => some (.int 3)) u := by
  refine zmetW_of hfl zm_429 (by decide) (fun _ => Nat.le_of_ble_eq_true rfl) (by decide) (fun X _ hnl hX hQ => ?_)
  show zG 99 shC X st 0 [(0, .ref (X.ad 0)), (1, .int a1), (2, .int a2), (3, .ref (X.ad 98))] []
  refine z_aload_n hX.1 3 dL_fill_0 rfl rfl ?_
  refine z_iconst (v := 0) hX.1 dL_fill_1 (by decide) ?_
  refine z_aload_n hX.1 0 dL_fill_2 rfl rfl ?_
  refine z_iload_n hX.1 1 dL_fill_3 rfl rfl ?_
  refine z_iload_n hX.1 2 dL_fill_4 rfl rfl ?_
  refine z_catchV (k := 3) (stk := [.int 0, .ref (X.ad 98)]) hX [⟨0, 10, 13, 13⟩, ⟨0, 10, 17, 15⟩] ⟨0, 10, 21, 17⟩ [] (cx_X6_fill X.l hX.2.2.2.1 st a1 a2 (3, u) hf) zb_X6_fill 0 dL_fill_5 zm_430 (by decide) shC_0 rfl rfl rfl rfl ⟨by decide, by decide⟩ ⟨rfl, rfl⟩ (Nat.le_of_ble_eq_true rfl) rfl (List.forall_mem_cons.mpr ⟨z_npass hX 1 (by decide) zm_310 (by decide), List.forall_mem_cons.mpr ⟨z_npass hX 2 (by decide) zm_311 (by decide), fun z hz => absurd hz List.not_mem_nil⟩⟩) (by decide) (by decide) zm_312 zm_410 (fun q => ?_)
  refine z_astoreA hX.bump dL_fill_21 (by show 4 < X.nL; rw [hnl]; decide) ?_
  refine z_iconst (v := 3) hX.bump dL_fill_23 (by decide) ?_
  exact z_iret hX.bump hQ dL_fill_24 rfl
abbrev zr_L_crew : Room := { frames := 8, cells := 1, slots := 6, locals := 136 }
def f_L_crew (st : zSt) (a1 : Int32) (a2 : Int32) (a3 : Int32) : Option (Int32 × zSt) := ((f_X6_crew st a1 a2 a3).bind fun q1 => (zlet (zwL q1.2 98 (0 : Int32).toNatClampNeg ((q1.1).toInt64)) fun s4 => some (0, s4)))
set_option maxHeartbeats 4000000 in
set_option maxRecDepth 100000 in
theorem t_L_crew (X : zCx) (out : Int32 × zSt) (hX : zOk X RL cL_crew zr_L_crew) (hQ : zPost X 99 shC (some .int) (some (.int out.1)) out.2) (hnl : X.nL = 6) (st : zSt) (a1 : Int32) (a2 : Int32) (a3 : Int32) (hf : f_L_crew st a1 a2 a3 = some out) : zG 99 shC X st 0 [(0, .ref (X.ad 0)), (1, .int a1), (2, .int a2), (3, .int a3), (4, .ref (X.ad 98))] [] := by
  unfold f_L_crew at hf
  refine z_aload hX 4 dL_crew_0 rfl ?_
  refine z_iconst (v := 0) hX dL_crew_2 (by decide) ?_
  refine z_aload_n hX 0 dL_crew_3 rfl rfl ?_
  refine z_iload_n hX 1 dL_crew_4 rfl rfl ?_
  refine z_iload_n hX 2 dL_crew_5 rfl rfl ?_
  refine z_iload_n hX 3 dL_crew_6 rfl rfl ?_
  obtain ⟨q1, e2, hf⟩ := zbind hf
  refine z_callV (stk := [.int 0, .ref (X.ad 98)]) (stk' := [.int q1.1, .int 0, .ref (X.ad 98)]) hX (c_X6_crew X.l st a1 a2 a3 q1 e2) zb_X6_crew 0 dL_crew_7 zm_437 (by decide) shC_0 rfl rfl rfl rfl ⟨by decide, by decide⟩ ⟨rfl, rfl⟩ (Nat.le_of_ble_eq_true rfl) rfl ?_
  refine z_i2l hX dL_crew_10 ?_
  refine z_last hX 98 dL_crew_11 (by decide) shC_98 (show zin 0 1 by decide) ?_
  obtain ⟨s4, h5, hf⟩ := zlet_ex hf
  refine z_name h5 ?_
  refine z_goto hX 27 dL_crew_12 (by decide) ?_
  refine z_iconst (v := 0) hX dL_crew_27 (by decide) ?_
  obtain rfl := Option.some.inj hf
  exact z_iret hX hQ dL_crew_28 rfl
abbrev zh_L_crew : List (Nat × Nat × Nat × Nat) := [(0, 12, 15, 13), (0, 12, 19, 15), (0, 12, 23, 17)]
theorem cw_L_crew (l : Launch) (hfl : l.stackTraces = false) (st : zSt) (a1 : Int32) (a2 : Int32) (a3 : Int32) (out : Int32 × zSt) (hf : f_L_crew st a1 a2 a3 = some out) : zMetW l yL_crew cL_crew 6 (some .int) zh_L_crew zr_L_crew 99 shC (fun ad => [.ref (ad 0), .int a1, .int a2, .int a3, .ref (ad 98)]) st (fun _ => some (.int out.1)) out.2 :=
  zmetW_of hfl zm_436 (by decide) (fun _ => Nat.le_of_ble_eq_true rfl) (by decide) (fun X _ hnl hX hQ => z_widen (t_L_crew (zbump X) out hX.bump hQ hnl st a1 a2 a3 hf))
theorem zbW_L_crew : Cond.static yL_crew ∈ tables_1 ∧ Cond.initialized yL_crew.cls ∈ tables_1 ∧ Cond.codeWith yL_crew cL_crew 6 (some .int) zh_L_crew ∈ tables_1 ∧ (yL_crew.cls ≠ "java/lang/invoke/MethodHandle" ∧ yL_crew.cls ≠ "java/lang/invoke/VarHandle" ∧ (parseMethodDescriptor yL_crew.desc).map (fun d => d.parameters.length) = some 5) := ⟨zm_435, zm_0, zm_436, by decide, by decide, rfl⟩
set_option maxHeartbeats 4000000 in
set_option maxRecDepth 100000 in
theorem cwx_L_crew_1 (l : Launch) (hfl : l.stackTraces = false) (st : zSt) (a1 : Int32) (a2 : Int32) (a3 : Int32) (u : zSt) (hf : fx_X6_crew st a1 a2 a3 = some (1, u)) : zMetW l yL_crew cL_crew 6 (some .int) zh_L_crew zr_L_crew 99 shC (fun ad => [.ref (ad 0), .int a1, .int a2, .int a3, .ref (ad 98)]) st (fun _ => some (.int 1)) u := by
  refine zmetW_of hfl zm_436 (by decide) (fun _ => Nat.le_of_ble_eq_true rfl) (by decide) (fun X _ hnl hX hQ => ?_)
  show zG 99 shC X st 0 [(0, .ref (X.ad 0)), (1, .int a1), (2, .int a2), (3, .int a3), (4, .ref (X.ad 98))] []
  refine z_aload hX.1 4 dL_crew_0 rfl ?_
  refine z_iconst (v := 0) hX.1 dL_crew_2 (by decide) ?_
  refine z_aload_n hX.1 0 dL_crew_3 rfl rfl ?_
  refine z_iload_n hX.1 1 dL_crew_4 rfl rfl ?_
  refine z_iload_n hX.1 2 dL_crew_5 rfl rfl ?_
  refine z_iload_n hX.1 3 dL_crew_6 rfl rfl ?_
  refine z_catchV (k := 1) (stk := [.int 0, .ref (X.ad 98)]) hX [] ⟨0, 12, 15, 13⟩ [⟨0, 12, 19, 15⟩, ⟨0, 12, 23, 17⟩] (cx_X6_crew X.l hX.2.2.2.1 st a1 a2 a3 (1, u) hf) zb_X6_crew 0 dL_crew_7 zm_437 (by decide) shC_0 rfl rfl rfl rfl ⟨by decide, by decide⟩ ⟨rfl, rfl⟩ (Nat.le_of_ble_eq_true rfl) rfl (fun z hz => absurd hz List.not_mem_nil) (by decide) (by decide) zm_310 zm_322 (fun q => ?_)
  refine z_astoreA hX.bump dL_crew_15 (by show 5 < X.nL; rw [hnl]; decide) ?_
  refine z_iconst (v := 1) hX.bump dL_crew_17 (by decide) ?_
  exact z_iret hX.bump hQ dL_crew_18 rfl
set_option maxHeartbeats 4000000 in
set_option maxRecDepth 100000 in
theorem cwx_L_crew_2 (l : Launch) (hfl : l.stackTraces = false) (st : zSt) (a1 : Int32) (a2 : Int32) (a3 : Int32) (u : zSt) (hf : fx_X6_crew st a1 a2 a3 = some (2, u)) : zMetW l yL_crew cL_crew 6 (some .int) zh_L_crew zr_L_crew 99 shC (fun ad => [.ref (ad 0), .int a1, .int a2, .int a3, .ref (ad 98)]) st (fun _ => some (.int 2)) u := by
  refine zmetW_of hfl zm_436 (by decide) (fun _ => Nat.le_of_ble_eq_true rfl) (by decide) (fun X _ hnl hX hQ => ?_)
  show zG 99 shC X st 0 [(0, .ref (X.ad 0)), (1, .int a1), (2, .int a2), (3, .int a3), (4, .ref (X.ad 98))] []
  refine z_aload hX.1 4 dL_crew_0 rfl ?_
  refine z_iconst (v := 0) hX.1 dL_crew_2 (by decide) ?_
  refine z_aload_n hX.1 0 dL_crew_3 rfl rfl ?_
  refine z_iload_n hX.1 1 dL_crew_4 rfl rfl ?_
  refine z_iload_n hX.1 2 dL_crew_5 rfl rfl ?_
  refine z_iload_n hX.1 3 dL_crew_6 rfl rfl ?_
  refine z_catchV (k := 2) (stk := [.int 0, .ref (X.ad 98)]) hX [⟨0, 12, 15, 13⟩] ⟨0, 12, 19, 15⟩ [⟨0, 12, 23, 17⟩] (cx_X6_crew X.l hX.2.2.2.1 st a1 a2 a3 (2, u) hf) zb_X6_crew 0 dL_crew_7 zm_437 (by decide) shC_0 rfl rfl rfl rfl ⟨by decide, by decide⟩ ⟨rfl, rfl⟩ (Nat.le_of_ble_eq_true rfl) rfl (List.forall_mem_cons.mpr ⟨z_npass hX 1 (by decide) zm_310 (by decide), fun z hz => absurd hz List.not_mem_nil⟩) (by decide) (by decide) zm_311 zm_392 (fun q => ?_)
  refine z_astoreA hX.bump dL_crew_19 (by show 5 < X.nL; rw [hnl]; decide) ?_
  refine z_iconst (v := 2) hX.bump dL_crew_21 (by decide) ?_
  exact z_iret hX.bump hQ dL_crew_22 rfl
set_option maxHeartbeats 4000000 in
set_option maxRecDepth 100000 in
theorem cwx_L_crew_3 (l : Launch) (hfl : l.stackTraces = false) (st : zSt) (a1 : Int32) (a2 : Int32) (a3 : Int32) (u : zSt) (hf : fx_X6_crew st a1 a2 a3 = some (3, u)) : zMetW l yL_crew cL_crew 6 (some .int) zh_L_crew zr_L_crew 99 shC (fun ad => [.ref (ad 0), .int a1, .int a2, .int a3, .ref (ad 98)]) st (fun _ => some (.int 3)) u := by
  refine zmetW_of hfl zm_436 (by decide) (fun _ => Nat.le_of_ble_eq_true rfl) (by decide) (fun X _ hnl hX hQ => ?_)
  show zG 99 shC X st 0 [(0, .ref (X.ad 0)), (1, .int a1), (2, .int a2), (3, .int a3), (4, .ref (X.ad 98))] []
  refine z_aload hX.1 4 dL_crew_0 rfl ?_
  refine z_iconst (v := 0) hX.1 dL_crew_2 (by decide) ?_
  refine z_aload_n hX.1 0 dL_crew_3 rfl rfl ?_
  refine z_iload_n hX.1 1 dL_crew_4 rfl rfl ?_
  refine z_iload_n hX.1 2 dL_crew_5 rfl rfl ?_
  refine z_iload_n hX.1 3 dL_crew_6 rfl rfl ?_
  refine z_catchV (k := 3) (stk := [.int 0, .ref (X.ad 98)]) hX [⟨0, 12, 15, 13⟩, ⟨0, 12, 19, 15⟩] ⟨0, 12, 23, 17⟩ [] (cx_X6_crew X.l hX.2.2.2.1 st a1 a2 a3 (3, u) hf) zb_X6_crew 0 dL_crew_7 zm_437 (by decide) shC_0 rfl rfl rfl rfl ⟨by decide, by decide⟩ ⟨rfl, rfl⟩ (Nat.le_of_ble_eq_true rfl) rfl (List.forall_mem_cons.mpr ⟨z_npass hX 1 (by decide) zm_310 (by decide), List.forall_mem_cons.mpr ⟨z_npass hX 2 (by decide) zm_311 (by decide), fun z hz => absurd hz List.not_mem_nil⟩⟩) (by decide) (by decide) zm_312 zm_410 (fun q => ?_)
  refine z_astoreA hX.bump dL_crew_23 (by show 5 < X.nL; rw [hnl]; decide) ?_
  refine z_iconst (v := 3) hX.bump dL_crew_25 (by decide) ?_
  exact z_iret hX.bump hQ dL_crew_26 rfl
abbrev zr_L_hours : Room := { frames := 8, cells := 1, slots := 6, locals := 133 }
def f_L_hours (st : zSt) (a1 : Int32) (a2 : Int32) : Option (Int32 × zSt) := ((f_X6_hours st a1 a2).bind fun q1 => (zlet (zwL q1.2 98 (0 : Int32).toNatClampNeg ((q1.1).toInt64)) fun s4 => some (0, s4)))
set_option maxHeartbeats 4000000 in
set_option maxRecDepth 100000 in
theorem t_L_hours (X : zCx) (out : Int32 × zSt) (hX : zOk X RL cL_hours zr_L_hours) (hQ : zPost X 99 shC (some .int) (some (.int out.1)) out.2) (hnl : X.nL = 5) (st : zSt) (a1 : Int32) (a2 : Int32) (hf : f_L_hours st a1 a2 = some out) : zG 99 shC X st 0 [(0, .ref (X.ad 0)), (1, .int a1), (2, .int a2), (3, .ref (X.ad 98))] [] := by
  unfold f_L_hours at hf
  refine z_aload_n hX 3 dL_hours_0 rfl rfl ?_
  refine z_iconst (v := 0) hX dL_hours_1 (by decide) ?_
  refine z_aload_n hX 0 dL_hours_2 rfl rfl ?_
  refine z_iload_n hX 1 dL_hours_3 rfl rfl ?_
  refine z_iload_n hX 2 dL_hours_4 rfl rfl ?_
  obtain ⟨q1, e2, hf⟩ := zbind hf
  refine z_callV (stk := [.int 0, .ref (X.ad 98)]) (stk' := [.int q1.1, .int 0, .ref (X.ad 98)]) hX (c_X6_hours X.l st a1 a2 q1 e2) zb_X6_hours 0 dL_hours_5 zm_452 (by decide) shC_0 rfl rfl rfl rfl ⟨by decide, by decide⟩ ⟨rfl, rfl⟩ (Nat.le_of_ble_eq_true rfl) rfl ?_
  refine z_i2l hX dL_hours_8 ?_
  refine z_last hX 98 dL_hours_9 (by decide) shC_98 (show zin 0 1 by decide) ?_
  obtain ⟨s4, h5, hf⟩ := zlet_ex hf
  refine z_name h5 ?_
  refine z_goto hX 21 dL_hours_10 (by decide) ?_
  refine z_iconst (v := 0) hX dL_hours_21 (by decide) ?_
  obtain rfl := Option.some.inj hf
  exact z_iret hX hQ dL_hours_22 rfl
abbrev zh_L_hours : List (Nat × Nat × Nat × Nat) := [(0, 10, 13, 13), (0, 10, 17, 15)]
theorem cw_L_hours (l : Launch) (hfl : l.stackTraces = false) (st : zSt) (a1 : Int32) (a2 : Int32) (out : Int32 × zSt) (hf : f_L_hours st a1 a2 = some out) : zMetW l yL_hours cL_hours 5 (some .int) zh_L_hours zr_L_hours 99 shC (fun ad => [.ref (ad 0), .int a1, .int a2, .ref (ad 98)]) st (fun _ => some (.int out.1)) out.2 :=
  zmetW_of hfl zm_451 (by decide) (fun _ => Nat.le_of_ble_eq_true rfl) (by decide) (fun X _ hnl hX hQ => z_widen (t_L_hours (zbump X) out hX.bump hQ hnl st a1 a2 hf))
theorem zbW_L_hours : Cond.static yL_hours ∈ tables_1 ∧ Cond.initialized yL_hours.cls ∈ tables_1 ∧ Cond.codeWith yL_hours cL_hours 5 (some .int) zh_L_hours ∈ tables_1 ∧ (yL_hours.cls ≠ "java/lang/invoke/MethodHandle" ∧ yL_hours.cls ≠ "java/lang/invoke/VarHandle" ∧ (parseMethodDescriptor yL_hours.desc).map (fun d => d.parameters.length) = some 4) := ⟨zm_450, zm_0, zm_451, by decide, by decide, rfl⟩
set_option maxHeartbeats 4000000 in
set_option maxRecDepth 100000 in
theorem cwx_L_hours_1 (l : Launch) (hfl : l.stackTraces = false) (st : zSt) (a1 : Int32) (a2 : Int32) (u : zSt) (hf : fx_X6_hours st a1 a2 = some (1, u)) : zMetW l yL_hours cL_hours 5 (some .int) zh_L_hours zr_L_hours 99 shC (fun ad => [.ref (ad 0), .int a1, .int a2, .ref (ad 98)]) st (fun _ => some (.int 1)) u := by
  refine zmetW_of hfl zm_451 (by decide) (fun _ => Nat.le_of_ble_eq_true rfl) (by decide) (fun X _ hnl hX hQ => ?_)
  show zG 99 shC X st 0 [(0, .ref (X.ad 0)), (1, .int a1), (2, .int a2), (3, .ref (X.ad 98))] []
  refine z_aload_n hX.1 3 dL_hours_0 rfl rfl ?_
  refine z_iconst (v := 0) hX.1 dL_hours_1 (by decide) ?_
  refine z_aload_n hX.1 0 dL_hours_2 rfl rfl ?_
  refine z_iload_n hX.1 1 dL_hours_3 rfl rfl ?_
  refine z_iload_n hX.1 2 dL_hours_4 rfl rfl ?_
  refine z_catchV (k := 1) (stk := [.int 0, .ref (X.ad 98)]) hX [] ⟨0, 10, 13, 13⟩ [⟨0, 10, 17, 15⟩] (cx_X6_hours X.l hX.2.2.2.1 st a1 a2 (1, u) hf) zb_X6_hours 0 dL_hours_5 zm_452 (by decide) shC_0 rfl rfl rfl rfl ⟨by decide, by decide⟩ ⟨rfl, rfl⟩ (Nat.le_of_ble_eq_true rfl) rfl (fun z hz => absurd hz List.not_mem_nil) (by decide) (by decide) zm_310 zm_322 (fun q => ?_)
  refine z_astoreA hX.bump dL_hours_13 (by show 4 < X.nL; rw [hnl]; decide) ?_
  refine z_iconst (v := 1) hX.bump dL_hours_15 (by decide) ?_
  exact z_iret hX.bump hQ dL_hours_16 rfl
set_option maxHeartbeats 4000000 in
set_option maxRecDepth 100000 in
theorem cwx_L_hours_2 (l : Launch) (hfl : l.stackTraces = false) (st : zSt) (a1 : Int32) (a2 : Int32) (u : zSt) (hf : fx_X6_hours st a1 a2 = some (2, u)) : zMetW l yL_hours cL_hours 5 (some .int) zh_L_hours zr_L_hours 99 shC (fun ad => [.ref (ad 0), .int a1, .int a2, .ref (ad 98)]) st (fun _ => some (.int 2)) u := by
  refine zmetW_of hfl zm_451 (by decide) (fun _ => Nat.le_of_ble_eq_true rfl) (by decide) (fun X _ hnl hX hQ => ?_)
  show zG 99 shC X st 0 [(0, .ref (X.ad 0)), (1, .int a1), (2, .int a2), (3, .ref (X.ad 98))] []
  refine z_aload_n hX.1 3 dL_hours_0 rfl rfl ?_
  refine z_iconst (v := 0) hX.1 dL_hours_1 (by decide) ?_
  refine z_aload_n hX.1 0 dL_hours_2 rfl rfl ?_
  refine z_iload_n hX.1 1 dL_hours_3 rfl rfl ?_
  refine z_iload_n hX.1 2 dL_hours_4 rfl rfl ?_
  refine z_catchV (k := 2) (stk := [.int 0, .ref (X.ad 98)]) hX [⟨0, 10, 13, 13⟩] ⟨0, 10, 17, 15⟩ [] (cx_X6_hours X.l hX.2.2.2.1 st a1 a2 (2, u) hf) zb_X6_hours 0 dL_hours_5 zm_452 (by decide) shC_0 rfl rfl rfl rfl ⟨by decide, by decide⟩ ⟨rfl, rfl⟩ (Nat.le_of_ble_eq_true rfl) rfl (List.forall_mem_cons.mpr ⟨z_npass hX 1 (by decide) zm_310 (by decide), fun z hz => absurd hz List.not_mem_nil⟩) (by decide) (by decide) zm_311 zm_392 (fun q => ?_)
  refine z_astoreA hX.bump dL_hours_17 (by show 4 < X.nL; rw [hnl]; decide) ?_
  refine z_iconst (v := 2) hX.bump dL_hours_19 (by decide) ?_
  exact z_iret hX.bump hQ dL_hours_20 rfl
abbrev zr_L_depth : Room := { frames := 8, cells := 1, slots := 6, locals := 133 }
def f_L_depth (st : zSt) (a1 : Int32) (a2 : Int32) : Option (Int32 × zSt) := ((f_X6_depth st a1 a2).bind fun q1 => (zlet (zwL q1.2 98 (0 : Int32).toNatClampNeg ((q1.1).toInt64)) fun s4 => some (0, s4)))
set_option maxHeartbeats 4000000 in
set_option maxRecDepth 100000 in
theorem t_L_depth (X : zCx) (out : Int32 × zSt) (hX : zOk X RL cL_depth zr_L_depth) (hQ : zPost X 99 shC (some .int) (some (.int out.1)) out.2) (hnl : X.nL = 5) (st : zSt) (a1 : Int32) (a2 : Int32) (hf : f_L_depth st a1 a2 = some out) : zG 99 shC X st 0 [(0, .ref (X.ad 0)), (1, .int a1), (2, .int a2), (3, .ref (X.ad 98))] [] := by
  unfold f_L_depth at hf
  refine z_aload_n hX 3 dL_depth_0 rfl rfl ?_
  refine z_iconst (v := 0) hX dL_depth_1 (by decide) ?_
  refine z_aload_n hX 0 dL_depth_2 rfl rfl ?_
  refine z_iload_n hX 1 dL_depth_3 rfl rfl ?_
  refine z_iload_n hX 2 dL_depth_4 rfl rfl ?_
  obtain ⟨q1, e2, hf⟩ := zbind hf
  refine z_callV (stk := [.int 0, .ref (X.ad 98)]) (stk' := [.int q1.1, .int 0, .ref (X.ad 98)]) hX (c_X6_depth X.l st a1 a2 q1 e2) zb_X6_depth 0 dL_depth_5 zm_467 (by decide) shC_0 rfl rfl rfl rfl ⟨by decide, by decide⟩ ⟨rfl, rfl⟩ (Nat.le_of_ble_eq_true rfl) rfl ?_
  refine z_i2l hX dL_depth_8 ?_
  refine z_last hX 98 dL_depth_9 (by decide) shC_98 (show zin 0 1 by decide) ?_
  obtain ⟨s4, h5, hf⟩ := zlet_ex hf
  refine z_name h5 ?_
  refine z_goto hX 21 dL_depth_10 (by decide) ?_
  refine z_iconst (v := 0) hX dL_depth_21 (by decide) ?_
  obtain rfl := Option.some.inj hf
  exact z_iret hX hQ dL_depth_22 rfl
abbrev zh_L_depth : List (Nat × Nat × Nat × Nat) := [(0, 10, 13, 13), (0, 10, 17, 15)]
theorem cw_L_depth (l : Launch) (hfl : l.stackTraces = false) (st : zSt) (a1 : Int32) (a2 : Int32) (out : Int32 × zSt) (hf : f_L_depth st a1 a2 = some out) : zMetW l yL_depth cL_depth 5 (some .int) zh_L_depth zr_L_depth 99 shC (fun ad => [.ref (ad 0), .int a1, .int a2, .ref (ad 98)]) st (fun _ => some (.int out.1)) out.2 :=
  zmetW_of hfl zm_466 (by decide) (fun _ => Nat.le_of_ble_eq_true rfl) (by decide) (fun X _ hnl hX hQ => z_widen (t_L_depth (zbump X) out hX.bump hQ hnl st a1 a2 hf))
theorem zbW_L_depth : Cond.static yL_depth ∈ tables_1 ∧ Cond.initialized yL_depth.cls ∈ tables_1 ∧ Cond.codeWith yL_depth cL_depth 5 (some .int) zh_L_depth ∈ tables_1 ∧ (yL_depth.cls ≠ "java/lang/invoke/MethodHandle" ∧ yL_depth.cls ≠ "java/lang/invoke/VarHandle" ∧ (parseMethodDescriptor yL_depth.desc).map (fun d => d.parameters.length) = some 4) := ⟨zm_465, zm_0, zm_466, by decide, by decide, rfl⟩
set_option maxHeartbeats 4000000 in
set_option maxRecDepth 100000 in
theorem cwx_L_depth_1 (l : Launch) (hfl : l.stackTraces = false) (st : zSt) (a1 : Int32) (a2 : Int32) (u : zSt) (hf : fx_X6_depth st a1 a2 = some (1, u)) : zMetW l yL_depth cL_depth 5 (some .int) zh_L_depth zr_L_depth 99 shC (fun ad => [.ref (ad 0), .int a1, .int a2, .ref (ad 98)]) st (fun _ => some (.int 1)) u := by
  refine zmetW_of hfl zm_466 (by decide) (fun _ => Nat.le_of_ble_eq_true rfl) (by decide) (fun X _ hnl hX hQ => ?_)
  show zG 99 shC X st 0 [(0, .ref (X.ad 0)), (1, .int a1), (2, .int a2), (3, .ref (X.ad 98))] []
  refine z_aload_n hX.1 3 dL_depth_0 rfl rfl ?_
  refine z_iconst (v := 0) hX.1 dL_depth_1 (by decide) ?_
  refine z_aload_n hX.1 0 dL_depth_2 rfl rfl ?_
  refine z_iload_n hX.1 1 dL_depth_3 rfl rfl ?_
  refine z_iload_n hX.1 2 dL_depth_4 rfl rfl ?_
  refine z_catchV (k := 1) (stk := [.int 0, .ref (X.ad 98)]) hX [] ⟨0, 10, 13, 13⟩ [⟨0, 10, 17, 15⟩] (cx_X6_depth X.l hX.2.2.2.1 st a1 a2 (1, u) hf) zb_X6_depth 0 dL_depth_5 zm_467 (by decide) shC_0 rfl rfl rfl rfl ⟨by decide, by decide⟩ ⟨rfl, rfl⟩ (Nat.le_of_ble_eq_true rfl) rfl (fun z hz => absurd hz List.not_mem_nil) (by decide) (by decide) zm_310 zm_322 (fun q => ?_)
  refine z_astoreA hX.bump dL_depth_13 (by show 4 < X.nL; rw [hnl]; decide) ?_
  refine z_iconst (v := 1) hX.bump dL_depth_15 (by decide) ?_
  exact z_iret hX.bump hQ dL_depth_16 rfl
set_option maxHeartbeats 4000000 in
set_option maxRecDepth 100000 in
theorem cwx_L_depth_2 (l : Launch) (hfl : l.stackTraces = false) (st : zSt) (a1 : Int32) (a2 : Int32) (u : zSt) (hf : fx_X6_depth st a1 a2 = some (2, u)) : zMetW l yL_depth cL_depth 5 (some .int) zh_L_depth zr_L_depth 99 shC (fun ad => [.ref (ad 0), .int a1, .int a2, .ref (ad 98)]) st (fun _ => some (.int 2)) u := by
  refine zmetW_of hfl zm_466 (by decide) (fun _ => Nat.le_of_ble_eq_true rfl) (by decide) (fun X _ hnl hX hQ => ?_)
  show zG 99 shC X st 0 [(0, .ref (X.ad 0)), (1, .int a1), (2, .int a2), (3, .ref (X.ad 98))] []
  refine z_aload_n hX.1 3 dL_depth_0 rfl rfl ?_
  refine z_iconst (v := 0) hX.1 dL_depth_1 (by decide) ?_
  refine z_aload_n hX.1 0 dL_depth_2 rfl rfl ?_
  refine z_iload_n hX.1 1 dL_depth_3 rfl rfl ?_
  refine z_iload_n hX.1 2 dL_depth_4 rfl rfl ?_
  refine z_catchV (k := 2) (stk := [.int 0, .ref (X.ad 98)]) hX [⟨0, 10, 13, 13⟩] ⟨0, 10, 17, 15⟩ [] (cx_X6_depth X.l hX.2.2.2.1 st a1 a2 (2, u) hf) zb_X6_depth 0 dL_depth_5 zm_467 (by decide) shC_0 rfl rfl rfl rfl ⟨by decide, by decide⟩ ⟨rfl, rfl⟩ (Nat.le_of_ble_eq_true rfl) rfl (List.forall_mem_cons.mpr ⟨z_npass hX 1 (by decide) zm_310 (by decide), fun z hz => absurd hz List.not_mem_nil⟩) (by decide) (by decide) zm_311 zm_392 (fun q => ?_)
  refine z_astoreA hX.bump dL_depth_17 (by show 4 < X.nL; rw [hnl]; decide) ?_
  refine z_iconst (v := 2) hX.bump dL_depth_19 (by decide) ?_
  exact z_iret hX.bump hQ dL_depth_20 rfl
abbrev zr_L_hinder : Room := { frames := 10, cells := 1, slots := 6, locals := 179 }
def f_L_hinder (st : zSt) (a1 : Int32) (a2 : Int32) (a3 : Int32) (a4 : Int32) : Option (Int32 × zSt) := ((f_X6_hinder st a1 a2 a3 a4).bind fun q1 => some (0, q1.2))
set_option maxHeartbeats 4000000 in
set_option maxRecDepth 100000 in
theorem t_L_hinder (X : zCx) (out : Int32 × zSt) (hX : zOk X RL cL_hinder zr_L_hinder) (hQ : zPost X 99 shC (some .int) (some (.int out.1)) out.2) (hnl : X.nL = 6) (st : zSt) (a1 : Int32) (a2 : Int32) (a3 : Int32) (a4 : Int32) (hf : f_L_hinder st a1 a2 a3 a4 = some out) : zG 99 shC X st 0 [(0, .ref (X.ad 0)), (1, .int a1), (2, .int a2), (3, .int a3), (4, .int a4)] [] := by
  unfold f_L_hinder at hf
  refine z_aload_n hX 0 dL_hinder_0 rfl rfl ?_
  refine z_iload_n hX 1 dL_hinder_1 rfl rfl ?_
  refine z_iload_n hX 2 dL_hinder_2 rfl rfl ?_
  refine z_iload_n hX 3 dL_hinder_3 rfl rfl ?_
  refine z_iload hX 4 dL_hinder_4 rfl ?_
  obtain ⟨q1, e2, hf⟩ := zbind hf
  refine z_callV (stk := []) (stk' := []) hX (c_X6_hinder X.l st a1 a2 a3 a4 q1 e2) zb_X6_hinder 0 dL_hinder_6 zm_480 (by decide) shC_0 rfl rfl rfl rfl ⟨by decide, by decide⟩ ⟨rfl, rfl⟩ (Nat.le_of_ble_eq_true rfl) rfl ?_
  refine z_goto hX 20 dL_hinder_9 (by decide) ?_
  refine z_iconst (v := 0) hX dL_hinder_20 (by decide) ?_
  obtain rfl := Option.some.inj hf
  exact z_iret hX hQ dL_hinder_21 rfl
abbrev zh_L_hinder : List (Nat × Nat × Nat × Nat) := [(0, 9, 12, 13), (0, 9, 16, 15)]
theorem cw_L_hinder (l : Launch) (hfl : l.stackTraces = false) (st : zSt) (a1 : Int32) (a2 : Int32) (a3 : Int32) (a4 : Int32) (out : Int32 × zSt) (hf : f_L_hinder st a1 a2 a3 a4 = some out) : zMetW l yL_hinder cL_hinder 6 (some .int) zh_L_hinder zr_L_hinder 99 shC (fun ad => [.ref (ad 0), .int a1, .int a2, .int a3, .int a4]) st (fun _ => some (.int out.1)) out.2 :=
  zmetW_of hfl zm_479 (by decide) (fun _ => Nat.le_of_ble_eq_true rfl) (by decide) (fun X _ hnl hX hQ => z_widen (t_L_hinder (zbump X) out hX.bump hQ hnl st a1 a2 a3 a4 hf))
theorem zbW_L_hinder : Cond.static yL_hinder ∈ tables_1 ∧ Cond.initialized yL_hinder.cls ∈ tables_1 ∧ Cond.codeWith yL_hinder cL_hinder 6 (some .int) zh_L_hinder ∈ tables_1 ∧ (yL_hinder.cls ≠ "java/lang/invoke/MethodHandle" ∧ yL_hinder.cls ≠ "java/lang/invoke/VarHandle" ∧ (parseMethodDescriptor yL_hinder.desc).map (fun d => d.parameters.length) = some 5) := ⟨zm_478, zm_0, zm_479, by decide, by decide, rfl⟩
set_option maxHeartbeats 4000000 in
set_option maxRecDepth 100000 in
theorem cwx_L_hinder_1 (l : Launch) (hfl : l.stackTraces = false) (st : zSt) (a1 : Int32) (a2 : Int32) (a3 : Int32) (a4 : Int32) (u : zSt) (hf : fx_X6_hinder st a1 a2 a3 a4 = some (1, u)) : zMetW l yL_hinder cL_hinder 6 (some .int) zh_L_hinder zr_L_hinder 99 shC (fun ad => [.ref (ad 0), .int a1, .int a2, .int a3, .int a4]) st (fun _ => some (.int 1)) u := by
  refine zmetW_of hfl zm_479 (by decide) (fun _ => Nat.le_of_ble_eq_true rfl) (by decide) (fun X _ hnl hX hQ => ?_)
  show zG 99 shC X st 0 [(0, .ref (X.ad 0)), (1, .int a1), (2, .int a2), (3, .int a3), (4, .int a4)] []
  refine z_aload_n hX.1 0 dL_hinder_0 rfl rfl ?_
  refine z_iload_n hX.1 1 dL_hinder_1 rfl rfl ?_
  refine z_iload_n hX.1 2 dL_hinder_2 rfl rfl ?_
  refine z_iload_n hX.1 3 dL_hinder_3 rfl rfl ?_
  refine z_iload hX.1 4 dL_hinder_4 rfl ?_
  refine z_catchV (k := 1) (stk := []) hX [] ⟨0, 9, 12, 13⟩ [⟨0, 9, 16, 15⟩] (cx_X6_hinder X.l hX.2.2.2.1 st a1 a2 a3 a4 (1, u) hf) zb_X6_hinder 0 dL_hinder_6 zm_480 (by decide) shC_0 rfl rfl rfl rfl ⟨by decide, by decide⟩ ⟨rfl, rfl⟩ (Nat.le_of_ble_eq_true rfl) rfl (fun z hz => absurd hz List.not_mem_nil) (by decide) (by decide) zm_310 zm_322 (fun q => ?_)
  refine z_astoreA hX.bump dL_hinder_12 (by show 5 < X.nL; rw [hnl]; decide) ?_
  refine z_iconst (v := 1) hX.bump dL_hinder_14 (by decide) ?_
  exact z_iret hX.bump hQ dL_hinder_15 rfl
set_option maxHeartbeats 4000000 in
set_option maxRecDepth 100000 in
theorem cwx_L_hinder_2 (l : Launch) (hfl : l.stackTraces = false) (st : zSt) (a1 : Int32) (a2 : Int32) (a3 : Int32) (a4 : Int32) (u : zSt) (hf : fx_X6_hinder st a1 a2 a3 a4 = some (2, u)) : zMetW l yL_hinder cL_hinder 6 (some .int) zh_L_hinder zr_L_hinder 99 shC (fun ad => [.ref (ad 0), .int a1, .int a2, .int a3, .int a4]) st (fun _ => some (.int 2)) u := by
  refine zmetW_of hfl zm_479 (by decide) (fun _ => Nat.le_of_ble_eq_true rfl) (by decide) (fun X _ hnl hX hQ => ?_)
  show zG 99 shC X st 0 [(0, .ref (X.ad 0)), (1, .int a1), (2, .int a2), (3, .int a3), (4, .int a4)] []
  refine z_aload_n hX.1 0 dL_hinder_0 rfl rfl ?_
  refine z_iload_n hX.1 1 dL_hinder_1 rfl rfl ?_
  refine z_iload_n hX.1 2 dL_hinder_2 rfl rfl ?_
  refine z_iload_n hX.1 3 dL_hinder_3 rfl rfl ?_
  refine z_iload hX.1 4 dL_hinder_4 rfl ?_
  refine z_catchV (k := 2) (stk := []) hX [⟨0, 9, 12, 13⟩] ⟨0, 9, 16, 15⟩ [] (cx_X6_hinder X.l hX.2.2.2.1 st a1 a2 a3 a4 (2, u) hf) zb_X6_hinder 0 dL_hinder_6 zm_480 (by decide) shC_0 rfl rfl rfl rfl ⟨by decide, by decide⟩ ⟨rfl, rfl⟩ (Nat.le_of_ble_eq_true rfl) rfl (List.forall_mem_cons.mpr ⟨z_npass hX 1 (by decide) zm_310 (by decide), fun z hz => absurd hz List.not_mem_nil⟩) (by decide) (by decide) zm_311 zm_392 (fun q => ?_)
  refine z_astoreA hX.bump dL_hinder_16 (by show 5 < X.nL; rw [hnl]; decide) ?_
  refine z_iconst (v := 2) hX.bump dL_hinder_18 (by decide) ?_
  exact z_iret hX.bump hQ dL_hinder_19 rfl
abbrev zr_L_bus : Room := { frames := 8, cells := 1, slots := 6, locals := 134 }
def f_L_bus (st : zSt) (a1 : Int32) (a2 : Int32) (a3 : Int32) : Option (Int32 × zSt) := ((f_X6_bus st a1 a2 a3).bind fun q1 => some (0, q1.2))
set_option maxHeartbeats 4000000 in
set_option maxRecDepth 100000 in
theorem t_L_bus (X : zCx) (out : Int32 × zSt) (hX : zOk X RL cL_bus zr_L_bus) (hQ : zPost X 99 shC (some .int) (some (.int out.1)) out.2) (hnl : X.nL = 5) (st : zSt) (a1 : Int32) (a2 : Int32) (a3 : Int32) (hf : f_L_bus st a1 a2 a3 = some out) : zG 99 shC X st 0 [(0, .ref (X.ad 0)), (1, .int a1), (2, .int a2), (3, .int a3)] [] := by
  unfold f_L_bus at hf
  refine z_aload_n hX 0 dL_bus_0 rfl rfl ?_
  refine z_iload_n hX 1 dL_bus_1 rfl rfl ?_
  refine z_iload_n hX 2 dL_bus_2 rfl rfl ?_
  refine z_iload_n hX 3 dL_bus_3 rfl rfl ?_
  obtain ⟨q1, e2, hf⟩ := zbind hf
  refine z_callV (stk := []) (stk' := []) hX (c_X6_bus X.l st a1 a2 a3 q1 e2) zb_X6_bus 0 dL_bus_4 zm_491 (by decide) shC_0 rfl rfl rfl rfl ⟨by decide, by decide⟩ ⟨rfl, rfl⟩ (Nat.le_of_ble_eq_true rfl) rfl ?_
  refine z_goto hX 18 dL_bus_7 (by decide) ?_
  refine z_iconst (v := 0) hX dL_bus_18 (by decide) ?_
  obtain rfl := Option.some.inj hf
  exact z_iret hX hQ dL_bus_19 rfl
abbrev zh_L_bus : List (Nat × Nat × Nat × Nat) := [(0, 7, 10, 13), (0, 7, 14, 15)]
theorem cw_L_bus (l : Launch) (hfl : l.stackTraces = false) (st : zSt) (a1 : Int32) (a2 : Int32) (a3 : Int32) (out : Int32 × zSt) (hf : f_L_bus st a1 a2 a3 = some out) : zMetW l yL_bus cL_bus 5 (some .int) zh_L_bus zr_L_bus 99 shC (fun ad => [.ref (ad 0), .int a1, .int a2, .int a3]) st (fun _ => some (.int out.1)) out.2 :=
  zmetW_of hfl zm_490 (by decide) (fun _ => Nat.le_of_ble_eq_true rfl) (by decide) (fun X _ hnl hX hQ => z_widen (t_L_bus (zbump X) out hX.bump hQ hnl st a1 a2 a3 hf))
theorem zbW_L_bus : Cond.static yL_bus ∈ tables_1 ∧ Cond.initialized yL_bus.cls ∈ tables_1 ∧ Cond.codeWith yL_bus cL_bus 5 (some .int) zh_L_bus ∈ tables_1 ∧ (yL_bus.cls ≠ "java/lang/invoke/MethodHandle" ∧ yL_bus.cls ≠ "java/lang/invoke/VarHandle" ∧ (parseMethodDescriptor yL_bus.desc).map (fun d => d.parameters.length) = some 4) := ⟨zm_489, zm_0, zm_490, by decide, by decide, rfl⟩
set_option maxHeartbeats 4000000 in
set_option maxRecDepth 100000 in
theorem cwx_L_bus_1 (l : Launch) (hfl : l.stackTraces = false) (st : zSt) (a1 : Int32) (a2 : Int32) (a3 : Int32) (u : zSt) (hf : fx_X6_bus st a1 a2 a3 = some (1, u)) : zMetW l yL_bus cL_bus 5 (some .int) zh_L_bus zr_L_bus 99 shC (fun ad => [.ref (ad 0), .int a1, .int a2, .int a3]) st (fun _ => some (.int 1)) u := by
  refine zmetW_of hfl zm_490 (by decide) (fun _ => Nat.le_of_ble_eq_true rfl) (by decide) (fun X _ hnl hX hQ => ?_)
  show zG 99 shC X st 0 [(0, .ref (X.ad 0)), (1, .int a1), (2, .int a2), (3, .int a3)] []
  refine z_aload_n hX.1 0 dL_bus_0 rfl rfl ?_
  refine z_iload_n hX.1 1 dL_bus_1 rfl rfl ?_
  refine z_iload_n hX.1 2 dL_bus_2 rfl rfl ?_
  refine z_iload_n hX.1 3 dL_bus_3 rfl rfl ?_
  refine z_catchV (k := 1) (stk := []) hX [] ⟨0, 7, 10, 13⟩ [⟨0, 7, 14, 15⟩] (cx_X6_bus X.l hX.2.2.2.1 st a1 a2 a3 (1, u) hf) zb_X6_bus 0 dL_bus_4 zm_491 (by decide) shC_0 rfl rfl rfl rfl ⟨by decide, by decide⟩ ⟨rfl, rfl⟩ (Nat.le_of_ble_eq_true rfl) rfl (fun z hz => absurd hz List.not_mem_nil) (by decide) (by decide) zm_310 zm_322 (fun q => ?_)
  refine z_astoreA hX.bump dL_bus_10 (by show 4 < X.nL; rw [hnl]; decide) ?_
  refine z_iconst (v := 1) hX.bump dL_bus_12 (by decide) ?_
  exact z_iret hX.bump hQ dL_bus_13 rfl
set_option maxHeartbeats 4000000 in
set_option maxRecDepth 100000 in
theorem cwx_L_bus_2 (l : Launch) (hfl : l.stackTraces = false) (st : zSt) (a1 : Int32) (a2 : Int32) (a3 : Int32) (u : zSt) (hf : fx_X6_bus st a1 a2 a3 = some (2, u)) : zMetW l yL_bus cL_bus 5 (some .int) zh_L_bus zr_L_bus 99 shC (fun ad => [.ref (ad 0), .int a1, .int a2, .int a3]) st (fun _ => some (.int 2)) u := by
  refine zmetW_of hfl zm_490 (by decide) (fun _ => Nat.le_of_ble_eq_true rfl) (by decide) (fun X _ hnl hX hQ => ?_)
  show zG 99 shC X st 0 [(0, .ref (X.ad 0)), (1, .int a1), (2, .int a2), (3, .int a3)] []
  refine z_aload_n hX.1 0 dL_bus_0 rfl rfl ?_
  refine z_iload_n hX.1 1 dL_bus_1 rfl rfl ?_
  refine z_iload_n hX.1 2 dL_bus_2 rfl rfl ?_
  refine z_iload_n hX.1 3 dL_bus_3 rfl rfl ?_
  refine z_catchV (k := 2) (stk := []) hX [⟨0, 7, 10, 13⟩] ⟨0, 7, 14, 15⟩ [] (cx_X6_bus X.l hX.2.2.2.1 st a1 a2 a3 (2, u) hf) zb_X6_bus 0 dL_bus_4 zm_491 (by decide) shC_0 rfl rfl rfl rfl ⟨by decide, by decide⟩ ⟨rfl, rfl⟩ (Nat.le_of_ble_eq_true rfl) rfl (List.forall_mem_cons.mpr ⟨z_npass hX 1 (by decide) zm_310 (by decide), fun z hz => absurd hz List.not_mem_nil⟩) (by decide) (by decide) zm_311 zm_392 (fun q => ?_)
  refine z_astoreA hX.bump dL_bus_14 (by show 4 < X.nL; rw [hnl]; decide) ?_
  refine z_iconst (v := 2) hX.bump dL_bus_16 (by decide) ?_
  exact z_iret hX.bump hQ dL_bus_17 rfl
abbrev zr_L_reside : Room := { frames := 8, cells := 1, slots := 6, locals := 134 }
def f_L_reside (st : zSt) (a1 : Int32) (a2 : Int32) : Option (Int32 × zSt) := ((f_X6_reside st a1 a2).bind fun q1 => (zlet (zwL q1.2 98 (0 : Int32).toNatClampNeg ((q1.1).toInt64)) fun s4 => some (0, s4)))
set_option maxHeartbeats 4000000 in
set_option maxRecDepth 100000 in
theorem t_L_reside (X : zCx) (out : Int32 × zSt) (hX : zOk X RL cL_reside zr_L_reside) (hQ : zPost X 99 shC (some .int) (some (.int out.1)) out.2) (hnl : X.nL = 5) (st : zSt) (a1 : Int32) (a2 : Int32) (hf : f_L_reside st a1 a2 = some out) : zG 99 shC X st 0 [(0, .ref (X.ad 0)), (1, .int a1), (2, .int a2), (3, .ref (X.ad 98))] [] := by
  unfold f_L_reside at hf
  refine z_aload_n hX 3 dL_reside_0 rfl rfl ?_
  refine z_iconst (v := 0) hX dL_reside_1 (by decide) ?_
  refine z_aload_n hX 0 dL_reside_2 rfl rfl ?_
  refine z_iload_n hX 1 dL_reside_3 rfl rfl ?_
  refine z_iload_n hX 2 dL_reside_4 rfl rfl ?_
  obtain ⟨q1, e2, hf⟩ := zbind hf
  refine z_callV (stk := [.int 0, .ref (X.ad 98)]) (stk' := [.int q1.1, .int 0, .ref (X.ad 98)]) hX (c_X6_reside X.l st a1 a2 q1 e2) zb_X6_reside 0 dL_reside_5 zm_498 (by decide) shC_0 rfl rfl rfl rfl ⟨by decide, by decide⟩ ⟨rfl, rfl⟩ (Nat.le_of_ble_eq_true rfl) rfl ?_
  refine z_i2l hX dL_reside_8 ?_
  refine z_last hX 98 dL_reside_9 (by decide) shC_98 (show zin 0 1 by decide) ?_
  obtain ⟨s4, h5, hf⟩ := zlet_ex hf
  refine z_name h5 ?_
  refine z_goto hX 17 dL_reside_10 (by decide) ?_
  refine z_iconst (v := 0) hX dL_reside_17 (by decide) ?_
  obtain rfl := Option.some.inj hf
  exact z_iret hX hQ dL_reside_18 rfl
abbrev zh_L_reside : List (Nat × Nat × Nat × Nat) := [(0, 10, 13, 13)]
theorem cw_L_reside (l : Launch) (hfl : l.stackTraces = false) (st : zSt) (a1 : Int32) (a2 : Int32) (out : Int32 × zSt) (hf : f_L_reside st a1 a2 = some out) : zMetW l yL_reside cL_reside 5 (some .int) zh_L_reside zr_L_reside 99 shC (fun ad => [.ref (ad 0), .int a1, .int a2, .ref (ad 98)]) st (fun _ => some (.int out.1)) out.2 :=
  zmetW_of hfl zm_497 (by decide) (fun _ => Nat.le_of_ble_eq_true rfl) (by decide) (fun X _ hnl hX hQ => z_widen (t_L_reside (zbump X) out hX.bump hQ hnl st a1 a2 hf))
theorem zbW_L_reside : Cond.static yL_reside ∈ tables_1 ∧ Cond.initialized yL_reside.cls ∈ tables_1 ∧ Cond.codeWith yL_reside cL_reside 5 (some .int) zh_L_reside ∈ tables_1 ∧ (yL_reside.cls ≠ "java/lang/invoke/MethodHandle" ∧ yL_reside.cls ≠ "java/lang/invoke/VarHandle" ∧ (parseMethodDescriptor yL_reside.desc).map (fun d => d.parameters.length) = some 4) := ⟨zm_496, zm_0, zm_497, by decide, by decide, rfl⟩
set_option maxHeartbeats 4000000 in
set_option maxRecDepth 100000 in
theorem cwx_L_reside_1 (l : Launch) (hfl : l.stackTraces = false) (st : zSt) (a1 : Int32) (a2 : Int32) (u : zSt) (hf : fx_X6_reside st a1 a2 = some (1, u)) : zMetW l yL_reside cL_reside 5 (some .int) zh_L_reside zr_L_reside 99 shC (fun ad => [.ref (ad 0), .int a1, .int a2, .ref (ad 98)]) st (fun _ => some (.int 1)) u := by
  refine zmetW_of hfl zm_497 (by decide) (fun _ => Nat.le_of_ble_eq_true rfl) (by decide) (fun X _ hnl hX hQ => ?_)
  show zG 99 shC X st 0 [(0, .ref (X.ad 0)), (1, .int a1), (2, .int a2), (3, .ref (X.ad 98))] []
  refine z_aload_n hX.1 3 dL_reside_0 rfl rfl ?_
  refine z_iconst (v := 0) hX.1 dL_reside_1 (by decide) ?_
  refine z_aload_n hX.1 0 dL_reside_2 rfl rfl ?_
  refine z_iload_n hX.1 1 dL_reside_3 rfl rfl ?_
  refine z_iload_n hX.1 2 dL_reside_4 rfl rfl ?_
  refine z_catchV (k := 1) (stk := [.int 0, .ref (X.ad 98)]) hX [] ⟨0, 10, 13, 13⟩ [] (cx_X6_reside X.l hX.2.2.2.1 st a1 a2 (1, u) hf) zb_X6_reside 0 dL_reside_5 zm_498 (by decide) shC_0 rfl rfl rfl rfl ⟨by decide, by decide⟩ ⟨rfl, rfl⟩ (Nat.le_of_ble_eq_true rfl) rfl (fun z hz => absurd hz List.not_mem_nil) (by decide) (by decide) zm_310 zm_322 (fun q => ?_)
  refine z_astoreA hX.bump dL_reside_13 (by show 4 < X.nL; rw [hnl]; decide) ?_
  refine z_iconst (v := 1) hX.bump dL_reside_15 (by decide) ?_
  exact z_iret hX.bump hQ dL_reside_16 rfl
abbrev zr_L_plan : Room := { frames := 9, cells := 1, slots := 6, locals := 160 }
def f_L_plan (st : zSt) (a1 : Int32) (a2 : Int32) (a3 : Int32) (a4 : Int32) : Option (Int32 × zSt) := ((f_X6_plan st a1 a2 a3 a4).bind fun q1 => (zlet (zwL q1.2 98 (0 : Int32).toNatClampNeg ((q1.1).toInt64)) fun s4 => some (0, s4)))
set_option maxHeartbeats 4000000 in
set_option maxRecDepth 100000 in
theorem t_L_plan (X : zCx) (out : Int32 × zSt) (hX : zOk X RL cL_plan zr_L_plan) (hQ : zPost X 99 shC (some .int) (some (.int out.1)) out.2) (hnl : X.nL = 7) (st : zSt) (a1 : Int32) (a2 : Int32) (a3 : Int32) (a4 : Int32) (hf : f_L_plan st a1 a2 a3 a4 = some out) : zG 99 shC X st 0 [(0, .ref (X.ad 0)), (1, .int a1), (2, .int a2), (3, .int a3), (4, .int a4), (5, .ref (X.ad 98))] [] := by
  unfold f_L_plan at hf
  refine z_aload hX 5 dL_plan_0 rfl ?_
  refine z_iconst (v := 0) hX dL_plan_2 (by decide) ?_
  refine z_aload_n hX 0 dL_plan_3 rfl rfl ?_
  refine z_iload_n hX 1 dL_plan_4 rfl rfl ?_
  refine z_iload_n hX 2 dL_plan_5 rfl rfl ?_
  refine z_iload_n hX 3 dL_plan_6 rfl rfl ?_
  refine z_iload hX 4 dL_plan_7 rfl ?_
  obtain ⟨q1, e2, hf⟩ := zbind hf
  refine z_callV (stk := [.int 0, .ref (X.ad 98)]) (stk' := [.int q1.1, .int 0, .ref (X.ad 98)]) hX (c_X6_plan X.l st a1 a2 a3 a4 q1 e2) zb_X6_plan 0 dL_plan_9 zm_505 (by decide) shC_0 rfl rfl rfl rfl ⟨by decide, by decide⟩ ⟨rfl, rfl⟩ (Nat.le_of_ble_eq_true rfl) rfl ?_
  refine z_i2l hX dL_plan_12 ?_
  refine z_last hX 98 dL_plan_13 (by decide) shC_98 (show zin 0 1 by decide) ?_
  obtain ⟨s4, h5, hf⟩ := zlet_ex hf
  refine z_name h5 ?_
  refine z_goto hX 29 dL_plan_14 (by decide) ?_
  refine z_iconst (v := 0) hX dL_plan_29 (by decide) ?_
  obtain rfl := Option.some.inj hf
  exact z_iret hX hQ dL_plan_30 rfl
abbrev zh_L_plan : List (Nat × Nat × Nat × Nat) := [(0, 14, 17, 13), (0, 14, 21, 15), (0, 14, 25, 17)]
theorem cw_L_plan (l : Launch) (hfl : l.stackTraces = false) (st : zSt) (a1 : Int32) (a2 : Int32) (a3 : Int32) (a4 : Int32) (out : Int32 × zSt) (hf : f_L_plan st a1 a2 a3 a4 = some out) : zMetW l yL_plan cL_plan 7 (some .int) zh_L_plan zr_L_plan 99 shC (fun ad => [.ref (ad 0), .int a1, .int a2, .int a3, .int a4, .ref (ad 98)]) st (fun _ => some (.int out.1)) out.2 :=
  zmetW_of hfl zm_504 (by decide) (fun _ => Nat.le_of_ble_eq_true rfl) (by decide) (fun X _ hnl hX hQ => z_widen (t_L_plan (zbump X) out hX.bump hQ hnl st a1 a2 a3 a4 hf))
theorem zbW_L_plan : Cond.static yL_plan ∈ tables_1 ∧ Cond.initialized yL_plan.cls ∈ tables_1 ∧ Cond.codeWith yL_plan cL_plan 7 (some .int) zh_L_plan ∈ tables_1 ∧ (yL_plan.cls ≠ "java/lang/invoke/MethodHandle" ∧ yL_plan.cls ≠ "java/lang/invoke/VarHandle" ∧ (parseMethodDescriptor yL_plan.desc).map (fun d => d.parameters.length) = some 6) := ⟨zm_503, zm_0, zm_504, by decide, by decide, rfl⟩
set_option maxHeartbeats 4000000 in
set_option maxRecDepth 100000 in
theorem cwx_L_plan_1 (l : Launch) (hfl : l.stackTraces = false) (st : zSt) (a1 : Int32) (a2 : Int32) (a3 : Int32) (a4 : Int32) (u : zSt) (hf : fx_X6_plan st a1 a2 a3 a4 = some (1, u)) : zMetW l yL_plan cL_plan 7 (some .int) zh_L_plan zr_L_plan 99 shC (fun ad => [.ref (ad 0), .int a1, .int a2, .int a3, .int a4, .ref (ad 98)]) st (fun _ => some (.int 1)) u := by
  refine zmetW_of hfl zm_504 (by decide) (fun _ => Nat.le_of_ble_eq_true rfl) (by decide) (fun X _ hnl hX hQ => ?_)
  show zG 99 shC X st 0 [(0, .ref (X.ad 0)), (1, .int a1), (2, .int a2), (3, .int a3), (4, .int a4), (5, .ref (X.ad 98))] []
  refine z_aload hX.1 5 dL_plan_0 rfl ?_
  refine z_iconst (v := 0) hX.1 dL_plan_2 (by decide) ?_
  refine z_aload_n hX.1 0 dL_plan_3 rfl rfl ?_
  refine z_iload_n hX.1 1 dL_plan_4 rfl rfl ?_
  refine z_iload_n hX.1 2 dL_plan_5 rfl rfl ?_
  refine z_iload_n hX.1 3 dL_plan_6 rfl rfl ?_
  refine z_iload hX.1 4 dL_plan_7 rfl ?_
  refine z_catchV (k := 1) (stk := [.int 0, .ref (X.ad 98)]) hX [] ⟨0, 14, 17, 13⟩ [⟨0, 14, 21, 15⟩, ⟨0, 14, 25, 17⟩] (cx_X6_plan X.l hX.2.2.2.1 st a1 a2 a3 a4 (1, u) hf) zb_X6_plan 0 dL_plan_9 zm_505 (by decide) shC_0 rfl rfl rfl rfl ⟨by decide, by decide⟩ ⟨rfl, rfl⟩ (Nat.le_of_ble_eq_true rfl) rfl (fun z hz => absurd hz List.not_mem_nil) (by decide) (by decide) zm_310 zm_322 (fun q => ?_)
  refine z_astoreA hX.bump dL_plan_17 (by show 6 < X.nL; rw [hnl]; decide) ?_
  refine z_iconst (v := 1) hX.bump dL_plan_19 (by decide) ?_
  exact z_iret hX.bump hQ dL_plan_20 rfl
set_option maxHeartbeats 4000000 in
set_option maxRecDepth 100000 in
theorem cwx_L_plan_2 (l : Launch) (hfl : l.stackTraces = false) (st : zSt) (a1 : Int32) (a2 : Int32) (a3 : Int32) (a4 : Int32) (u : zSt) (hf : fx_X6_plan st a1 a2 a3 a4 = some (2, u)) : zMetW l yL_plan cL_plan 7 (some .int) zh_L_plan zr_L_plan 99 shC (fun ad => [.ref (ad 0), .int a1, .int a2, .int a3, .int a4, .ref (ad 98)]) st (fun _ => some (.int 2)) u := by
  refine zmetW_of hfl zm_504 (by decide) (fun _ => Nat.le_of_ble_eq_true rfl) (by decide) (fun X _ hnl hX hQ => ?_)
  show zG 99 shC X st 0 [(0, .ref (X.ad 0)), (1, .int a1), (2, .int a2), (3, .int a3), (4, .int a4), (5, .ref (X.ad 98))] []
  refine z_aload hX.1 5 dL_plan_0 rfl ?_
  refine z_iconst (v := 0) hX.1 dL_plan_2 (by decide) ?_
  refine z_aload_n hX.1 0 dL_plan_3 rfl rfl ?_
  refine z_iload_n hX.1 1 dL_plan_4 rfl rfl ?_
  refine z_iload_n hX.1 2 dL_plan_5 rfl rfl ?_
  refine z_iload_n hX.1 3 dL_plan_6 rfl rfl ?_
  refine z_iload hX.1 4 dL_plan_7 rfl ?_
  refine z_catchV (k := 2) (stk := [.int 0, .ref (X.ad 98)]) hX [⟨0, 14, 17, 13⟩] ⟨0, 14, 21, 15⟩ [⟨0, 14, 25, 17⟩] (cx_X6_plan X.l hX.2.2.2.1 st a1 a2 a3 a4 (2, u) hf) zb_X6_plan 0 dL_plan_9 zm_505 (by decide) shC_0 rfl rfl rfl rfl ⟨by decide, by decide⟩ ⟨rfl, rfl⟩ (Nat.le_of_ble_eq_true rfl) rfl (List.forall_mem_cons.mpr ⟨z_npass hX 1 (by decide) zm_310 (by decide), fun z hz => absurd hz List.not_mem_nil⟩) (by decide) (by decide) zm_311 zm_392 (fun q => ?_)
  refine z_astoreA hX.bump dL_plan_21 (by show 6 < X.nL; rw [hnl]; decide) ?_
  refine z_iconst (v := 2) hX.bump dL_plan_23 (by decide) ?_
  exact z_iret hX.bump hQ dL_plan_24 rfl
set_option maxHeartbeats 4000000 in
set_option maxRecDepth 100000 in
theorem cwx_L_plan_3 (l : Launch) (hfl : l.stackTraces = false) (st : zSt) (a1 : Int32) (a2 : Int32) (a3 : Int32) (a4 : Int32) (u : zSt) (hf : fx_X6_plan st a1 a2 a3 a4 = some (3, u)) : zMetW l yL_plan cL_plan 7 (some .int) zh_L_plan zr_L_plan 99 shC (fun ad => [.ref (ad 0), .int a1, .int a2, .int a3, .int a4, .ref (ad 98)]) st (fun _ => some (.int 3)) u := by
  refine zmetW_of hfl zm_504 (by decide) (fun _ => Nat.le_of_ble_eq_true rfl) (by decide) (fun X _ hnl hX hQ => ?_)
  show zG 99 shC X st 0 [(0, .ref (X.ad 0)), (1, .int a1), (2, .int a2), (3, .int a3), (4, .int a4), (5, .ref (X.ad 98))] []
  refine z_aload hX.1 5 dL_plan_0 rfl ?_
  refine z_iconst (v := 0) hX.1 dL_plan_2 (by decide) ?_
  refine z_aload_n hX.1 0 dL_plan_3 rfl rfl ?_
  refine z_iload_n hX.1 1 dL_plan_4 rfl rfl ?_
  refine z_iload_n hX.1 2 dL_plan_5 rfl rfl ?_
  refine z_iload_n hX.1 3 dL_plan_6 rfl rfl ?_
  refine z_iload hX.1 4 dL_plan_7 rfl ?_
  refine z_catchV (k := 3) (stk := [.int 0, .ref (X.ad 98)]) hX [⟨0, 14, 17, 13⟩, ⟨0, 14, 21, 15⟩] ⟨0, 14, 25, 17⟩ [] (cx_X6_plan X.l hX.2.2.2.1 st a1 a2 a3 a4 (3, u) hf) zb_X6_plan 0 dL_plan_9 zm_505 (by decide) shC_0 rfl rfl rfl rfl ⟨by decide, by decide⟩ ⟨rfl, rfl⟩ (Nat.le_of_ble_eq_true rfl) rfl (List.forall_mem_cons.mpr ⟨z_npass hX 1 (by decide) zm_310 (by decide), List.forall_mem_cons.mpr ⟨z_npass hX 2 (by decide) zm_311 (by decide), fun z hz => absurd hz List.not_mem_nil⟩⟩) (by decide) (by decide) zm_312 zm_410 (fun q => ?_)
  refine z_astoreA hX.bump dL_plan_25 (by show 6 < X.nL; rw [hnl]; decide) ?_
  refine z_iconst (v := 3) hX.bump dL_plan_27 (by decide) ?_
  exact z_iret hX.bump hQ dL_plan_28 rfl
abbrev zr_L_cancel : Room := { frames := 9, cells := 1, slots := 6, locals := 154 }
def f_L_cancel (st : zSt) (a1 : Int32) : Option (Int32 × zSt) := ((f_X6_cancel st a1).bind fun q1 => (zlet (zwL q1.2 98 (0 : Int32).toNatClampNeg ((q1.1).toInt64)) fun s4 => some (0, s4)))
set_option maxHeartbeats 4000000 in
set_option maxRecDepth 100000 in
theorem t_L_cancel (X : zCx) (out : Int32 × zSt) (hX : zOk X RL cL_cancel zr_L_cancel) (hQ : zPost X 99 shC (some .int) (some (.int out.1)) out.2) (hnl : X.nL = 4) (st : zSt) (a1 : Int32) (hf : f_L_cancel st a1 = some out) : zG 99 shC X st 0 [(0, .ref (X.ad 0)), (1, .int a1), (2, .ref (X.ad 98))] [] := by
  unfold f_L_cancel at hf
  refine z_aload_n hX 2 dL_cancel_0 rfl rfl ?_
  refine z_iconst (v := 0) hX dL_cancel_1 (by decide) ?_
  refine z_aload_n hX 0 dL_cancel_2 rfl rfl ?_
  refine z_iload_n hX 1 dL_cancel_3 rfl rfl ?_
  obtain ⟨q1, e2, hf⟩ := zbind hf
  refine z_callV (stk := [.int 0, .ref (X.ad 98)]) (stk' := [.int q1.1, .int 0, .ref (X.ad 98)]) hX (c_X6_cancel X.l st a1 q1 e2) zb_X6_cancel 0 dL_cancel_4 zm_524 (by decide) shC_0 rfl rfl rfl rfl ⟨by decide, by decide⟩ ⟨rfl, rfl⟩ (Nat.le_of_ble_eq_true rfl) rfl ?_
  refine z_i2l hX dL_cancel_7 ?_
  refine z_last hX 98 dL_cancel_8 (by decide) shC_98 (show zin 0 1 by decide) ?_
  obtain ⟨s4, h5, hf⟩ := zlet_ex hf
  refine z_name h5 ?_
  refine z_goto hX 18 dL_cancel_9 (by decide) ?_
  refine z_iconst (v := 0) hX dL_cancel_18 (by decide) ?_
  obtain rfl := Option.some.inj hf
  exact z_iret hX hQ dL_cancel_19 rfl
abbrev zh_L_cancel : List (Nat × Nat × Nat × Nat) := [(0, 9, 12, 13), (0, 9, 15, 17)]
theorem cw_L_cancel (l : Launch) (hfl : l.stackTraces = false) (st : zSt) (a1 : Int32) (out : Int32 × zSt) (hf : f_L_cancel st a1 = some out) : zMetW l yL_cancel cL_cancel 4 (some .int) zh_L_cancel zr_L_cancel 99 shC (fun ad => [.ref (ad 0), .int a1, .ref (ad 98)]) st (fun _ => some (.int out.1)) out.2 :=
  zmetW_of hfl zm_523 (by decide) (fun _ => Nat.le_of_ble_eq_true rfl) (by decide) (fun X _ hnl hX hQ => z_widen (t_L_cancel (zbump X) out hX.bump hQ hnl st a1 hf))
theorem zbW_L_cancel : Cond.static yL_cancel ∈ tables_1 ∧ Cond.initialized yL_cancel.cls ∈ tables_1 ∧ Cond.codeWith yL_cancel cL_cancel 4 (some .int) zh_L_cancel ∈ tables_1 ∧ (yL_cancel.cls ≠ "java/lang/invoke/MethodHandle" ∧ yL_cancel.cls ≠ "java/lang/invoke/VarHandle" ∧ (parseMethodDescriptor yL_cancel.desc).map (fun d => d.parameters.length) = some 3) := ⟨zm_522, zm_0, zm_523, by decide, by decide, rfl⟩
set_option maxHeartbeats 4000000 in
set_option maxRecDepth 100000 in
theorem cwx_L_cancel_1 (l : Launch) (hfl : l.stackTraces = false) (st : zSt) (a1 : Int32) (u : zSt) (hf : fx_X6_cancel st a1 = some (1, u)) : zMetW l yL_cancel cL_cancel 4 (some .int) zh_L_cancel zr_L_cancel 99 shC (fun ad => [.ref (ad 0), .int a1, .ref (ad 98)]) st (fun _ => some (.int 1)) u := by
  refine zmetW_of hfl zm_523 (by decide) (fun _ => Nat.le_of_ble_eq_true rfl) (by decide) (fun X _ hnl hX hQ => ?_)
  show zG 99 shC X st 0 [(0, .ref (X.ad 0)), (1, .int a1), (2, .ref (X.ad 98))] []
  refine z_aload_n hX.1 2 dL_cancel_0 rfl rfl ?_
  refine z_iconst (v := 0) hX.1 dL_cancel_1 (by decide) ?_
  refine z_aload_n hX.1 0 dL_cancel_2 rfl rfl ?_
  refine z_iload_n hX.1 1 dL_cancel_3 rfl rfl ?_
  refine z_catchV (k := 1) (stk := [.int 0, .ref (X.ad 98)]) hX [] ⟨0, 9, 12, 13⟩ [⟨0, 9, 15, 17⟩] (cx_X6_cancel X.l hX.2.2.2.1 st a1 (1, u) hf) zb_X6_cancel 0 dL_cancel_4 zm_524 (by decide) shC_0 rfl rfl rfl rfl ⟨by decide, by decide⟩ ⟨rfl, rfl⟩ (Nat.le_of_ble_eq_true rfl) rfl (fun z hz => absurd hz List.not_mem_nil) (by decide) (by decide) zm_310 zm_322 (fun q => ?_)
  refine z_astoreA_n hX.bump dL_cancel_12 rfl (by show 3 < X.nL; rw [hnl]; decide) ?_
  refine z_iconst (v := 1) hX.bump dL_cancel_13 (by decide) ?_
  exact z_iret hX.bump hQ dL_cancel_14 rfl
set_option maxHeartbeats 4000000 in
set_option maxRecDepth 100000 in
theorem cwx_L_cancel_3 (l : Launch) (hfl : l.stackTraces = false) (st : zSt) (a1 : Int32) (u : zSt) (hf : fx_X6_cancel st a1 = some (3, u)) : zMetW l yL_cancel cL_cancel 4 (some .int) zh_L_cancel zr_L_cancel 99 shC (fun ad => [.ref (ad 0), .int a1, .ref (ad 98)]) st (fun _ => some (.int 2)) u := by
  refine zmetW_of hfl zm_523 (by decide) (fun _ => Nat.le_of_ble_eq_true rfl) (by decide) (fun X _ hnl hX hQ => ?_)
  show zG 99 shC X st 0 [(0, .ref (X.ad 0)), (1, .int a1), (2, .ref (X.ad 98))] []
  refine z_aload_n hX.1 2 dL_cancel_0 rfl rfl ?_
  refine z_iconst (v := 0) hX.1 dL_cancel_1 (by decide) ?_
  refine z_aload_n hX.1 0 dL_cancel_2 rfl rfl ?_
  refine z_iload_n hX.1 1 dL_cancel_3 rfl rfl ?_
  refine z_catchV (k := 3) (stk := [.int 0, .ref (X.ad 98)]) hX [⟨0, 9, 12, 13⟩] ⟨0, 9, 15, 17⟩ [] (cx_X6_cancel X.l hX.2.2.2.1 st a1 (3, u) hf) zb_X6_cancel 0 dL_cancel_4 zm_524 (by decide) shC_0 rfl rfl rfl rfl ⟨by decide, by decide⟩ ⟨rfl, rfl⟩ (Nat.le_of_ble_eq_true rfl) rfl (List.forall_mem_cons.mpr ⟨z_npass hX 1 (by decide) zm_310 (by decide), fun z hz => absurd hz List.not_mem_nil⟩) (by decide) (by decide) zm_312 zm_410 (fun q => ?_)
  refine z_astoreA_n hX.bump dL_cancel_15 rfl (by show 3 < X.nL; rw [hnl]; decide) ?_
  refine z_iconst (v := 2) hX.bump dL_cancel_16 (by decide) ?_
  exact z_iret hX.bump hQ dL_cancel_17 rfl
abbrev zr_L_replace : Room := { frames := 9, cells := 1, slots := 6, locals := 156 }
def f_L_replace (st : zSt) (a1 : Int32) (a2 : Int32) : Option (Int32 × zSt) := ((f_X6_replace st a1 a2).bind fun q1 => (zlet (zwL q1.2 98 (0 : Int32).toNatClampNeg ((q1.1).toInt64)) fun s4 => some (0, s4)))
set_option maxHeartbeats 4000000 in
set_option maxRecDepth 100000 in
theorem t_L_replace (X : zCx) (out : Int32 × zSt) (hX : zOk X RL cL_replace zr_L_replace) (hQ : zPost X 99 shC (some .int) (some (.int out.1)) out.2) (hnl : X.nL = 5) (st : zSt) (a1 : Int32) (a2 : Int32) (hf : f_L_replace st a1 a2 = some out) : zG 99 shC X st 0 [(0, .ref (X.ad 0)), (1, .int a1), (2, .int a2), (3, .ref (X.ad 98))] [] := by
  unfold f_L_replace at hf
  refine z_aload_n hX 3 dL_replace_0 rfl rfl ?_
  refine z_iconst (v := 0) hX dL_replace_1 (by decide) ?_
  refine z_aload_n hX 0 dL_replace_2 rfl rfl ?_
  refine z_iload_n hX 1 dL_replace_3 rfl rfl ?_
  refine z_iload_n hX 2 dL_replace_4 rfl rfl ?_
  obtain ⟨q1, e2, hf⟩ := zbind hf
  refine z_callV (stk := [.int 0, .ref (X.ad 98)]) (stk' := [.int q1.1, .int 0, .ref (X.ad 98)]) hX (c_X6_replace X.l st a1 a2 q1 e2) zb_X6_replace 0 dL_replace_5 zm_555 (by decide) shC_0 rfl rfl rfl rfl ⟨by decide, by decide⟩ ⟨rfl, rfl⟩ (Nat.le_of_ble_eq_true rfl) rfl ?_
  refine z_i2l hX dL_replace_8 ?_
  refine z_last hX 98 dL_replace_9 (by decide) shC_98 (show zin 0 1 by decide) ?_
  obtain ⟨s4, h5, hf⟩ := zlet_ex hf
  refine z_name h5 ?_
  refine z_goto hX 21 dL_replace_10 (by decide) ?_
  refine z_iconst (v := 0) hX dL_replace_21 (by decide) ?_
  obtain rfl := Option.some.inj hf
  exact z_iret hX hQ dL_replace_22 rfl
abbrev zh_L_replace : List (Nat × Nat × Nat × Nat) := [(0, 10, 13, 13), (0, 10, 17, 17)]
theorem cw_L_replace (l : Launch) (hfl : l.stackTraces = false) (st : zSt) (a1 : Int32) (a2 : Int32) (out : Int32 × zSt) (hf : f_L_replace st a1 a2 = some out) : zMetW l yL_replace cL_replace 5 (some .int) zh_L_replace zr_L_replace 99 shC (fun ad => [.ref (ad 0), .int a1, .int a2, .ref (ad 98)]) st (fun _ => some (.int out.1)) out.2 :=
  zmetW_of hfl zm_554 (by decide) (fun _ => Nat.le_of_ble_eq_true rfl) (by decide) (fun X _ hnl hX hQ => z_widen (t_L_replace (zbump X) out hX.bump hQ hnl st a1 a2 hf))
theorem zbW_L_replace : Cond.static yL_replace ∈ tables_1 ∧ Cond.initialized yL_replace.cls ∈ tables_1 ∧ Cond.codeWith yL_replace cL_replace 5 (some .int) zh_L_replace ∈ tables_1 ∧ (yL_replace.cls ≠ "java/lang/invoke/MethodHandle" ∧ yL_replace.cls ≠ "java/lang/invoke/VarHandle" ∧ (parseMethodDescriptor yL_replace.desc).map (fun d => d.parameters.length) = some 4) := ⟨zm_553, zm_0, zm_554, by decide, by decide, rfl⟩
set_option maxHeartbeats 4000000 in
set_option maxRecDepth 100000 in
theorem cwx_L_replace_1 (l : Launch) (hfl : l.stackTraces = false) (st : zSt) (a1 : Int32) (a2 : Int32) (u : zSt) (hf : fx_X6_replace st a1 a2 = some (1, u)) : zMetW l yL_replace cL_replace 5 (some .int) zh_L_replace zr_L_replace 99 shC (fun ad => [.ref (ad 0), .int a1, .int a2, .ref (ad 98)]) st (fun _ => some (.int 1)) u := by
  refine zmetW_of hfl zm_554 (by decide) (fun _ => Nat.le_of_ble_eq_true rfl) (by decide) (fun X _ hnl hX hQ => ?_)
  show zG 99 shC X st 0 [(0, .ref (X.ad 0)), (1, .int a1), (2, .int a2), (3, .ref (X.ad 98))] []
  refine z_aload_n hX.1 3 dL_replace_0 rfl rfl ?_
  refine z_iconst (v := 0) hX.1 dL_replace_1 (by decide) ?_
  refine z_aload_n hX.1 0 dL_replace_2 rfl rfl ?_
  refine z_iload_n hX.1 1 dL_replace_3 rfl rfl ?_
  refine z_iload_n hX.1 2 dL_replace_4 rfl rfl ?_
  refine z_catchV (k := 1) (stk := [.int 0, .ref (X.ad 98)]) hX [] ⟨0, 10, 13, 13⟩ [⟨0, 10, 17, 17⟩] (cx_X6_replace X.l hX.2.2.2.1 st a1 a2 (1, u) hf) zb_X6_replace 0 dL_replace_5 zm_555 (by decide) shC_0 rfl rfl rfl rfl ⟨by decide, by decide⟩ ⟨rfl, rfl⟩ (Nat.le_of_ble_eq_true rfl) rfl (fun z hz => absurd hz List.not_mem_nil) (by decide) (by decide) zm_310 zm_322 (fun q => ?_)
  refine z_astoreA hX.bump dL_replace_13 (by show 4 < X.nL; rw [hnl]; decide) ?_
  refine z_iconst (v := 1) hX.bump dL_replace_15 (by decide) ?_
  exact z_iret hX.bump hQ dL_replace_16 rfl
set_option maxHeartbeats 4000000 in
set_option maxRecDepth 100000 in
theorem cwx_L_replace_3 (l : Launch) (hfl : l.stackTraces = false) (st : zSt) (a1 : Int32) (a2 : Int32) (u : zSt) (hf : fx_X6_replace st a1 a2 = some (3, u)) : zMetW l yL_replace cL_replace 5 (some .int) zh_L_replace zr_L_replace 99 shC (fun ad => [.ref (ad 0), .int a1, .int a2, .ref (ad 98)]) st (fun _ => some (.int 2)) u := by
  refine zmetW_of hfl zm_554 (by decide) (fun _ => Nat.le_of_ble_eq_true rfl) (by decide) (fun X _ hnl hX hQ => ?_)
  show zG 99 shC X st 0 [(0, .ref (X.ad 0)), (1, .int a1), (2, .int a2), (3, .ref (X.ad 98))] []
  refine z_aload_n hX.1 3 dL_replace_0 rfl rfl ?_
  refine z_iconst (v := 0) hX.1 dL_replace_1 (by decide) ?_
  refine z_aload_n hX.1 0 dL_replace_2 rfl rfl ?_
  refine z_iload_n hX.1 1 dL_replace_3 rfl rfl ?_
  refine z_iload_n hX.1 2 dL_replace_4 rfl rfl ?_
  refine z_catchV (k := 3) (stk := [.int 0, .ref (X.ad 98)]) hX [⟨0, 10, 13, 13⟩] ⟨0, 10, 17, 17⟩ [] (cx_X6_replace X.l hX.2.2.2.1 st a1 a2 (3, u) hf) zb_X6_replace 0 dL_replace_5 zm_555 (by decide) shC_0 rfl rfl rfl rfl ⟨by decide, by decide⟩ ⟨rfl, rfl⟩ (Nat.le_of_ble_eq_true rfl) rfl (List.forall_mem_cons.mpr ⟨z_npass hX 1 (by decide) zm_310 (by decide), fun z hz => absurd hz List.not_mem_nil⟩) (by decide) (by decide) zm_312 zm_410 (fun q => ?_)
  refine z_astoreA hX.bump dL_replace_17 (by show 4 < X.nL; rw [hnl]; decide) ?_
  refine z_iconst (v := 2) hX.bump dL_replace_19 (by decide) ?_
  exact z_iret hX.bump hQ dL_replace_20 rfl
abbrev zr_L_pass : Room := { frames := 8, cells := 1, slots := 6, locals := 185 }
def f_L_pass (st : zSt) (a1 : Int32) : Option (Int32 × zSt) := ((f_X6_pass st a1).bind fun q1 => (zlet (zwL q1.2 98 (0 : Int32).toNatClampNeg ((q1.1).toInt64)) fun s4 => some (0, s4)))
set_option maxHeartbeats 4000000 in
set_option maxRecDepth 100000 in
theorem t_L_pass (X : zCx) (out : Int32 × zSt) (hX : zOk X RL cL_pass zr_L_pass) (hQ : zPost X 99 shC (some .int) (some (.int out.1)) out.2) (hnl : X.nL = 4) (st : zSt) (a1 : Int32) (hf : f_L_pass st a1 = some out) : zG 99 shC X st 0 [(0, .ref (X.ad 0)), (1, .int a1), (2, .ref (X.ad 98))] [] := by
  unfold f_L_pass at hf
  refine z_aload_n hX 2 dL_pass_0 rfl rfl ?_
  refine z_iconst (v := 0) hX dL_pass_1 (by decide) ?_
  refine z_aload_n hX 0 dL_pass_2 rfl rfl ?_
  refine z_iload_n hX 1 dL_pass_3 rfl rfl ?_
  obtain ⟨q1, e2, hf⟩ := zbind hf
  refine z_callV (stk := [.int 0, .ref (X.ad 98)]) (stk' := [.int q1.1, .int 0, .ref (X.ad 98)]) hX (c_X6_pass X.l st a1 q1 e2) zb_X6_pass 0 dL_pass_4 zm_574 (by decide) shC_0 rfl rfl rfl rfl ⟨by decide, by decide⟩ ⟨rfl, rfl⟩ (Nat.le_of_ble_eq_true rfl) rfl ?_
  refine z_i2l hX dL_pass_7 ?_
  refine z_last hX 98 dL_pass_8 (by decide) shC_98 (show zin 0 1 by decide) ?_
  obtain ⟨s4, h5, hf⟩ := zlet_ex hf
  refine z_name h5 ?_
  refine z_goto hX 18 dL_pass_9 (by decide) ?_
  refine z_iconst (v := 0) hX dL_pass_18 (by decide) ?_
  obtain rfl := Option.some.inj hf
  exact z_iret hX hQ dL_pass_19 rfl
abbrev zh_L_pass : List (Nat × Nat × Nat × Nat) := [(0, 9, 12, 15), (0, 9, 15, 17)]
theorem cw_L_pass (l : Launch) (hfl : l.stackTraces = false) (st : zSt) (a1 : Int32) (out : Int32 × zSt) (hf : f_L_pass st a1 = some out) : zMetW l yL_pass cL_pass 4 (some .int) zh_L_pass zr_L_pass 99 shC (fun ad => [.ref (ad 0), .int a1, .ref (ad 98)]) st (fun _ => some (.int out.1)) out.2 :=
  zmetW_of hfl zm_573 (by decide) (fun _ => Nat.le_of_ble_eq_true rfl) (by decide) (fun X _ hnl hX hQ => z_widen (t_L_pass (zbump X) out hX.bump hQ hnl st a1 hf))
theorem zbW_L_pass : Cond.static yL_pass ∈ tables_1 ∧ Cond.initialized yL_pass.cls ∈ tables_1 ∧ Cond.codeWith yL_pass cL_pass 4 (some .int) zh_L_pass ∈ tables_1 ∧ (yL_pass.cls ≠ "java/lang/invoke/MethodHandle" ∧ yL_pass.cls ≠ "java/lang/invoke/VarHandle" ∧ (parseMethodDescriptor yL_pass.desc).map (fun d => d.parameters.length) = some 3) := ⟨zm_572, zm_0, zm_573, by decide, by decide, rfl⟩
set_option maxHeartbeats 4000000 in
set_option maxRecDepth 100000 in
theorem cwx_L_pass_2 (l : Launch) (hfl : l.stackTraces = false) (st : zSt) (a1 : Int32) (u : zSt) (hf : fx_X6_pass st a1 = some (2, u)) : zMetW l yL_pass cL_pass 4 (some .int) zh_L_pass zr_L_pass 99 shC (fun ad => [.ref (ad 0), .int a1, .ref (ad 98)]) st (fun _ => some (.int 1)) u := by
  refine zmetW_of hfl zm_573 (by decide) (fun _ => Nat.le_of_ble_eq_true rfl) (by decide) (fun X _ hnl hX hQ => ?_)
  show zG 99 shC X st 0 [(0, .ref (X.ad 0)), (1, .int a1), (2, .ref (X.ad 98))] []
  refine z_aload_n hX.1 2 dL_pass_0 rfl rfl ?_
  refine z_iconst (v := 0) hX.1 dL_pass_1 (by decide) ?_
  refine z_aload_n hX.1 0 dL_pass_2 rfl rfl ?_
  refine z_iload_n hX.1 1 dL_pass_3 rfl rfl ?_
  refine z_catchV (k := 2) (stk := [.int 0, .ref (X.ad 98)]) hX [] ⟨0, 9, 12, 15⟩ [⟨0, 9, 15, 17⟩] (cx_X6_pass X.l hX.2.2.2.1 st a1 (2, u) hf) zb_X6_pass 0 dL_pass_4 zm_574 (by decide) shC_0 rfl rfl rfl rfl ⟨by decide, by decide⟩ ⟨rfl, rfl⟩ (Nat.le_of_ble_eq_true rfl) rfl (fun z hz => absurd hz List.not_mem_nil) (by decide) (by decide) zm_311 zm_392 (fun q => ?_)
  refine z_astoreA_n hX.bump dL_pass_12 rfl (by show 3 < X.nL; rw [hnl]; decide) ?_
  refine z_iconst (v := 1) hX.bump dL_pass_13 (by decide) ?_
  exact z_iret hX.bump hQ dL_pass_14 rfl
set_option maxHeartbeats 4000000 in
set_option maxRecDepth 100000 in
theorem cwx_L_pass_3 (l : Launch) (hfl : l.stackTraces = false) (st : zSt) (a1 : Int32) (u : zSt) (hf : fx_X6_pass st a1 = some (3, u)) : zMetW l yL_pass cL_pass 4 (some .int) zh_L_pass zr_L_pass 99 shC (fun ad => [.ref (ad 0), .int a1, .ref (ad 98)]) st (fun _ => some (.int 2)) u := by
  refine zmetW_of hfl zm_573 (by decide) (fun _ => Nat.le_of_ble_eq_true rfl) (by decide) (fun X _ hnl hX hQ => ?_)
  show zG 99 shC X st 0 [(0, .ref (X.ad 0)), (1, .int a1), (2, .ref (X.ad 98))] []
  refine z_aload_n hX.1 2 dL_pass_0 rfl rfl ?_
  refine z_iconst (v := 0) hX.1 dL_pass_1 (by decide) ?_
  refine z_aload_n hX.1 0 dL_pass_2 rfl rfl ?_
  refine z_iload_n hX.1 1 dL_pass_3 rfl rfl ?_
  refine z_catchV (k := 3) (stk := [.int 0, .ref (X.ad 98)]) hX [⟨0, 9, 12, 15⟩] ⟨0, 9, 15, 17⟩ [] (cx_X6_pass X.l hX.2.2.2.1 st a1 (3, u) hf) zb_X6_pass 0 dL_pass_4 zm_574 (by decide) shC_0 rfl rfl rfl rfl ⟨by decide, by decide⟩ ⟨rfl, rfl⟩ (Nat.le_of_ble_eq_true rfl) rfl (List.forall_mem_cons.mpr ⟨z_npass hX 2 (by decide) zm_311 (by decide), fun z hz => absurd hz List.not_mem_nil⟩) (by decide) (by decide) zm_312 zm_410 (fun q => ?_)
  refine z_astoreA_n hX.bump dL_pass_15 rfl (by show 3 < X.nL; rw [hnl]; decide) ?_
  refine z_iconst (v := 2) hX.bump dL_pass_16 (by decide) ?_
  exact z_iret hX.bump hQ dL_pass_17 rfl
abbrev zr_L_state : Room := { frames := 9, cells := 1, slots := 6, locals := 154 }
def f_L_state (st : zSt) (a1 : Int32) : Option (Int32 × zSt) := ((f_X6_state st a1).bind fun q1 => (zlet (zwL q1.2 98 (0 : Int32).toNatClampNeg ((q1.1).toInt64)) fun s4 => some (0, s4)))
set_option maxHeartbeats 4000000 in
set_option maxRecDepth 100000 in
theorem t_L_state (X : zCx) (out : Int32 × zSt) (hX : zOk X RL cL_state zr_L_state) (hQ : zPost X 99 shC (some .int) (some (.int out.1)) out.2) (hnl : X.nL = 4) (st : zSt) (a1 : Int32) (hf : f_L_state st a1 = some out) : zG 99 shC X st 0 [(0, .ref (X.ad 0)), (1, .int a1), (2, .ref (X.ad 98))] [] := by
  unfold f_L_state at hf
  refine z_aload_n hX 2 dL_state_0 rfl rfl ?_
  refine z_iconst (v := 0) hX dL_state_1 (by decide) ?_
  refine z_aload_n hX 0 dL_state_2 rfl rfl ?_
  refine z_iload_n hX 1 dL_state_3 rfl rfl ?_
  obtain ⟨q1, e2, hf⟩ := zbind hf
  refine z_callV (stk := [.int 0, .ref (X.ad 98)]) (stk' := [.int q1.1, .int 0, .ref (X.ad 98)]) hX (c_X6_state X.l st a1 q1 e2) zb_X6_state 0 dL_state_4 zm_650 (by decide) shC_0 rfl rfl rfl rfl ⟨by decide, by decide⟩ ⟨rfl, rfl⟩ (Nat.le_of_ble_eq_true rfl) rfl ?_
  refine z_i2l hX dL_state_7 ?_
  refine z_last hX 98 dL_state_8 (by decide) shC_98 (show zin 0 1 by decide) ?_
  obtain ⟨s4, h5, hf⟩ := zlet_ex hf
  refine z_name h5 ?_
  refine z_goto hX 15 dL_state_9 (by decide) ?_
  refine z_iconst (v := 0) hX dL_state_15 (by decide) ?_
  obtain rfl := Option.some.inj hf
  exact z_iret hX hQ dL_state_16 rfl
abbrev zh_L_state : List (Nat × Nat × Nat × Nat) := [(0, 9, 12, 13)]
theorem cw_L_state (l : Launch) (hfl : l.stackTraces = false) (st : zSt) (a1 : Int32) (out : Int32 × zSt) (hf : f_L_state st a1 = some out) : zMetW l yL_state cL_state 4 (some .int) zh_L_state zr_L_state 99 shC (fun ad => [.ref (ad 0), .int a1, .ref (ad 98)]) st (fun _ => some (.int out.1)) out.2 :=
  zmetW_of hfl zm_649 (by decide) (fun _ => Nat.le_of_ble_eq_true rfl) (by decide) (fun X _ hnl hX hQ => z_widen (t_L_state (zbump X) out hX.bump hQ hnl st a1 hf))
theorem zbW_L_state : Cond.static yL_state ∈ tables_1 ∧ Cond.initialized yL_state.cls ∈ tables_1 ∧ Cond.codeWith yL_state cL_state 4 (some .int) zh_L_state ∈ tables_1 ∧ (yL_state.cls ≠ "java/lang/invoke/MethodHandle" ∧ yL_state.cls ≠ "java/lang/invoke/VarHandle" ∧ (parseMethodDescriptor yL_state.desc).map (fun d => d.parameters.length) = some 3) := ⟨zm_648, zm_0, zm_649, by decide, by decide, rfl⟩
set_option maxHeartbeats 4000000 in
set_option maxRecDepth 100000 in
theorem cwx_L_state_1 (l : Launch) (hfl : l.stackTraces = false) (st : zSt) (a1 : Int32) (u : zSt) (hf : fx_X6_state st a1 = some (1, u)) : zMetW l yL_state cL_state 4 (some .int) zh_L_state zr_L_state 99 shC (fun ad => [.ref (ad 0), .int a1, .ref (ad 98)]) st (fun _ => some (.int 1)) u := by
  refine zmetW_of hfl zm_649 (by decide) (fun _ => Nat.le_of_ble_eq_true rfl) (by decide) (fun X _ hnl hX hQ => ?_)
  show zG 99 shC X st 0 [(0, .ref (X.ad 0)), (1, .int a1), (2, .ref (X.ad 98))] []
  refine z_aload_n hX.1 2 dL_state_0 rfl rfl ?_
  refine z_iconst (v := 0) hX.1 dL_state_1 (by decide) ?_
  refine z_aload_n hX.1 0 dL_state_2 rfl rfl ?_
  refine z_iload_n hX.1 1 dL_state_3 rfl rfl ?_
  refine z_catchV (k := 1) (stk := [.int 0, .ref (X.ad 98)]) hX [] ⟨0, 9, 12, 13⟩ [] (cx_X6_state X.l hX.2.2.2.1 st a1 (1, u) hf) zb_X6_state 0 dL_state_4 zm_650 (by decide) shC_0 rfl rfl rfl rfl ⟨by decide, by decide⟩ ⟨rfl, rfl⟩ (Nat.le_of_ble_eq_true rfl) rfl (fun z hz => absurd hz List.not_mem_nil) (by decide) (by decide) zm_310 zm_322 (fun q => ?_)
  refine z_astoreA_n hX.bump dL_state_12 rfl (by show 3 < X.nL; rw [hnl]; decide) ?_
  refine z_iconst (v := 1) hX.bump dL_state_13 (by decide) ?_
  exact z_iret hX.bump hQ dL_state_14 rfl
abbrev zr_L_ends : Room := { frames := 9, cells := 1, slots := 6, locals := 153 }
def f_L_ends (st : zSt) (a1 : Int32) : Option (Int32 × zSt) := ((f_X6_ends st a1).bind fun q1 => (zlet (zwL q1.2 98 (0 : Int32).toNatClampNeg ((q1.1).toInt64)) fun s4 => some (0, s4)))
set_option maxHeartbeats 4000000 in
set_option maxRecDepth 100000 in
theorem t_L_ends (X : zCx) (out : Int32 × zSt) (hX : zOk X RL cL_ends zr_L_ends) (hQ : zPost X 99 shC (some .int) (some (.int out.1)) out.2) (hnl : X.nL = 4) (st : zSt) (a1 : Int32) (hf : f_L_ends st a1 = some out) : zG 99 shC X st 0 [(0, .ref (X.ad 0)), (1, .int a1), (2, .ref (X.ad 98))] [] := by
  unfold f_L_ends at hf
  refine z_aload_n hX 2 dL_ends_0 rfl rfl ?_
  refine z_iconst (v := 0) hX dL_ends_1 (by decide) ?_
  refine z_aload_n hX 0 dL_ends_2 rfl rfl ?_
  refine z_iload_n hX 1 dL_ends_3 rfl rfl ?_
  obtain ⟨q1, e2, hf⟩ := zbind hf
  refine z_callV (stk := [.int 0, .ref (X.ad 98)]) (stk' := [.int q1.1, .int 0, .ref (X.ad 98)]) hX (c_X6_ends X.l st a1 q1 e2) zb_X6_ends 0 dL_ends_4 zm_657 (by decide) shC_0 rfl rfl rfl rfl ⟨by decide, by decide⟩ ⟨rfl, rfl⟩ (Nat.le_of_ble_eq_true rfl) rfl ?_
  refine z_i2l hX dL_ends_7 ?_
  refine z_last hX 98 dL_ends_8 (by decide) shC_98 (show zin 0 1 by decide) ?_
  obtain ⟨s4, h5, hf⟩ := zlet_ex hf
  refine z_name h5 ?_
  refine z_goto hX 15 dL_ends_9 (by decide) ?_
  refine z_iconst (v := 0) hX dL_ends_15 (by decide) ?_
  obtain rfl := Option.some.inj hf
  exact z_iret hX hQ dL_ends_16 rfl
abbrev zh_L_ends : List (Nat × Nat × Nat × Nat) := [(0, 9, 12, 13)]
theorem cw_L_ends (l : Launch) (hfl : l.stackTraces = false) (st : zSt) (a1 : Int32) (out : Int32 × zSt) (hf : f_L_ends st a1 = some out) : zMetW l yL_ends cL_ends 4 (some .int) zh_L_ends zr_L_ends 99 shC (fun ad => [.ref (ad 0), .int a1, .ref (ad 98)]) st (fun _ => some (.int out.1)) out.2 :=
  zmetW_of hfl zm_656 (by decide) (fun _ => Nat.le_of_ble_eq_true rfl) (by decide) (fun X _ hnl hX hQ => z_widen (t_L_ends (zbump X) out hX.bump hQ hnl st a1 hf))
theorem zbW_L_ends : Cond.static yL_ends ∈ tables_1 ∧ Cond.initialized yL_ends.cls ∈ tables_1 ∧ Cond.codeWith yL_ends cL_ends 4 (some .int) zh_L_ends ∈ tables_1 ∧ (yL_ends.cls ≠ "java/lang/invoke/MethodHandle" ∧ yL_ends.cls ≠ "java/lang/invoke/VarHandle" ∧ (parseMethodDescriptor yL_ends.desc).map (fun d => d.parameters.length) = some 3) := ⟨zm_655, zm_0, zm_656, by decide, by decide, rfl⟩
set_option maxHeartbeats 4000000 in
set_option maxRecDepth 100000 in
theorem cwx_L_ends_1 (l : Launch) (hfl : l.stackTraces = false) (st : zSt) (a1 : Int32) (u : zSt) (hf : fx_X6_ends st a1 = some (1, u)) : zMetW l yL_ends cL_ends 4 (some .int) zh_L_ends zr_L_ends 99 shC (fun ad => [.ref (ad 0), .int a1, .ref (ad 98)]) st (fun _ => some (.int 1)) u := by
  refine zmetW_of hfl zm_656 (by decide) (fun _ => Nat.le_of_ble_eq_true rfl) (by decide) (fun X _ hnl hX hQ => ?_)
  show zG 99 shC X st 0 [(0, .ref (X.ad 0)), (1, .int a1), (2, .ref (X.ad 98))] []
  refine z_aload_n hX.1 2 dL_ends_0 rfl rfl ?_
  refine z_iconst (v := 0) hX.1 dL_ends_1 (by decide) ?_
  refine z_aload_n hX.1 0 dL_ends_2 rfl rfl ?_
  refine z_iload_n hX.1 1 dL_ends_3 rfl rfl ?_
  refine z_catchV (k := 1) (stk := [.int 0, .ref (X.ad 98)]) hX [] ⟨0, 9, 12, 13⟩ [] (cx_X6_ends X.l hX.2.2.2.1 st a1 (1, u) hf) zb_X6_ends 0 dL_ends_4 zm_657 (by decide) shC_0 rfl rfl rfl rfl ⟨by decide, by decide⟩ ⟨rfl, rfl⟩ (Nat.le_of_ble_eq_true rfl) rfl (fun z hz => absurd hz List.not_mem_nil) (by decide) (by decide) zm_310 zm_322 (fun q => ?_)
  refine z_astoreA_n hX.bump dL_ends_12 rfl (by show 3 < X.nL; rw [hnl]; decide) ?_
  refine z_iconst (v := 1) hX.bump dL_ends_13 (by decide) ?_
  exact z_iret hX.bump hQ dL_ends_14 rfl
abbrev zr_L_busAfter : Room := { frames := 9, cells := 1, slots := 6, locals := 155 }
def f_L_busAfter (st : zSt) (a1 : Int32) : Option (Int32 × zSt) := ((f_X6_busAfter st a1).bind fun q1 => (zlet (zwL q1.2 98 (0 : Int32).toNatClampNeg ((q1.1).toInt64)) fun s4 => some (0, s4)))
set_option maxHeartbeats 4000000 in
set_option maxRecDepth 100000 in
theorem t_L_busAfter (X : zCx) (out : Int32 × zSt) (hX : zOk X RL cL_busAfter zr_L_busAfter) (hQ : zPost X 99 shC (some .int) (some (.int out.1)) out.2) (hnl : X.nL = 4) (st : zSt) (a1 : Int32) (hf : f_L_busAfter st a1 = some out) : zG 99 shC X st 0 [(0, .ref (X.ad 0)), (1, .int a1), (2, .ref (X.ad 98))] [] := by
  unfold f_L_busAfter at hf
  refine z_aload_n hX 2 dL_busAfter_0 rfl rfl ?_
  refine z_iconst (v := 0) hX dL_busAfter_1 (by decide) ?_
  refine z_aload_n hX 0 dL_busAfter_2 rfl rfl ?_
  refine z_iload_n hX 1 dL_busAfter_3 rfl rfl ?_
  obtain ⟨q1, e2, hf⟩ := zbind hf
  refine z_callV (stk := [.int 0, .ref (X.ad 98)]) (stk' := [.int q1.1, .int 0, .ref (X.ad 98)]) hX (c_X6_busAfter X.l st a1 q1 e2) zb_X6_busAfter 0 dL_busAfter_4 zm_664 (by decide) shC_0 rfl rfl rfl rfl ⟨by decide, by decide⟩ ⟨rfl, rfl⟩ (Nat.le_of_ble_eq_true rfl) rfl ?_
  refine z_i2l hX dL_busAfter_7 ?_
  refine z_last hX 98 dL_busAfter_8 (by decide) shC_98 (show zin 0 1 by decide) ?_
  obtain ⟨s4, h5, hf⟩ := zlet_ex hf
  refine z_name h5 ?_
  refine z_goto hX 15 dL_busAfter_9 (by decide) ?_
  refine z_iconst (v := 0) hX dL_busAfter_15 (by decide) ?_
  obtain rfl := Option.some.inj hf
  exact z_iret hX hQ dL_busAfter_16 rfl
abbrev zh_L_busAfter : List (Nat × Nat × Nat × Nat) := [(0, 9, 12, 13)]
theorem cw_L_busAfter (l : Launch) (hfl : l.stackTraces = false) (st : zSt) (a1 : Int32) (out : Int32 × zSt) (hf : f_L_busAfter st a1 = some out) : zMetW l yL_busAfter cL_busAfter 4 (some .int) zh_L_busAfter zr_L_busAfter 99 shC (fun ad => [.ref (ad 0), .int a1, .ref (ad 98)]) st (fun _ => some (.int out.1)) out.2 :=
  zmetW_of hfl zm_663 (by decide) (fun _ => Nat.le_of_ble_eq_true rfl) (by decide) (fun X _ hnl hX hQ => z_widen (t_L_busAfter (zbump X) out hX.bump hQ hnl st a1 hf))
theorem zbW_L_busAfter : Cond.static yL_busAfter ∈ tables_1 ∧ Cond.initialized yL_busAfter.cls ∈ tables_1 ∧ Cond.codeWith yL_busAfter cL_busAfter 4 (some .int) zh_L_busAfter ∈ tables_1 ∧ (yL_busAfter.cls ≠ "java/lang/invoke/MethodHandle" ∧ yL_busAfter.cls ≠ "java/lang/invoke/VarHandle" ∧ (parseMethodDescriptor yL_busAfter.desc).map (fun d => d.parameters.length) = some 3) := ⟨zm_662, zm_0, zm_663, by decide, by decide, rfl⟩
set_option maxHeartbeats 4000000 in
set_option maxRecDepth 100000 in
theorem cwx_L_busAfter_1 (l : Launch) (hfl : l.stackTraces = false) (st : zSt) (a1 : Int32) (u : zSt) (hf : fx_X6_busAfter st a1 = some (1, u)) : zMetW l yL_busAfter cL_busAfter 4 (some .int) zh_L_busAfter zr_L_busAfter 99 shC (fun ad => [.ref (ad 0), .int a1, .ref (ad 98)]) st (fun _ => some (.int 1)) u := by
  refine zmetW_of hfl zm_663 (by decide) (fun _ => Nat.le_of_ble_eq_true rfl) (by decide) (fun X _ hnl hX hQ => ?_)
  show zG 99 shC X st 0 [(0, .ref (X.ad 0)), (1, .int a1), (2, .ref (X.ad 98))] []
  refine z_aload_n hX.1 2 dL_busAfter_0 rfl rfl ?_
  refine z_iconst (v := 0) hX.1 dL_busAfter_1 (by decide) ?_
  refine z_aload_n hX.1 0 dL_busAfter_2 rfl rfl ?_
  refine z_iload_n hX.1 1 dL_busAfter_3 rfl rfl ?_
  refine z_catchV (k := 1) (stk := [.int 0, .ref (X.ad 98)]) hX [] ⟨0, 9, 12, 13⟩ [] (cx_X6_busAfter X.l hX.2.2.2.1 st a1 (1, u) hf) zb_X6_busAfter 0 dL_busAfter_4 zm_664 (by decide) shC_0 rfl rfl rfl rfl ⟨by decide, by decide⟩ ⟨rfl, rfl⟩ (Nat.le_of_ble_eq_true rfl) rfl (fun z hz => absurd hz List.not_mem_nil) (by decide) (by decide) zm_310 zm_322 (fun q => ?_)
  refine z_astoreA_n hX.bump dL_busAfter_12 rfl (by show 3 < X.nL; rw [hnl]; decide) ?_
  refine z_iconst (v := 1) hX.bump dL_busAfter_13 (by decide) ?_
  exact z_iret hX.bump hQ dL_busAfter_14 rfl
abbrev zr_L_place : Room := { frames := 8, cells := 1, slots := 6, locals := 132 }
def f_L_place (st : zSt) (a1 : Int32) : Option (Int32 × zSt) := ((f_X6_place st a1).bind fun q1 => (zlet (zwL q1.2 98 (0 : Int32).toNatClampNeg ((q1.1).toInt64)) fun s4 => some (0, s4)))
set_option maxHeartbeats 4000000 in
set_option maxRecDepth 100000 in
theorem t_L_place (X : zCx) (out : Int32 × zSt) (hX : zOk X RL cL_place zr_L_place) (hQ : zPost X 99 shC (some .int) (some (.int out.1)) out.2) (hnl : X.nL = 4) (st : zSt) (a1 : Int32) (hf : f_L_place st a1 = some out) : zG 99 shC X st 0 [(0, .ref (X.ad 0)), (1, .int a1), (2, .ref (X.ad 98))] [] := by
  unfold f_L_place at hf
  refine z_aload_n hX 2 dL_place_0 rfl rfl ?_
  refine z_iconst (v := 0) hX dL_place_1 (by decide) ?_
  refine z_aload_n hX 0 dL_place_2 rfl rfl ?_
  refine z_iload_n hX 1 dL_place_3 rfl rfl ?_
  obtain ⟨q1, e2, hf⟩ := zbind hf
  refine z_callV (stk := [.int 0, .ref (X.ad 98)]) (stk' := [.int q1.1, .int 0, .ref (X.ad 98)]) hX (c_X6_place X.l st a1 q1 e2) zb_X6_place 0 dL_place_4 zm_674 (by decide) shC_0 rfl rfl rfl rfl ⟨by decide, by decide⟩ ⟨rfl, rfl⟩ (Nat.le_of_ble_eq_true rfl) rfl ?_
  refine z_i2l hX dL_place_7 ?_
  refine z_last hX 98 dL_place_8 (by decide) shC_98 (show zin 0 1 by decide) ?_
  obtain ⟨s4, h5, hf⟩ := zlet_ex hf
  refine z_name h5 ?_
  refine z_goto hX 15 dL_place_9 (by decide) ?_
  refine z_iconst (v := 0) hX dL_place_15 (by decide) ?_
  obtain rfl := Option.some.inj hf
  exact z_iret hX hQ dL_place_16 rfl
abbrev zh_L_place : List (Nat × Nat × Nat × Nat) := [(0, 9, 12, 13)]
theorem cw_L_place (l : Launch) (hfl : l.stackTraces = false) (st : zSt) (a1 : Int32) (out : Int32 × zSt) (hf : f_L_place st a1 = some out) : zMetW l yL_place cL_place 4 (some .int) zh_L_place zr_L_place 99 shC (fun ad => [.ref (ad 0), .int a1, .ref (ad 98)]) st (fun _ => some (.int out.1)) out.2 :=
  zmetW_of hfl zm_673 (by decide) (fun _ => Nat.le_of_ble_eq_true rfl) (by decide) (fun X _ hnl hX hQ => z_widen (t_L_place (zbump X) out hX.bump hQ hnl st a1 hf))
theorem zbW_L_place : Cond.static yL_place ∈ tables_1 ∧ Cond.initialized yL_place.cls ∈ tables_1 ∧ Cond.codeWith yL_place cL_place 4 (some .int) zh_L_place ∈ tables_1 ∧ (yL_place.cls ≠ "java/lang/invoke/MethodHandle" ∧ yL_place.cls ≠ "java/lang/invoke/VarHandle" ∧ (parseMethodDescriptor yL_place.desc).map (fun d => d.parameters.length) = some 3) := ⟨zm_672, zm_0, zm_673, by decide, by decide, rfl⟩
set_option maxHeartbeats 4000000 in
set_option maxRecDepth 100000 in
theorem cwx_L_place_1 (l : Launch) (hfl : l.stackTraces = false) (st : zSt) (a1 : Int32) (u : zSt) (hf : fx_X6_place st a1 = some (1, u)) : zMetW l yL_place cL_place 4 (some .int) zh_L_place zr_L_place 99 shC (fun ad => [.ref (ad 0), .int a1, .ref (ad 98)]) st (fun _ => some (.int 1)) u := by
  refine zmetW_of hfl zm_673 (by decide) (fun _ => Nat.le_of_ble_eq_true rfl) (by decide) (fun X _ hnl hX hQ => ?_)
  show zG 99 shC X st 0 [(0, .ref (X.ad 0)), (1, .int a1), (2, .ref (X.ad 98))] []
  refine z_aload_n hX.1 2 dL_place_0 rfl rfl ?_
  refine z_iconst (v := 0) hX.1 dL_place_1 (by decide) ?_
  refine z_aload_n hX.1 0 dL_place_2 rfl rfl ?_
  refine z_iload_n hX.1 1 dL_place_3 rfl rfl ?_
  refine z_catchV (k := 1) (stk := [.int 0, .ref (X.ad 98)]) hX [] ⟨0, 9, 12, 13⟩ [] (cx_X6_place X.l hX.2.2.2.1 st a1 (1, u) hf) zb_X6_place 0 dL_place_4 zm_674 (by decide) shC_0 rfl rfl rfl rfl ⟨by decide, by decide⟩ ⟨rfl, rfl⟩ (Nat.le_of_ble_eq_true rfl) rfl (fun z hz => absurd hz List.not_mem_nil) (by decide) (by decide) zm_310 zm_322 (fun q => ?_)
  refine z_astoreA_n hX.bump dL_place_12 rfl (by show 3 < X.nL; rw [hnl]; decide) ?_
  refine z_iconst (v := 1) hX.bump dL_place_13 (by decide) ?_
  exact z_iret hX.bump hQ dL_place_14 rfl
abbrev zr_L_placeByLine : Room := { frames := 8, cells := 1, slots := 6, locals := 133 }
def f_L_placeByLine (st : zSt) (a1 : Int32) (a2 : Int32) : Option (Int32 × zSt) := ((f_X6_placeByLine st a1 a2).bind fun q1 => (zlet (zwL q1.2 98 (0 : Int32).toNatClampNeg ((q1.1).toInt64)) fun s4 => some (0, s4)))
set_option maxHeartbeats 4000000 in
set_option maxRecDepth 100000 in
theorem t_L_placeByLine (X : zCx) (out : Int32 × zSt) (hX : zOk X RL cL_placeByLine zr_L_placeByLine) (hQ : zPost X 99 shC (some .int) (some (.int out.1)) out.2) (hnl : X.nL = 5) (st : zSt) (a1 : Int32) (a2 : Int32) (hf : f_L_placeByLine st a1 a2 = some out) : zG 99 shC X st 0 [(0, .ref (X.ad 0)), (1, .int a1), (2, .int a2), (3, .ref (X.ad 98))] [] := by
  unfold f_L_placeByLine at hf
  refine z_aload_n hX 3 dL_placeByLine_0 rfl rfl ?_
  refine z_iconst (v := 0) hX dL_placeByLine_1 (by decide) ?_
  refine z_aload_n hX 0 dL_placeByLine_2 rfl rfl ?_
  refine z_iload_n hX 1 dL_placeByLine_3 rfl rfl ?_
  refine z_iload_n hX 2 dL_placeByLine_4 rfl rfl ?_
  obtain ⟨q1, e2, hf⟩ := zbind hf
  refine z_callV (stk := [.int 0, .ref (X.ad 98)]) (stk' := [.int q1.1, .int 0, .ref (X.ad 98)]) hX (c_X6_placeByLine X.l st a1 a2 q1 e2) zb_X6_placeByLine 0 dL_placeByLine_5 zm_681 (by decide) shC_0 rfl rfl rfl rfl ⟨by decide, by decide⟩ ⟨rfl, rfl⟩ (Nat.le_of_ble_eq_true rfl) rfl ?_
  refine z_i2l hX dL_placeByLine_8 ?_
  refine z_last hX 98 dL_placeByLine_9 (by decide) shC_98 (show zin 0 1 by decide) ?_
  obtain ⟨s4, h5, hf⟩ := zlet_ex hf
  refine z_name h5 ?_
  refine z_goto hX 21 dL_placeByLine_10 (by decide) ?_
  refine z_iconst (v := 0) hX dL_placeByLine_21 (by decide) ?_
  obtain rfl := Option.some.inj hf
  exact z_iret hX hQ dL_placeByLine_22 rfl
abbrev zh_L_placeByLine : List (Nat × Nat × Nat × Nat) := [(0, 10, 13, 13), (0, 10, 17, 15)]
theorem cw_L_placeByLine (l : Launch) (hfl : l.stackTraces = false) (st : zSt) (a1 : Int32) (a2 : Int32) (out : Int32 × zSt) (hf : f_L_placeByLine st a1 a2 = some out) : zMetW l yL_placeByLine cL_placeByLine 5 (some .int) zh_L_placeByLine zr_L_placeByLine 99 shC (fun ad => [.ref (ad 0), .int a1, .int a2, .ref (ad 98)]) st (fun _ => some (.int out.1)) out.2 :=
  zmetW_of hfl zm_680 (by decide) (fun _ => Nat.le_of_ble_eq_true rfl) (by decide) (fun X _ hnl hX hQ => z_widen (t_L_placeByLine (zbump X) out hX.bump hQ hnl st a1 a2 hf))
theorem zbW_L_placeByLine : Cond.static yL_placeByLine ∈ tables_1 ∧ Cond.initialized yL_placeByLine.cls ∈ tables_1 ∧ Cond.codeWith yL_placeByLine cL_placeByLine 5 (some .int) zh_L_placeByLine ∈ tables_1 ∧ (yL_placeByLine.cls ≠ "java/lang/invoke/MethodHandle" ∧ yL_placeByLine.cls ≠ "java/lang/invoke/VarHandle" ∧ (parseMethodDescriptor yL_placeByLine.desc).map (fun d => d.parameters.length) = some 4) := ⟨zm_679, zm_0, zm_680, by decide, by decide, rfl⟩
set_option maxHeartbeats 4000000 in
set_option maxRecDepth 100000 in
theorem cwx_L_placeByLine_1 (l : Launch) (hfl : l.stackTraces = false) (st : zSt) (a1 : Int32) (a2 : Int32) (u : zSt) (hf : fx_X6_placeByLine st a1 a2 = some (1, u)) : zMetW l yL_placeByLine cL_placeByLine 5 (some .int) zh_L_placeByLine zr_L_placeByLine 99 shC (fun ad => [.ref (ad 0), .int a1, .int a2, .ref (ad 98)]) st (fun _ => some (.int 1)) u := by
  refine zmetW_of hfl zm_680 (by decide) (fun _ => Nat.le_of_ble_eq_true rfl) (by decide) (fun X _ hnl hX hQ => ?_)
  show zG 99 shC X st 0 [(0, .ref (X.ad 0)), (1, .int a1), (2, .int a2), (3, .ref (X.ad 98))] []
  refine z_aload_n hX.1 3 dL_placeByLine_0 rfl rfl ?_
  refine z_iconst (v := 0) hX.1 dL_placeByLine_1 (by decide) ?_
  refine z_aload_n hX.1 0 dL_placeByLine_2 rfl rfl ?_
  refine z_iload_n hX.1 1 dL_placeByLine_3 rfl rfl ?_
  refine z_iload_n hX.1 2 dL_placeByLine_4 rfl rfl ?_
  refine z_catchV (k := 1) (stk := [.int 0, .ref (X.ad 98)]) hX [] ⟨0, 10, 13, 13⟩ [⟨0, 10, 17, 15⟩] (cx_X6_placeByLine X.l hX.2.2.2.1 st a1 a2 (1, u) hf) zb_X6_placeByLine 0 dL_placeByLine_5 zm_681 (by decide) shC_0 rfl rfl rfl rfl ⟨by decide, by decide⟩ ⟨rfl, rfl⟩ (Nat.le_of_ble_eq_true rfl) rfl (fun z hz => absurd hz List.not_mem_nil) (by decide) (by decide) zm_310 zm_322 (fun q => ?_)
  refine z_astoreA hX.bump dL_placeByLine_13 (by show 4 < X.nL; rw [hnl]; decide) ?_
  refine z_iconst (v := 1) hX.bump dL_placeByLine_15 (by decide) ?_
  exact z_iret hX.bump hQ dL_placeByLine_16 rfl
set_option maxHeartbeats 4000000 in
set_option maxRecDepth 100000 in
theorem cwx_L_placeByLine_2 (l : Launch) (hfl : l.stackTraces = false) (st : zSt) (a1 : Int32) (a2 : Int32) (u : zSt) (hf : fx_X6_placeByLine st a1 a2 = some (2, u)) : zMetW l yL_placeByLine cL_placeByLine 5 (some .int) zh_L_placeByLine zr_L_placeByLine 99 shC (fun ad => [.ref (ad 0), .int a1, .int a2, .ref (ad 98)]) st (fun _ => some (.int 2)) u := by
  refine zmetW_of hfl zm_680 (by decide) (fun _ => Nat.le_of_ble_eq_true rfl) (by decide) (fun X _ hnl hX hQ => ?_)
  show zG 99 shC X st 0 [(0, .ref (X.ad 0)), (1, .int a1), (2, .int a2), (3, .ref (X.ad 98))] []
  refine z_aload_n hX.1 3 dL_placeByLine_0 rfl rfl ?_
  refine z_iconst (v := 0) hX.1 dL_placeByLine_1 (by decide) ?_
  refine z_aload_n hX.1 0 dL_placeByLine_2 rfl rfl ?_
  refine z_iload_n hX.1 1 dL_placeByLine_3 rfl rfl ?_
  refine z_iload_n hX.1 2 dL_placeByLine_4 rfl rfl ?_
  refine z_catchV (k := 2) (stk := [.int 0, .ref (X.ad 98)]) hX [⟨0, 10, 13, 13⟩] ⟨0, 10, 17, 15⟩ [] (cx_X6_placeByLine X.l hX.2.2.2.1 st a1 a2 (2, u) hf) zb_X6_placeByLine 0 dL_placeByLine_5 zm_681 (by decide) shC_0 rfl rfl rfl rfl ⟨by decide, by decide⟩ ⟨rfl, rfl⟩ (Nat.le_of_ble_eq_true rfl) rfl (List.forall_mem_cons.mpr ⟨z_npass hX 1 (by decide) zm_310 (by decide), fun z hz => absurd hz List.not_mem_nil⟩) (by decide) (by decide) zm_311 zm_392 (fun q => ?_)
  refine z_astoreA hX.bump dL_placeByLine_17 (by show 4 < X.nL; rw [hnl]; decide) ?_
  refine z_iconst (v := 2) hX.bump dL_placeByLine_19 (by decide) ?_
  exact z_iret hX.bump hQ dL_placeByLine_20 rfl
abbrev zr_L_fuel : Room := { frames := 9, cells := 1, slots := 6, locals := 153 }
def f_L_fuel (st : zSt) (a1 : Int32) : Option (Int32 × zSt) := ((f_X6_fuel st a1).bind fun q1 => (zlet (zwL q1.2 98 (0 : Int32).toNatClampNeg ((q1.1).toInt64)) fun s4 => some (0, s4)))
set_option maxHeartbeats 4000000 in
set_option maxRecDepth 100000 in
theorem t_L_fuel (X : zCx) (out : Int32 × zSt) (hX : zOk X RL cL_fuel zr_L_fuel) (hQ : zPost X 99 shC (some .int) (some (.int out.1)) out.2) (hnl : X.nL = 4) (st : zSt) (a1 : Int32) (hf : f_L_fuel st a1 = some out) : zG 99 shC X st 0 [(0, .ref (X.ad 0)), (1, .int a1), (2, .ref (X.ad 98))] [] := by
  unfold f_L_fuel at hf
  refine z_aload_n hX 2 dL_fuel_0 rfl rfl ?_
  refine z_iconst (v := 0) hX dL_fuel_1 (by decide) ?_
  refine z_aload_n hX 0 dL_fuel_2 rfl rfl ?_
  refine z_iload_n hX 1 dL_fuel_3 rfl rfl ?_
  obtain ⟨q1, e2, hf⟩ := zbind hf
  refine z_callV (stk := [.int 0, .ref (X.ad 98)]) (stk' := [.int q1.1, .int 0, .ref (X.ad 98)]) hX (c_X6_fuel X.l st a1 q1 e2) zb_X6_fuel 0 dL_fuel_4 zm_688 (by decide) shC_0 rfl rfl rfl rfl ⟨by decide, by decide⟩ ⟨rfl, rfl⟩ (Nat.le_of_ble_eq_true rfl) rfl ?_
  refine z_i2l hX dL_fuel_7 ?_
  refine z_last hX 98 dL_fuel_8 (by decide) shC_98 (show zin 0 1 by decide) ?_
  obtain ⟨s4, h5, hf⟩ := zlet_ex hf
  refine z_name h5 ?_
  refine z_goto hX 15 dL_fuel_9 (by decide) ?_
  refine z_iconst (v := 0) hX dL_fuel_15 (by decide) ?_
  obtain rfl := Option.some.inj hf
  exact z_iret hX hQ dL_fuel_16 rfl
abbrev zh_L_fuel : List (Nat × Nat × Nat × Nat) := [(0, 9, 12, 13)]
theorem cw_L_fuel (l : Launch) (hfl : l.stackTraces = false) (st : zSt) (a1 : Int32) (out : Int32 × zSt) (hf : f_L_fuel st a1 = some out) : zMetW l yL_fuel cL_fuel 4 (some .int) zh_L_fuel zr_L_fuel 99 shC (fun ad => [.ref (ad 0), .int a1, .ref (ad 98)]) st (fun _ => some (.int out.1)) out.2 :=
  zmetW_of hfl zm_687 (by decide) (fun _ => Nat.le_of_ble_eq_true rfl) (by decide) (fun X _ hnl hX hQ => z_widen (t_L_fuel (zbump X) out hX.bump hQ hnl st a1 hf))
theorem zbW_L_fuel : Cond.static yL_fuel ∈ tables_1 ∧ Cond.initialized yL_fuel.cls ∈ tables_1 ∧ Cond.codeWith yL_fuel cL_fuel 4 (some .int) zh_L_fuel ∈ tables_1 ∧ (yL_fuel.cls ≠ "java/lang/invoke/MethodHandle" ∧ yL_fuel.cls ≠ "java/lang/invoke/VarHandle" ∧ (parseMethodDescriptor yL_fuel.desc).map (fun d => d.parameters.length) = some 3) := ⟨zm_686, zm_0, zm_687, by decide, by decide, rfl⟩
set_option maxHeartbeats 4000000 in
set_option maxRecDepth 100000 in
theorem cwx_L_fuel_1 (l : Launch) (hfl : l.stackTraces = false) (st : zSt) (a1 : Int32) (u : zSt) (hf : fx_X6_fuel st a1 = some (1, u)) : zMetW l yL_fuel cL_fuel 4 (some .int) zh_L_fuel zr_L_fuel 99 shC (fun ad => [.ref (ad 0), .int a1, .ref (ad 98)]) st (fun _ => some (.int 1)) u := by
  refine zmetW_of hfl zm_687 (by decide) (fun _ => Nat.le_of_ble_eq_true rfl) (by decide) (fun X _ hnl hX hQ => ?_)
  show zG 99 shC X st 0 [(0, .ref (X.ad 0)), (1, .int a1), (2, .ref (X.ad 98))] []
  refine z_aload_n hX.1 2 dL_fuel_0 rfl rfl ?_
  refine z_iconst (v := 0) hX.1 dL_fuel_1 (by decide) ?_
  refine z_aload_n hX.1 0 dL_fuel_2 rfl rfl ?_
  refine z_iload_n hX.1 1 dL_fuel_3 rfl rfl ?_
  refine z_catchV (k := 1) (stk := [.int 0, .ref (X.ad 98)]) hX [] ⟨0, 9, 12, 13⟩ [] (cx_X6_fuel X.l hX.2.2.2.1 st a1 (1, u) hf) zb_X6_fuel 0 dL_fuel_4 zm_688 (by decide) shC_0 rfl rfl rfl rfl ⟨by decide, by decide⟩ ⟨rfl, rfl⟩ (Nat.le_of_ble_eq_true rfl) rfl (fun z hz => absurd hz List.not_mem_nil) (by decide) (by decide) zm_310 zm_322 (fun q => ?_)
  refine z_astoreA_n hX.bump dL_fuel_12 rfl (by show 3 < X.nL; rw [hnl]; decide) ?_
  refine z_iconst (v := 1) hX.bump dL_fuel_13 (by decide) ?_
  exact z_iret hX.bump hQ dL_fuel_14 rfl
abbrev zr_L_book : Room := { frames := 9, cells := 1, slots := 6, locals := 161 }
def f_L_book (st : zSt) (a1 : Int32) (a2 : Int32) (a3 : Int32) (a4 : Int32) (a5 : Int32) (a6 : Int32) : Option (Int32 × zSt) := ((f_X6_book st a1 a2 a3 a4 a5 a6).bind fun q1 => (zlet (zwL q1.2 98 (0 : Int32).toNatClampNeg ((q1.1).toInt64)) fun s4 => some (0, s4)))
set_option maxHeartbeats 4000000 in
set_option maxRecDepth 100000 in
theorem t_L_book (X : zCx) (out : Int32 × zSt) (hX : zOk X RL cL_book zr_L_book) (hQ : zPost X 99 shC (some .int) (some (.int out.1)) out.2) (hnl : X.nL = 9) (st : zSt) (a1 : Int32) (a2 : Int32) (a3 : Int32) (a4 : Int32) (a5 : Int32) (a6 : Int32) (hf : f_L_book st a1 a2 a3 a4 a5 a6 = some out) : zG 99 shC X st 0 [(0, .ref (X.ad 0)), (1, .int a1), (2, .int a2), (3, .int a3), (4, .int a4), (5, .int a5), (6, .int a6), (7, .ref (X.ad 98))] [] := by
  unfold f_L_book at hf
  refine z_aload hX 7 dL_book_0 rfl ?_
  refine z_iconst (v := 0) hX dL_book_2 (by decide) ?_
  refine z_aload_n hX 0 dL_book_3 rfl rfl ?_
  refine z_iload_n hX 1 dL_book_4 rfl rfl ?_
  refine z_iload_n hX 2 dL_book_5 rfl rfl ?_
  refine z_iload_n hX 3 dL_book_6 rfl rfl ?_
  refine z_iload hX 4 dL_book_7 rfl ?_
  refine z_iload hX 5 dL_book_9 rfl ?_
  refine z_iload hX 6 dL_book_11 rfl ?_
  obtain ⟨q1, e2, hf⟩ := zbind hf
  refine z_callV (stk := [.int 0, .ref (X.ad 98)]) (stk' := [.int q1.1, .int 0, .ref (X.ad 98)]) hX (c_X6_book X.l st a1 a2 a3 a4 a5 a6 q1 e2) zb_X6_book 0 dL_book_13 zm_695 (by decide) shC_0 rfl rfl rfl rfl ⟨by decide, by decide⟩ ⟨rfl, rfl⟩ (Nat.le_of_ble_eq_true rfl) rfl ?_
  refine z_i2l hX dL_book_16 ?_
  refine z_last hX 98 dL_book_17 (by decide) shC_98 (show zin 0 1 by decide) ?_
  obtain ⟨s4, h5, hf⟩ := zlet_ex hf
  refine z_name h5 ?_
  refine z_goto hX 33 dL_book_18 (by decide) ?_
  refine z_iconst (v := 0) hX dL_book_33 (by decide) ?_
  obtain rfl := Option.some.inj hf
  exact z_iret hX hQ dL_book_34 rfl
abbrev zh_L_book : List (Nat × Nat × Nat × Nat) := [(0, 18, 21, 13), (0, 18, 25, 15), (0, 18, 29, 17)]
theorem cw_L_book (l : Launch) (hfl : l.stackTraces = false) (st : zSt) (a1 : Int32) (a2 : Int32) (a3 : Int32) (a4 : Int32) (a5 : Int32) (a6 : Int32) (out : Int32 × zSt) (hf : f_L_book st a1 a2 a3 a4 a5 a6 = some out) : zMetW l yL_book cL_book 9 (some .int) zh_L_book zr_L_book 99 shC (fun ad => [.ref (ad 0), .int a1, .int a2, .int a3, .int a4, .int a5, .int a6, .ref (ad 98)]) st (fun _ => some (.int out.1)) out.2 :=
  zmetW_of hfl zm_694 (by decide) (fun _ => Nat.le_of_ble_eq_true rfl) (by decide) (fun X _ hnl hX hQ => z_widen (t_L_book (zbump X) out hX.bump hQ hnl st a1 a2 a3 a4 a5 a6 hf))
theorem zbW_L_book : Cond.static yL_book ∈ tables_1 ∧ Cond.initialized yL_book.cls ∈ tables_1 ∧ Cond.codeWith yL_book cL_book 9 (some .int) zh_L_book ∈ tables_1 ∧ (yL_book.cls ≠ "java/lang/invoke/MethodHandle" ∧ yL_book.cls ≠ "java/lang/invoke/VarHandle" ∧ (parseMethodDescriptor yL_book.desc).map (fun d => d.parameters.length) = some 8) := ⟨zm_693, zm_0, zm_694, by decide, by decide, rfl⟩
set_option maxHeartbeats 4000000 in
set_option maxRecDepth 100000 in
theorem cwx_L_book_1 (l : Launch) (hfl : l.stackTraces = false) (st : zSt) (a1 : Int32) (a2 : Int32) (a3 : Int32) (a4 : Int32) (a5 : Int32) (a6 : Int32) (u : zSt) (hf : fx_X6_book st a1 a2 a3 a4 a5 a6 = some (1, u)) : zMetW l yL_book cL_book 9 (some .int) zh_L_book zr_L_book 99 shC (fun ad => [.ref (ad 0), .int a1, .int a2, .int a3, .int a4, .int a5, .int a6, .ref (ad 98)]) st (fun _ => some (.int 1)) u := by
  refine zmetW_of hfl zm_694 (by decide) (fun _ => Nat.le_of_ble_eq_true rfl) (by decide) (fun X _ hnl hX hQ => ?_)
  show zG 99 shC X st 0 [(0, .ref (X.ad 0)), (1, .int a1), (2, .int a2), (3, .int a3), (4, .int a4), (5, .int a5), (6, .int a6), (7, .ref (X.ad 98))] []
  refine z_aload hX.1 7 dL_book_0 rfl ?_
  refine z_iconst (v := 0) hX.1 dL_book_2 (by decide) ?_
  refine z_aload_n hX.1 0 dL_book_3 rfl rfl ?_
  refine z_iload_n hX.1 1 dL_book_4 rfl rfl ?_
  refine z_iload_n hX.1 2 dL_book_5 rfl rfl ?_
  refine z_iload_n hX.1 3 dL_book_6 rfl rfl ?_
  refine z_iload hX.1 4 dL_book_7 rfl ?_
  refine z_iload hX.1 5 dL_book_9 rfl ?_
  refine z_iload hX.1 6 dL_book_11 rfl ?_
  refine z_catchV (k := 1) (stk := [.int 0, .ref (X.ad 98)]) hX [] ⟨0, 18, 21, 13⟩ [⟨0, 18, 25, 15⟩, ⟨0, 18, 29, 17⟩] (cx_X6_book X.l hX.2.2.2.1 st a1 a2 a3 a4 a5 a6 (1, u) hf) zb_X6_book 0 dL_book_13 zm_695 (by decide) shC_0 rfl rfl rfl rfl ⟨by decide, by decide⟩ ⟨rfl, rfl⟩ (Nat.le_of_ble_eq_true rfl) rfl (fun z hz => absurd hz List.not_mem_nil) (by decide) (by decide) zm_310 zm_322 (fun q => ?_)
  refine z_astoreA hX.bump dL_book_21 (by show 8 < X.nL; rw [hnl]; decide) ?_
  refine z_iconst (v := 1) hX.bump dL_book_23 (by decide) ?_
  exact z_iret hX.bump hQ dL_book_24 rfl
set_option maxHeartbeats 4000000 in
set_option maxRecDepth 100000 in
theorem cwx_L_book_2 (l : Launch) (hfl : l.stackTraces = false) (st : zSt) (a1 : Int32) (a2 : Int32) (a3 : Int32) (a4 : Int32) (a5 : Int32) (a6 : Int32) (u : zSt) (hf : fx_X6_book st a1 a2 a3 a4 a5 a6 = some (2, u)) : zMetW l yL_book cL_book 9 (some .int) zh_L_book zr_L_book 99 shC (fun ad => [.ref (ad 0), .int a1, .int a2, .int a3, .int a4, .int a5, .int a6, .ref (ad 98)]) st (fun _ => some (.int 2)) u := by
  refine zmetW_of hfl zm_694 (by decide) (fun _ => Nat.le_of_ble_eq_true rfl) (by decide) (fun X _ hnl hX hQ => ?_)
  show zG 99 shC X st 0 [(0, .ref (X.ad 0)), (1, .int a1), (2, .int a2), (3, .int a3), (4, .int a4), (5, .int a5), (6, .int a6), (7, .ref (X.ad 98))] []
  refine z_aload hX.1 7 dL_book_0 rfl ?_
  refine z_iconst (v := 0) hX.1 dL_book_2 (by decide) ?_
  refine z_aload_n hX.1 0 dL_book_3 rfl rfl ?_
  refine z_iload_n hX.1 1 dL_book_4 rfl rfl ?_
  refine z_iload_n hX.1 2 dL_book_5 rfl rfl ?_
  refine z_iload_n hX.1 3 dL_book_6 rfl rfl ?_
  refine z_iload hX.1 4 dL_book_7 rfl ?_
  refine z_iload hX.1 5 dL_book_9 rfl ?_
  refine z_iload hX.1 6 dL_book_11 rfl ?_
  refine z_catchV (k := 2) (stk := [.int 0, .ref (X.ad 98)]) hX [⟨0, 18, 21, 13⟩] ⟨0, 18, 25, 15⟩ [⟨0, 18, 29, 17⟩] (cx_X6_book X.l hX.2.2.2.1 st a1 a2 a3 a4 a5 a6 (2, u) hf) zb_X6_book 0 dL_book_13 zm_695 (by decide) shC_0 rfl rfl rfl rfl ⟨by decide, by decide⟩ ⟨rfl, rfl⟩ (Nat.le_of_ble_eq_true rfl) rfl (List.forall_mem_cons.mpr ⟨z_npass hX 1 (by decide) zm_310 (by decide), fun z hz => absurd hz List.not_mem_nil⟩) (by decide) (by decide) zm_311 zm_392 (fun q => ?_)
  refine z_astoreA hX.bump dL_book_25 (by show 8 < X.nL; rw [hnl]; decide) ?_
  refine z_iconst (v := 2) hX.bump dL_book_27 (by decide) ?_
  exact z_iret hX.bump hQ dL_book_28 rfl
set_option maxHeartbeats 4000000 in
set_option maxRecDepth 100000 in
theorem cwx_L_book_3 (l : Launch) (hfl : l.stackTraces = false) (st : zSt) (a1 : Int32) (a2 : Int32) (a3 : Int32) (a4 : Int32) (a5 : Int32) (a6 : Int32) (u : zSt) (hf : fx_X6_book st a1 a2 a3 a4 a5 a6 = some (3, u)) : zMetW l yL_book cL_book 9 (some .int) zh_L_book zr_L_book 99 shC (fun ad => [.ref (ad 0), .int a1, .int a2, .int a3, .int a4, .int a5, .int a6, .ref (ad 98)]) st (fun _ => some (.int 3)) u := by
  refine zmetW_of hfl zm_694 (by decide) (fun _ => Nat.le_of_ble_eq_true rfl) (by decide) (fun X _ hnl hX hQ => ?_)
  show zG 99 shC X st 0 [(0, .ref (X.ad 0)), (1, .int a1), (2, .int a2), (3, .int a3), (4, .int a4), (5, .int a5), (6, .int a6), (7, .ref (X.ad 98))] []
  refine z_aload hX.1 7 dL_book_0 rfl ?_
  refine z_iconst (v := 0) hX.1 dL_book_2 (by decide) ?_
  refine z_aload_n hX.1 0 dL_book_3 rfl rfl ?_
  refine z_iload_n hX.1 1 dL_book_4 rfl rfl ?_
  refine z_iload_n hX.1 2 dL_book_5 rfl rfl ?_
  refine z_iload_n hX.1 3 dL_book_6 rfl rfl ?_
  refine z_iload hX.1 4 dL_book_7 rfl ?_
  refine z_iload hX.1 5 dL_book_9 rfl ?_
  refine z_iload hX.1 6 dL_book_11 rfl ?_
  refine z_catchV (k := 3) (stk := [.int 0, .ref (X.ad 98)]) hX [⟨0, 18, 21, 13⟩, ⟨0, 18, 25, 15⟩] ⟨0, 18, 29, 17⟩ [] (cx_X6_book X.l hX.2.2.2.1 st a1 a2 a3 a4 a5 a6 (3, u) hf) zb_X6_book 0 dL_book_13 zm_695 (by decide) shC_0 rfl rfl rfl rfl ⟨by decide, by decide⟩ ⟨rfl, rfl⟩ (Nat.le_of_ble_eq_true rfl) rfl (List.forall_mem_cons.mpr ⟨z_npass hX 1 (by decide) zm_310 (by decide), List.forall_mem_cons.mpr ⟨z_npass hX 2 (by decide) zm_311 (by decide), fun z hz => absurd hz List.not_mem_nil⟩⟩) (by decide) (by decide) zm_312 zm_410 (fun q => ?_)
  refine z_astoreA hX.bump dL_book_29 (by show 8 < X.nL; rw [hnl]; decide) ?_
  refine z_iconst (v := 3) hX.bump dL_book_31 (by decide) ?_
  exact z_iret hX.bump hQ dL_book_32 rfl
abbrev zr_L_sailingOf : Room := { frames := 9, cells := 1, slots := 6, locals := 153 }
def f_L_sailingOf (st : zSt) (a1 : Int32) : Option (Int32 × zSt) := ((f_X6_sailingOf st a1).bind fun q1 => (zlet (zwL q1.2 98 (0 : Int32).toNatClampNeg ((q1.1).toInt64)) fun s4 => some (0, s4)))
set_option maxHeartbeats 4000000 in
set_option maxRecDepth 100000 in
theorem t_L_sailingOf (X : zCx) (out : Int32 × zSt) (hX : zOk X RL cL_sailingOf zr_L_sailingOf) (hQ : zPost X 99 shC (some .int) (some (.int out.1)) out.2) (hnl : X.nL = 4) (st : zSt) (a1 : Int32) (hf : f_L_sailingOf st a1 = some out) : zG 99 shC X st 0 [(0, .ref (X.ad 0)), (1, .int a1), (2, .ref (X.ad 98))] [] := by
  unfold f_L_sailingOf at hf
  refine z_aload_n hX 2 dL_sailingOf_0 rfl rfl ?_
  refine z_iconst (v := 0) hX dL_sailingOf_1 (by decide) ?_
  refine z_aload_n hX 0 dL_sailingOf_2 rfl rfl ?_
  refine z_iload_n hX 1 dL_sailingOf_3 rfl rfl ?_
  obtain ⟨q1, e2, hf⟩ := zbind hf
  refine z_callV (stk := [.int 0, .ref (X.ad 98)]) (stk' := [.int q1.1, .int 0, .ref (X.ad 98)]) hX (c_X6_sailingOf X.l st a1 q1 e2) zb_X6_sailingOf 0 dL_sailingOf_4 zm_712 (by decide) shC_0 rfl rfl rfl rfl ⟨by decide, by decide⟩ ⟨rfl, rfl⟩ (Nat.le_of_ble_eq_true rfl) rfl ?_
  refine z_i2l hX dL_sailingOf_7 ?_
  refine z_last hX 98 dL_sailingOf_8 (by decide) shC_98 (show zin 0 1 by decide) ?_
  obtain ⟨s4, h5, hf⟩ := zlet_ex hf
  refine z_name h5 ?_
  refine z_goto hX 15 dL_sailingOf_9 (by decide) ?_
  refine z_iconst (v := 0) hX dL_sailingOf_15 (by decide) ?_
  obtain rfl := Option.some.inj hf
  exact z_iret hX hQ dL_sailingOf_16 rfl
abbrev zh_L_sailingOf : List (Nat × Nat × Nat × Nat) := [(0, 9, 12, 13)]
theorem cw_L_sailingOf (l : Launch) (hfl : l.stackTraces = false) (st : zSt) (a1 : Int32) (out : Int32 × zSt) (hf : f_L_sailingOf st a1 = some out) : zMetW l yL_sailingOf cL_sailingOf 4 (some .int) zh_L_sailingOf zr_L_sailingOf 99 shC (fun ad => [.ref (ad 0), .int a1, .ref (ad 98)]) st (fun _ => some (.int out.1)) out.2 :=
  zmetW_of hfl zm_711 (by decide) (fun _ => Nat.le_of_ble_eq_true rfl) (by decide) (fun X _ hnl hX hQ => z_widen (t_L_sailingOf (zbump X) out hX.bump hQ hnl st a1 hf))
theorem zbW_L_sailingOf : Cond.static yL_sailingOf ∈ tables_1 ∧ Cond.initialized yL_sailingOf.cls ∈ tables_1 ∧ Cond.codeWith yL_sailingOf cL_sailingOf 4 (some .int) zh_L_sailingOf ∈ tables_1 ∧ (yL_sailingOf.cls ≠ "java/lang/invoke/MethodHandle" ∧ yL_sailingOf.cls ≠ "java/lang/invoke/VarHandle" ∧ (parseMethodDescriptor yL_sailingOf.desc).map (fun d => d.parameters.length) = some 3) := ⟨zm_710, zm_0, zm_711, by decide, by decide, rfl⟩
set_option maxHeartbeats 4000000 in
set_option maxRecDepth 100000 in
theorem cwx_L_sailingOf_1 (l : Launch) (hfl : l.stackTraces = false) (st : zSt) (a1 : Int32) (u : zSt) (hf : fx_X6_sailingOf st a1 = some (1, u)) : zMetW l yL_sailingOf cL_sailingOf 4 (some .int) zh_L_sailingOf zr_L_sailingOf 99 shC (fun ad => [.ref (ad 0), .int a1, .ref (ad 98)]) st (fun _ => some (.int 1)) u := by
  refine zmetW_of hfl zm_711 (by decide) (fun _ => Nat.le_of_ble_eq_true rfl) (by decide) (fun X _ hnl hX hQ => ?_)
  show zG 99 shC X st 0 [(0, .ref (X.ad 0)), (1, .int a1), (2, .ref (X.ad 98))] []
  refine z_aload_n hX.1 2 dL_sailingOf_0 rfl rfl ?_
  refine z_iconst (v := 0) hX.1 dL_sailingOf_1 (by decide) ?_
  refine z_aload_n hX.1 0 dL_sailingOf_2 rfl rfl ?_
  refine z_iload_n hX.1 1 dL_sailingOf_3 rfl rfl ?_
  refine z_catchV (k := 1) (stk := [.int 0, .ref (X.ad 98)]) hX [] ⟨0, 9, 12, 13⟩ [] (cx_X6_sailingOf X.l hX.2.2.2.1 st a1 (1, u) hf) zb_X6_sailingOf 0 dL_sailingOf_4 zm_712 (by decide) shC_0 rfl rfl rfl rfl ⟨by decide, by decide⟩ ⟨rfl, rfl⟩ (Nat.le_of_ble_eq_true rfl) rfl (fun z hz => absurd hz List.not_mem_nil) (by decide) (by decide) zm_310 zm_322 (fun q => ?_)
  refine z_astoreA_n hX.bump dL_sailingOf_12 rfl (by show 3 < X.nL; rw [hnl]; decide) ?_
  refine z_iconst (v := 1) hX.bump dL_sailingOf_13 (by decide) ?_
  exact z_iret hX.bump hQ dL_sailingOf_14 rfl
abbrev zr_L_lane : Room := { frames := 9, cells := 1, slots := 6, locals := 153 }
def f_L_lane (st : zSt) (a1 : Int32) : Option (Int32 × zSt) := ((f_X6_lane st a1).bind fun q1 => (zlet (zwL q1.2 98 (0 : Int32).toNatClampNeg ((q1.1).toInt64)) fun s4 => some (0, s4)))
set_option maxHeartbeats 4000000 in
set_option maxRecDepth 100000 in
theorem t_L_lane (X : zCx) (out : Int32 × zSt) (hX : zOk X RL cL_lane zr_L_lane) (hQ : zPost X 99 shC (some .int) (some (.int out.1)) out.2) (hnl : X.nL = 4) (st : zSt) (a1 : Int32) (hf : f_L_lane st a1 = some out) : zG 99 shC X st 0 [(0, .ref (X.ad 0)), (1, .int a1), (2, .ref (X.ad 98))] [] := by
  unfold f_L_lane at hf
  refine z_aload_n hX 2 dL_lane_0 rfl rfl ?_
  refine z_iconst (v := 0) hX dL_lane_1 (by decide) ?_
  refine z_aload_n hX 0 dL_lane_2 rfl rfl ?_
  refine z_iload_n hX 1 dL_lane_3 rfl rfl ?_
  obtain ⟨q1, e2, hf⟩ := zbind hf
  refine z_callV (stk := [.int 0, .ref (X.ad 98)]) (stk' := [.int q1.1, .int 0, .ref (X.ad 98)]) hX (c_X6_lane X.l st a1 q1 e2) zb_X6_lane 0 dL_lane_4 zm_719 (by decide) shC_0 rfl rfl rfl rfl ⟨by decide, by decide⟩ ⟨rfl, rfl⟩ (Nat.le_of_ble_eq_true rfl) rfl ?_
  refine z_i2l hX dL_lane_7 ?_
  refine z_last hX 98 dL_lane_8 (by decide) shC_98 (show zin 0 1 by decide) ?_
  obtain ⟨s4, h5, hf⟩ := zlet_ex hf
  refine z_name h5 ?_
  refine z_goto hX 15 dL_lane_9 (by decide) ?_
  refine z_iconst (v := 0) hX dL_lane_15 (by decide) ?_
  obtain rfl := Option.some.inj hf
  exact z_iret hX hQ dL_lane_16 rfl
abbrev zh_L_lane : List (Nat × Nat × Nat × Nat) := [(0, 9, 12, 13)]
theorem cw_L_lane (l : Launch) (hfl : l.stackTraces = false) (st : zSt) (a1 : Int32) (out : Int32 × zSt) (hf : f_L_lane st a1 = some out) : zMetW l yL_lane cL_lane 4 (some .int) zh_L_lane zr_L_lane 99 shC (fun ad => [.ref (ad 0), .int a1, .ref (ad 98)]) st (fun _ => some (.int out.1)) out.2 :=
  zmetW_of hfl zm_718 (by decide) (fun _ => Nat.le_of_ble_eq_true rfl) (by decide) (fun X _ hnl hX hQ => z_widen (t_L_lane (zbump X) out hX.bump hQ hnl st a1 hf))
theorem zbW_L_lane : Cond.static yL_lane ∈ tables_1 ∧ Cond.initialized yL_lane.cls ∈ tables_1 ∧ Cond.codeWith yL_lane cL_lane 4 (some .int) zh_L_lane ∈ tables_1 ∧ (yL_lane.cls ≠ "java/lang/invoke/MethodHandle" ∧ yL_lane.cls ≠ "java/lang/invoke/VarHandle" ∧ (parseMethodDescriptor yL_lane.desc).map (fun d => d.parameters.length) = some 3) := ⟨zm_717, zm_0, zm_718, by decide, by decide, rfl⟩
set_option maxHeartbeats 4000000 in
set_option maxRecDepth 100000 in
theorem cwx_L_lane_1 (l : Launch) (hfl : l.stackTraces = false) (st : zSt) (a1 : Int32) (u : zSt) (hf : fx_X6_lane st a1 = some (1, u)) : zMetW l yL_lane cL_lane 4 (some .int) zh_L_lane zr_L_lane 99 shC (fun ad => [.ref (ad 0), .int a1, .ref (ad 98)]) st (fun _ => some (.int 1)) u := by
  refine zmetW_of hfl zm_718 (by decide) (fun _ => Nat.le_of_ble_eq_true rfl) (by decide) (fun X _ hnl hX hQ => ?_)
  show zG 99 shC X st 0 [(0, .ref (X.ad 0)), (1, .int a1), (2, .ref (X.ad 98))] []
  refine z_aload_n hX.1 2 dL_lane_0 rfl rfl ?_
  refine z_iconst (v := 0) hX.1 dL_lane_1 (by decide) ?_
  refine z_aload_n hX.1 0 dL_lane_2 rfl rfl ?_
  refine z_iload_n hX.1 1 dL_lane_3 rfl rfl ?_
  refine z_catchV (k := 1) (stk := [.int 0, .ref (X.ad 98)]) hX [] ⟨0, 9, 12, 13⟩ [] (cx_X6_lane X.l hX.2.2.2.1 st a1 (1, u) hf) zb_X6_lane 0 dL_lane_4 zm_719 (by decide) shC_0 rfl rfl rfl rfl ⟨by decide, by decide⟩ ⟨rfl, rfl⟩ (Nat.le_of_ble_eq_true rfl) rfl (fun z hz => absurd hz List.not_mem_nil) (by decide) (by decide) zm_310 zm_322 (fun q => ?_)
  refine z_astoreA_n hX.bump dL_lane_12 rfl (by show 3 < X.nL; rw [hnl]; decide) ?_
  refine z_iconst (v := 1) hX.bump dL_lane_13 (by decide) ?_
  exact z_iret hX.bump hQ dL_lane_14 rfl
abbrev zr_L_paid : Room := { frames := 9, cells := 1, slots := 6, locals := 153 }
def f_L_paid (st : zSt) (a1 : Int32) : Option (Int32 × zSt) := ((f_X6_paid st a1).bind fun q1 => (zlet (zwL q1.2 98 (0 : Int32).toNatClampNeg ((q1.1).toInt64)) fun s4 => some (0, s4)))
set_option maxHeartbeats 4000000 in
set_option maxRecDepth 100000 in
theorem t_L_paid (X : zCx) (out : Int32 × zSt) (hX : zOk X RL cL_paid zr_L_paid) (hQ : zPost X 99 shC (some .int) (some (.int out.1)) out.2) (hnl : X.nL = 4) (st : zSt) (a1 : Int32) (hf : f_L_paid st a1 = some out) : zG 99 shC X st 0 [(0, .ref (X.ad 0)), (1, .int a1), (2, .ref (X.ad 98))] [] := by
  unfold f_L_paid at hf
  refine z_aload_n hX 2 dL_paid_0 rfl rfl ?_
  refine z_iconst (v := 0) hX dL_paid_1 (by decide) ?_
  refine z_aload_n hX 0 dL_paid_2 rfl rfl ?_
  refine z_iload_n hX 1 dL_paid_3 rfl rfl ?_
  obtain ⟨q1, e2, hf⟩ := zbind hf
  refine z_callV (stk := [.int 0, .ref (X.ad 98)]) (stk' := [.int q1.1, .int 0, .ref (X.ad 98)]) hX (c_X6_paid X.l st a1 q1 e2) zb_X6_paid 0 dL_paid_4 zm_726 (by decide) shC_0 rfl rfl rfl rfl ⟨by decide, by decide⟩ ⟨rfl, rfl⟩ (Nat.le_of_ble_eq_true rfl) rfl ?_
  refine z_i2l hX dL_paid_7 ?_
  refine z_last hX 98 dL_paid_8 (by decide) shC_98 (show zin 0 1 by decide) ?_
  obtain ⟨s4, h5, hf⟩ := zlet_ex hf
  refine z_name h5 ?_
  refine z_goto hX 15 dL_paid_9 (by decide) ?_
  refine z_iconst (v := 0) hX dL_paid_15 (by decide) ?_
  obtain rfl := Option.some.inj hf
  exact z_iret hX hQ dL_paid_16 rfl
abbrev zh_L_paid : List (Nat × Nat × Nat × Nat) := [(0, 9, 12, 13)]
theorem cw_L_paid (l : Launch) (hfl : l.stackTraces = false) (st : zSt) (a1 : Int32) (out : Int32 × zSt) (hf : f_L_paid st a1 = some out) : zMetW l yL_paid cL_paid 4 (some .int) zh_L_paid zr_L_paid 99 shC (fun ad => [.ref (ad 0), .int a1, .ref (ad 98)]) st (fun _ => some (.int out.1)) out.2 :=
  zmetW_of hfl zm_725 (by decide) (fun _ => Nat.le_of_ble_eq_true rfl) (by decide) (fun X _ hnl hX hQ => z_widen (t_L_paid (zbump X) out hX.bump hQ hnl st a1 hf))
theorem zbW_L_paid : Cond.static yL_paid ∈ tables_1 ∧ Cond.initialized yL_paid.cls ∈ tables_1 ∧ Cond.codeWith yL_paid cL_paid 4 (some .int) zh_L_paid ∈ tables_1 ∧ (yL_paid.cls ≠ "java/lang/invoke/MethodHandle" ∧ yL_paid.cls ≠ "java/lang/invoke/VarHandle" ∧ (parseMethodDescriptor yL_paid.desc).map (fun d => d.parameters.length) = some 3) := ⟨zm_724, zm_0, zm_725, by decide, by decide, rfl⟩
set_option maxHeartbeats 4000000 in
set_option maxRecDepth 100000 in
theorem cwx_L_paid_1 (l : Launch) (hfl : l.stackTraces = false) (st : zSt) (a1 : Int32) (u : zSt) (hf : fx_X6_paid st a1 = some (1, u)) : zMetW l yL_paid cL_paid 4 (some .int) zh_L_paid zr_L_paid 99 shC (fun ad => [.ref (ad 0), .int a1, .ref (ad 98)]) st (fun _ => some (.int 1)) u := by
  refine zmetW_of hfl zm_725 (by decide) (fun _ => Nat.le_of_ble_eq_true rfl) (by decide) (fun X _ hnl hX hQ => ?_)
  show zG 99 shC X st 0 [(0, .ref (X.ad 0)), (1, .int a1), (2, .ref (X.ad 98))] []
  refine z_aload_n hX.1 2 dL_paid_0 rfl rfl ?_
  refine z_iconst (v := 0) hX.1 dL_paid_1 (by decide) ?_
  refine z_aload_n hX.1 0 dL_paid_2 rfl rfl ?_
  refine z_iload_n hX.1 1 dL_paid_3 rfl rfl ?_
  refine z_catchV (k := 1) (stk := [.int 0, .ref (X.ad 98)]) hX [] ⟨0, 9, 12, 13⟩ [] (cx_X6_paid X.l hX.2.2.2.1 st a1 (1, u) hf) zb_X6_paid 0 dL_paid_4 zm_726 (by decide) shC_0 rfl rfl rfl rfl ⟨by decide, by decide⟩ ⟨rfl, rfl⟩ (Nat.le_of_ble_eq_true rfl) rfl (fun z hz => absurd hz List.not_mem_nil) (by decide) (by decide) zm_310 zm_322 (fun q => ?_)
  refine z_astoreA_n hX.bump dL_paid_12 rfl (by show 3 < X.nL; rw [hnl]; decide) ?_
  refine z_iconst (v := 1) hX.bump dL_paid_13 (by decide) ?_
  exact z_iret hX.bump hQ dL_paid_14 rfl
abbrev zr_L_taken : Room := { frames := 8, cells := 1, slots := 6, locals := 135 }
def f_L_taken (st : zSt) (a1 : Int32) : Option (Int32 × zSt) := ((f_X6_taken st a1).bind fun q1 => (zlet (zwL q1.2 98 (0 : Int32).toNatClampNeg ((q1.1).toInt64)) fun s4 => some (0, s4)))
set_option maxHeartbeats 4000000 in
set_option maxRecDepth 100000 in
theorem t_L_taken (X : zCx) (out : Int32 × zSt) (hX : zOk X RL cL_taken zr_L_taken) (hQ : zPost X 99 shC (some .int) (some (.int out.1)) out.2) (hnl : X.nL = 4) (st : zSt) (a1 : Int32) (hf : f_L_taken st a1 = some out) : zG 99 shC X st 0 [(0, .ref (X.ad 0)), (1, .int a1), (2, .ref (X.ad 98))] [] := by
  unfold f_L_taken at hf
  refine z_aload_n hX 2 dL_taken_0 rfl rfl ?_
  refine z_iconst (v := 0) hX dL_taken_1 (by decide) ?_
  refine z_aload_n hX 0 dL_taken_2 rfl rfl ?_
  refine z_iload_n hX 1 dL_taken_3 rfl rfl ?_
  obtain ⟨q1, e2, hf⟩ := zbind hf
  refine z_callV (stk := [.int 0, .ref (X.ad 98)]) (stk' := [.int q1.1, .int 0, .ref (X.ad 98)]) hX (c_X6_taken X.l st a1 q1 e2) zb_X6_taken 0 dL_taken_4 zm_733 (by decide) shC_0 rfl rfl rfl rfl ⟨by decide, by decide⟩ ⟨rfl, rfl⟩ (Nat.le_of_ble_eq_true rfl) rfl ?_
  refine z_i2l hX dL_taken_7 ?_
  refine z_last hX 98 dL_taken_8 (by decide) shC_98 (show zin 0 1 by decide) ?_
  obtain ⟨s4, h5, hf⟩ := zlet_ex hf
  refine z_name h5 ?_
  refine z_goto hX 15 dL_taken_9 (by decide) ?_
  refine z_iconst (v := 0) hX dL_taken_15 (by decide) ?_
  obtain rfl := Option.some.inj hf
  exact z_iret hX hQ dL_taken_16 rfl
abbrev zh_L_taken : List (Nat × Nat × Nat × Nat) := [(0, 9, 12, 13)]
theorem cw_L_taken (l : Launch) (hfl : l.stackTraces = false) (st : zSt) (a1 : Int32) (out : Int32 × zSt) (hf : f_L_taken st a1 = some out) : zMetW l yL_taken cL_taken 4 (some .int) zh_L_taken zr_L_taken 99 shC (fun ad => [.ref (ad 0), .int a1, .ref (ad 98)]) st (fun _ => some (.int out.1)) out.2 :=
  zmetW_of hfl zm_732 (by decide) (fun _ => Nat.le_of_ble_eq_true rfl) (by decide) (fun X _ hnl hX hQ => z_widen (t_L_taken (zbump X) out hX.bump hQ hnl st a1 hf))
theorem zbW_L_taken : Cond.static yL_taken ∈ tables_1 ∧ Cond.initialized yL_taken.cls ∈ tables_1 ∧ Cond.codeWith yL_taken cL_taken 4 (some .int) zh_L_taken ∈ tables_1 ∧ (yL_taken.cls ≠ "java/lang/invoke/MethodHandle" ∧ yL_taken.cls ≠ "java/lang/invoke/VarHandle" ∧ (parseMethodDescriptor yL_taken.desc).map (fun d => d.parameters.length) = some 3) := ⟨zm_731, zm_0, zm_732, by decide, by decide, rfl⟩
set_option maxHeartbeats 4000000 in
set_option maxRecDepth 100000 in
theorem cwx_L_taken_1 (l : Launch) (hfl : l.stackTraces = false) (st : zSt) (a1 : Int32) (u : zSt) (hf : fx_X6_taken st a1 = some (1, u)) : zMetW l yL_taken cL_taken 4 (some .int) zh_L_taken zr_L_taken 99 shC (fun ad => [.ref (ad 0), .int a1, .ref (ad 98)]) st (fun _ => some (.int 1)) u := by
  refine zmetW_of hfl zm_732 (by decide) (fun _ => Nat.le_of_ble_eq_true rfl) (by decide) (fun X _ hnl hX hQ => ?_)
  show zG 99 shC X st 0 [(0, .ref (X.ad 0)), (1, .int a1), (2, .ref (X.ad 98))] []
  refine z_aload_n hX.1 2 dL_taken_0 rfl rfl ?_
  refine z_iconst (v := 0) hX.1 dL_taken_1 (by decide) ?_
  refine z_aload_n hX.1 0 dL_taken_2 rfl rfl ?_
  refine z_iload_n hX.1 1 dL_taken_3 rfl rfl ?_
  refine z_catchV (k := 1) (stk := [.int 0, .ref (X.ad 98)]) hX [] ⟨0, 9, 12, 13⟩ [] (cx_X6_taken X.l hX.2.2.2.1 st a1 (1, u) hf) zb_X6_taken 0 dL_taken_4 zm_733 (by decide) shC_0 rfl rfl rfl rfl ⟨by decide, by decide⟩ ⟨rfl, rfl⟩ (Nat.le_of_ble_eq_true rfl) rfl (fun z hz => absurd hz List.not_mem_nil) (by decide) (by decide) zm_310 zm_322 (fun q => ?_)
  refine z_astoreA_n hX.bump dL_taken_12 rfl (by show 3 < X.nL; rw [hnl]; decide) ?_
  refine z_iconst (v := 1) hX.bump dL_taken_13 (by decide) ?_
  exact z_iret hX.bump hQ dL_taken_14 rfl
abbrev zr_L_list : Room := { frames := 9, cells := 1, slots := 6, locals := 154 }
def f_L_list (st : zSt) (a1 : Int32) : Option (Int32 × zSt) := ((f_X6_list st a1).bind fun q1 => (zlet (zwL q1.2 98 (0 : Int32).toNatClampNeg ((q1.1).toInt64)) fun s4 => some (0, s4)))
set_option maxHeartbeats 4000000 in
set_option maxRecDepth 100000 in
theorem t_L_list (X : zCx) (out : Int32 × zSt) (hX : zOk X RL cL_list zr_L_list) (hQ : zPost X 99 shC (some .int) (some (.int out.1)) out.2) (hnl : X.nL = 4) (st : zSt) (a1 : Int32) (hf : f_L_list st a1 = some out) : zG 99 shC X st 0 [(0, .ref (X.ad 0)), (1, .int a1), (2, .ref (X.ad 98))] [] := by
  unfold f_L_list at hf
  refine z_aload_n hX 2 dL_list_0 rfl rfl ?_
  refine z_iconst (v := 0) hX dL_list_1 (by decide) ?_
  refine z_aload_n hX 0 dL_list_2 rfl rfl ?_
  refine z_iload_n hX 1 dL_list_3 rfl rfl ?_
  obtain ⟨q1, e2, hf⟩ := zbind hf
  refine z_callV (stk := [.int 0, .ref (X.ad 98)]) (stk' := [.int q1.1, .int 0, .ref (X.ad 98)]) hX (c_X6_list X.l st a1 q1 e2) zb_X6_list 0 dL_list_4 zm_741 (by decide) shC_0 rfl rfl rfl rfl ⟨by decide, by decide⟩ ⟨rfl, rfl⟩ (Nat.le_of_ble_eq_true rfl) rfl ?_
  refine z_i2l hX dL_list_7 ?_
  refine z_last hX 98 dL_list_8 (by decide) shC_98 (show zin 0 1 by decide) ?_
  obtain ⟨s4, h5, hf⟩ := zlet_ex hf
  refine z_name h5 ?_
  refine z_goto hX 18 dL_list_9 (by decide) ?_
  refine z_iconst (v := 0) hX dL_list_18 (by decide) ?_
  obtain rfl := Option.some.inj hf
  exact z_iret hX hQ dL_list_19 rfl
abbrev zh_L_list : List (Nat × Nat × Nat × Nat) := [(0, 9, 12, 13), (0, 9, 15, 95)]
theorem cw_L_list (l : Launch) (hfl : l.stackTraces = false) (st : zSt) (a1 : Int32) (out : Int32 × zSt) (hf : f_L_list st a1 = some out) : zMetW l yL_list cL_list 4 (some .int) zh_L_list zr_L_list 99 shC (fun ad => [.ref (ad 0), .int a1, .ref (ad 98)]) st (fun _ => some (.int out.1)) out.2 :=
  zmetW_of hfl zm_739 (by decide) (fun _ => Nat.le_of_ble_eq_true rfl) (by decide) (fun X _ hnl hX hQ => z_widen (t_L_list (zbump X) out hX.bump hQ hnl st a1 hf))
theorem zbW_L_list : Cond.static yL_list ∈ tables_1 ∧ Cond.initialized yL_list.cls ∈ tables_1 ∧ Cond.codeWith yL_list cL_list 4 (some .int) zh_L_list ∈ tables_1 ∧ (yL_list.cls ≠ "java/lang/invoke/MethodHandle" ∧ yL_list.cls ≠ "java/lang/invoke/VarHandle" ∧ (parseMethodDescriptor yL_list.desc).map (fun d => d.parameters.length) = some 3) := ⟨zm_738, zm_0, zm_739, by decide, by decide, rfl⟩
set_option maxHeartbeats 4000000 in
set_option maxRecDepth 100000 in
theorem cwx_L_list_1 (l : Launch) (hfl : l.stackTraces = false) (st : zSt) (a1 : Int32) (u : zSt) (hf : fx_X6_list st a1 = some (1, u)) : zMetW l yL_list cL_list 4 (some .int) zh_L_list zr_L_list 99 shC (fun ad => [.ref (ad 0), .int a1, .ref (ad 98)]) st (fun _ => some (.int 1)) u := by
  refine zmetW_of hfl zm_739 (by decide) (fun _ => Nat.le_of_ble_eq_true rfl) (by decide) (fun X _ hnl hX hQ => ?_)
  show zG 99 shC X st 0 [(0, .ref (X.ad 0)), (1, .int a1), (2, .ref (X.ad 98))] []
  refine z_aload_n hX.1 2 dL_list_0 rfl rfl ?_
  refine z_iconst (v := 0) hX.1 dL_list_1 (by decide) ?_
  refine z_aload_n hX.1 0 dL_list_2 rfl rfl ?_
  refine z_iload_n hX.1 1 dL_list_3 rfl rfl ?_
  refine z_catchV (k := 1) (stk := [.int 0, .ref (X.ad 98)]) hX [] ⟨0, 9, 12, 13⟩ [⟨0, 9, 15, 95⟩] (cx_X6_list X.l hX.2.2.2.1 st a1 (1, u) hf) zb_X6_list 0 dL_list_4 zm_741 (by decide) shC_0 rfl rfl rfl rfl ⟨by decide, by decide⟩ ⟨rfl, rfl⟩ (Nat.le_of_ble_eq_true rfl) rfl (fun z hz => absurd hz List.not_mem_nil) (by decide) (by decide) zm_310 zm_322 (fun q => ?_)
  refine z_astoreA_n hX.bump dL_list_12 rfl (by show 3 < X.nL; rw [hnl]; decide) ?_
  refine z_iconst (v := 1) hX.bump dL_list_13 (by decide) ?_
  exact z_iret hX.bump hQ dL_list_14 rfl
set_option maxHeartbeats 4000000 in
set_option maxRecDepth 100000 in
theorem cwx_L_list_4 (l : Launch) (hfl : l.stackTraces = false) (st : zSt) (a1 : Int32) (u : zSt) (hf : fx_X6_list st a1 = some (4, u)) : zMetW l yL_list cL_list 4 (some .int) zh_L_list zr_L_list 99 shC (fun ad => [.ref (ad 0), .int a1, .ref (ad 98)]) st (fun _ => some (.int 2)) u := by
  refine zmetW_of hfl zm_739 (by decide) (fun _ => Nat.le_of_ble_eq_true rfl) (by decide) (fun X _ hnl hX hQ => ?_)
  show zG 99 shC X st 0 [(0, .ref (X.ad 0)), (1, .int a1), (2, .ref (X.ad 98))] []
  refine z_aload_n hX.1 2 dL_list_0 rfl rfl ?_
  refine z_iconst (v := 0) hX.1 dL_list_1 (by decide) ?_
  refine z_aload_n hX.1 0 dL_list_2 rfl rfl ?_
  refine z_iload_n hX.1 1 dL_list_3 rfl rfl ?_
  refine z_catchV (k := 4) (stk := [.int 0, .ref (X.ad 98)]) hX [⟨0, 9, 12, 13⟩] ⟨0, 9, 15, 95⟩ [] (cx_X6_list X.l hX.2.2.2.1 st a1 (4, u) hf) zb_X6_list 0 dL_list_4 zm_741 (by decide) shC_0 rfl rfl rfl rfl ⟨by decide, by decide⟩ ⟨rfl, rfl⟩ (Nat.le_of_ble_eq_true rfl) rfl (List.forall_mem_cons.mpr ⟨z_npass hX 1 (by decide) zm_310 (by decide), fun z hz => absurd hz List.not_mem_nil⟩) (by decide) (by decide) zm_740 zm_747 (fun q => ?_)
  refine z_astoreA_n hX.bump dL_list_15 rfl (by show 3 < X.nL; rw [hnl]; decide) ?_
  refine z_iconst (v := 2) hX.bump dL_list_16 (by decide) ?_
  exact z_iret hX.bump hQ dL_list_17 rfl
abbrev zr_L_account : Room := { frames := 8, cells := 1, slots := 6, locals := 131 }
def f_L_account (st : zSt) (a1 : Int32) : Option (Int32 × zSt) := ((f_X6_account st a1).bind fun q1 => (zlet (zwL q1.2 98 (0 : Int32).toNatClampNeg q1.1) fun s4 => some (0, s4)))
set_option maxHeartbeats 4000000 in
set_option maxRecDepth 100000 in
theorem t_L_account (X : zCx) (out : Int32 × zSt) (hX : zOk X RL cL_account zr_L_account) (hQ : zPost X 99 shC (some .int) (some (.int out.1)) out.2) (hnl : X.nL = 4) (st : zSt) (a1 : Int32) (hf : f_L_account st a1 = some out) : zG 99 shC X st 0 [(0, .ref (X.ad 0)), (1, .int a1), (2, .ref (X.ad 98))] [] := by
  unfold f_L_account at hf
  refine z_aload_n hX 2 dL_account_0 rfl rfl ?_
  refine z_iconst (v := 0) hX dL_account_1 (by decide) ?_
  refine z_aload_n hX 0 dL_account_2 rfl rfl ?_
  refine z_iload_n hX 1 dL_account_3 rfl rfl ?_
  obtain ⟨q1, e2, hf⟩ := zbind hf
  refine z_callV (stk := [.int 0, .ref (X.ad 98)]) (stk' := [.long q1.1, .int 0, .ref (X.ad 98)]) hX (c_X6_account X.l st a1 q1 e2) zb_X6_account 0 dL_account_4 zm_763 (by decide) shC_0 rfl rfl rfl rfl ⟨by decide, by decide⟩ ⟨rfl, rfl⟩ (Nat.le_of_ble_eq_true rfl) rfl ?_
  refine z_last hX 98 dL_account_7 (by decide) shC_98 (show zin 0 1 by decide) ?_
  obtain ⟨s4, h5, hf⟩ := zlet_ex hf
  refine z_name h5 ?_
  refine z_goto hX 14 dL_account_8 (by decide) ?_
  refine z_iconst (v := 0) hX dL_account_14 (by decide) ?_
  obtain rfl := Option.some.inj hf
  exact z_iret hX hQ dL_account_15 rfl
abbrev zh_L_account : List (Nat × Nat × Nat × Nat) := [(0, 8, 11, 15)]
theorem cw_L_account (l : Launch) (hfl : l.stackTraces = false) (st : zSt) (a1 : Int32) (out : Int32 × zSt) (hf : f_L_account st a1 = some out) : zMetW l yL_account cL_account 4 (some .int) zh_L_account zr_L_account 99 shC (fun ad => [.ref (ad 0), .int a1, .ref (ad 98)]) st (fun _ => some (.int out.1)) out.2 :=
  zmetW_of hfl zm_762 (by decide) (fun _ => Nat.le_of_ble_eq_true rfl) (by decide) (fun X _ hnl hX hQ => z_widen (t_L_account (zbump X) out hX.bump hQ hnl st a1 hf))
theorem zbW_L_account : Cond.static yL_account ∈ tables_1 ∧ Cond.initialized yL_account.cls ∈ tables_1 ∧ Cond.codeWith yL_account cL_account 4 (some .int) zh_L_account ∈ tables_1 ∧ (yL_account.cls ≠ "java/lang/invoke/MethodHandle" ∧ yL_account.cls ≠ "java/lang/invoke/VarHandle" ∧ (parseMethodDescriptor yL_account.desc).map (fun d => d.parameters.length) = some 3) := ⟨zm_761, zm_0, zm_762, by decide, by decide, rfl⟩
set_option maxHeartbeats 4000000 in
set_option maxRecDepth 100000 in
theorem cwx_L_account_2 (l : Launch) (hfl : l.stackTraces = false) (st : zSt) (a1 : Int32) (u : zSt) (hf : fx_X6_account st a1 = some (2, u)) : zMetW l yL_account cL_account 4 (some .int) zh_L_account zr_L_account 99 shC (fun ad => [.ref (ad 0), .int a1, .ref (ad 98)]) st (fun _ => some (.int 1)) u := by
  refine zmetW_of hfl zm_762 (by decide) (fun _ => Nat.le_of_ble_eq_true rfl) (by decide) (fun X _ hnl hX hQ => ?_)
  show zG 99 shC X st 0 [(0, .ref (X.ad 0)), (1, .int a1), (2, .ref (X.ad 98))] []
  refine z_aload_n hX.1 2 dL_account_0 rfl rfl ?_
  refine z_iconst (v := 0) hX.1 dL_account_1 (by decide) ?_
  refine z_aload_n hX.1 0 dL_account_2 rfl rfl ?_
  refine z_iload_n hX.1 1 dL_account_3 rfl rfl ?_
  refine z_catchV (k := 2) (stk := [.int 0, .ref (X.ad 98)]) hX [] ⟨0, 8, 11, 15⟩ [] (cx_X6_account X.l hX.2.2.2.1 st a1 (2, u) hf) zb_X6_account 0 dL_account_4 zm_763 (by decide) shC_0 rfl rfl rfl rfl ⟨by decide, by decide⟩ ⟨rfl, rfl⟩ (Nat.le_of_ble_eq_true rfl) rfl (fun z hz => absurd hz List.not_mem_nil) (by decide) (by decide) zm_311 zm_392 (fun q => ?_)
  refine z_astoreA_n hX.bump dL_account_11 rfl (by show 3 < X.nL; rw [hnl]; decide) ?_
  refine z_iconst (v := 1) hX.bump dL_account_12 (by decide) ?_
  exact z_iret hX.bump hQ dL_account_13 rfl
abbrev zr_L_accountAnew : Room := { frames := 8, cells := 1, slots := 6, locals := 135 }
def f_L_accountAnew (st : zSt) (a1 : Int32) : Option (Int32 × zSt) := ((f_X6_accountAnew st a1).bind fun q1 => (zlet (zwL q1.2 98 (0 : Int32).toNatClampNeg q1.1) fun s4 => some (0, s4)))
set_option maxHeartbeats 4000000 in
set_option maxRecDepth 100000 in
theorem t_L_accountAnew (X : zCx) (out : Int32 × zSt) (hX : zOk X RL cL_accountAnew zr_L_accountAnew) (hQ : zPost X 99 shC (some .int) (some (.int out.1)) out.2) (hnl : X.nL = 4) (st : zSt) (a1 : Int32) (hf : f_L_accountAnew st a1 = some out) : zG 99 shC X st 0 [(0, .ref (X.ad 0)), (1, .int a1), (2, .ref (X.ad 98))] [] := by
  unfold f_L_accountAnew at hf
  refine z_aload_n hX 2 dL_accountAnew_0 rfl rfl ?_
  refine z_iconst (v := 0) hX dL_accountAnew_1 (by decide) ?_
  refine z_aload_n hX 0 dL_accountAnew_2 rfl rfl ?_
  refine z_iload_n hX 1 dL_accountAnew_3 rfl rfl ?_
  obtain ⟨q1, e2, hf⟩ := zbind hf
  refine z_callV (stk := [.int 0, .ref (X.ad 98)]) (stk' := [.long q1.1, .int 0, .ref (X.ad 98)]) hX (c_X6_accountAnew X.l st a1 q1 e2) zb_X6_accountAnew 0 dL_accountAnew_4 zm_770 (by decide) shC_0 rfl rfl rfl rfl ⟨by decide, by decide⟩ ⟨rfl, rfl⟩ (Nat.le_of_ble_eq_true rfl) rfl ?_
  refine z_last hX 98 dL_accountAnew_7 (by decide) shC_98 (show zin 0 1 by decide) ?_
  obtain ⟨s4, h5, hf⟩ := zlet_ex hf
  refine z_name h5 ?_
  refine z_goto hX 14 dL_accountAnew_8 (by decide) ?_
  refine z_iconst (v := 0) hX dL_accountAnew_14 (by decide) ?_
  obtain rfl := Option.some.inj hf
  exact z_iret hX hQ dL_accountAnew_15 rfl
abbrev zh_L_accountAnew : List (Nat × Nat × Nat × Nat) := [(0, 8, 11, 15)]
theorem cw_L_accountAnew (l : Launch) (hfl : l.stackTraces = false) (st : zSt) (a1 : Int32) (out : Int32 × zSt) (hf : f_L_accountAnew st a1 = some out) : zMetW l yL_accountAnew cL_accountAnew 4 (some .int) zh_L_accountAnew zr_L_accountAnew 99 shC (fun ad => [.ref (ad 0), .int a1, .ref (ad 98)]) st (fun _ => some (.int out.1)) out.2 :=
  zmetW_of hfl zm_769 (by decide) (fun _ => Nat.le_of_ble_eq_true rfl) (by decide) (fun X _ hnl hX hQ => z_widen (t_L_accountAnew (zbump X) out hX.bump hQ hnl st a1 hf))
theorem zbW_L_accountAnew : Cond.static yL_accountAnew ∈ tables_1 ∧ Cond.initialized yL_accountAnew.cls ∈ tables_1 ∧ Cond.codeWith yL_accountAnew cL_accountAnew 4 (some .int) zh_L_accountAnew ∈ tables_1 ∧ (yL_accountAnew.cls ≠ "java/lang/invoke/MethodHandle" ∧ yL_accountAnew.cls ≠ "java/lang/invoke/VarHandle" ∧ (parseMethodDescriptor yL_accountAnew.desc).map (fun d => d.parameters.length) = some 3) := ⟨zm_768, zm_0, zm_769, by decide, by decide, rfl⟩
set_option maxHeartbeats 4000000 in
set_option maxRecDepth 100000 in
theorem cwx_L_accountAnew_2 (l : Launch) (hfl : l.stackTraces = false) (st : zSt) (a1 : Int32) (u : zSt) (hf : fx_X6_accountAnew st a1 = some (2, u)) : zMetW l yL_accountAnew cL_accountAnew 4 (some .int) zh_L_accountAnew zr_L_accountAnew 99 shC (fun ad => [.ref (ad 0), .int a1, .ref (ad 98)]) st (fun _ => some (.int 1)) u := by
  refine zmetW_of hfl zm_769 (by decide) (fun _ => Nat.le_of_ble_eq_true rfl) (by decide) (fun X _ hnl hX hQ => ?_)
  show zG 99 shC X st 0 [(0, .ref (X.ad 0)), (1, .int a1), (2, .ref (X.ad 98))] []
  refine z_aload_n hX.1 2 dL_accountAnew_0 rfl rfl ?_
  refine z_iconst (v := 0) hX.1 dL_accountAnew_1 (by decide) ?_
  refine z_aload_n hX.1 0 dL_accountAnew_2 rfl rfl ?_
  refine z_iload_n hX.1 1 dL_accountAnew_3 rfl rfl ?_
  refine z_catchV (k := 2) (stk := [.int 0, .ref (X.ad 98)]) hX [] ⟨0, 8, 11, 15⟩ [] (cx_X6_accountAnew X.l hX.2.2.2.1 st a1 (2, u) hf) zb_X6_accountAnew 0 dL_accountAnew_4 zm_770 (by decide) shC_0 rfl rfl rfl rfl ⟨by decide, by decide⟩ ⟨rfl, rfl⟩ (Nat.le_of_ble_eq_true rfl) rfl (fun z hz => absurd hz List.not_mem_nil) (by decide) (by decide) zm_311 zm_392 (fun q => ?_)
  refine z_astoreA_n hX.bump dL_accountAnew_11 rfl (by show 3 < X.nL; rw [hnl]; decide) ?_
  refine z_iconst (v := 1) hX.bump dL_accountAnew_12 (by decide) ?_
  exact z_iret hX.bump hQ dL_accountAnew_13 rfl
