/-! methods that throw: contracts, the throw itself, calls that throw, catching -/
def zEx : Nat → String
  | 1 => "java/lang/IndexOutOfBoundsException"
  | 2 => "java/lang/IllegalArgumentException"
  | 3 => "java/lang/IllegalStateException"
  | _ => "java/util/NoSuchElementException"
def zXs (A : Nat → Prop) (U : State) (H : Heap) : Prop := (vx_Zq Bundle.tN "UNASSIGNED_STACK" Bundle.steD A U H ∧ vx_Zq Bundle.tN "SUPPRESSED_SENTINEL" Bundle.listD A U H) ∧ ∀ i j : Nat, 1 ≤ i → i ≤ 4 → 2 ≤ j → j ≤ 3 → i ≠ j → va_Nc (zEx i) (zEx j) U
theorem zXs.moved {A : Nat → Prop} {u U : State} {H : Heap} (hvm : u.vm.Alike U.vm) (h : zXs A u H) : zXs A U H := ⟨⟨vx_Zq.moved hvm h.1.1, vx_Zq.moved hvm h.1.2⟩, fun i j a b c d e => va_Nc.moved hvm (h.2 i j a b c d e)⟩
theorem zXs.kept {A : Nat → Prop} {U : State} {H H1 : Heap} (h : zXs A U H) (hq : ∀ a : Nat, a < H.size → ¬ A a → H1[a]? = H[a]?) : zXs A U H1 := ⟨⟨vx_Zq.kept h.1.1 hq, vx_Zq.kept h.1.2 hq⟩, h.2⟩
theorem zXs.narrow {A B : Nat → Prop} {U : State} {H : Heap} (h : zXs A U H) (hAB : ∀ q, B q → A q) : zXs B U H := ⟨⟨vx_Zq.narrow h.1.1 hAB, vx_Zq.narrow h.1.2 hAB⟩, h.2⟩
def zInX (D : va_G) (aC : Nat → ClassId) (ad : Nat → Nat) (rest : va_W) (n : Nat) (sh : Nat → zShp) (st : zSt) (sz : Nat) (U : State) : Prop := zIn D aC ad rest n sh st sz U ∧ zXs (zA ad n rest sz) U U.heap
abbrev zQX : Array Value → State → Outcome → State → Prop := va_Qv (fun _ : Unit => False) (fun _ _ => True) (fun _ => False)
abbrev zXC (D : va_G) (aC : Nat → ClassId) (ad : Nat → Nat) (rest : va_W) (n : Nat) (sh : Nat → zShp) (A : Nat → Prop) (k : Nat) (u : zSt) : String → State → State → Prop := vx_X (fun _ : Unit => True) (fun E _ t => E = zEx k ∧ zOut D aC ad rest n sh A u t) A
def zMx (l : Launch) (y : MethodName) (cc : ByteArray) (mL : Nat) (ret : Option FieldType) (rm : Room) (n : Nat) (sh : Nat → zShp) (av : (Nat → Nat) → List Value) (st : zSt) (k : Nat) (u : zSt) : Prop :=
  ∀ (D : va_G) (aC : Nat → ClassId) (ad : Nat → Nat) (rest : va_W) (sz : Nat), vx_Met l y (.code y cc mL ret :: zWL) rm (va_Pc (av ad) (zInX D aC ad rest n sh st sz)) zQX (zXC D aC ad rest n sh (zA ad n rest sz) k u) 1 6 (zA ad n rest sz)
def zOkX (X : zCx) (own : String) (cc : ByteArray) (rm : Room) : Prop := zOk X own cc rm ∧ zXs X.A X.s X.s.heap ∧ (∀ x ∈ X.c.exceptionTable.toList, False) ∧ X.l.stackTraces = false ∧ (X.cells = 0 ∧ X.slots = 0) ∧ (1 ≤ rm.cells ∧ 6 ≤ rm.slots)
def zPostX (X : zCx) (n : Nat) (sh : Nat → zShp) (k : Nat) (u : zSt) : Prop := X.Q = vx_MQ X.below zQX (zXC X.D X.aC X.ad X.rest n sh X.A k u) X.args X.s 1 6 X.A
theorem zmx_of {l : Launch} {y : MethodName} {cc : ByteArray} {mL : Nat} {ret : Option FieldType} {rm : Room} {n : Nat} {sh : Nat → zShp} {av : (Nat → Nat) → List Value} {st : zSt} {k : Nat} {u : zSt} (hfl : l.stackTraces = false)
    (hy : plainName y.cls = true) (hn : ∀ ad, (lg_sl (av ad)).length ≤ mL) (hrm : 1 ≤ rm.cells ∧ 6 ≤ rm.slots)
    (h : ∀ X : zCx, X.l = l → X.nL = mL → zOkX X y.cls cc rm → zPostX X n sh k u → zG n sh X st 0 (lv_args 0 (av X.ad)) []) : zMx l y cc mL ret rm n sh av st k u := by
  intro D aC ad rest sz
  refine vx_ofW (cc := cc) (maxL := mL) (ret := ret) hy rfl ?_
  intro p e s m args below meth c s₁ B hml hno hv
  obtain ⟨rfl, ⟨hsz, hP, hK, hD0, hN⟩, hZ⟩ := hv
  subst hsz
  have hts := atoms_spec (ws := .code y cc mL ret :: zWL) B.pre
  have hown : s.vm.findClass y.cls = some m.cls := findClass_of_methodNamed B.named
  have hD := zA_self (sz := s.heap.size) hD0
  have hl := lv_entry (av ad) (n := mL) (hn ad)
  rw [lg_entry_eq]
  exact h ((p, l, e, rm), (s, m, (av ad).toArray, below), (meth, c, 0, 0, mL), vx_MQ below zQX (zXC D aC ad rest n sh (zA ad n rest s.heap.size) k u) (av ad).toArray s 1 6 (zA ad n rest s.heap.size), (D, aC, ad, rest), zA ad n rest s.heap.size) rfl rfl
    ⟨⟨⟨B.exec, B.bytes⟩, hml, hown, fun w hw => hts w (List.mem_cons_of_mem _ hw), hK, hN, B.notSynchronized, fun q hq => Or.inr (Or.inr hq), rfl, Nat.zero_le _, Nat.zero_le _⟩, hZ, hno, hfl, ⟨rfl, rfl⟩, hrm⟩ rfl s.heap [] _ hP hD va_S.rf hl
/-- what a method may answer: thrown already, or the rest -/
def zorx {α : Type} (a b : Option α) : Option α := match a with
  | some k => some k
  | none => b
theorem zorx_ex {α : Type} {a b : Option α} {k : α} (h : zorx a b = some k) : a = some k ∨ (a = none ∧ b = some k) := by
  cases a with
  | none => exact Or.inr ⟨rfl, h⟩
  | some x => exact Or.inl h
section ZX
variable {X : zCx} {own : String} {cc : ByteArray} {rm : Room} {pc : Nat} {lv : List (Nat × Value)} {stk : List Value} {n : Nat} {sh : Nat → zShp} {st u : zSt} {k : Nat}
theorem z_blindX {D : va_G} {aC : Nat → ClassId} {ad : Nat → Nat} {rest : va_W} {sz : Nat} {av : List Value} : FrameBlind (va_Pc av (zInX D aC ad rest n sh st sz)) := fun a U g mk q => by
  obtain ⟨q0, ⟨q1, q2, q3, q4, q5⟩, q6⟩ := q
  exact ⟨q0, ⟨q1, q2, va_K.moved (u := U) (U := U.calling g mk a) (Vm.Alike.refl U.vm) q3, q4, zNs.moved q5 rfl⟩, zXs.moved (U := U.calling g mk a) (Vm.Alike.refl U.vm) q6⟩
theorem z_preX (hX : zOk X own cc rm) (hZ : zXs X.A X.s X.s.heap) {H : Heap} {locs : List Loc} (hP : va_P X.D vwCl (zgw n sh X.ad X.aC st ++ X.rest) H) (hD : va_D X.A (zgw n sh X.ad X.aC st ++ X.rest)) (hS : va_S X.A X.s.heap H locs) {av : List Value} {a : Array Value} (ha : a = av.toArray) : ∀ U : State, U.heap = H → X.s.WarmedH U.vm → va_Pc av (zInX X.D X.aC X.ad X.rest n sh st H.size) a U := fun U hU hW => by
  obtain ⟨h1, h2⟩ := z_pre hX hP hD ha U hU hW
  refine ⟨h1, h2, ?_⟩
  rw [hU]
  exact ((hZ.kept (H1 := H) hS.2.1).narrow (zA_sub hD (fun q hq => hX.2.2.2.2.2.2.2.1 q (Nat.le_trans hS.1 hq)))).moved hW.alike
variable {y : MethodName} {cc' : ByteArray} {mL' : Nat} {ret' : Option FieldType} {rm' : Room} {av : (Nat → Nat) → List Value} {index na : Nat} {As stk0 : List Value}
theorem z_outX (hX : zOkX X own cc rm) (hp : zPostX X n sh k u) {H : Heap} {locs : List Loc} {ls : Array Slot} (hP : va_P X.D vwCl (zgw n sh X.ad X.aC st ++ X.rest) H) (hD : va_D X.A (zgw n sh X.ad X.aC st ++ X.rest)) (hS : va_S X.A X.s.heap H locs)
    (hr : vx_Run X.p X.l X.e X.R X.s X.m X.args X.below X.meth X.c H locs X.cells X.slots 1 6 (F0 X.m pc ls stk0) stk (zQX X.args) (zXC X.D X.aC X.ad X.rest n sh (zA X.ad n X.rest H.size) k u) (zA X.ad n X.rest H.size)) : W X.p X.l X.e X.R X.s X.m X.args X.below X.meth X.c H locs X.cells X.slots X.Q (F0 X.m pc ls stk0) := by
  have hA : ∀ q, zA X.ad n X.rest H.size q → X.A q := zA_sub hD (fun q hq => hX.1.2.2.2.2.2.2.2.1 q (Nat.le_trans hS.1 hq))
  rw [hp]
  refine vx_callv hr hS (fun q _ h => h.elim) hA (fun q _ h => hA q h) (fun E ce q9 _ t H1 locs1 ht hvm _ hB hz hk hS1 hq hce hE => ?_) (fun _ _ _ _ _ _ hpost => hpost.elim)
  refine vx_out (fun x hx => (hX.2.2.1 x hx).elim) hX.1.2.2.2.2.2.2.1 hq hce hE (fun t2 ht2 _ => ⟨(), trivial, ⟨hB.1, ?_, hB.2.2.weaken (fun _ _ _ h => hA _ h)⟩, hS1.F ht2⟩) hS1.2.2 (by rw [hX.2.2.2.2.1.1]; exact Nat.le_refl _) (by rw [hX.2.2.2.2.1.2]; exact Nat.le_refl _)
  rw [ht2, ← ht]
  exact hB.2.1
theorem z_xV (hX : zOkX X own cc rm) (hp : zPostX X n sh k u) (hc : zMx X.l y cc' mL' ret' rm' n sh av st k u) (hy : zCal y cc' mL' ret' na) (b : Nat) {ci : Nat} {L : List Nat} {T : u_T} {N : Nat} (hdg : decode cc pc = .ok (.invokevirtual index, 3)) (hw : Cond.methodLink own index y ∈ tables_1) (hb : b < n) (hsb : sh b = .inl (ci, L)) (hcl : vwCl[ci]? = some (y.cls, T, N)) (hav : av X.ad = .ref (X.ad b) :: As) (hst : stk0 = As.reverse ++ .ref (X.ad b) :: stk) (hna : As.length = na) (hR : rm'.frames + 1 ≤ rm.frames ∧ 8 + (mL' + 11) + rm'.locals ≤ rm.locals) (hrc : rm'.cells = 1 ∧ rm'.slots = 6) (hcat : (stk.map fun v => v.category).sum ≤ 8) : zG n sh X st pc lv stk0 := fun H locs ls hP hD hS hl => by
  have hR2 : rm'.frames + 1 ≤ X.R.frames ∧ 8 + (mL' + 11) + rm'.locals ≤ X.R.locals := by rw [hX.1.2.2.2.2.2.2.2.2.1]; exact hR
  have hcb := callB_of (R := X.R) (own := own) (index := index) na hX.1.2.2.2.1 (zgoodc hy.2.2.2.1) rfl hrc.1 hrc.2 (hX.1.t hy.2.2.1 rfl) (hX.1.t hw rfl) hy.2.2.2.2 hR2
  have hM := hc X.D X.aC X.ad X.rest H.size
  rw [hav] at hM
  exact z_outX hX hp hP hD hS (vx_runV (As := As) (rest := stk) (g := F0 X.m pc ls stk0) ⟨hX.1.1.1, hX.1.1.2, hX.1.2.1, hX.1.2.2.1, hX.1.2.2.2.1⟩ hM ⟨hcb, hX.1.t hy.1 rfl, hX.1.w hy.2.1⟩ ⟨z_blindX, va_recv hX.1.2.2.2.2.1 hP hcl (zgw_at hb (by rw [hsb]; rfl)), z_preX hX.1 hX.2.1 hP hD hS rfl⟩ rfl hna hl.1 hst (lv_room hcat) hdg ⟨by rw [hX.2.2.2.2.1.1, hX.1.2.2.2.2.2.2.2.2.1]; exact hX.2.2.2.2.2.1, by rw [hX.2.2.2.2.1.2, hX.1.2.2.2.2.2.2.2.2.1]; exact hX.2.2.2.2.2.2⟩)
theorem z_xS (hX : zOkX X own cc rm) (hp : zPostX X n sh k u) (hc : zMx X.l y cc' mL' ret' rm' n sh av st k u) (hy : zCalS y cc' mL' ret' na) (hdg : decode cc pc = .ok (.invokestatic index, 3)) (hw : Cond.methodLink own index y ∈ tables_1) (hav : av X.ad = As) (hst : stk0 = As.reverse ++ stk) (hna : As.length = na) (hR : rm'.frames + 1 ≤ rm.frames ∧ 8 + (mL' + 11) + rm'.locals ≤ rm.locals) (hrc : rm'.cells = 1 ∧ rm'.slots = 6) (hcat : (stk.map fun v => v.category).sum ≤ 8) : zG n sh X st pc lv stk0 := fun H locs ls hP hD hS hl => by
  have hR2 : rm'.frames + 1 ≤ X.R.frames ∧ 8 + (mL' + 11) + rm'.locals ≤ X.R.locals := by rw [hX.1.2.2.2.2.2.2.2.2.1]; exact hR
  have hcb := callB_of (R := X.R) (own := own) (index := index) na hX.1.2.2.2.1 (zgoodc hy.2.2.1) rfl hrc.1 hrc.2 (hX.1.t hy.2.1 rfl) (hX.1.t hw rfl) hy.2.2.2 hR2
  have hM := hc X.D X.aC X.ad X.rest H.size
  rw [hav] at hM
  exact z_outX hX hp hP hD hS (vx_runS (As := As) (rest := stk) (g := F0 X.m pc ls stk0) ⟨hX.1.1.1, hX.1.1.2, hX.1.2.1, hX.1.2.2.1, hX.1.2.2.2.1⟩ hM ⟨hcb, hX.1.t hy.1 rfl⟩ ⟨z_blindX, z_preX hX.1 hX.2.1 hP hD hS rfl⟩ rfl hna hl.1 hst (lv_room hcat) hdg ⟨by rw [hX.2.2.2.2.1.1, hX.1.2.2.2.2.2.2.2.2.1]; exact hX.2.2.2.2.2.1, by rw [hX.2.2.2.2.1.2, hX.1.2.2.2.2.2.2.2.2.1]; exact hX.2.2.2.2.2.2⟩)
/-- 'throw new E()' -/
theorem z_throw (hX : zOkX X own cc rm) (hp : zPostX X n sh k st) {names : List String} {ik ic : Nat} (hfit : Bundle.fit (zEx k) = true) (hnames : ∀ n ∈ names, Bundle.fit n = true) (hk : Cond.classLink own ik (zEx k) ∈ tables_1) (hini : Cond.initialized (zEx k) ∈ tables_1) (hat : ∀ w ∈ vx_at0 own ic (zEx k) names, w ∈ tables_1 ∧ ((goodWord w || zisN w) && vx_ot w) = true)
    (d0 : decode cc pc = .ok (.new ik, 3)) (d3 : decode cc (pc + 3) = .ok (.dup, 1)) (d4 : decode cc (pc + 4) = .ok (.invokespecial ic, 3)) (d7 : decode cc (pc + 7) = .ok (.athrow, 1)) (hR : names.length + 3 < rm.frames ∧ (stk.map fun v => v.category).sum + (13 * (names.length + 1) + 42) ≤ rm.locals) : zG n sh X st pc lv stk := fun H locs ls hP hD hS hl => by
  have hg : ∀ w ∈ vx_at0 own ic (zEx k) names, w.before X.args X.s = true := fun w hw => by
    obtain ⟨h1, h2⟩ := hat w hw
    simp only [Bool.and_eq_true, Bool.or_eq_true] at h2
    exact h2.1.elim (fun g => hX.1.t h1 g) (fun g => hX.1.nb h1 g)
  rw [hp]
  refine vx_throw0 (names := names) (A := X.A) hX.1.1.1 hX.1.1.2 hX.2.2.2.1 hX.1.2.2.1 hfit hnames (hX.1.t hk rfl) (hX.1.t hini rfl) hg ?_ hX.2.1.1.1 hX.2.1.1.2 hS (by rw [hX.1.2.1]; exact hl.1) d0 d3 d4 d7 (fun x hx => (hX.2.2.1 x hx).elim) (by rw [hX.1.2.2.2.2.2.2.2.2.1]; exact hR.1) (by rw [hX.1.2.2.2.2.2.2.2.2.1]; exact hR.2) (by rw [hX.2.2.2.2.1.1, hX.1.2.2.2.2.2.2.2.2.1]; exact hX.2.2.2.2.2.1) (by rw [hX.2.2.2.2.1.2, hX.1.2.2.2.2.2.2.2.2.1]; exact hX.2.2.2.2.2.2) hX.1.2.2.2.2.2.2.1 ?_ hS.2.2 (by rw [hX.2.2.2.2.1.1]; exact Nat.le_refl _) (by rw [hX.2.2.2.2.1.2]; exact Nat.le_refl _)
  · intro w hw
    rcases List.mem_cons.mp hw with rfl | hw
    · rfl
    rcases List.mem_cons.mp hw with rfl | hw
    · rfl
    have h2 := (hat w hw).2
    simp only [Bool.and_eq_true] at h2
    exact h2.2
  · intro t hvm hz hk
    have hlt : ∀ (i : Nat) (q : Nat × va_E), (zgw n sh X.ad X.aC st ++ X.rest)[i]? = some q → q.1 < H.size := fun i q hi => (hP i q hi).lt
    refine ⟨(), trivial, ⟨rfl, hP.kept (fun i q hi => hk _ (hlt i q hi)), hD⟩, Nat.le_trans hS.1 hz, fun q h1 h2 => ?_⟩
    rw [hk q (Nat.lt_of_lt_of_le h1 hS.1)]
    exact hS.2.1 q h1 h2
end ZX
set_option maxRecDepth 100000 in
theorem zat_1 : ∀ w ∈ vx_at0 RX6 260 (zEx 1) ["java/lang/RuntimeException", "java/lang/Exception"], w ∈ tables_1 ∧ ((goodWord w || zisN w) && vx_ot w) = true := by
  have e : vx_at0 RX6 260 (zEx 1) ["java/lang/RuntimeException", "java/lang/Exception"] = [8, 331, 340, 345, 348, 350, 332, 333, 22, 23, 334, 339, 346, 362, 321, 363, 323, 364, 325, 335, 337, 327, 352, 353, 354, 355, 312, 355, 356, 357, 358, 314, 358, 359, 360, 332, 316, 351, 310, 311, 318, 319, 320, 322, 324, 326, 330, 329, 328].filterMap (fun i => tables_1[i]?) := by decide +kernel
  have g : (vx_at0 RX6 260 (zEx 1) ["java/lang/RuntimeException", "java/lang/Exception"]).all (fun w => (goodWord w || zisN w) && vx_ot w) = true := by decide +kernel
  intro w hw
  refine ⟨?_, List.all_eq_true.mp g w hw⟩
  rw [e] at hw
  obtain ⟨i, -, hi⟩ := List.mem_filterMap.mp hw
  exact List.mem_of_getElem? hi
set_option maxRecDepth 100000 in
theorem zat_2 : ∀ w ∈ vx_at0 RX6 263 (zEx 2) ["java/lang/RuntimeException", "java/lang/Exception"], w ∈ tables_1 ∧ ((goodWord w || zisN w) && vx_ot w) = true := by
  have e : vx_at0 RX6 263 (zEx 2) ["java/lang/RuntimeException", "java/lang/Exception"] = [8, 331, 340, 345, 348, 350, 332, 333, 22, 23, 334, 339, 346, 362, 321, 363, 323, 364, 325, 335, 337, 327, 389, 390, 391, 355, 312, 355, 356, 357, 358, 314, 358, 359, 360, 332, 316, 388, 380, 381, 382, 342, 383, 384, 385, 386, 330, 329, 387].filterMap (fun i => tables_1[i]?) := by decide +kernel
  have g : (vx_at0 RX6 263 (zEx 2) ["java/lang/RuntimeException", "java/lang/Exception"]).all (fun w => (goodWord w || zisN w) && vx_ot w) = true := by decide +kernel
  intro w hw
  refine ⟨?_, List.all_eq_true.mp g w hw⟩
  rw [e] at hw
  obtain ⟨i, -, hi⟩ := List.mem_filterMap.mp hw
  exact List.mem_of_getElem? hi
set_option maxRecDepth 100000 in
theorem zat_3 : ∀ w ∈ vx_at0 RX6 266 (zEx 3) ["java/lang/RuntimeException", "java/lang/Exception"], w ∈ tables_1 ∧ ((goodWord w || zisN w) && vx_ot w) = true := by
  have e : vx_at0 RX6 266 (zEx 3) ["java/lang/RuntimeException", "java/lang/Exception"] = [8, 331, 340, 345, 348, 350, 332, 333, 22, 23, 334, 339, 346, 362, 321, 363, 323, 364, 325, 335, 337, 327, 407, 408, 409, 355, 312, 355, 356, 357, 358, 314, 358, 359, 360, 332, 316, 406, 398, 399, 400, 343, 401, 402, 403, 404, 330, 329, 405].filterMap (fun i => tables_1[i]?) := by decide +kernel
  have g : (vx_at0 RX6 266 (zEx 3) ["java/lang/RuntimeException", "java/lang/Exception"]).all (fun w => (goodWord w || zisN w) && vx_ot w) = true := by decide +kernel
  intro w hw
  refine ⟨?_, List.all_eq_true.mp g w hw⟩
  rw [e] at hw
  obtain ⟨i, -, hi⟩ := List.mem_filterMap.mp hw
  exact List.mem_of_getElem? hi
set_option maxRecDepth 100000 in
theorem zat_4 : ∀ w ∈ vx_at0 RX6 251 (zEx 4) ["java/lang/RuntimeException", "java/lang/Exception"], w ∈ tables_1 ∧ ((goodWord w || zisN w) && vx_ot w) = true := by
  have e : vx_at0 RX6 251 (zEx 4) ["java/lang/RuntimeException", "java/lang/Exception"] = [8, 331, 340, 345, 348, 350, 332, 333, 22, 23, 334, 339, 346, 362, 321, 363, 323, 364, 325, 335, 337, 327, 699, 700, 701, 355, 312, 355, 356, 357, 358, 314, 358, 359, 360, 332, 316, 698, 690, 691, 692, 344, 693, 694, 695, 696, 330, 329, 697].filterMap (fun i => tables_1[i]?) := by decide +kernel
  have g : (vx_at0 RX6 251 (zEx 4) ["java/lang/RuntimeException", "java/lang/Exception"]).all (fun w => (goodWord w || zisN w) && vx_ot w) = true := by decide +kernel
  intro w hw
  refine ⟨?_, List.all_eq_true.mp g w hw⟩
  rw [e] at hw
  obtain ⟨i, -, hi⟩ := List.mem_filterMap.mp hw
  exact List.mem_of_getElem? hi
