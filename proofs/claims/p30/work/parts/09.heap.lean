/-! rows of fields, arrays, returns, calls, over the numbered world -/
def zIn (D : va_G) (aC : Nat → ClassId) (ad : Nat → Nat) (rest : va_W) (n : Nat) (sh : Nat → zShp) (st : zSt) (sz : Nat) (U : State) : Prop :=
  U.heap.size = sz ∧ va_P D vwCl (zgw n sh ad aC st ++ rest) U.heap ∧ va_K D vwCl (ztys aC) U ∧ va_D (fun _ => True) (zgw n sh ad aC st ++ rest) ∧ zNs U
def zOut (D : va_G) (aC : Nat → ClassId) (ad : Nat → Nat) (rest : va_W) (n : Nat) (sh : Nat → zShp) (A : Nat → Prop) (u : zSt) (t : State) : Prop :=
  va_P D vwCl (zgw n sh ad aC u ++ rest) t.heap ∧ va_D A (zgw n sh ad aC u ++ rest)
def zA (ad : Nat → Nat) (n : Nat) (rest : va_W) (sz : Nat) : Nat → Prop := fun q => (∃ c, c < n ∧ q = ad c) ∨ (∃ (k : Nat) (e : va_E), rest[k]? = some (q, e)) ∨ sz ≤ q
def zQ (rv : Option Value) (B : State → Prop) (A : Nat → Prop) : Array Value → State → Outcome → State → Prop := fun _ st oc t => (oc = .returned rv ∧ B t) ∧ va_F A st t
def zMet (l : Launch) (y : MethodName) (cc : ByteArray) (mL : Nat) (ret : Option FieldType) (rm : Room) (n : Nat) (sh : Nat → zShp) (av : (Nat → Nat) → List Value) (st : zSt) (rv : (Nat → Nat) → Option Value) (u : zSt) : Prop :=
  ∀ (D : va_G) (aC : Nat → ClassId) (ad : Nat → Nat) (rest : va_W) (sz : Nat), Met l y (.code y cc mL ret :: zWL) rm (va_Pc (av ad) (zIn D aC ad rest n sh st sz)) (zQ (rv ad) (zOut D aC ad rest n sh (zA ad n rest sz) u) (zA ad n rest sz)) 0 0 (zA ad n rest sz)
def zPost (X : zCx) (n : Nat) (sh : Nat → zShp) (ret : Option FieldType) (rv : Option Value) (u : zSt) : Prop :=
  X.meth.sig.returnType = ret ∧ X.Q = MQ X.below (zQ rv (zOut X.D X.aC X.ad X.rest n sh X.A u) X.A) X.args X.s X.cells X.slots X.A
theorem zgw_mem {n : Nat} {sh : Nat → zShp} {ad : Nat → Nat} {aC : Nat → ClassId} {st : zSt} {rest : va_W} {k : Nat} {q : Nat × va_E} (h : (zgw n sh ad aC st ++ rest)[k]? = some q) : (k < n ∧ q.1 = ad k) ∨ (n ≤ k ∧ rest[k - n]? = some q) := by
  by_cases hk : k < n
  · left
    rw [zgw_at hk rfl] at h
    cases h
    exact ⟨hk, rfl⟩
  · right
    rw [List.getElem?_append_right (by rw [zgw_len]; omega), zgw_len] at h
    exact ⟨by omega, h⟩
theorem zA_self {n : Nat} {sh : Nat → zShp} {ad : Nat → Nat} {aC : Nat → ClassId} {st : zSt} {rest : va_W} {sz : Nat} {A : Nat → Prop} (h : va_D A (zgw n sh ad aC st ++ rest)) : va_D (zA ad n rest sz) (zgw n sh ad aC st ++ rest) :=
  ⟨h.1, fun k q hk => (zgw_mem hk).elim (fun g => Or.inl ⟨k, g.1, g.2⟩) (fun g => Or.inr (Or.inl ⟨k - n, q.2, g.2⟩))⟩
theorem zA_sub {n : Nat} {sh : Nat → zShp} {ad : Nat → Nat} {aC : Nat → ClassId} {st : zSt} {rest : va_W} {sz : Nat} {A : Nat → Prop} (h : va_D A (zgw n sh ad aC st ++ rest)) (hA : ∀ q, sz ≤ q → A q) : ∀ q, zA ad n rest sz q → A q := by
  intro q hq
  rcases hq with ⟨c, hc, rfl⟩ | ⟨k, e, hk⟩ | hq
  · exact h.2 c _ (zgw_at hc rfl)
  · refine h.2 (n + k) (q, e) ?_
    rw [List.getElem?_append_right (by rw [zgw_len]; omega), zgw_len]
    rw [show n + k - n = k by omega]
    exact hk
  · exact hA q hq
theorem z_ofW {l : Launch} {y : MethodName} {ws ws' : List Cond} {rm : Room} {Pc : Array Value → State → Prop} {Qc : Array Value → State → Outcome → State → Prop} {mc ms : Nat} {free : Addr → Prop} {cc : ByteArray} {maxL : Nat} {ret : Option FieldType}
    (hy : plainFor y = true) (hw : ws = Cond.code y cc maxL ret :: ws')
    (body : ∀ p e s m args below meth c s₁, BodyLoose p l y (headSpec ws rm) cc maxL ret e s m args below meth c s₁ → c.maxLocals = maxL → Pc args s →
      W p l e (headSpec ws rm).room s m args below meth c s.heap [] 0 0 (MQ below Qc args s mc ms free) (entryFrame m args maxL)) : Met l y ws rm Pc Qc mc ms free := by
  refine MetFree.of_bodySF (code := cc) (maxLocals := maxL) (ret := ret) hy ?_ ?_
  · intro args s m h hn
    obtain ⟨meth, c, h1, h2, h3, h4, h5, h6, -, -⟩ := Cond.code_spec hn (atoms_spec (ws := ws) h _ (by rw [hw]; exact List.mem_cons_self))
    exact ⟨meth, c, h1, h2, h3, h4, h5, h6⟩
  · intro p e s m args below meth c s₁ B hml hP _
    have hh0 : s₁.heap = s.heap := by rw [B.state]; rfl
    obtain ⟨t, a1, o, b1, b2, b3⟩ := body p e s m args below meth c s₁ B hml hP s₁ hh0 (Stand.of_body B)
    exact ⟨t, o, a1, b1, b2, ⟨b3.1, b3.2⟩⟩
theorem zmet_of {l : Launch} {y : MethodName} {cc : ByteArray} {mL : Nat} {ret : Option FieldType} {rm : Room} {n : Nat} {sh : Nat → zShp} {av : (Nat → Nat) → List Value} {st : zSt} {rv : (Nat → Nat) → Option Value} {u : zSt}
    (hy : plainFor y = true) (hn : ∀ ad, (lg_sl (av ad)).length ≤ mL)
    (h : ∀ X : zCx, X.l = l → X.nL = mL → zOk X y.cls cc rm → zPost X n sh ret (rv X.ad) u → zG n sh X st 0 (lv_args 0 (av X.ad)) []) : zMet l y cc mL ret rm n sh av st rv u := by
  intro D aC ad rest sz
  refine z_ofW (cc := cc) (maxL := mL) (ret := ret) hy rfl ?_
  intro p e s m args below meth c s₁ B hml hv
  obtain ⟨rfl, hsz, hP, hK, hD0, hN⟩ := hv
  subst hsz
  have hts := atoms_spec (ws := .code y cc mL ret :: zWL) B.pre
  have hown : s.vm.findClass y.cls = some m.cls := findClass_of_methodNamed B.named
  have hD := zA_self (sz := s.heap.size) hD0
  have hl := lv_entry (av ad) (n := mL) (hn ad)
  rw [lg_entry_eq]
  exact h ((p, l, e, rm), (s, m, (av ad).toArray, below), (meth, c, 0, 0, mL), MQ below (zQ (rv ad) (zOut D aC ad rest n sh (zA ad n rest s.heap.size) u) (zA ad n rest s.heap.size)) (av ad).toArray s 0 0 (zA ad n rest s.heap.size), (D, aC, ad, rest), zA ad n rest s.heap.size) rfl rfl
    ⟨⟨B.exec, B.bytes⟩, hml, hown, fun w hw => hts w (List.mem_cons_of_mem _ hw), hK, hN, B.notSynchronized, fun q hq => Or.inr (Or.inr hq), rfl, Nat.zero_le _, Nat.zero_le _⟩ ⟨B.returns, rfl⟩ s.heap [] _ hP hD va_S.rf hl
section ZH
variable {X : zCx} {own : String} {cc : ByteArray} {rm : Room} {pc : Nat} {lv : List (Nat × Value)} {stk : List Value} {n : Nat} {sh : Nat → zShp} {st : zSt}
theorem z_get (hX : zOk X own cc rm) (c j k : Nat) {ci : Nat} {L : List Nat} {C : String} {T : u_T} {N index : Nat} (hdg : decode cc pc = .ok (.getfield index, 3)) (hc : c < n) (hs : sh c = .inl (ci, L)) (hL : L[j]? = some k) (hcl : vwCl[ci]? = some (C, T, N)) (hin : ∀ w ∈ u_ws C T N, w ∈ zWL) (hj : j < N) (hlk : Cond.fieldLink own index (T j).1 (T j).2.1 (T j).2.2.1 ∈ tables_1) {v : Value} (hv : zslt X.ad (st.1 c) (st.2 c) j k = v) (kk : zG n sh X st (pc + 3) lv (v :: stk)) : zG n sh X st pc lv (.ref (X.ad c) :: stk) := fun H locs ls hP hD hS hl =>
  va_get hX.1.1 hX.1.2 hX.2.2.2.1 hin hX.2.2.1 hX.2.2.2.2.1 hP c (zgw_at hc (by rw [hs]; rfl)) hcl j hj (hX.t hlk rfl) (fun _ h => h) (by rw [zsl_at _ _ _ L 0 j k hL, Nat.zero_add, hv]) hdg (kk H locs ls hP hD hS hl)
theorem z_getN (hX : zOk X own cc rm) (c j k : Nat) {ci : Nat} {L : List Nat} {C : String} {T : u_T} {N index : Nat} {host : String} (hdg : decode cc pc = .ok (.getfield index, 3)) (hc : c < n) (hs : sh c = .inl (ci, L)) (hL : L[j]? = some k) (hcl : vwCl[ci]? = some (C, T, N)) (hin : ∀ w ∈ u_ws C T N, w ∈ zWL) (hj : j < N) (hlk : Cond.fieldLinkNest own index (T j).1 (T j).2.1 (T j).2.2.1 host ∈ tables_1) {v : Value} (hv : zslt X.ad (st.1 c) (st.2 c) j k = v) (kk : zG n sh X st (pc + 3) lv (v :: stk)) : zG n sh X st pc lv (.ref (X.ad c) :: stk) := fun H locs ls hP hD hS hl =>
  va_getN hX.1.1 hX.1.2 hX.2.2.2.1 hin hX.2.2.1 hX.2.2.2.2.1 hP c (zgw_at hc (by rw [hs]; rfl)) hcl j hj (hX.nb hlk rfl) (fun _ h => h) (by rw [zsl_at _ _ _ L 0 j k hL, Nat.zero_add, hv]) hdg (kk H locs ls hP hD hS hl)
theorem z_setI {X : zCx} {c j ci : Nat} {L : List Nat} (hc : c < n) (hs : sh c = .inl (ci, L)) (hL : L[j]? = some 0) (v : Int32) : (zgw n sh X.ad X.aC st ++ X.rest).set c (X.ad c, .inr (ci, (zsl X.ad (st.1 c) (st.2 c) 0 L).set j (.int v))) = zgw n sh X.ad X.aC (zwI st c j v) ++ X.rest := by
  refine zgw_set hc ?_ zwI_off
  rw [hs, zwI_at, zsl_setI _ _ _ v L 0 j hL, Nat.zero_add]
  rfl
theorem z_setL {X : zCx} {c j ci : Nat} {L : List Nat} (hc : c < n) (hs : sh c = .inl (ci, L)) (hL : L[j]? = some 1) (v : Int64) : (zgw n sh X.ad X.aC st ++ X.rest).set c (X.ad c, .inr (ci, (zsl X.ad (st.1 c) (st.2 c) 0 L).set j (.long v))) = zgw n sh X.ad X.aC (zwL st c j v) ++ X.rest := by
  refine zgw_set hc ?_ zwL_off
  rw [hs, zwL_at, zsl_setL _ _ _ v L 0 j hL, Nat.zero_add]
  rfl
theorem z_putI0 (hX : zOk X own cc rm) (c j : Nat) {ci : Nat} {L : List Nat} {C : String} {T : u_T} {N index : Nat} {ty0 : Nat → FieldType} {ty : FieldType} {v : Int32} (hdg : decode cc pc = .ok (.putfield index, 3)) (hc : c < n) (hs : sh c = .inl (ci, L)) (hL : L[j]? = some 0) (hcl : vwCl[ci]? = some (C, T, N)) (hin : ∀ w ∈ u_ws C T N, w ∈ zWL) (hty : ∀ k, k < N → parseFieldDescriptor (T k).2.2.1 = some (ty0 k)) (hnm : ∀ a, a < N → ∀ b, b < N → a ≠ b → (T a).2.1 ≠ (T b).2.1) (hj : j < N) (hlk : Cond.fieldLink own index (T j).1 (T j).2.1 (T j).2.2.1 ∈ tables_1) (hfin : (T j).2.2.2 = false) (hd : ty0 j = ty) (hn : narrow ty (.int v) = .int v) (hf : fits ty (.int v) = true) (kk : zG n sh X (zwI st c j v) (pc + 3) lv stk) : zG n sh X st pc lv (.int v :: .ref (X.ad c) :: stk) := fun H locs ls hP hD hS hl =>
  va_put hX.1.1 hX.1.2 hX.2.2.2.1 hin ty0 hty hnm hX.2.2.1 hX.2.2.2.2.1 hP hD hS c (zgw_at hc (by rw [hs]; rfl)) hcl j hj (hX.t hlk rfl) (fun _ h => h) hfin (by rw [hty j hj, hd]) hn hf (by rw [zsl_len]; exact (List.getElem?_eq_some_iff.mp hL).1) hdg (fun H1 locs1 hP1 hD1 hS1 => by
    rw [z_setI hc hs hL] at hP1 hD1
    exact kk H1 locs1 ls hP1 hD1 hS1 hl)
theorem z_putI0N (hX : zOk X own cc rm) (c j : Nat) {ci : Nat} {L : List Nat} {C : String} {T : u_T} {N index : Nat} {host : String} {ty0 : Nat → FieldType} {ty : FieldType} {v : Int32} (hdg : decode cc pc = .ok (.putfield index, 3)) (hc : c < n) (hs : sh c = .inl (ci, L)) (hL : L[j]? = some 0) (hcl : vwCl[ci]? = some (C, T, N)) (hin : ∀ w ∈ u_ws C T N, w ∈ zWL) (hty : ∀ k, k < N → parseFieldDescriptor (T k).2.2.1 = some (ty0 k)) (hnm : ∀ a, a < N → ∀ b, b < N → a ≠ b → (T a).2.1 ≠ (T b).2.1) (hj : j < N) (hlk : Cond.fieldLinkNest own index (T j).1 (T j).2.1 (T j).2.2.1 host ∈ tables_1) (hfin : (T j).2.2.2 = false) (hd : ty0 j = ty) (hn : narrow ty (.int v) = .int v) (hf : fits ty (.int v) = true) (kk : zG n sh X (zwI st c j v) (pc + 3) lv stk) : zG n sh X st pc lv (.int v :: .ref (X.ad c) :: stk) := fun H locs ls hP hD hS hl =>
  va_putN hX.1.1 hX.1.2 hX.2.2.2.1 hin ty0 hty hnm hX.2.2.1 hX.2.2.2.2.1 hP hD hS c (zgw_at hc (by rw [hs]; rfl)) hcl j hj (hX.nb hlk rfl) (fun _ h => h) hfin (by rw [hty j hj, hd]) hn hf (by rw [zsl_len]; exact (List.getElem?_eq_some_iff.mp hL).1) hdg (fun H1 locs1 hP1 hD1 hS1 => by
    rw [z_setI hc hs hL] at hP1 hD1
    exact kk H1 locs1 ls hP1 hD1 hS1 hl)
theorem z_putL (hX : zOk X own cc rm) (c j : Nat) {ci : Nat} {L : List Nat} {C : String} {T : u_T} {N index : Nat} {ty0 : Nat → FieldType} {v : Int64} (hdg : decode cc pc = .ok (.putfield index, 3)) (hc : c < n) (hs : sh c = .inl (ci, L)) (hL : L[j]? = some 1) (hcl : vwCl[ci]? = some (C, T, N)) (hin : ∀ w ∈ u_ws C T N, w ∈ zWL) (hty : ∀ k, k < N → parseFieldDescriptor (T k).2.2.1 = some (ty0 k)) (hnm : ∀ a, a < N → ∀ b, b < N → a ≠ b → (T a).2.1 ≠ (T b).2.1) (hj : j < N) (hlk : Cond.fieldLink own index (T j).1 (T j).2.1 (T j).2.2.1 ∈ tables_1) (hfin : (T j).2.2.2 = false) (hd : ty0 j = .long) (kk : zG n sh X (zwL st c j v) (pc + 3) lv stk) : zG n sh X st pc lv (.long v :: .ref (X.ad c) :: stk) := fun H locs ls hP hD hS hl =>
  va_put hX.1.1 hX.1.2 hX.2.2.2.1 hin ty0 hty hnm hX.2.2.1 hX.2.2.2.2.1 hP hD hS c (zgw_at hc (by rw [hs]; rfl)) hcl j hj (hX.t hlk rfl) (fun _ h => h) hfin (by rw [hty j hj, hd]) (v := .long v) rfl rfl (by rw [zsl_len]; exact (List.getElem?_eq_some_iff.mp hL).1) hdg (fun H1 locs1 hP1 hD1 hS1 => by
    rw [z_setL hc hs hL] at hP1 hD1
    exact kk H1 locs1 ls hP1 hD1 hS1 hl)
theorem z_iald (hX : zOk X own cc rm) (c : Nat) {len : Nat} {i : Int32} (hdg : decode cc pc = .ok (.iaload, 1)) (hc : c < n) (hs : sh c = .inr (0, len, 0)) (hi : vp_in i len) (kk : zG n sh X st (pc + 1) lv (.int (st.1 c i.toNatClampNeg) :: stk)) : zG n sh X st pc lv (.int i :: .ref (X.ad c) :: stk) := fun H locs ls hP hD hS hl =>
  va_iald hX.1.1 hX.1.2 hX.2.2.2.2.1 hP c 0 (zgw_at hc (by rw [hs]; rfl)) rfl hi hdg (kk H locs ls hP hD hS hl)
theorem z_zald (hX : zOk X own cc rm) (c : Nat) {len : Nat} {i : Int32} (hdg : decode cc pc = .ok (.baload, 1)) (hc : c < n) (hs : sh c = .inr (2, len, 0)) (hi : vp_in i len) (kk : zG n sh X st (pc + 1) lv (.int (st.1 c i.toNatClampNeg) :: stk)) : zG n sh X st pc lv (.int i :: .ref (X.ad c) :: stk) := fun H locs ls hP hD hS hl =>
  va_zald hX.1.1 hX.1.2 hX.2.2.2.2.1 hP c 2 (zgw_at hc (by rw [hs]; rfl)) rfl hi hdg (kk H locs ls hP hD hS hl)
theorem z_lald (hX : zOk X own cc rm) (c : Nat) {len : Nat} {i : Int32} (hdg : decode cc pc = .ok (.laload, 1)) (hc : c < n) (hs : sh c = .inr (1, len, 1)) (hi : vp_in i len) (kk : zG n sh X st (pc + 1) lv (.long (st.2 c i.toNatClampNeg) :: stk)) : zG n sh X st pc lv (.int i :: .ref (X.ad c) :: stk) := fun H locs ls hP hD hS hl =>
  va_lald hX.1.1 hX.1.2 hX.2.2.2.2.1 hP c 1 (zgw_at hc (by rw [hs]; rfl)) rfl hi hdg (kk H locs ls hP hD hS hl)
theorem z_aald (hX : zOk X own cc rm) (c : Nat) {t len r : Nat} {C : String} {i : Int32} (hdg : decode cc pc = .ok (.aaload, 1)) (hc : c < n) (hs : sh c = .inr (t, len, r + 2)) (ht : (ztys X.aC)[t]? = some (X.aC t, .object C)) (hi : vp_in i len) (kk : zG n sh X st (pc + 1) lv (.ref (X.ad (r + i.toNatClampNeg)) :: stk)) : zG n sh X st pc lv (.int i :: .ref (X.ad c) :: stk) := fun H locs ls hP hD hS hl =>
  va_aldq (f := fun i => some (X.ad (r + i))) hX.1.1 hX.1.2 hX.2.2.2.2.1 hP c t (zgw_at hc (by rw [hs]; rfl)) ht hi hdg (kk H locs ls hP hD hS hl)
theorem z_iast (hX : zOk X own cc rm) (c : Nat) {len : Nat} {i v : Int32} (hdg : decode cc pc = .ok (.iastore, 1)) (hc : c < n) (hs : sh c = .inr (0, len, 0)) (hi : vp_in i len) (kk : zG n sh X (zwI st c i.toNatClampNeg v) (pc + 1) lv stk) : zG n sh X st pc lv (.int v :: .int i :: .ref (X.ad c) :: stk) := fun H locs ls hP hD hS hl =>
  va_iast hX.1.1 hX.1.2 hX.2.2.2.2.1 hP hD hS c 0 (zgw_at hc (by rw [hs]; rfl)) rfl hi hdg (fun H1 locs1 hP1 hD1 hS1 => by
    rw [zgw_set (st' := zwI st c i.toNatClampNeg v) hc (by rw [hs, zwI_at]; rfl) zwI_off] at hP1 hD1
    exact kk H1 locs1 ls hP1 hD1 hS1 hl)
theorem z_zast (hX : zOk X own cc rm) (c : Nat) {len : Nat} {i v : Int32} (hdg : decode cc pc = .ok (.bastore, 1)) (hc : c < n) (hs : sh c = .inr (2, len, 0)) (hi : vp_in i len) (hv : vp_nar .boolean v = v) (kk : zG n sh X (zwI st c i.toNatClampNeg v) (pc + 1) lv stk) : zG n sh X st pc lv (.int v :: .int i :: .ref (X.ad c) :: stk) := fun H locs ls hP hD hS hl =>
  va_zast hX.1.1 hX.1.2 hX.2.2.2.2.1 hP hD hS c 2 (zgw_at hc (by rw [hs]; rfl)) rfl hi hdg (fun H1 locs1 hP1 hD1 hS1 => by
    rw [hv, zgw_set (st' := zwI st c i.toNatClampNeg v) hc (by rw [hs, zwI_at]; rfl) zwI_off] at hP1 hD1
    exact kk H1 locs1 ls hP1 hD1 hS1 hl)
theorem z_last (hX : zOk X own cc rm) (c : Nat) {len : Nat} {i : Int32} {v : Int64} (hdg : decode cc pc = .ok (.lastore, 1)) (hc : c < n) (hs : sh c = .inr (1, len, 1)) (hi : vp_in i len) (kk : zG n sh X (zwL st c i.toNatClampNeg v) (pc + 1) lv stk) : zG n sh X st pc lv (.long v :: .int i :: .ref (X.ad c) :: stk) := fun H locs ls hP hD hS hl =>
  va_last hX.1.1 hX.1.2 hX.2.2.2.2.1 hP hD hS c 1 (zgw_at hc (by rw [hs]; rfl)) rfl hi hdg (fun H1 locs1 hP1 hD1 hS1 => by
    rw [zgw_set (st' := zwL st c i.toNatClampNeg v) hc (by rw [hs, zwL_at]; rfl) zwL_off] at hP1 hD1
    exact kk H1 locs1 ls hP1 hD1 hS1 hl)
theorem z_iret (hX : zOk X own cc rm) {ty : FieldType} {v : Int32} (hQ : zPost X n sh (some ty) (some (.int v)) st) (hdg : decode cc pc = .ok (.ireturn, 1)) (hn : narrow ty (.int v) = .int v) : zG n sh X st pc lv [.int v] := fun H locs ls hP hD hS hl => by
  rw [hQ.2]
  exact W.zret hX.1.1 hX.1.2 hQ.1 hn (fun t ht hW => ⟨⟨rfl, by rw [ht]; exact hP, hD⟩, hS.F ht⟩) hS.2.2 hdg hX.2.2.2.2.2.2.1
theorem z_lret (hX : zOk X own cc rm) {v : Int64} (hQ : zPost X n sh (some .long) (some (.long v)) st) (hdg : decode cc pc = .ok (.lreturn, 1)) : zG n sh X st pc lv [.long v] := fun H locs ls hP hD hS hl => by
  rw [hQ.2]
  exact W.lret hX.1.1 hX.1.2 hQ.1 (fun t ht hW => ⟨⟨rfl, by rw [ht]; exact hP, hD⟩, hS.F ht⟩) hS.2.2 hdg hX.2.2.2.2.2.2.1
theorem z_vret (hX : zOk X own cc rm) (hQ : zPost X n sh none none st) (hdg : decode cc pc = .ok (.return_, 1)) : zG n sh X st pc lv [] := fun H locs ls hP hD hS hl => by
  rw [hQ.2]
  exact W.vret hX.1.1 hX.1.2 hQ.1 (fun t ht hW => ⟨⟨rfl, by rw [ht]; exact hP, hD⟩, hS.F ht⟩) hS.2.2 hdg hX.2.2.2.2.2.2.1
theorem z_aret (hX : zOk X own cc rm) {C : String} {v : Nat} (hQ : zPost X n sh (some (.object C)) (some (.ref v)) st) (hdg : decode cc pc = .ok (.areturn, 1)) : zG n sh X st pc lv [.ref v] := fun H locs ls hP hD hS hl => by
  rw [hQ.2]
  exact W.aret hX.1.1 hX.1.2 hQ.1 (Or.inl ⟨C, rfl⟩) (Or.inr ⟨v, rfl⟩) (fun t ht hW => ⟨⟨rfl, by rw [ht]; exact hP, hD⟩, hS.F ht⟩) hS.2.2 hdg hX.2.2.2.2.2.2.1
/-- what a method is, for its callers: an instance method, a static one -/
def zCal (y : MethodName) (cc : ByteArray) (mL : Nat) (ret : Option FieldType) (na : Nat) : Prop := Cond.instanceMethod y ∈ tables_1 ∧ Cond.selects y.cls y y ∈ zWL ∧ Cond.initialized y.cls ∈ tables_1 ∧ Cond.code y cc mL ret ∈ tables_1 ∧ (y.cls ≠ "java/lang/invoke/MethodHandle" ∧ y.cls ≠ "java/lang/invoke/VarHandle" ∧ (parseMethodDescriptor y.desc).map (fun d => d.parameters.length) = some na)
def zCalS (y : MethodName) (cc : ByteArray) (mL : Nat) (ret : Option FieldType) (na : Nat) : Prop := Cond.static y ∈ tables_1 ∧ Cond.initialized y.cls ∈ tables_1 ∧ Cond.code y cc mL ret ∈ tables_1 ∧ (y.cls ≠ "java/lang/invoke/MethodHandle" ∧ y.cls ≠ "java/lang/invoke/VarHandle" ∧ (parseMethodDescriptor y.desc).map (fun d => d.parameters.length) = some na)
theorem zgoodc {y : MethodName} {cc' : ByteArray} {mL' : Nat} {ret' : Option FieldType} (h : Cond.code y cc' mL' ret' ∈ tables_1) : GoodIn zWL (.code y cc' mL' ret' :: zWL) := fun w hw => (List.mem_cons.mp hw).elim (fun e => by rw [e]; exact zwl_good _ (zwl_in h rfl)) (fun h => zwl_good _ h)
theorem z_blind {D : va_G} {aC : Nat → ClassId} {ad : Nat → Nat} {rest : va_W} {sz : Nat} {av : List Value} : FrameBlind (va_Pc av (zIn D aC ad rest n sh st sz)) := fun a U g mk q => by
  obtain ⟨q0, q1, q2, q3, q4, q5⟩ := q
  exact ⟨q0, q1, q2, va_K.moved (u := U) (U := U.calling g mk a) (Vm.Alike.refl U.vm) q3, q4, zNs.moved q5 rfl⟩
theorem z_pre (hX : zOk X own cc rm) {H : Heap} {A : Nat → Prop} (hP : va_P X.D vwCl (zgw n sh X.ad X.aC st ++ X.rest) H) (hD : va_D A (zgw n sh X.ad X.aC st ++ X.rest)) {av : List Value} {a : Array Value} (ha : a = av.toArray) : ∀ U : State, U.heap = H → X.s.WarmedH U.vm → va_Pc av (zIn X.D X.aC X.ad X.rest n sh st H.size) a U := fun U hU hW =>
  ⟨ha, by rw [hU], by rw [hU]; exact hP, va_K.moved hW.alike hX.2.2.2.2.1, hD.weaken (fun _ _ _ _ => trivial), hX.2.2.2.2.2.1.warm hW⟩
theorem z_back (hX : zOk X own cc rm) {u : zSt} {rv : Option Value} {stk0 : List Value} {H : Heap} {locs : List Loc} {ls : Array Slot}
    (hP : va_P X.D vwCl (zgw n sh X.ad X.aC st ++ X.rest) H) (hD : va_D X.A (zgw n sh X.ad X.aC st ++ X.rest)) (hS : va_S X.A X.s.heap H locs) (hl : lv_has ls X.nL lv)
    (hr : va_Run X.p X.l X.e X.R X.s X.m X.args X.below X.meth X.c H locs X.cells X.slots 0 0 (F0 X.m pc ls stk0) stk (zQ rv (zOut X.D X.aC X.ad X.rest n sh (zA X.ad n X.rest H.size) u) (zA X.ad n X.rest H.size) X.args) (zA X.ad n X.rest H.size))
    (kk : zG n sh X u (pc + 3) lv (rv.toList ++ stk)) : W X.p X.l X.e X.R X.s X.m X.args X.below X.meth X.c H locs X.cells X.slots X.Q (F0 X.m pc ls stk0) := by
  intro T hT XS
  obtain ⟨v, st₀, t, T', L, h0, X', hL, e1, e2, ⟨⟨hv, hb⟩, hz, hk⟩, hst⟩ := hr T hT XS
  cases hv
  rw [h0] at hz hk
  have hA : ∀ q, zA X.ad n X.rest H.size q → X.A q := zA_sub hD (fun q hq => hX.2.2.2.2.2.2.2.1 q (Nat.le_trans hS.1 hq))
  have hD1 : va_D X.A (zgw n sh X.ad X.aC u ++ X.rest) := hb.2.weaken (fun k q hk hq => hA _ hq)
  have hS1 : va_S X.A X.s.heap T'.heap (locs ++ L) := ⟨Nat.le_trans hS.1 (by rw [e1]; exact hz), fun q h1 h2 => by rw [e1, hk q (Nat.lt_of_lt_of_le h1 hS.1) (fun z => h2 (hA q z))]; exact hS.2.1 q h1 h2, fun q hq => by
      rcases List.mem_append.mp hq with h | h
      · exact hS.2.2 q h
      · exact hA _ (hL q h)⟩
  obtain ⟨t2, a1, b1⟩ := kk T'.heap (locs ++ L) ls (by rw [e1]; exact hb.1) hD1 hS1 hl T' rfl X'
  exact ⟨t2, hst t2 a1, b1⟩
variable {y : MethodName} {cc' : ByteArray} {mL' : Nat} {ret' : Option FieldType} {rm' : Room} {av : (Nat → Nat) → List Value} {rv : (Nat → Nat) → Option Value} {u : zSt} {index na : Nat} {As stk0 stk' : List Value}
theorem z_callV (hX : zOk X own cc rm) (hc : zMet X.l y cc' mL' ret' rm' n sh av st rv u) (hy : zCal y cc' mL' ret' na) (b : Nat) {ci : Nat} {L : List Nat} {T : u_T} {N : Nat} (hdg : decode cc pc = .ok (.invokevirtual index, 3)) (hw : Cond.methodLink own index y ∈ tables_1) (hb : b < n) (hsb : sh b = .inl (ci, L)) (hcl : vwCl[ci]? = some (y.cls, T, N)) (hav : av X.ad = .ref (X.ad b) :: As) (hst : stk0 = As.reverse ++ .ref (X.ad b) :: stk) (hna : As.length = na) (hR : rm'.frames + 1 ≤ rm.frames ∧ 8 + (mL' + 11) + rm'.locals ≤ rm.locals) (hrc : rm'.cells = 0 ∧ rm'.slots = 0) (hcat : (stk.map fun v => v.category).sum ≤ 8) (hk : (rv X.ad).toList ++ stk = stk') (kk : zG n sh X u (pc + 3) lv stk') : zG n sh X st pc lv stk0 := fun H locs ls hP hD hS hl => by
  have hR2 : rm'.frames + 1 ≤ X.R.frames ∧ 8 + (mL' + 11) + rm'.locals ≤ X.R.locals := by rw [hX.2.2.2.2.2.2.2.2.1]; exact hR
  have hcb := callB_of (R := X.R) (own := own) (index := index) na hX.2.2.2.1 (zgoodc hy.2.2.2.1) rfl hrc.1 hrc.2 (hX.t hy.2.2.1 rfl) (hX.t hw rfl) hy.2.2.2.2 hR2
  have hM := hc X.D X.aC X.ad X.rest H.size
  rw [hav] at hM
  exact z_back hX hP hD hS hl (va_runV (As := As) (rest := stk) (g := F0 X.m pc ls stk0) ⟨hX.1.1, hX.1.2, hX.2.1, hX.2.2.1, hX.2.2.2.1⟩ hM ⟨hcb, hX.t hy.1 rfl, hX.w hy.2.1⟩ ⟨z_blind, va_recv hX.2.2.2.2.1 hP hcl (zgw_at hb (by rw [hsb]; rfl)), z_pre hX hP hD rfl⟩ rfl hna hl.1 hst (lv_room hcat) hdg hX.2.2.2.2.2.2.2.2.2) (by rw [hk]; exact kk)
theorem z_callVN (hX : zOk X own cc rm) (hc : zMet X.l y cc' mL' ret' rm' n sh av st rv u) (hy : zCal y cc' mL' ret' na) (b : Nat) {ci : Nat} {L : List Nat} {T : u_T} {N : Nat} {host : String} (hdg : decode cc pc = .ok (.invokevirtual index, 3)) (hw : Cond.methodLinkNest own index y host ∈ tables_1) (hb : b < n) (hsb : sh b = .inl (ci, L)) (hcl : vwCl[ci]? = some (y.cls, T, N)) (hav : av X.ad = .ref (X.ad b) :: As) (hst : stk0 = As.reverse ++ .ref (X.ad b) :: stk) (hna : As.length = na) (hR : rm'.frames + 1 ≤ rm.frames ∧ 8 + (mL' + 11) + rm'.locals ≤ rm.locals) (hrc : rm'.cells = 0 ∧ rm'.slots = 0) (hcat : (stk.map fun v => v.category).sum ≤ 8) (hk : (rv X.ad).toList ++ stk = stk') (kk : zG n sh X u (pc + 3) lv stk') : zG n sh X st pc lv stk0 := fun H locs ls hP hD hS hl => by
  have hR2 : rm'.frames + 1 ≤ X.R.frames ∧ 8 + (mL' + 11) + rm'.locals ≤ X.R.locals := by rw [hX.2.2.2.2.2.2.2.2.1]; exact hR
  have hcb := va_cnB (R := X.R) (own := own) (index := index) na hX.2.2.2.1 (zgoodc hy.2.2.2.1) rfl hrc.1 hrc.2 (hX.n hw rfl) (hX.t hy.2.2.1 rfl) hy.2.2.2.2 hR2
  have hM := hc X.D X.aC X.ad X.rest H.size
  rw [hav] at hM
  exact z_back hX hP hD hS hl (va_runVN (As := As) (rest := stk) (g := F0 X.m pc ls stk0) ⟨hX.1.1, hX.1.2, hX.2.1, hX.2.2.1, hX.2.2.2.1⟩ hM ⟨hcb, hX.t hy.1 rfl, hX.w hy.2.1⟩ ⟨z_blind, va_recv hX.2.2.2.2.1 hP hcl (zgw_at hb (by rw [hsb]; rfl)), z_pre hX hP hD rfl⟩ rfl hna hl.1 hst (lv_room hcat) hdg hX.2.2.2.2.2.2.2.2.2) (by rw [hk]; exact kk)
theorem z_callS (hX : zOk X own cc rm) (hc : zMet X.l y cc' mL' ret' rm' n sh av st rv u) (hy : zCalS y cc' mL' ret' na) (hdg : decode cc pc = .ok (.invokestatic index, 3)) (hw : Cond.methodLink own index y ∈ tables_1) (hav : av X.ad = As) (hst : stk0 = As.reverse ++ stk) (hna : As.length = na) (hR : rm'.frames + 1 ≤ rm.frames ∧ 8 + (mL' + 11) + rm'.locals ≤ rm.locals) (hrc : rm'.cells = 0 ∧ rm'.slots = 0) (hcat : (stk.map fun v => v.category).sum ≤ 8) (hk : (rv X.ad).toList ++ stk = stk') (kk : zG n sh X u (pc + 3) lv stk') : zG n sh X st pc lv stk0 := fun H locs ls hP hD hS hl => by
  have hR2 : rm'.frames + 1 ≤ X.R.frames ∧ 8 + (mL' + 11) + rm'.locals ≤ X.R.locals := by rw [hX.2.2.2.2.2.2.2.2.1]; exact hR
  have hcb := callB_of (R := X.R) (own := own) (index := index) na hX.2.2.2.1 (zgoodc hy.2.2.1) rfl hrc.1 hrc.2 (hX.t hy.2.1 rfl) (hX.t hw rfl) hy.2.2.2 hR2
  have hM := hc X.D X.aC X.ad X.rest H.size
  rw [hav] at hM
  exact z_back hX hP hD hS hl (va_runS (As := As) (rest := stk) (g := F0 X.m pc ls stk0) ⟨hX.1.1, hX.1.2, hX.2.1, hX.2.2.1, hX.2.2.2.1⟩ hM ⟨hcb, hX.t hy.1 rfl⟩ ⟨z_blind, z_pre hX hP hD rfl⟩ rfl hna hl.1 hst (lv_room hcat) hdg hX.2.2.2.2.2.2.2.2.2) (by rw [hk]; exact kk)
theorem z_mabs (hX : zOk X own cc rm) {x : Int32} (hdg : decode cc pc = .ok (.invokestatic index, 3)) (hw : Cond.methodLink own index Lib.Math.abs.name ∈ tables_1) (w2 : Cond.static Lib.Math.abs.name ∈ tables_1) (w3 : Cond.initialized "java/lang/Math" ∈ tables_1) (w4 : Cond.code Lib.Math.abs.name Lib.Math.abs.code 1 (some .int) ∈ tables_1) (hR : 1 ≤ rm.frames ∧ (stk.map fun v => v.category).sum + 13 ≤ rm.locals) (kk : zG n sh X st (pc + 3) lv (.int (if 0 ≤ x then x else 0 - x) :: stk)) : zG n sh X st pc lv (.int x :: stk) := fun H locs ls hP hD hS hl =>
  va_mabs hX.1.1 hX.1.2 (by rw [hX.2.1]; exact hl.1.symm) hX.2.2.1 (hX.t hw rfl) (hX.t w2 rfl) (hX.t w3 rfl) (hX.t w4 rfl) (by rw [hX.2.2.2.2.2.2.2.2.1]; exact hR.1) (by rw [hX.2.2.2.2.2.2.2.2.1]; exact hR.2) hX.2.2.2.2.2.2.2.2.2.1 hX.2.2.2.2.2.2.2.2.2.2 hdg (kk H locs ls hP hD hS hl)
theorem z_mmax (hX : zOk X own cc rm) {x y : Int32} (hdg : decode cc pc = .ok (.invokestatic index, 3)) (hw : Cond.methodLink own index Lib.Math.max.name ∈ tables_1) (w2 : Cond.static Lib.Math.max.name ∈ tables_1) (w3 : Cond.initialized "java/lang/Math" ∈ tables_1) (w4 : Cond.code Lib.Math.max.name Lib.Math.max.code 2 (some .int) ∈ tables_1) (hR : 1 ≤ rm.frames ∧ (stk.map fun v => v.category).sum + 13 ≤ rm.locals) (kk : zG n sh X st (pc + 3) lv (.int (if x < y then y else x) :: stk)) : zG n sh X st pc lv (.int y :: .int x :: stk) := fun H locs ls hP hD hS hl =>
  va_mmax hX.1.1 hX.1.2 (by rw [hX.2.1]; exact hl.1.symm) hX.2.2.1 (hX.t hw rfl) (hX.t w2 rfl) (hX.t w3 rfl) (hX.t w4 rfl) (by rw [hX.2.2.2.2.2.2.2.2.1]; exact hR.1) (by rw [hX.2.2.2.2.2.2.2.2.1]; exact hR.2) hX.2.2.2.2.2.2.2.2.2.1 hX.2.2.2.2.2.2.2.2.2.2 hdg (kk H locs ls hP hD hS hl)
end ZH
