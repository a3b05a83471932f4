/-! rows for the constructors: a world's order does not matter; a new object; a new array of numbers -/
section ZCT
/-- one more cell, with N slots -/
abbrev zadd (X : zCx) (N : Nat) : zCx := (X.1, X.2.1, (X.meth, X.c, X.cells + 1, X.slots + N, X.nL), X.2.2.2.1, X.2.2.2.2.1, X.2.2.2.2.2)
variable {X : zCx} {own : String} {cc : ByteArray} {rm : Room} {ws ws' : va_W} {pc : Nat} {lv : List (Nat × Value)} {stk : List Value}
theorem zadd_ok {N : Nat} (h : zOk X own cc rm) (hr : X.cells + 1 ≤ X.R.cells ∧ X.slots + N ≤ X.R.slots) : zOk (zadd X N) own cc rm := ⟨h.1, h.2.1, h.2.2.1, h.2.2.2.1, h.2.2.2.2.1, h.2.2.2.2.2.1, h.2.2.2.2.2.2.1, h.2.2.2.2.2.2.2.1, h.2.2.2.2.2.2.2.2.1, hr.1, hr.2⟩
theorem zGw_perm (f : Nat → Nat) (hf : ∀ k q, ws'[k]? = some q → ws[f k]? = some q) (hinj : ∀ i j, f i = f j → i = j) (h : zGw X ws' pc lv stk) : zGw X ws pc lv stk := fun H locs ls hP hD hS hl => h H locs ls (fun k q hk => hP (f k) q (hf k q hk)) ⟨fun i j p q hi hj e => hinj _ _ (hD.1 _ _ p q (hf i p hi) (hf j q hj) e), fun k q hk => hD.2 _ q (hf k q hk)⟩ hS hl
theorem z_new (hX : zOk X own cc rm) {C : String} {T : u_T} {N index ci : Nat} {fs : List Value} (hdg : decode cc pc = .ok (.new index, 3)) (hcl : vwCl[ci]? = some (C, T, N)) (hin : ∀ w ∈ u_ws C T N, w ∈ zWL) (ty : Nat → FieldType) (hty : ∀ k, k < N → parseFieldDescriptor (T k).2.2.1 = some (ty k)) (hfs : ∀ j, j < N → defaultValue (ty j) = vp_V fs j) (hlk : Cond.classLink own index C ∈ tables_1) (hi : Cond.instantiable C N ∈ tables_1) (hni : Cond.initialized C ∈ tables_1) (hr : X.cells + 1 ≤ X.R.cells ∧ X.slots + N ≤ X.R.slots) (kk : ∀ q, zGw (zadd X N) (ws ++ [(q, .inr (ci, fs))]) (pc + 3) lv (.ref q :: stk)) : zGw X ws pc lv stk := fun H locs ls hP hD hS hl =>
  va_new hX.1.1 hX.1.2 (Ts := zWL) hX.2.2.2.1 hin ty hty hX.2.2.1 (hX.t hlk rfl) (hX.t hi rfl) (hX.t hni rfl) hX.2.2.2.2.1 hP hD hS hX.2.2.2.2.2.2.2.1 hcl hfs hr.1 hr.2 hdg (fun q H1 h1 h2 h3 => kk q H1 locs ls h1 h2 h3 hl)
theorem z_newa (hX : zOk X own cc rm) {t N' : Nat} {ty : FieldType} {atype : ArrayType} {cA : ClassId} {n : Int32} {a0 : vp_A} (hdg : decode cc pc = .ok (.newarray atype, 2)) (hty : newarray.typeOf atype = ty) (hw : Cond.arrayClass (newarray.typeOf atype) ∈ tables_1) (ht : (ztys X.aC)[t]? = some (cA, ty)) (hpr : ty = .int ∨ ty = .long ∨ ty = .boolean) (ha : ∀ cA : ClassId, vp_cell cA a0 = arrV cA N' (fun _ => defaultValue ty)) (hn : ¬ n < 0) (hN : n.toNatClampNeg = N') (hb : N' * componentBytes ty ≤ 536870912) (hr : X.cells + 1 ≤ X.R.cells ∧ X.slots + N' ≤ X.R.slots) (kk : ∀ q, zGw (zadd X N') (ws ++ [(q, .inl (cA, a0))]) (pc + 2) lv (.ref q :: stk)) : zGw X ws pc lv (.int n :: stk) := fun H locs ls hP hD hS hl =>
  va_newa hX.1.1 hX.1.2 (hX.t hw rfl) hty hX.2.2.2.2.1 hP hD hS hX.2.2.2.2.2.2.2.1 ha hn hN hb hr.1 hr.2 hdg (fun q cB H1 hK h1 h2 h3 => by
    have e1 := (hX.2.2.2.2.1.2 t _ ht).2
    have e2 := (hK.2 7 (cB, ty) (by rfl)).2
    have e : cB = cA := by
      rcases hpr with rfl | rfl | rfl
      · exact Option.some.inj (Eq.trans (Eq.symm e2) e1)
      · exact Option.some.inj (Eq.trans (Eq.symm e2) e1)
      · exact Option.some.inj (Eq.trans (Eq.symm e2) e1)
    subst e
    exact kk q H1 locs ls h1 h2 h3 hl)
theorem z_newq (hX : zOk X own cc rm) {t N' index : Nat} {C : String} {cA : ClassId} {n : Int32} (hdg : decode cc pc = .ok (.anewarray index, 3)) (hlk : Cond.classLink own index C ∈ tables_1) (hov : va_AO C X.s) (ht : (ztys X.aC)[t]? = some (cA, .object C)) (hn : ¬ n < 0) (hN : n.toNatClampNeg = N') (hb : N' * 4 ≤ 536870912) (hr : X.cells + 1 ≤ X.R.cells ∧ X.slots + N' ≤ X.R.slots) (kk : ∀ q, zGw (zadd X N') (ws ++ [(q, .inl (cA, N', .inr (.inr (.inr (.inr (fun _ => none))))))]) (pc + 3) lv (.ref q :: stk)) : zGw X ws pc lv (.int n :: stk) := fun H locs ls hP hD hS hl =>
  va_newq hX.1.1 hX.1.2 hX.2.2.1 (hX.t hlk rfl) hov hX.2.2.2.2.1 hP hD hS hX.2.2.2.2.2.2.2.1 hn hN hb hr.1 hr.2 hdg (fun q cB H1 hK h1 h2 h3 => by
    obtain ⟨_, _, _, _, _, e1⟩ := (hX.2.2.2.2.1.2 t _ ht).2
    obtain ⟨_, _, _, _, _, e2⟩ := (hK.2 7 (cB, .object C) (by rfl)).2
    have e : cB = cA := Option.some.inj (Eq.trans (Eq.symm e2) e1)
    subst e
    exact kk q H1 locs ls h1 h2 h3 hl)
theorem z_astq (hX : zOk X own cc rm) (q0 t0 qk ci : Nat) {a v n : Nat} {cA : ClassId} {r : vw_C} {vs : List Value} {f : Nat → Option Nat} {i : Int32} (hdg : decode cc pc = .ok (.aastore, 1)) (ha : ws[q0]? = some (a, .inl (cA, n, .inr (.inr (.inr (.inr f)))))) (ht : (ztys X.aC)[t0]? = some (cA, .object r.1)) (hv : ws[qk]? = some (v, .inr (ci, vs))) (hc : vwCl[ci]? = some r) (hin : vp_in i n) (kk : zGw X (ws.set q0 (a, .inl (cA, n, .inr (.inr (.inr (.inr (va_up f i.toNatClampNeg (some v)))))))) (pc + 1) lv stk) : zGw X ws pc lv (.ref v :: .int i :: .ref a :: stk) := fun H locs ls hP hD hS hl =>
  va_astq hX.1.1 hX.1.2 hX.2.2.2.2.1 hP hD hS q0 t0 qk ci ha ht hv hc hin hdg (fun H1 l1 h1 h2 h3 => kk H1 l1 ls h1 h2 h3 hl)
end ZCT
