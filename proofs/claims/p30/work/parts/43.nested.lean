/-! the constructors of the nested classes; rows for a new one of each -/
section ZCV
theorem zdf_X0 : ∀ j, j < 12 → defaultValue (tyX0 j) = vp_V [.int 0, .int 0, .int 0, .int 0, .int 0, .int 0, .int 0, .int 0, .int 0, .int 0, .int 0, .int 0] j := fun j hj => match j, hj with
  | 0, _ => rfl
  | 1, _ => rfl
  | 2, _ => rfl
  | 3, _ => rfl
  | 4, _ => rfl
  | 5, _ => rfl
  | 6, _ => rfl
  | 7, _ => rfl
  | 8, _ => rfl
  | 9, _ => rfl
  | 10, _ => rfl
  | 11, _ => rfl
  | j + 12, h => absurd h (by omega)
theorem zci_X0 : zCalI yX0_init cX0_init 1 := ⟨rfl, zm_194, zm_7, zm_195, by decide, by decide, rfl⟩
theorem zdf_X1 : ∀ j, j < 2 → defaultValue (tyX1 j) = vp_V [.int 0, .null] j := fun j hj => match j, hj with
  | 0, _ => rfl
  | 1, _ => rfl
  | j + 2, h => absurd h (by omega)
theorem zci_X1 : zCalI yX1_init cX1_init 1 := ⟨rfl, zm_128, zm_5, zm_129, by decide, by decide, rfl⟩
theorem zdf_X2 : ∀ j, j < 9 → defaultValue (tyX2 j) = vp_V [.null, .null, .int 0, .int 0, .int 0, .int 0, .int 0, .int 0, .int 0] j := fun j hj => match j, hj with
  | 0, _ => rfl
  | 1, _ => rfl
  | 2, _ => rfl
  | 3, _ => rfl
  | 4, _ => rfl
  | 5, _ => rfl
  | 6, _ => rfl
  | 7, _ => rfl
  | 8, _ => rfl
  | j + 9, h => absurd h (by omega)
theorem zci_X2 : zCalI yX2_init cX2_init 1 := ⟨rfl, zm_50, zm_3, zm_51, by decide, by decide, rfl⟩
theorem zdf_X3 : ∀ j, j < 11 → defaultValue (tyX3 j) = vp_V [.int 0, .int 0, .int 0, .int 0, .int 0, .int 0, .int 0, .int 0, .int 0, .int 0, .int 0] j := fun j hj => match j, hj with
  | 0, _ => rfl
  | 1, _ => rfl
  | 2, _ => rfl
  | 3, _ => rfl
  | 4, _ => rfl
  | 5, _ => rfl
  | 6, _ => rfl
  | 7, _ => rfl
  | 8, _ => rfl
  | 9, _ => rfl
  | 10, _ => rfl
  | j + 11, h => absurd h (by omega)
theorem zci_X3 : zCalI yX3_init cX3_init 1 := ⟨rfl, zm_144, zm_6, zm_145, by decide, by decide, rfl⟩
theorem zdf_X4 : ∀ j, j < 8 → defaultValue (tyX4 j) = vp_V [.int 0, .int 0, .int 0, .int 0, .int 0, .int 0, .int 0, .null] j := fun j hj => match j, hj with
  | 0, _ => rfl
  | 1, _ => rfl
  | 2, _ => rfl
  | 3, _ => rfl
  | 4, _ => rfl
  | 5, _ => rfl
  | 6, _ => rfl
  | 7, _ => rfl
  | j + 8, h => absurd h (by omega)
theorem zci_X4 : zCalI yX4_init cX4_init 1 := ⟨rfl, zm_85, zm_4, zm_86, by decide, by decide, rfl⟩
theorem zdf_X5 : ∀ j, j < 2 → defaultValue (tyX5 j) = vp_V [.int 0, .int 0] j := fun j hj => match j, hj with
  | 0, _ => rfl
  | 1, _ => rfl
  | j + 2, h => absurd h (by omega)
theorem zci_X5 : zCalI yX5_init cX5_init 1 := ⟨rfl, zm_35, zm_2, zm_36, by decide, by decide, rfl⟩
variable {X : zCx} {own : String} {cc : ByteArray} {rm : Room} {ws : va_W} {pc : Nat} {lv : List (Nat × Value)} {stk : List Value} {y : MethodName} {cc' : ByteArray} {mL' mc ms index idx c n a : Nat} {rm' : Room} {host : String}
theorem zob_app {k ci : Nat} {fs : List Value} {nw : va_W} {x : Nat × va_E} : zob ws k a ci fs nw ++ [x] = zob ws k a ci fs (nw ++ [x]) := List.append_assoc _ _ _
theorem z_mk (hX : zOk (zat X c n) own cc rm) (hAO : zAO X.s) {ci N : Nat} {C : String} {T : u_T} {fs0 : List Value} {ty : Nat → FieldType} {Post : Nat → (Nat → ClassId) → va_W → Nat → va_W → Prop} (hc : ∀ k, zMetI X.l y cc' mL' rm' mc ms (fun ws a => ws[k]? = some (a, .inr (ci, fs0))) (Post k)) (hy : zCalI y cc' mL') (hcl : vwCl[ci]? = some (C, T, N)) (hin : ∀ w ∈ u_ws C T N, w ∈ zWL) (hty : ∀ k, k < N → parseFieldDescriptor (T k).2.2.1 = some (ty k)) (hfs : ∀ j, j < N → defaultValue (ty j) = vp_V fs0 j) (hi : Cond.instantiable C N ∈ tables_1) (hni : Cond.initialized C ∈ tables_1) (hR : rm'.frames + 1 ≤ rm.frames ∧ 8 + (mL' + 11) + rm'.locals ≤ rm.locals) (hrc : rm'.cells = mc ∧ rm'.slots = ms)
    (hd0 : decode cc pc = .ok (.new index, 3)) (hd1 : decode cc (pc + 3) = .ok (.dup, 1)) (hd2 : decode cc (pc + 3 + 1) = .ok (.invokespecial idx, 3)) (hlk : Cond.classLink own index C ∈ tables_1) (hw : Cond.methodLinkNest own idx y host ∈ tables_1) (hr : c + 1 + mc ≤ rm.cells ∧ n + N + ms ≤ rm.slots) (hcat : 1 + (stk.map fun v => v.category).sum ≤ 8)
    (kk : ∀ q ws', Post ws.length X.aC (ws ++ [(q, .inr (ci, fs0))]) q ws' → zGw (zat X (c + 1 + mc) (n + N + ms)) ws' (pc + 7) lv (.ref q :: stk)) : zGw (zat X c n) ws pc lv stk := by
  have hR0 : X.R = rm := hX.2.2.2.2.2.2.2.2.1
  have h1 : c + 1 ≤ X.R.cells ∧ n + N ≤ X.R.slots := by rw [hR0]; omega
  have hX1 : zOk (zat X (c + 1) (n + N)) own cc rm := zat_ok hX (c + 1) (n + N) h1
  refine z_new hX hd0 hcl hin ty hty hfs hlk hi hni h1 (fun q => ?_)
  refine z_dup hX1 hd1 rfl ?_
  refine z_callIN hX1 hAO (hc ws.length) hy (zat_last ws _) hd2 hw hR hrc (by show c + 1 + mc ≤ X.R.cells ∧ n + N + ms ≤ X.R.slots; rw [hR0]; exact hr) hcat (fun ws' h => kk q ws' h)
set_option maxHeartbeats 4000000 in
theorem c_X5_init (l : Launch) (k : Nat) : zMetI l yX5_init cX5_init 1 ({ frames := 1, cells := 0, slots := 0, locals := 12 } : Room) 0 0 (fun ws a => ws[k]? = some (a, .inr (5, [.int 0, .int 0]))) (fun _ ws a ws' => ws' = ws.set k (a, .inr (5, [.int 0, .int (-1)]))) := by
  refine zmetI_of (by decide) (by decide) rfl ?_
  intro X hl hnl hR hX0 hAO hini ws a hpre hQ
  have hq : k < ws.length := (List.getElem?_eq_some_iff.mp hpre).1
  have hX : ∀ c n, c ≤ 0 → n ≤ 0 → zOk (zat X c n) RX5 cX5_init ({ frames := 1, cells := 0, slots := 0, locals := 12 } : Room) := fun c n h1 h2 => zat_ok hX0 c n ⟨by show c ≤ X.R.cells; rw [hR]; exact h1, by show n ≤ X.R.slots; rw [hR]; exact h2⟩
  rw [zob_self hpre]
  refine z_aload_n (hX 0 0 (by decide) (by decide)) 0 dX5_init_0 rfl rfl ?_
  refine z_super (hX 0 0 (by decide) (by decide)) dX5_init_1 zm_37 zm_22 zm_23 (by show 1 ≤ X.R.frames; rw [hR]; decide) (by show 0 + 12 ≤ X.R.locals; rw [hR]; decide) ?_
  refine z_aload_n (hX 0 0 (by decide) (by decide)) 0 dX5_init_4 rfl rfl ?_
  refine z_iconst (hX 0 0 (by decide) (by decide)) dX5_init_5 (v := 0) (by decide) ?_
  refine p_put (j := 0) (v := .int (0)) (fs' := [.int 0, .int 0]) (hX 0 0 (by decide) (by decide)) hq dX5_init_6 rfl zin_X5 tyX5_ok nmX5 (by decide) zm_38 rfl rfl rfl rfl (zlt_ok rfl) rfl ?_
  refine z_aload_n (hX 0 0 (by decide) (by decide)) 0 dX5_init_9 rfl rfl ?_
  refine z_iconst (hX 0 0 (by decide) (by decide)) dX5_init_10 (v := -1) (by decide) ?_
  refine p_put (j := 1) (v := .int (-1)) (fs' := [.int 0, .int (-1)]) (hX 0 0 (by decide) (by decide)) hq dX5_init_11 rfl zin_X5 tyX5_ok nmX5 (by decide) zm_39 rfl rfl rfl rfl (zlt_ok rfl) rfl ?_
  exact z_vretI (hX 0 0 (by decide) (by decide)) hQ (List.append_nil _) dX5_init_14
theorem z_mk5 (hX : zOk (zat X c n) own cc rm) (hAO : zAO X.s) (hd0 : decode cc pc = .ok (.new index, 3)) (hd1 : decode cc (pc + 3) = .ok (.dup, 1)) (hd2 : decode cc (pc + 3 + 1) = .ok (.invokespecial idx, 3)) (hlk : Cond.classLink own index RX5 ∈ tables_1) (hw : Cond.methodLinkNest own idx yX5_init host ∈ tables_1) (hR : 2 ≤ rm.frames ∧ 32 ≤ rm.locals) (hr : c + 1 ≤ rm.cells ∧ n + 2 ≤ rm.slots) (hcat : 1 + (stk.map fun v => v.category).sum ≤ 8)
    (kk : ∀ q : Nat, zGw (zat X (c + 1) (n + 2)) (ws ++ [(q, .inr (5, [.int 0, .int (-1)]))]) (pc + 7) lv (.ref q :: stk)) : zGw (zat X c n) ws pc lv stk := by
  refine z_mk hX hAO (fun k => c_X5_init X.l k) zci_X5 rfl zin_X5 tyX5_ok zdf_X5 zm_33 zm_2 hR ⟨rfl, rfl⟩ hd0 hd1 hd2 hlk hw hr hcat ?_
  intro q ws' h
  rw [zset_last] at h
  rw [h]
  exact kk q
theorem p_arr (hX : zOk (zat X c n) own cc rm) (hini : X.meth.name = "<init>") {k ci : Nat} {fs : List Value} {nw : va_W} (hq : k < ws.length) {t N' : Nat} {ty : FieldType} {atype : ArrayType} {len : Int32} {a0 : vp_A} (hdg : decode cc pc = .ok (.newarray atype, 2)) (hty0 : newarray.typeOf atype = ty) (hw : Cond.arrayClass (newarray.typeOf atype) ∈ tables_1) (ht : (ztys X.aC)[t]? = some (X.aC t, ty)) (hpr : ty = .int ∨ ty = .long ∨ ty = .boolean) (ha : ∀ cA : ClassId, vp_cell cA a0 = arrV cA N' (fun _ => defaultValue ty)) (hn : ¬ len < 0) (hN : len.toNatClampNeg = N') (hb : N' * componentBytes ty ≤ 536870912) (hr : c + 1 ≤ X.R.cells ∧ n + N' ≤ X.R.slots)
    {j : Nat} {C : String} {T : u_T} {N : Nat} {ty1 : Nat → FieldType} {tyF : FieldType} {fs' : Nat → List Value} (hdp : decode cc (pc + 2) = .ok (.putfield index, 3)) (hcl : vwCl[ci]? = some (C, T, N)) (hin : ∀ w ∈ u_ws C T N, w ∈ zWL) (hty : ∀ k, k < N → parseFieldDescriptor (T k).2.2.1 = some (ty1 k)) (hnm : ∀ a, a < N → ∀ b, b < N → a ≠ b → (T a).2.1 ≠ (T b).2.1) (hk : j < N) (hlk : Cond.fieldLink own index (T j).1 (T j).2.1 (T j).2.2.1 ∈ tables_1) (hfin : (T j).2.2.2 = true) (hdecl : (T j).1 = own) (hd : ty1 j = tyF) (hnf : ∀ q, narrow tyF (.ref q) = .ref q ∧ fits tyF (.ref q) = true) (hl : j < fs.length) (hfs : ∀ q, fs.set j (.ref q) = fs' q)
    (kk : ∀ q : Nat, zGw (zat X (c + 1) (n + N')) (zob ws k a ci (fs' q) (nw ++ [(q, .inl (X.aC t, a0))])) (pc + 5) lv stk) : zGw (zat X c n) (zob ws k a ci fs nw) pc lv (.int len :: .ref a :: stk) := by
  refine z_newa hX hdg hty0 hw ht hpr ha hn hN hb hr (fun q => ?_)
  have hX1 : zOk (zat X (c + 1) (n + N')) own cc rm := zat_ok hX (c + 1) (n + N') hr
  rw [zob_app]
  exact p_putF hX1 hini hq hdp hcl hin hty hnm hk hlk hfin hdecl hd (hnf q).1 (hnf q).2 hl (hfs q) (kk q)
theorem p_arrq (hX : zOk (zat X c n) own cc rm) (hini : X.meth.name = "<init>") {k ci : Nat} {fs : List Value} {nw : va_W} (hq : k < ws.length) {t N' ix : Nat} {CE : String} {len : Int32} (hdg : decode cc pc = .ok (.anewarray ix, 3)) (hlc : Cond.classLink own ix CE ∈ tables_1) (hov : va_AO CE X.s) (ht : (ztys X.aC)[t]? = some (X.aC t, .object CE)) (hn : ¬ len < 0) (hN : len.toNatClampNeg = N') (hb : N' * 4 ≤ 536870912) (hr : c + 1 ≤ X.R.cells ∧ n + N' ≤ X.R.slots)
    {j : Nat} {C : String} {T : u_T} {N : Nat} {ty1 : Nat → FieldType} {tyF : FieldType} {fs' : Nat → List Value} (hdp : decode cc (pc + 3) = .ok (.putfield index, 3)) (hcl : vwCl[ci]? = some (C, T, N)) (hin : ∀ w ∈ u_ws C T N, w ∈ zWL) (hty : ∀ k, k < N → parseFieldDescriptor (T k).2.2.1 = some (ty1 k)) (hnm : ∀ a, a < N → ∀ b, b < N → a ≠ b → (T a).2.1 ≠ (T b).2.1) (hk : j < N) (hlk : Cond.fieldLink own index (T j).1 (T j).2.1 (T j).2.2.1 ∈ tables_1) (hfin : (T j).2.2.2 = true) (hdecl : (T j).1 = own) (hd : ty1 j = tyF) (hnf : ∀ q, narrow tyF (.ref q) = .ref q ∧ fits tyF (.ref q) = true) (hl : j < fs.length) (hfs : ∀ q, fs.set j (.ref q) = fs' q)
    (kk : ∀ q : Nat, zGw (zat X (c + 1) (n + N')) (zob ws k a ci (fs' q) (nw ++ [(q, .inl (X.aC t, N', .inr (.inr (.inr (.inr (fun _ => none))))))])) (pc + 6) lv stk) : zGw (zat X c n) (zob ws k a ci fs nw) pc lv (.int len :: .ref a :: stk) := by
  refine z_newq hX hdg hlc hov ht hn hN hb hr (fun q => ?_)
  have hX1 : zOk (zat X (c + 1) (n + N')) own cc rm := zat_ok hX (c + 1) (n + N') hr
  rw [zob_app]
  exact p_putF hX1 hini hq hdp hcl hin hty hnm hk hlk hfin hdecl hd (hnf q).1 (hnf q).2 hl (hfs q) (kk q)
set_option maxHeartbeats 4000000 in
theorem c_X4_init (l : Launch) (k : Nat) : zMetI l yX4_init cX4_init 1 ({ frames := 2, cells := 1, slots := 2, locals := 32 } : Room) 1 2 (fun ws a => ws[k]? = some (a, .inr (4, [.int 0, .int 0, .int 0, .int 0, .int 0, .int 0, .int 0, .null]))) (fun _ ws a ws' => ∃ q0 : Nat, ws' = ws.set k (a, .inr (4, [.int 0, .int 0, .int 0, .int 0, .int 0, .int 0, .int 0, .ref q0])) ++ [(q0, .inr (5, [.int 0, .int (-1)]))]) := by
  refine zmetI_of (by decide) (by decide) rfl ?_
  intro X hl hnl hR hX0 hAO hini ws a hpre hQ
  have hq : k < ws.length := (List.getElem?_eq_some_iff.mp hpre).1
  have hX : ∀ c n, c ≤ 1 → n ≤ 2 → zOk (zat X c n) RX4 cX4_init ({ frames := 2, cells := 1, slots := 2, locals := 32 } : Room) := fun c n h1 h2 => zat_ok hX0 c n ⟨by show c ≤ X.R.cells; rw [hR]; exact h1, by show n ≤ X.R.slots; rw [hR]; exact h2⟩
  rw [zob_self hpre]
  refine z_aload_n (hX 0 0 (by decide) (by decide)) 0 dX4_init_0 rfl rfl ?_
  refine z_super (hX 0 0 (by decide) (by decide)) dX4_init_1 zm_87 zm_22 zm_23 (by show 1 ≤ X.R.frames; rw [hR]; decide) (by show 0 + 12 ≤ X.R.locals; rw [hR]; decide) ?_
  refine z_aload_n (hX 0 0 (by decide) (by decide)) 0 dX4_init_4 rfl rfl ?_
  refine z_iconst (hX 0 0 (by decide) (by decide)) dX4_init_5 (v := 0) (by decide) ?_
  refine p_put (j := 0) (v := .int (0)) (fs' := [.int 0, .int 0, .int 0, .int 0, .int 0, .int 0, .int 0, .null]) (hX 0 0 (by decide) (by decide)) hq dX4_init_6 rfl zin_X4 tyX4_ok nmX4 (by decide) zm_90 rfl rfl rfl rfl (zlt_ok rfl) rfl ?_
  refine z_aload_n (hX 0 0 (by decide) (by decide)) 0 dX4_init_9 rfl rfl ?_
  refine z_iconst (hX 0 0 (by decide) (by decide)) dX4_init_10 (v := 0) (by decide) ?_
  refine p_put (j := 1) (v := .int (0)) (fs' := [.int 0, .int 0, .int 0, .int 0, .int 0, .int 0, .int 0, .null]) (hX 0 0 (by decide) (by decide)) hq dX4_init_11 rfl zin_X4 tyX4_ok nmX4 (by decide) zm_92 rfl rfl rfl rfl (zlt_ok rfl) rfl ?_
  refine z_aload_n (hX 0 0 (by decide) (by decide)) 0 dX4_init_14 rfl rfl ?_
  refine z_iconst (hX 0 0 (by decide) (by decide)) dX4_init_15 (v := 0) (by decide) ?_
  refine p_put (j := 2) (v := .int (0)) (fs' := [.int 0, .int 0, .int 0, .int 0, .int 0, .int 0, .int 0, .null]) (hX 0 0 (by decide) (by decide)) hq dX4_init_16 rfl zin_X4 tyX4_ok nmX4 (by decide) zm_95 rfl rfl rfl rfl (zlt_ok rfl) rfl ?_
  refine z_aload_n (hX 0 0 (by decide) (by decide)) 0 dX4_init_19 rfl rfl ?_
  refine z_iconst (hX 0 0 (by decide) (by decide)) dX4_init_20 (v := 0) (by decide) ?_
  refine p_put (j := 3) (v := .int (0)) (fs' := [.int 0, .int 0, .int 0, .int 0, .int 0, .int 0, .int 0, .null]) (hX 0 0 (by decide) (by decide)) hq dX4_init_21 rfl zin_X4 tyX4_ok nmX4 (by decide) zm_98 rfl rfl rfl rfl (zlt_ok rfl) rfl ?_
  refine z_aload_n (hX 0 0 (by decide) (by decide)) 0 dX4_init_24 rfl rfl ?_
  refine z_iconst (hX 0 0 (by decide) (by decide)) dX4_init_25 (v := 0) (by decide) ?_
  refine p_put (j := 4) (v := .int (0)) (fs' := [.int 0, .int 0, .int 0, .int 0, .int 0, .int 0, .int 0, .null]) (hX 0 0 (by decide) (by decide)) hq dX4_init_26 rfl zin_X4 tyX4_ok nmX4 (by decide) zm_101 rfl rfl rfl rfl (zlt_ok rfl) rfl ?_
  refine z_aload_n (hX 0 0 (by decide) (by decide)) 0 dX4_init_29 rfl rfl ?_
  refine z_iconst (hX 0 0 (by decide) (by decide)) dX4_init_30 (v := 0) (by decide) ?_
  refine p_put (j := 5) (v := .int (0)) (fs' := [.int 0, .int 0, .int 0, .int 0, .int 0, .int 0, .int 0, .null]) (hX 0 0 (by decide) (by decide)) hq dX4_init_31 rfl zin_X4 tyX4_ok nmX4 (by decide) zm_103 rfl rfl rfl rfl (zlt_ok rfl) rfl ?_
  refine z_aload_n (hX 0 0 (by decide) (by decide)) 0 dX4_init_34 rfl rfl ?_
  refine z_iconst (hX 0 0 (by decide) (by decide)) dX4_init_35 (v := 0) (by decide) ?_
  refine p_put (j := 6) (v := .int (0)) (fs' := [.int 0, .int 0, .int 0, .int 0, .int 0, .int 0, .int 0, .null]) (hX 0 0 (by decide) (by decide)) hq dX4_init_36 rfl zin_X4 tyX4_ok nmX4 (by decide) zm_105 rfl rfl rfl rfl (zlt_ok rfl) rfl ?_
  refine z_aload_n (hX 0 0 (by decide) (by decide)) 0 dX4_init_39 rfl rfl ?_
  refine z_mk5 (hX 0 0 (by decide) (by decide)) hAO dX4_init_40 dX4_init_43 dX4_init_44 zm_88 zm_89 ⟨by decide, by decide⟩ ⟨by decide, by decide⟩ (Nat.le_of_ble_eq_true rfl) (fun q0 => ?_)
  rw [zob_app]
  refine p_putF (j := 7) (v := .ref q0) (fs' := [.int 0, .int 0, .int 0, .int 0, .int 0, .int 0, .int 0, .ref q0]) (hX 1 2 (by decide) (by decide)) hini hq dX4_init_47 rfl zin_X4 tyX4_ok nmX4 (by decide) zm_107 rfl rfl rfl rfl rfl (zlt_ok rfl) rfl ?_
  exact z_vretI (hX 1 2 (by decide) (by decide)) hQ ⟨q0, rfl⟩ dX4_init_50
theorem z_mk4 (hX : zOk (zat X c n) own cc rm) (hAO : zAO X.s) (hd0 : decode cc pc = .ok (.new index, 3)) (hd1 : decode cc (pc + 3) = .ok (.dup, 1)) (hd2 : decode cc (pc + 3 + 1) = .ok (.invokespecial idx, 3)) (hlk : Cond.classLink own index RX4 ∈ tables_1) (hw : Cond.methodLinkNest own idx yX4_init host ∈ tables_1) (hR : 3 ≤ rm.frames ∧ 52 ≤ rm.locals) (hr : c + 2 ≤ rm.cells ∧ n + 10 ≤ rm.slots) (hcat : 1 + (stk.map fun v => v.category).sum ≤ 8)
    (kk : ∀ q q0 : Nat, zGw (zat X (c + 2) (n + 10)) (ws ++ [(q, .inr (4, [.int 0, .int 0, .int 0, .int 0, .int 0, .int 0, .int 0, .ref q0])), (q0, .inr (5, [.int 0, .int (-1)]))]) (pc + 7) lv (.ref q :: stk)) : zGw (zat X c n) ws pc lv stk := by
  refine z_mk hX hAO (fun k => c_X4_init X.l k) zci_X4 rfl zin_X4 tyX4_ok zdf_X4 zm_83 zm_4 hR ⟨rfl, rfl⟩ hd0 hd1 hd2 hlk hw hr hcat ?_
  intro q ws' h
  obtain ⟨q0, h⟩ := h
  rw [zset_last] at h
  rw [h, List.append_assoc]
  exact kk q q0
set_option maxHeartbeats 4000000 in
theorem c_X1_init (l : Launch) (k : Nat) : zMetI l yX1_init cX1_init 1 ({ frames := 2, cells := 1, slots := 2, locals := 32 } : Room) 1 2 (fun ws a => ws[k]? = some (a, .inr (1, [.int 0, .null]))) (fun _ ws a ws' => ∃ q0 : Nat, ws' = ws.set k (a, .inr (1, [.int (-1), .ref q0])) ++ [(q0, .inr (5, [.int 0, .int (-1)]))]) := by
  refine zmetI_of (by decide) (by decide) rfl ?_
  intro X hl hnl hR hX0 hAO hini ws a hpre hQ
  have hq : k < ws.length := (List.getElem?_eq_some_iff.mp hpre).1
  have hX : ∀ c n, c ≤ 1 → n ≤ 2 → zOk (zat X c n) RX1 cX1_init ({ frames := 2, cells := 1, slots := 2, locals := 32 } : Room) := fun c n h1 h2 => zat_ok hX0 c n ⟨by show c ≤ X.R.cells; rw [hR]; exact h1, by show n ≤ X.R.slots; rw [hR]; exact h2⟩
  rw [zob_self hpre]
  refine z_aload_n (hX 0 0 (by decide) (by decide)) 0 dX1_init_0 rfl rfl ?_
  refine z_super (hX 0 0 (by decide) (by decide)) dX1_init_1 zm_130 zm_22 zm_23 (by show 1 ≤ X.R.frames; rw [hR]; decide) (by show 0 + 12 ≤ X.R.locals; rw [hR]; decide) ?_
  refine z_aload_n (hX 0 0 (by decide) (by decide)) 0 dX1_init_4 rfl rfl ?_
  refine z_iconst (hX 0 0 (by decide) (by decide)) dX1_init_5 (v := -1) (by decide) ?_
  refine p_put (j := 0) (v := .int (-1)) (fs' := [.int (-1), .null]) (hX 0 0 (by decide) (by decide)) hq dX1_init_6 rfl zin_X1 tyX1_ok nmX1 (by decide) zm_133 rfl rfl rfl rfl (zlt_ok rfl) rfl ?_
  refine z_aload_n (hX 0 0 (by decide) (by decide)) 0 dX1_init_9 rfl rfl ?_
  refine z_mk5 (hX 0 0 (by decide) (by decide)) hAO dX1_init_10 dX1_init_13 dX1_init_14 zm_131 zm_132 ⟨by decide, by decide⟩ ⟨by decide, by decide⟩ (Nat.le_of_ble_eq_true rfl) (fun q0 => ?_)
  rw [zob_app]
  refine p_putF (j := 1) (v := .ref q0) (fs' := [.int (-1), .ref q0]) (hX 1 2 (by decide) (by decide)) hini hq dX1_init_17 rfl zin_X1 tyX1_ok nmX1 (by decide) zm_135 rfl rfl rfl rfl rfl (zlt_ok rfl) rfl ?_
  exact z_vretI (hX 1 2 (by decide) (by decide)) hQ ⟨q0, rfl⟩ dX1_init_20
theorem z_mk1 (hX : zOk (zat X c n) own cc rm) (hAO : zAO X.s) (hd0 : decode cc pc = .ok (.new index, 3)) (hd1 : decode cc (pc + 3) = .ok (.dup, 1)) (hd2 : decode cc (pc + 3 + 1) = .ok (.invokespecial idx, 3)) (hlk : Cond.classLink own index RX1 ∈ tables_1) (hw : Cond.methodLinkNest own idx yX1_init host ∈ tables_1) (hR : 3 ≤ rm.frames ∧ 52 ≤ rm.locals) (hr : c + 2 ≤ rm.cells ∧ n + 4 ≤ rm.slots) (hcat : 1 + (stk.map fun v => v.category).sum ≤ 8)
    (kk : ∀ q q0 : Nat, zGw (zat X (c + 2) (n + 4)) (ws ++ [(q, .inr (1, [.int (-1), .ref q0])), (q0, .inr (5, [.int 0, .int (-1)]))]) (pc + 7) lv (.ref q :: stk)) : zGw (zat X c n) ws pc lv stk := by
  refine z_mk hX hAO (fun k => c_X1_init X.l k) zci_X1 rfl zin_X1 tyX1_ok zdf_X1 zm_126 zm_5 hR ⟨rfl, rfl⟩ hd0 hd1 hd2 hlk hw hr hcat ?_
  intro q ws' h
  obtain ⟨q0, h⟩ := h
  rw [zset_last] at h
  rw [h, List.append_assoc]
  exact kk q q0
set_option maxHeartbeats 4000000 in
theorem c_X3_init (l : Launch) (k : Nat) : zMetI l yX3_init cX3_init 1 ({ frames := 1, cells := 0, slots := 0, locals := 12 } : Room) 0 0 (fun ws a => ws[k]? = some (a, .inr (3, [.int 0, .int 0, .int 0, .int 0, .int 0, .int 0, .int 0, .int 0, .int 0, .int 0, .int 0]))) (fun _ ws a ws' => ws' = ws.set k (a, .inr (3, [.int (-1), .int 0, .int 0, .int 0, .int 0, .int 0, .int 0, .int 0, .int (-1), .int 0, .int 0]))) := by
  refine zmetI_of (by decide) (by decide) rfl ?_
  intro X hl hnl hR hX0 hAO hini ws a hpre hQ
  have hq : k < ws.length := (List.getElem?_eq_some_iff.mp hpre).1
  have hX : ∀ c n, c ≤ 0 → n ≤ 0 → zOk (zat X c n) RX3 cX3_init ({ frames := 1, cells := 0, slots := 0, locals := 12 } : Room) := fun c n h1 h2 => zat_ok hX0 c n ⟨by show c ≤ X.R.cells; rw [hR]; exact h1, by show n ≤ X.R.slots; rw [hR]; exact h2⟩
  rw [zob_self hpre]
  refine z_aload_n (hX 0 0 (by decide) (by decide)) 0 dX3_init_0 rfl rfl ?_
  refine z_super (hX 0 0 (by decide) (by decide)) dX3_init_1 zm_146 zm_22 zm_23 (by show 1 ≤ X.R.frames; rw [hR]; decide) (by show 0 + 12 ≤ X.R.locals; rw [hR]; decide) ?_
  refine z_aload_n (hX 0 0 (by decide) (by decide)) 0 dX3_init_4 rfl rfl ?_
  refine z_iconst (hX 0 0 (by decide) (by decide)) dX3_init_5 (v := -1) (by decide) ?_
  refine p_put (j := 0) (v := .int (-1)) (fs' := [.int (-1), .int 0, .int 0, .int 0, .int 0, .int 0, .int 0, .int 0, .int 0, .int 0, .int 0]) (hX 0 0 (by decide) (by decide)) hq dX3_init_6 rfl zin_X3 tyX3_ok nmX3 (by decide) zm_147 rfl rfl rfl rfl (zlt_ok rfl) rfl ?_
  refine z_aload_n (hX 0 0 (by decide) (by decide)) 0 dX3_init_9 rfl rfl ?_
  refine z_iconst (hX 0 0 (by decide) (by decide)) dX3_init_10 (v := 0) (by decide) ?_
  refine p_put (j := 1) (v := .int (0)) (fs' := [.int (-1), .int 0, .int 0, .int 0, .int 0, .int 0, .int 0, .int 0, .int 0, .int 0, .int 0]) (hX 0 0 (by decide) (by decide)) hq dX3_init_11 rfl zin_X3 tyX3_ok nmX3 (by decide) zm_149 rfl rfl rfl rfl (zlt_ok rfl) rfl ?_
  refine z_aload_n (hX 0 0 (by decide) (by decide)) 0 dX3_init_14 rfl rfl ?_
  refine z_iconst (hX 0 0 (by decide) (by decide)) dX3_init_15 (v := 0) (by decide) ?_
  refine p_put (j := 2) (v := .int (0)) (fs' := [.int (-1), .int 0, .int 0, .int 0, .int 0, .int 0, .int 0, .int 0, .int 0, .int 0, .int 0]) (hX 0 0 (by decide) (by decide)) hq dX3_init_16 rfl zin_X3 tyX3_ok nmX3 (by decide) zm_151 rfl rfl rfl rfl (zlt_ok rfl) rfl ?_
  refine z_aload_n (hX 0 0 (by decide) (by decide)) 0 dX3_init_19 rfl rfl ?_
  refine z_iconst (hX 0 0 (by decide) (by decide)) dX3_init_20 (v := 0) (by decide) ?_
  refine p_put (j := 3) (v := .int (0)) (fs' := [.int (-1), .int 0, .int 0, .int 0, .int 0, .int 0, .int 0, .int 0, .int 0, .int 0, .int 0]) (hX 0 0 (by decide) (by decide)) hq dX3_init_21 rfl zin_X3 tyX3_ok nmX3 (by decide) zm_153 rfl rfl rfl rfl (zlt_ok rfl) rfl ?_
  refine z_aload_n (hX 0 0 (by decide) (by decide)) 0 dX3_init_24 rfl rfl ?_
  refine z_iconst (hX 0 0 (by decide) (by decide)) dX3_init_25 (v := 0) (by decide) ?_
  refine p_put (j := 4) (v := .int (0)) (fs' := [.int (-1), .int 0, .int 0, .int 0, .int 0, .int 0, .int 0, .int 0, .int 0, .int 0, .int 0]) (hX 0 0 (by decide) (by decide)) hq dX3_init_26 rfl zin_X3 tyX3_ok nmX3 (by decide) zm_155 rfl rfl rfl rfl (zlt_ok rfl) rfl ?_
  refine z_aload_n (hX 0 0 (by decide) (by decide)) 0 dX3_init_29 rfl rfl ?_
  refine z_iconst (hX 0 0 (by decide) (by decide)) dX3_init_30 (v := 0) (by decide) ?_
  refine p_put (j := 5) (v := .int (0)) (fs' := [.int (-1), .int 0, .int 0, .int 0, .int 0, .int 0, .int 0, .int 0, .int 0, .int 0, .int 0]) (hX 0 0 (by decide) (by decide)) hq dX3_init_31 rfl zin_X3 tyX3_ok nmX3 (by decide) zm_157 rfl rfl rfl rfl (zlt_ok rfl) rfl ?_
  refine z_aload_n (hX 0 0 (by decide) (by decide)) 0 dX3_init_34 rfl rfl ?_
  refine z_iconst (hX 0 0 (by decide) (by decide)) dX3_init_35 (v := 0) (by decide) ?_
  refine p_put (j := 6) (v := .int (0)) (fs' := [.int (-1), .int 0, .int 0, .int 0, .int 0, .int 0, .int 0, .int 0, .int 0, .int 0, .int 0]) (hX 0 0 (by decide) (by decide)) hq dX3_init_36 rfl zin_X3 tyX3_ok nmX3 (by decide) zm_159 rfl rfl rfl rfl (zlt_ok rfl) rfl ?_
  refine z_aload_n (hX 0 0 (by decide) (by decide)) 0 dX3_init_39 rfl rfl ?_
  refine z_iconst (hX 0 0 (by decide) (by decide)) dX3_init_40 (v := 0) (by decide) ?_
  refine p_put (j := 7) (v := .int (0)) (fs' := [.int (-1), .int 0, .int 0, .int 0, .int 0, .int 0, .int 0, .int 0, .int 0, .int 0, .int 0]) (hX 0 0 (by decide) (by decide)) hq dX3_init_41 rfl zin_X3 tyX3_ok nmX3 (by decide) zm_161 rfl rfl rfl rfl (zlt_ok rfl) rfl ?_
  refine z_aload_n (hX 0 0 (by decide) (by decide)) 0 dX3_init_44 rfl rfl ?_
  refine z_iconst (hX 0 0 (by decide) (by decide)) dX3_init_45 (v := -1) (by decide) ?_
  refine p_put (j := 8) (v := .int (-1)) (fs' := [.int (-1), .int 0, .int 0, .int 0, .int 0, .int 0, .int 0, .int 0, .int (-1), .int 0, .int 0]) (hX 0 0 (by decide) (by decide)) hq dX3_init_46 rfl zin_X3 tyX3_ok nmX3 (by decide) zm_163 rfl rfl rfl rfl (zlt_ok rfl) rfl ?_
  refine z_aload_n (hX 0 0 (by decide) (by decide)) 0 dX3_init_49 rfl rfl ?_
  refine z_iconst (hX 0 0 (by decide) (by decide)) dX3_init_50 (v := 0) (by decide) ?_
  refine p_put (j := 9) (v := .int (0)) (fs' := [.int (-1), .int 0, .int 0, .int 0, .int 0, .int 0, .int 0, .int 0, .int (-1), .int 0, .int 0]) (hX 0 0 (by decide) (by decide)) hq dX3_init_51 rfl zin_X3 tyX3_ok nmX3 (by decide) zm_165 rfl rfl rfl rfl (zlt_ok rfl) rfl ?_
  refine z_aload_n (hX 0 0 (by decide) (by decide)) 0 dX3_init_54 rfl rfl ?_
  refine z_iconst (hX 0 0 (by decide) (by decide)) dX3_init_55 (v := 0) (by decide) ?_
  refine p_put (j := 10) (v := .int (0)) (fs' := [.int (-1), .int 0, .int 0, .int 0, .int 0, .int 0, .int 0, .int 0, .int (-1), .int 0, .int 0]) (hX 0 0 (by decide) (by decide)) hq dX3_init_56 rfl zin_X3 tyX3_ok nmX3 (by decide) zm_167 rfl rfl rfl rfl (zlt_ok rfl) rfl ?_
  exact z_vretI (hX 0 0 (by decide) (by decide)) hQ (List.append_nil _) dX3_init_59
theorem z_mk3 (hX : zOk (zat X c n) own cc rm) (hAO : zAO X.s) (hd0 : decode cc pc = .ok (.new index, 3)) (hd1 : decode cc (pc + 3) = .ok (.dup, 1)) (hd2 : decode cc (pc + 3 + 1) = .ok (.invokespecial idx, 3)) (hlk : Cond.classLink own index RX3 ∈ tables_1) (hw : Cond.methodLinkNest own idx yX3_init host ∈ tables_1) (hR : 2 ≤ rm.frames ∧ 32 ≤ rm.locals) (hr : c + 1 ≤ rm.cells ∧ n + 11 ≤ rm.slots) (hcat : 1 + (stk.map fun v => v.category).sum ≤ 8)
    (kk : ∀ q : Nat, zGw (zat X (c + 1) (n + 11)) (ws ++ [(q, .inr (3, [.int (-1), .int 0, .int 0, .int 0, .int 0, .int 0, .int 0, .int 0, .int (-1), .int 0, .int 0]))]) (pc + 7) lv (.ref q :: stk)) : zGw (zat X c n) ws pc lv stk := by
  refine z_mk hX hAO (fun k => c_X3_init X.l k) zci_X3 rfl zin_X3 tyX3_ok zdf_X3 zm_142 zm_6 hR ⟨rfl, rfl⟩ hd0 hd1 hd2 hlk hw hr hcat ?_
  intro q ws' h
  rw [zset_last] at h
  rw [h]
  exact kk q
set_option maxHeartbeats 4000000 in
theorem c_X0_init (l : Launch) (k : Nat) : zMetI l yX0_init cX0_init 1 ({ frames := 1, cells := 0, slots := 0, locals := 12 } : Room) 0 0 (fun ws a => ws[k]? = some (a, .inr (0, [.int 0, .int 0, .int 0, .int 0, .int 0, .int 0, .int 0, .int 0, .int 0, .int 0, .int 0, .int 0]))) (fun _ ws a ws' => ws' = ws.set k (a, .inr (0, [.int (-1), .int 0, .int 0, .int 0, .int (-1), .int 0, .int 0, .int 0, .int 0, .int 0, .int 0, .int 0]))) := by
  refine zmetI_of (by decide) (by decide) rfl ?_
  intro X hl hnl hR hX0 hAO hini ws a hpre hQ
  have hq : k < ws.length := (List.getElem?_eq_some_iff.mp hpre).1
  have hX : ∀ c n, c ≤ 0 → n ≤ 0 → zOk (zat X c n) RX0 cX0_init ({ frames := 1, cells := 0, slots := 0, locals := 12 } : Room) := fun c n h1 h2 => zat_ok hX0 c n ⟨by show c ≤ X.R.cells; rw [hR]; exact h1, by show n ≤ X.R.slots; rw [hR]; exact h2⟩
  rw [zob_self hpre]
  refine z_aload_n (hX 0 0 (by decide) (by decide)) 0 dX0_init_0 rfl rfl ?_
  refine z_super (hX 0 0 (by decide) (by decide)) dX0_init_1 zm_196 zm_22 zm_23 (by show 1 ≤ X.R.frames; rw [hR]; decide) (by show 0 + 12 ≤ X.R.locals; rw [hR]; decide) ?_
  refine z_aload_n (hX 0 0 (by decide) (by decide)) 0 dX0_init_4 rfl rfl ?_
  refine z_iconst (hX 0 0 (by decide) (by decide)) dX0_init_5 (v := -1) (by decide) ?_
  refine p_put (j := 0) (v := .int (-1)) (fs' := [.int (-1), .int 0, .int 0, .int 0, .int 0, .int 0, .int 0, .int 0, .int 0, .int 0, .int 0, .int 0]) (hX 0 0 (by decide) (by decide)) hq dX0_init_6 rfl zin_X0 tyX0_ok nmX0 (by decide) zm_197 rfl rfl rfl rfl (zlt_ok rfl) rfl ?_
  refine z_aload_n (hX 0 0 (by decide) (by decide)) 0 dX0_init_9 rfl rfl ?_
  refine z_iconst (hX 0 0 (by decide) (by decide)) dX0_init_10 (v := 0) (by decide) ?_
  refine p_put (j := 1) (v := .int (0)) (fs' := [.int (-1), .int 0, .int 0, .int 0, .int 0, .int 0, .int 0, .int 0, .int 0, .int 0, .int 0, .int 0]) (hX 0 0 (by decide) (by decide)) hq dX0_init_11 rfl zin_X0 tyX0_ok nmX0 (by decide) zm_199 rfl rfl rfl rfl (zlt_ok rfl) rfl ?_
  refine z_aload_n (hX 0 0 (by decide) (by decide)) 0 dX0_init_14 rfl rfl ?_
  refine z_iconst (hX 0 0 (by decide) (by decide)) dX0_init_15 (v := 0) (by decide) ?_
  refine p_put (j := 2) (v := .int (0)) (fs' := [.int (-1), .int 0, .int 0, .int 0, .int 0, .int 0, .int 0, .int 0, .int 0, .int 0, .int 0, .int 0]) (hX 0 0 (by decide) (by decide)) hq dX0_init_16 rfl zin_X0 tyX0_ok nmX0 (by decide) zm_202 rfl rfl rfl rfl (zlt_ok rfl) rfl ?_
  refine z_aload_n (hX 0 0 (by decide) (by decide)) 0 dX0_init_19 rfl rfl ?_
  refine z_iconst (hX 0 0 (by decide) (by decide)) dX0_init_20 (v := 0) (by decide) ?_
  refine p_put (j := 3) (v := .int (0)) (fs' := [.int (-1), .int 0, .int 0, .int 0, .int 0, .int 0, .int 0, .int 0, .int 0, .int 0, .int 0, .int 0]) (hX 0 0 (by decide) (by decide)) hq dX0_init_21 rfl zin_X0 tyX0_ok nmX0 (by decide) zm_205 rfl rfl rfl rfl (zlt_ok rfl) rfl ?_
  refine z_aload_n (hX 0 0 (by decide) (by decide)) 0 dX0_init_24 rfl rfl ?_
  refine z_iconst (hX 0 0 (by decide) (by decide)) dX0_init_25 (v := -1) (by decide) ?_
  refine p_put (j := 4) (v := .int (-1)) (fs' := [.int (-1), .int 0, .int 0, .int 0, .int (-1), .int 0, .int 0, .int 0, .int 0, .int 0, .int 0, .int 0]) (hX 0 0 (by decide) (by decide)) hq dX0_init_26 rfl zin_X0 tyX0_ok nmX0 (by decide) zm_208 rfl rfl rfl rfl (zlt_ok rfl) rfl ?_
  refine z_aload_n (hX 0 0 (by decide) (by decide)) 0 dX0_init_29 rfl rfl ?_
  refine z_iconst (hX 0 0 (by decide) (by decide)) dX0_init_30 (v := 0) (by decide) ?_
  refine p_put (j := 5) (v := .int (0)) (fs' := [.int (-1), .int 0, .int 0, .int 0, .int (-1), .int 0, .int 0, .int 0, .int 0, .int 0, .int 0, .int 0]) (hX 0 0 (by decide) (by decide)) hq dX0_init_31 rfl zin_X0 tyX0_ok nmX0 (by decide) zm_211 rfl rfl rfl rfl (zlt_ok rfl) rfl ?_
  refine z_aload_n (hX 0 0 (by decide) (by decide)) 0 dX0_init_34 rfl rfl ?_
  refine z_iconst (hX 0 0 (by decide) (by decide)) dX0_init_35 (v := 0) (by decide) ?_
  refine p_put (j := 6) (v := .int (0)) (fs' := [.int (-1), .int 0, .int 0, .int 0, .int (-1), .int 0, .int 0, .int 0, .int 0, .int 0, .int 0, .int 0]) (hX 0 0 (by decide) (by decide)) hq dX0_init_36 rfl zin_X0 tyX0_ok nmX0 (by decide) zm_214 rfl rfl rfl rfl (zlt_ok rfl) rfl ?_
  refine z_aload_n (hX 0 0 (by decide) (by decide)) 0 dX0_init_39 rfl rfl ?_
  refine z_iconst (hX 0 0 (by decide) (by decide)) dX0_init_40 (v := 0) (by decide) ?_
  refine p_put (j := 7) (v := .int (0)) (fs' := [.int (-1), .int 0, .int 0, .int 0, .int (-1), .int 0, .int 0, .int 0, .int 0, .int 0, .int 0, .int 0]) (hX 0 0 (by decide) (by decide)) hq dX0_init_41 rfl zin_X0 tyX0_ok nmX0 (by decide) zm_216 rfl rfl rfl rfl (zlt_ok rfl) rfl ?_
  refine z_aload_n (hX 0 0 (by decide) (by decide)) 0 dX0_init_44 rfl rfl ?_
  refine z_iconst (hX 0 0 (by decide) (by decide)) dX0_init_45 (v := 0) (by decide) ?_
  refine p_put (j := 8) (v := .int (0)) (fs' := [.int (-1), .int 0, .int 0, .int 0, .int (-1), .int 0, .int 0, .int 0, .int 0, .int 0, .int 0, .int 0]) (hX 0 0 (by decide) (by decide)) hq dX0_init_46 rfl zin_X0 tyX0_ok nmX0 (by decide) zm_218 rfl rfl rfl rfl (zlt_ok rfl) rfl ?_
  refine z_aload_n (hX 0 0 (by decide) (by decide)) 0 dX0_init_49 rfl rfl ?_
  refine z_iconst (hX 0 0 (by decide) (by decide)) dX0_init_50 (v := 0) (by decide) ?_
  refine p_put (j := 9) (v := .int (0)) (fs' := [.int (-1), .int 0, .int 0, .int 0, .int (-1), .int 0, .int 0, .int 0, .int 0, .int 0, .int 0, .int 0]) (hX 0 0 (by decide) (by decide)) hq dX0_init_51 rfl zin_X0 tyX0_ok nmX0 (by decide) zm_220 rfl rfl rfl rfl (zlt_ok rfl) rfl ?_
  refine z_aload_n (hX 0 0 (by decide) (by decide)) 0 dX0_init_54 rfl rfl ?_
  refine z_iconst (hX 0 0 (by decide) (by decide)) dX0_init_55 (v := 0) (by decide) ?_
  refine p_put (j := 10) (v := .int (0)) (fs' := [.int (-1), .int 0, .int 0, .int 0, .int (-1), .int 0, .int 0, .int 0, .int 0, .int 0, .int 0, .int 0]) (hX 0 0 (by decide) (by decide)) hq dX0_init_56 rfl zin_X0 tyX0_ok nmX0 (by decide) zm_223 rfl rfl rfl rfl (zlt_ok rfl) rfl ?_
  refine z_aload_n (hX 0 0 (by decide) (by decide)) 0 dX0_init_59 rfl rfl ?_
  refine z_iconst (hX 0 0 (by decide) (by decide)) dX0_init_60 (v := 0) (by decide) ?_
  refine p_put (j := 11) (v := .int (0)) (fs' := [.int (-1), .int 0, .int 0, .int 0, .int (-1), .int 0, .int 0, .int 0, .int 0, .int 0, .int 0, .int 0]) (hX 0 0 (by decide) (by decide)) hq dX0_init_61 rfl zin_X0 tyX0_ok nmX0 (by decide) zm_225 rfl rfl rfl rfl (zlt_ok rfl) rfl ?_
  exact z_vretI (hX 0 0 (by decide) (by decide)) hQ (List.append_nil _) dX0_init_64
theorem z_mk0 (hX : zOk (zat X c n) own cc rm) (hAO : zAO X.s) (hd0 : decode cc pc = .ok (.new index, 3)) (hd1 : decode cc (pc + 3) = .ok (.dup, 1)) (hd2 : decode cc (pc + 3 + 1) = .ok (.invokespecial idx, 3)) (hlk : Cond.classLink own index RX0 ∈ tables_1) (hw : Cond.methodLinkNest own idx yX0_init host ∈ tables_1) (hR : 2 ≤ rm.frames ∧ 32 ≤ rm.locals) (hr : c + 1 ≤ rm.cells ∧ n + 12 ≤ rm.slots) (hcat : 1 + (stk.map fun v => v.category).sum ≤ 8)
    (kk : ∀ q : Nat, zGw (zat X (c + 1) (n + 12)) (ws ++ [(q, .inr (0, [.int (-1), .int 0, .int 0, .int 0, .int (-1), .int 0, .int 0, .int 0, .int 0, .int 0, .int 0, .int 0]))]) (pc + 7) lv (.ref q :: stk)) : zGw (zat X c n) ws pc lv stk := by
  refine z_mk hX hAO (fun k => c_X0_init X.l k) zci_X0 rfl zin_X0 tyX0_ok zdf_X0 zm_192 zm_7 hR ⟨rfl, rfl⟩ hd0 hd1 hd2 hlk hw hr hcat ?_
  intro q ws' h
  rw [zset_last] at h
  rw [h]
  exact kk q
set_option maxHeartbeats 4000000 in
theorem c_X2_init (l : Launch) (k : Nat) : zMetI l yX2_init cX2_init 1 ({ frames := 1, cells := 2, slots := 8, locals := 12 } : Room) 2 8 (fun ws a => ws[k]? = some (a, .inr (2, [.null, .null, .int 0, .int 0, .int 0, .int 0, .int 0, .int 0, .int 0]))) (fun aC ws a ws' => ∃ q0 : Nat, ∃ q1 : Nat, ws' = ws.set k (a, .inr (2, [.ref q0, .ref q1, .int 0, .int 0, .int 0, .int 0, .int 0, .int 0, .int 0])) ++ [(q0, .inl (aC 0, (4, .inl (fun _ => 0)))), (q1, .inl (aC 2, (4, .inl (fun _ => 0))))]) := by
  refine zmetI_of (by decide) (by decide) rfl ?_
  intro X hl hnl hR hX0 hAO hini ws a hpre hQ
  have hq : k < ws.length := (List.getElem?_eq_some_iff.mp hpre).1
  have hX : ∀ c n, c ≤ 2 → n ≤ 8 → zOk (zat X c n) RX2 cX2_init ({ frames := 1, cells := 2, slots := 8, locals := 12 } : Room) := fun c n h1 h2 => zat_ok hX0 c n ⟨by show c ≤ X.R.cells; rw [hR]; exact h1, by show n ≤ X.R.slots; rw [hR]; exact h2⟩
  rw [zob_self hpre]
  refine z_aload_n (hX 0 0 (by decide) (by decide)) 0 dX2_init_0 rfl rfl ?_
  refine z_super (hX 0 0 (by decide) (by decide)) dX2_init_1 zm_52 zm_22 zm_23 (by show 1 ≤ X.R.frames; rw [hR]; decide) (by show 0 + 12 ≤ X.R.locals; rw [hR]; decide) ?_
  refine z_aload_n (hX 0 0 (by decide) (by decide)) 0 dX2_init_4 rfl rfl ?_
  refine z_iconst (hX 0 0 (by decide) (by decide)) dX2_init_5 (v := 4) (by decide) ?_
  refine p_arr (t := 0) (N' := 4) (ty := .int) (a0 := (4, .inl (fun _ => 0))) (j := 0) (fs' := fun q0 => [.ref q0, .null, .int 0, .int 0, .int 0, .int 0, .int 0, .int 0, .int 0]) (hX 0 0 (by decide) (by decide)) hini hq dX2_init_6 rfl zm_45 rfl (Or.inl rfl) (fun _ => rfl) (by decide) (by decide) (by decide) ⟨by show 1 ≤ X.R.cells; rw [hR]; decide, by show 4 ≤ X.R.slots; rw [hR]; decide⟩ dX2_init_8 rfl zin_X2 tyX2_ok nmX2 (by decide) zm_53 rfl rfl rfl (fun _ => ⟨rfl, rfl⟩) (zlt_ok rfl) (fun _ => rfl) (fun q0 => ?_)
  show zGw (zat X 1 4) (zob ws k a 2 [.ref q0, .null, .int 0, .int 0, .int 0, .int 0, .int 0, .int 0, .int 0] [(q0, .inl (X.aC 0, (4, .inl (fun _ => 0))))]) 11 [(0, .ref a)] []
  refine z_aload_n (hX 1 4 (by decide) (by decide)) 0 dX2_init_11 rfl rfl ?_
  refine z_iconst (hX 1 4 (by decide) (by decide)) dX2_init_12 (v := 4) (by decide) ?_
  refine p_arr (t := 2) (N' := 4) (ty := .boolean) (a0 := (4, .inl (fun _ => 0))) (j := 1) (fs' := fun q1 => [.ref q0, .ref q1, .int 0, .int 0, .int 0, .int 0, .int 0, .int 0, .int 0]) (hX 1 4 (by decide) (by decide)) hini hq dX2_init_13 rfl zm_82 rfl (Or.inr (Or.inr rfl)) (fun _ => rfl) (by decide) (by decide) (by decide) ⟨by show 2 ≤ X.R.cells; rw [hR]; decide, by show 8 ≤ X.R.slots; rw [hR]; decide⟩ dX2_init_15 rfl zin_X2 tyX2_ok nmX2 (by decide) zm_54 rfl rfl rfl (fun _ => ⟨rfl, rfl⟩) (zlt_ok rfl) (fun _ => rfl) (fun q1 => ?_)
  show zGw (zat X 2 8) (zob ws k a 2 [.ref q0, .ref q1, .int 0, .int 0, .int 0, .int 0, .int 0, .int 0, .int 0] [(q0, .inl (X.aC 0, (4, .inl (fun _ => 0)))), (q1, .inl (X.aC 2, (4, .inl (fun _ => 0))))]) 18 [(0, .ref a)] []
  refine z_aload_n (hX 2 8 (by decide) (by decide)) 0 dX2_init_18 rfl rfl ?_
  refine z_iconst (hX 2 8 (by decide) (by decide)) dX2_init_19 (v := 0) (by decide) ?_
  refine p_put (j := 2) (v := .int (0)) (fs' := [.ref q0, .ref q1, .int 0, .int 0, .int 0, .int 0, .int 0, .int 0, .int 0]) (hX 2 8 (by decide) (by decide)) hq dX2_init_20 rfl zin_X2 tyX2_ok nmX2 (by decide) zm_55 rfl rfl rfl rfl (zlt_ok rfl) rfl ?_
  refine z_aload_n (hX 2 8 (by decide) (by decide)) 0 dX2_init_23 rfl rfl ?_
  refine z_iconst (hX 2 8 (by decide) (by decide)) dX2_init_24 (v := 0) (by decide) ?_
  refine p_put (j := 3) (v := .int (0)) (fs' := [.ref q0, .ref q1, .int 0, .int 0, .int 0, .int 0, .int 0, .int 0, .int 0]) (hX 2 8 (by decide) (by decide)) hq dX2_init_25 rfl zin_X2 tyX2_ok nmX2 (by decide) zm_56 rfl rfl rfl rfl (zlt_ok rfl) rfl ?_
  refine z_aload_n (hX 2 8 (by decide) (by decide)) 0 dX2_init_28 rfl rfl ?_
  refine z_iconst (hX 2 8 (by decide) (by decide)) dX2_init_29 (v := 0) (by decide) ?_
  refine p_put (j := 4) (v := .int (0)) (fs' := [.ref q0, .ref q1, .int 0, .int 0, .int 0, .int 0, .int 0, .int 0, .int 0]) (hX 2 8 (by decide) (by decide)) hq dX2_init_30 rfl zin_X2 tyX2_ok nmX2 (by decide) zm_57 rfl rfl rfl rfl (zlt_ok rfl) rfl ?_
  refine z_aload_n (hX 2 8 (by decide) (by decide)) 0 dX2_init_33 rfl rfl ?_
  refine z_iconst (hX 2 8 (by decide) (by decide)) dX2_init_34 (v := 0) (by decide) ?_
  refine p_put (j := 5) (v := .int (0)) (fs' := [.ref q0, .ref q1, .int 0, .int 0, .int 0, .int 0, .int 0, .int 0, .int 0]) (hX 2 8 (by decide) (by decide)) hq dX2_init_35 rfl zin_X2 tyX2_ok nmX2 (by decide) zm_58 rfl rfl rfl rfl (zlt_ok rfl) rfl ?_
  refine z_aload_n (hX 2 8 (by decide) (by decide)) 0 dX2_init_38 rfl rfl ?_
  refine z_iconst (hX 2 8 (by decide) (by decide)) dX2_init_39 (v := 0) (by decide) ?_
  refine p_put (j := 6) (v := .int (0)) (fs' := [.ref q0, .ref q1, .int 0, .int 0, .int 0, .int 0, .int 0, .int 0, .int 0]) (hX 2 8 (by decide) (by decide)) hq dX2_init_40 rfl zin_X2 tyX2_ok nmX2 (by decide) zm_59 rfl rfl rfl rfl (zlt_ok rfl) rfl ?_
  refine z_aload_n (hX 2 8 (by decide) (by decide)) 0 dX2_init_43 rfl rfl ?_
  refine z_iconst (hX 2 8 (by decide) (by decide)) dX2_init_44 (v := 0) (by decide) ?_
  refine p_put (j := 7) (v := .int (0)) (fs' := [.ref q0, .ref q1, .int 0, .int 0, .int 0, .int 0, .int 0, .int 0, .int 0]) (hX 2 8 (by decide) (by decide)) hq dX2_init_45 rfl zin_X2 tyX2_ok nmX2 (by decide) zm_60 rfl rfl rfl rfl (zlt_ok rfl) rfl ?_
  refine z_aload_n (hX 2 8 (by decide) (by decide)) 0 dX2_init_48 rfl rfl ?_
  refine z_iconst (hX 2 8 (by decide) (by decide)) dX2_init_49 (v := 0) (by decide) ?_
  refine p_put (j := 8) (v := .int (0)) (fs' := [.ref q0, .ref q1, .int 0, .int 0, .int 0, .int 0, .int 0, .int 0, .int 0]) (hX 2 8 (by decide) (by decide)) hq dX2_init_50 rfl zin_X2 tyX2_ok nmX2 (by decide) zm_61 rfl rfl rfl rfl (zlt_ok rfl) rfl ?_
  exact z_vretI (hX 2 8 (by decide) (by decide)) hQ ⟨q0, q1, rfl⟩ dX2_init_53
theorem z_mk2 (hX : zOk (zat X c n) own cc rm) (hAO : zAO X.s) (hd0 : decode cc pc = .ok (.new index, 3)) (hd1 : decode cc (pc + 3) = .ok (.dup, 1)) (hd2 : decode cc (pc + 3 + 1) = .ok (.invokespecial idx, 3)) (hlk : Cond.classLink own index RX2 ∈ tables_1) (hw : Cond.methodLinkNest own idx yX2_init host ∈ tables_1) (hR : 2 ≤ rm.frames ∧ 32 ≤ rm.locals) (hr : c + 3 ≤ rm.cells ∧ n + 17 ≤ rm.slots) (hcat : 1 + (stk.map fun v => v.category).sum ≤ 8)
    (kk : ∀ q q0 q1 : Nat, zGw (zat X (c + 3) (n + 17)) (ws ++ [(q, .inr (2, [.ref q0, .ref q1, .int 0, .int 0, .int 0, .int 0, .int 0, .int 0, .int 0])), (q0, .inl (X.aC 0, (4, .inl (fun _ => 0)))), (q1, .inl (X.aC 2, (4, .inl (fun _ => 0))))]) (pc + 7) lv (.ref q :: stk)) : zGw (zat X c n) ws pc lv stk := by
  refine z_mk hX hAO (fun k => c_X2_init X.l k) zci_X2 rfl zin_X2 tyX2_ok zdf_X2 zm_48 zm_3 hR ⟨rfl, rfl⟩ hd0 hd1 hd2 hlk hw hr hcat ?_
  intro q ws' h
  obtain ⟨q0, q1, h⟩ := h
  rw [zset_last] at h
  rw [h, List.append_assoc]
  exact kk q q0 q1
end ZCV
