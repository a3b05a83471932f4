/-! the law's wrappers of calls that may throw: each as ONE function and contract -/
def zwrap (f : Option (Int32 × zSt)) (fx : Option (Nat × zSt)) (h : Nat → Option Int32) : Option (Int32 × zSt) := match f with
  | some o => some o
  | none => fx.bind fun q => (h q.1).bind fun v => some (v, q.2)
theorem zwrap_ex {f : Option (Int32 × zSt)} {fx : Option (Nat × zSt)} {h : Nat → Option Int32} {out : Int32 × zSt} (e : zwrap f fx h = some out) : f = some out ∨ ∃ q, fx = some q ∧ h q.1 = some out.1 ∧ q.2 = out.2 := by
  cases f with
  | some o => exact Or.inl e
  | none =>
    obtain ⟨q, e1, e2⟩ := zbind e
    obtain ⟨v, e3, e4⟩ := zbind e2
    obtain rfl := Option.some.inj e4
    exact Or.inr ⟨q, e1, e3, rfl⟩
def zh23 : Nat → Option Int32
  | 2 => some (-8)
  | 3 => some (-9)
  | _ => none
def zh3 : Nat → Option Int32
  | 3 => some (-9)
  | _ => none
theorem zh3_ex {k : Nat} {v : Int32} (h : zh3 k = some v) : k = 3 ∧ v = -9 := by
  match k, h with
  | 3, h => exact ⟨rfl, (Option.some.inj h).symm⟩
theorem zh23_ex {k : Nat} {v : Int32} (h : zh23 k = some v) : (k = 2 ∧ v = -8) ∨ (k = 3 ∧ v = -9) := by
  match k, h with
  | 2, h => exact Or.inl ⟨rfl, (Option.some.inj h).symm⟩
  | 3, h => exact Or.inr ⟨rfl, (Option.some.inj h).symm⟩
abbrev zr_L_plan : Room := { frames := 9, cells := 1, slots := 6, locals := 160 }
abbrev zh_L_plan : List (Nat × Nat × Nat × Nat) := [(0, 9, 10, 15), (0, 9, 15, 17)]
theorem zbW_L_plan : Cond.static yL_plan ∈ tables_1 ∧ Cond.initialized yL_plan.cls ∈ tables_1 ∧ Cond.codeWith yL_plan cL_plan 6 (some .int) zh_L_plan ∈ tables_1 ∧ (yL_plan.cls ≠ "java/lang/invoke/MethodHandle" ∧ yL_plan.cls ≠ "java/lang/invoke/VarHandle" ∧ (parseMethodDescriptor yL_plan.desc).map (fun d => d.parameters.length) = some 5) := ⟨zm_600, zm_0, zm_601, by decide, by decide, rfl⟩
def f_L_plan (st : zSt) (a1 : Int32) (a2 : Int32) (a3 : Int32) (a4 : Int32) : Option (Int32 × zSt) := ((f_X6_plan st a1 a2 a3 a4).bind fun q1 => some (q1.1, q1.2))
set_option maxHeartbeats 4000000 in
set_option maxRecDepth 100000 in
theorem t_L_plan (X : zCx) (out : Int32 × zSt) (hX : zOk X RL cL_plan zr_L_plan) (hQ : zPost X 98 shC (some .int) (some (.int out.1)) out.2) (hnl : X.nL = 6) (st : zSt) (a1 : Int32) (a2 : Int32) (a3 : Int32) (a4 : Int32) (hf : f_L_plan st a1 a2 a3 a4 = some out) : zG 98 shC X st 0 [(0, .ref (X.ad 0)), (1, .int a1), (2, .int a2), (3, .int a3), (4, .int a4)] [] := by
  unfold f_L_plan at hf
  refine z_aload_n hX 0 dL_plan_0 rfl rfl ?_
  refine z_iload_n hX 1 dL_plan_1 rfl rfl ?_
  refine z_iload_n hX 2 dL_plan_2 rfl rfl ?_
  refine z_iload_n hX 3 dL_plan_3 rfl rfl ?_
  refine z_iload hX 4 dL_plan_4 rfl ?_
  obtain ⟨q1, e2, hf⟩ := zbind hf
  refine z_callV (stk := []) (stk' := [.int q1.1]) hX (c_X6_plan X.l st a1 a2 a3 a4 q1 e2) zb_X6_plan 0 dL_plan_6 zm_604 (by decide) shC_0 rfl rfl rfl rfl ⟨by decide, by decide⟩ ⟨rfl, rfl⟩ (Nat.le_of_ble_eq_true rfl) rfl ?_
  obtain rfl := Option.some.inj hf
  exact z_iret hX hQ dL_plan_9 rfl
theorem cw_L_plan (l : Launch) (hfl : l.stackTraces = false) (st : zSt) (a1 : Int32) (a2 : Int32) (a3 : Int32) (a4 : Int32) (out : Int32 × zSt) (hf : f_L_plan st a1 a2 a3 a4 = some out) : zMetW l yL_plan cL_plan 6 (some .int) zh_L_plan zr_L_plan 98 shC (fun ad => [.ref (ad 0), .int a1, .int a2, .int a3, .int a4]) st (fun _ => some (.int out.1)) out.2 :=
  zmetW_of hfl zm_601 (by decide) (fun _ => Nat.le_of_ble_eq_true rfl) (by decide) (fun X _ hnl hX hQ => z_widen (t_L_plan (zbump X) out hX.bump hQ hnl st a1 a2 a3 a4 hf))
set_option maxHeartbeats 4000000 in
set_option maxRecDepth 100000 in
theorem cwx_L_plan_2 (l : Launch) (hfl : l.stackTraces = false) (st : zSt) (a1 : Int32) (a2 : Int32) (a3 : Int32) (a4 : Int32) (u : zSt) (hf : fx_X6_plan st a1 a2 a3 a4 = some (2, u)) : zMetW l yL_plan cL_plan 6 (some .int) zh_L_plan zr_L_plan 98 shC (fun ad => [.ref (ad 0), .int a1, .int a2, .int a3, .int a4]) st (fun _ => some (.int (-8))) u := by
  refine zmetW_of hfl zm_601 (by decide) (fun _ => Nat.le_of_ble_eq_true rfl) (by decide) (fun X _ hnl hX hQ => ?_)
  show zG 98 shC X st 0 [(0, .ref (X.ad 0)), (1, .int a1), (2, .int a2), (3, .int a3), (4, .int a4)] []
  refine z_aload_n hX.1 0 dL_plan_0 rfl rfl ?_
  refine z_iload_n hX.1 1 dL_plan_1 rfl rfl ?_
  refine z_iload_n hX.1 2 dL_plan_2 rfl rfl ?_
  refine z_iload_n hX.1 3 dL_plan_3 rfl rfl ?_
  refine z_iload hX.1 4 dL_plan_4 rfl ?_
  refine z_catchV (k := 2) (stk := []) hX [] ⟨0, 9, 10, 15⟩ [⟨0, 9, 15, 17⟩] (cx_X6_plan X.l hX.2.2.2.1 st a1 a2 a3 a4 (2, u) hf) zb_X6_plan 0 dL_plan_6 zm_604 (by decide) shC_0 rfl rfl rfl rfl ⟨by decide, by decide⟩ ⟨rfl, rfl⟩ (Nat.le_of_ble_eq_true rfl) rfl (fun z hz => absurd hz List.not_mem_nil) (by decide) (by decide) zm_602 zm_381 (fun q => ?_)
  refine z_astoreA hX.bump dL_plan_10 (by show 5 < X.nL; rw [hnl]; decide) ?_
  refine z_bipush (v := -8) hX.bump dL_plan_12 (by decide) ?_
  exact z_iret hX.bump hQ dL_plan_14 rfl
set_option maxHeartbeats 4000000 in
set_option maxRecDepth 100000 in
theorem cwx_L_plan_3 (l : Launch) (hfl : l.stackTraces = false) (st : zSt) (a1 : Int32) (a2 : Int32) (a3 : Int32) (a4 : Int32) (u : zSt) (hf : fx_X6_plan st a1 a2 a3 a4 = some (3, u)) : zMetW l yL_plan cL_plan 6 (some .int) zh_L_plan zr_L_plan 98 shC (fun ad => [.ref (ad 0), .int a1, .int a2, .int a3, .int a4]) st (fun _ => some (.int (-9))) u := by
  refine zmetW_of hfl zm_601 (by decide) (fun _ => Nat.le_of_ble_eq_true rfl) (by decide) (fun X _ hnl hX hQ => ?_)
  show zG 98 shC X st 0 [(0, .ref (X.ad 0)), (1, .int a1), (2, .int a2), (3, .int a3), (4, .int a4)] []
  refine z_aload_n hX.1 0 dL_plan_0 rfl rfl ?_
  refine z_iload_n hX.1 1 dL_plan_1 rfl rfl ?_
  refine z_iload_n hX.1 2 dL_plan_2 rfl rfl ?_
  refine z_iload_n hX.1 3 dL_plan_3 rfl rfl ?_
  refine z_iload hX.1 4 dL_plan_4 rfl ?_
  refine z_catchV (k := 3) (stk := []) hX [⟨0, 9, 10, 15⟩] ⟨0, 9, 15, 17⟩ [] (cx_X6_plan X.l hX.2.2.2.1 st a1 a2 a3 a4 (3, u) hf) zb_X6_plan 0 dL_plan_6 zm_604 (by decide) shC_0 rfl rfl rfl rfl ⟨by decide, by decide⟩ ⟨rfl, rfl⟩ (Nat.le_of_ble_eq_true rfl) rfl (List.forall_mem_cons.mpr ⟨z_npass hX 2 (by decide) zm_602 (by decide), fun z hz => absurd hz List.not_mem_nil⟩) (by decide) (by decide) zm_603 zm_399 (fun q => ?_)
  refine z_astoreA hX.bump dL_plan_15 (by show 5 < X.nL; rw [hnl]; decide) ?_
  refine z_bipush (v := -9) hX.bump dL_plan_17 (by decide) ?_
  exact z_iret hX.bump hQ dL_plan_19 rfl
def g_L_plan (st : zSt) (a1 : Int32) (a2 : Int32) (a3 : Int32) (a4 : Int32) : Option (Int32 × zSt) := zwrap (f_X6_plan st a1 a2 a3 a4) (fx_X6_plan st a1 a2 a3 a4) zh23
theorem cg_L_plan (l : Launch) (hfl : l.stackTraces = false) (st : zSt) (a1 : Int32) (a2 : Int32) (a3 : Int32) (a4 : Int32) (out : Int32 × zSt) (hg : g_L_plan st a1 a2 a3 a4 = some out) : zMetW l yL_plan cL_plan 6 (some .int) zh_L_plan zr_L_plan 98 shC (fun ad => [.ref (ad 0), .int a1, .int a2, .int a3, .int a4]) st (fun _ => some (.int out.1)) out.2 := by
  rcases zwrap_ex hg with h | ⟨⟨k, u⟩, h1, h2, h3⟩
  · exact cw_L_plan l hfl st a1 a2 a3 a4 out (by unfold f_L_plan; rw [h]; rfl)
  · obtain ⟨v, w⟩ := out
    cases h3
    rcases zh23_ex h2 with ⟨e1, e2⟩ | ⟨e1, e2⟩
    · cases e1
      cases e2
      exact cwx_L_plan_2 l hfl st a1 a2 a3 a4 u h1
    · cases e1
      cases e2
      exact cwx_L_plan_3 l hfl st a1 a2 a3 a4 u h1
abbrev zr_L_acts : Room := { frames := 9, cells := 1, slots := 6, locals := 156 }
abbrev zh_L_acts : List (Nat × Nat × Nat × Nat) := [(0, 32, 33, 17)]
theorem zbW_L_acts : Cond.static yL_acts ∈ tables_1 ∧ Cond.initialized yL_acts.cls ∈ tables_1 ∧ Cond.codeWith yL_acts cL_acts 5 (some .int) zh_L_acts ∈ tables_1 ∧ (yL_acts.cls ≠ "java/lang/invoke/MethodHandle" ∧ yL_acts.cls ≠ "java/lang/invoke/VarHandle" ∧ (parseMethodDescriptor yL_acts.desc).map (fun d => d.parameters.length) = some 4) := ⟨zm_621, zm_0, zm_622, by decide, by decide, rfl⟩
def f_L_acts0 (st : zSt) (a2 : Int32) (a3 : Int32) : Option (Int32 × zSt) := ((f_X6_cancel st a2).bind fun q2 => some (q2.1, q2.2))
set_option maxHeartbeats 4000000 in
set_option maxRecDepth 100000 in
theorem t_L_acts0 (X : zCx) (out : Int32 × zSt) (hX : zOk X RL cL_acts zr_L_acts) (hQ : zPost X 98 shC (some .int) (some (.int out.1)) out.2) (hnl : X.nL = 5) (st : zSt) (a2 : Int32) (a3 : Int32) (hf : f_L_acts0 st a2 a3 = some out) : zG 98 shC X st 0 [(0, .ref (X.ad 0)), (1, .int 0), (2, .int a2), (3, .int a3)] [] := by
  unfold f_L_acts0 at hf
  refine z_iload_n hX 1 dL_acts_0 rfl rfl ?_
  refine z_if_ne hX 12 dL_acts_1 (by decide) (fun c => absurd c (by decide)) (fun _ => ?_)
  refine z_aload_n hX 0 dL_acts_4 rfl rfl ?_
  refine z_iload_n hX 2 dL_acts_5 rfl rfl ?_
  obtain ⟨q2, e3, hf⟩ := zbind hf
  refine z_callV (stk := []) (stk' := [.int q2.1]) hX (c_X6_cancel X.l st a2 q2 e3) zb_X6_cancel 0 dL_acts_6 zm_623 (by decide) shC_0 rfl rfl rfl rfl ⟨by decide, by decide⟩ ⟨rfl, rfl⟩ (Nat.le_of_ble_eq_true rfl) rfl ?_
  refine z_goto hX 32 dL_acts_9 (by decide) ?_
  obtain rfl := Option.some.inj hf
  exact z_iret hX hQ dL_acts_32 rfl
theorem cw_L_acts0 (l : Launch) (hfl : l.stackTraces = false) (st : zSt) (a2 : Int32) (a3 : Int32) (out : Int32 × zSt) (hf : f_L_acts0 st a2 a3 = some out) : zMetW l yL_acts cL_acts 5 (some .int) zh_L_acts zr_L_acts 98 shC (fun ad => [.ref (ad 0), .int 0, .int a2, .int a3]) st (fun _ => some (.int out.1)) out.2 :=
  zmetW_of hfl zm_622 (by decide) (fun _ => Nat.le_of_ble_eq_true rfl) (by decide) (fun X _ hnl hX hQ => z_widen (t_L_acts0 (zbump X) out hX.bump hQ hnl st a2 a3 hf))
set_option maxHeartbeats 4000000 in
set_option maxRecDepth 100000 in
theorem cwx_L_acts0_3 (l : Launch) (hfl : l.stackTraces = false) (st : zSt) (a2 : Int32) (a3 : Int32) (u : zSt) (hf : fx_X6_cancel st a2 = some (3, u)) : zMetW l yL_acts cL_acts 5 (some .int) zh_L_acts zr_L_acts 98 shC (fun ad => [.ref (ad 0), .int 0, .int a2, .int a3]) st (fun _ => some (.int (-9))) u := by
  refine zmetW_of hfl zm_622 (by decide) (fun _ => Nat.le_of_ble_eq_true rfl) (by decide) (fun X _ hnl hX hQ => ?_)
  show zG 98 shC X st 0 [(0, .ref (X.ad 0)), (1, .int 0), (2, .int a2), (3, .int a3)] []
  refine z_iload_n hX.1 1 dL_acts_0 rfl rfl ?_
  refine z_if_ne hX.1 12 dL_acts_1 (by decide) (fun c => absurd c (by decide)) (fun _ => ?_)
  refine z_aload_n hX.1 0 dL_acts_4 rfl rfl ?_
  refine z_iload_n hX.1 2 dL_acts_5 rfl rfl ?_
  refine z_catchV (k := 3) (stk := []) hX [] ⟨0, 32, 33, 17⟩ [] (cx_X6_cancel X.l hX.2.2.2.1 st a2 (3, u) hf) zb_X6_cancel 0 dL_acts_6 zm_623 (by decide) shC_0 rfl rfl rfl rfl ⟨by decide, by decide⟩ ⟨rfl, rfl⟩ (Nat.le_of_ble_eq_true rfl) rfl (fun z hz => absurd hz List.not_mem_nil) (by decide) (by decide) zm_603 zm_399 (fun q => ?_)
  refine z_astoreA hX.bump dL_acts_33 (by show 4 < X.nL; rw [hnl]; decide) ?_
  refine z_bipush (v := -9) hX.bump dL_acts_35 (by decide) ?_
  exact z_iret hX.bump hQ dL_acts_37 rfl
def g_L_acts0 (st : zSt) (a2 : Int32) (a3 : Int32) : Option (Int32 × zSt) := zwrap (f_X6_cancel st a2) (fx_X6_cancel st a2) zh3
theorem cg_L_acts0 (l : Launch) (hfl : l.stackTraces = false) (st : zSt) (a2 : Int32) (a3 : Int32) (out : Int32 × zSt) (hg : g_L_acts0 st a2 a3 = some out) : zMetW l yL_acts cL_acts 5 (some .int) zh_L_acts zr_L_acts 98 shC (fun ad => [.ref (ad 0), .int 0, .int a2, .int a3]) st (fun _ => some (.int out.1)) out.2 := by
  rcases zwrap_ex hg with h | ⟨⟨k, u⟩, h1, h2, h3⟩
  · exact cw_L_acts0 l hfl st a2 a3 out (by unfold f_L_acts0; rw [h]; rfl)
  · obtain ⟨v, w⟩ := out
    cases h3
    obtain ⟨e1, e2⟩ := zh3_ex h2
    cases e1
    cases e2
    exact cwx_L_acts0_3 l hfl st a2 a3 u h1
def f_L_acts1 (st : zSt) (a2 : Int32) (a3 : Int32) : Option (Int32 × zSt) := ((f_X6_replace st a2 a3).bind fun q3 => some (q3.1, q3.2))
set_option maxHeartbeats 4000000 in
set_option maxRecDepth 100000 in
theorem t_L_acts1 (X : zCx) (out : Int32 × zSt) (hX : zOk X RL cL_acts zr_L_acts) (hQ : zPost X 98 shC (some .int) (some (.int out.1)) out.2) (hnl : X.nL = 5) (st : zSt) (a2 : Int32) (a3 : Int32) (hf : f_L_acts1 st a2 a3 = some out) : zG 98 shC X st 0 [(0, .ref (X.ad 0)), (1, .int 1), (2, .int a2), (3, .int a3)] [] := by
  unfold f_L_acts1 at hf
  refine z_iload_n hX 1 dL_acts_0 rfl rfl ?_
  refine z_if_ne hX 12 dL_acts_1 (by decide) (fun _ => ?_) (fun c => absurd c (by decide))
  refine z_iload_n hX 1 dL_acts_12 rfl rfl ?_
  refine z_iconst (v := 1) hX dL_acts_13 (by decide) ?_
  refine z_icmp_ne hX 26 dL_acts_14 (by decide) (fun c => absurd c (by decide)) (fun _ => ?_)
  refine z_aload_n hX 0 dL_acts_17 rfl rfl ?_
  refine z_iload_n hX 2 dL_acts_18 rfl rfl ?_
  refine z_iload_n hX 3 dL_acts_19 rfl rfl ?_
  obtain ⟨q3, e4, hf⟩ := zbind hf
  refine z_callV (stk := []) (stk' := [.int q3.1]) hX (c_X6_replace X.l st a2 a3 q3 e4) zb_X6_replace 0 dL_acts_20 zm_627 (by decide) shC_0 rfl rfl rfl rfl ⟨by decide, by decide⟩ ⟨rfl, rfl⟩ (Nat.le_of_ble_eq_true rfl) rfl ?_
  refine z_goto hX 32 dL_acts_23 (by decide) ?_
  obtain rfl := Option.some.inj hf
  exact z_iret hX hQ dL_acts_32 rfl
theorem cw_L_acts1 (l : Launch) (hfl : l.stackTraces = false) (st : zSt) (a2 : Int32) (a3 : Int32) (out : Int32 × zSt) (hf : f_L_acts1 st a2 a3 = some out) : zMetW l yL_acts cL_acts 5 (some .int) zh_L_acts zr_L_acts 98 shC (fun ad => [.ref (ad 0), .int 1, .int a2, .int a3]) st (fun _ => some (.int out.1)) out.2 :=
  zmetW_of hfl zm_622 (by decide) (fun _ => Nat.le_of_ble_eq_true rfl) (by decide) (fun X _ hnl hX hQ => z_widen (t_L_acts1 (zbump X) out hX.bump hQ hnl st a2 a3 hf))
set_option maxHeartbeats 4000000 in
set_option maxRecDepth 100000 in
theorem cwx_L_acts1_3 (l : Launch) (hfl : l.stackTraces = false) (st : zSt) (a2 : Int32) (a3 : Int32) (u : zSt) (hf : fx_X6_replace st a2 a3 = some (3, u)) : zMetW l yL_acts cL_acts 5 (some .int) zh_L_acts zr_L_acts 98 shC (fun ad => [.ref (ad 0), .int 1, .int a2, .int a3]) st (fun _ => some (.int (-9))) u := by
  refine zmetW_of hfl zm_622 (by decide) (fun _ => Nat.le_of_ble_eq_true rfl) (by decide) (fun X _ hnl hX hQ => ?_)
  show zG 98 shC X st 0 [(0, .ref (X.ad 0)), (1, .int 1), (2, .int a2), (3, .int a3)] []
  refine z_iload_n hX.1 1 dL_acts_0 rfl rfl ?_
  refine z_if_ne hX.1 12 dL_acts_1 (by decide) (fun _ => ?_) (fun c => absurd c (by decide))
  refine z_iload_n hX.1 1 dL_acts_12 rfl rfl ?_
  refine z_iconst (v := 1) hX.1 dL_acts_13 (by decide) ?_
  refine z_icmp_ne hX.1 26 dL_acts_14 (by decide) (fun c => absurd c (by decide)) (fun _ => ?_)
  refine z_aload_n hX.1 0 dL_acts_17 rfl rfl ?_
  refine z_iload_n hX.1 2 dL_acts_18 rfl rfl ?_
  refine z_iload_n hX.1 3 dL_acts_19 rfl rfl ?_
  refine z_catchV (k := 3) (stk := []) hX [] ⟨0, 32, 33, 17⟩ [] (cx_X6_replace X.l hX.2.2.2.1 st a2 a3 (3, u) hf) zb_X6_replace 0 dL_acts_20 zm_627 (by decide) shC_0 rfl rfl rfl rfl ⟨by decide, by decide⟩ ⟨rfl, rfl⟩ (Nat.le_of_ble_eq_true rfl) rfl (fun z hz => absurd hz List.not_mem_nil) (by decide) (by decide) zm_603 zm_399 (fun q => ?_)
  refine z_astoreA hX.bump dL_acts_33 (by show 4 < X.nL; rw [hnl]; decide) ?_
  refine z_bipush (v := -9) hX.bump dL_acts_35 (by decide) ?_
  exact z_iret hX.bump hQ dL_acts_37 rfl
def g_L_acts1 (st : zSt) (a2 : Int32) (a3 : Int32) : Option (Int32 × zSt) := zwrap (f_X6_replace st a2 a3) (fx_X6_replace st a2 a3) zh3
theorem cg_L_acts1 (l : Launch) (hfl : l.stackTraces = false) (st : zSt) (a2 : Int32) (a3 : Int32) (out : Int32 × zSt) (hg : g_L_acts1 st a2 a3 = some out) : zMetW l yL_acts cL_acts 5 (some .int) zh_L_acts zr_L_acts 98 shC (fun ad => [.ref (ad 0), .int 1, .int a2, .int a3]) st (fun _ => some (.int out.1)) out.2 := by
  rcases zwrap_ex hg with h | ⟨⟨k, u⟩, h1, h2, h3⟩
  · exact cw_L_acts1 l hfl st a2 a3 out (by unfold f_L_acts1; rw [h]; rfl)
  · obtain ⟨v, w⟩ := out
    cases h3
    obtain ⟨e1, e2⟩ := zh3_ex h2
    cases e1
    cases e2
    exact cwx_L_acts1_3 l hfl st a2 a3 u h1
def f_L_acts2 (st : zSt) (a2 : Int32) (a3 : Int32) : Option (Int32 × zSt) := ((f_X6_fill st a2 a3).bind fun q3 => some (q3.1, q3.2))
set_option maxHeartbeats 4000000 in
set_option maxRecDepth 100000 in
theorem t_L_acts2 (X : zCx) (out : Int32 × zSt) (hX : zOk X RL cL_acts zr_L_acts) (hQ : zPost X 98 shC (some .int) (some (.int out.1)) out.2) (hnl : X.nL = 5) (st : zSt) (a2 : Int32) (a3 : Int32) (hf : f_L_acts2 st a2 a3 = some out) : zG 98 shC X st 0 [(0, .ref (X.ad 0)), (1, .int 2), (2, .int a2), (3, .int a3)] [] := by
  unfold f_L_acts2 at hf
  refine z_iload_n hX 1 dL_acts_0 rfl rfl ?_
  refine z_if_ne hX 12 dL_acts_1 (by decide) (fun _ => ?_) (fun c => absurd c (by decide))
  refine z_iload_n hX 1 dL_acts_12 rfl rfl ?_
  refine z_iconst (v := 1) hX dL_acts_13 (by decide) ?_
  refine z_icmp_ne hX 26 dL_acts_14 (by decide) (fun _ => ?_) (fun c => absurd c (by decide))
  refine z_aload_n hX 0 dL_acts_26 rfl rfl ?_
  refine z_iload_n hX 2 dL_acts_27 rfl rfl ?_
  refine z_iload_n hX 3 dL_acts_28 rfl rfl ?_
  obtain ⟨q3, e4, hf⟩ := zbind hf
  refine z_callV (stk := []) (stk' := [.int q3.1]) hX (c_X6_fill X.l st a2 a3 q3 e4) zb_X6_fill 0 dL_acts_29 zm_416 (by decide) shC_0 rfl rfl rfl rfl ⟨by decide, by decide⟩ ⟨rfl, rfl⟩ (Nat.le_of_ble_eq_true rfl) rfl ?_
  obtain rfl := Option.some.inj hf
  exact z_iret hX hQ dL_acts_32 rfl
theorem cw_L_acts2 (l : Launch) (hfl : l.stackTraces = false) (st : zSt) (a2 : Int32) (a3 : Int32) (out : Int32 × zSt) (hf : f_L_acts2 st a2 a3 = some out) : zMetW l yL_acts cL_acts 5 (some .int) zh_L_acts zr_L_acts 98 shC (fun ad => [.ref (ad 0), .int 2, .int a2, .int a3]) st (fun _ => some (.int out.1)) out.2 :=
  zmetW_of hfl zm_622 (by decide) (fun _ => Nat.le_of_ble_eq_true rfl) (by decide) (fun X _ hnl hX hQ => z_widen (t_L_acts2 (zbump X) out hX.bump hQ hnl st a2 a3 hf))
set_option maxHeartbeats 4000000 in
set_option maxRecDepth 100000 in
theorem cwx_L_acts2_3 (l : Launch) (hfl : l.stackTraces = false) (st : zSt) (a2 : Int32) (a3 : Int32) (u : zSt) (hf : fx_X6_fill st a2 a3 = some (3, u)) : zMetW l yL_acts cL_acts 5 (some .int) zh_L_acts zr_L_acts 98 shC (fun ad => [.ref (ad 0), .int 2, .int a2, .int a3]) st (fun _ => some (.int (-9))) u := by
  refine zmetW_of hfl zm_622 (by decide) (fun _ => Nat.le_of_ble_eq_true rfl) (by decide) (fun X _ hnl hX hQ => ?_)
  show zG 98 shC X st 0 [(0, .ref (X.ad 0)), (1, .int 2), (2, .int a2), (3, .int a3)] []
  refine z_iload_n hX.1 1 dL_acts_0 rfl rfl ?_
  refine z_if_ne hX.1 12 dL_acts_1 (by decide) (fun _ => ?_) (fun c => absurd c (by decide))
  refine z_iload_n hX.1 1 dL_acts_12 rfl rfl ?_
  refine z_iconst (v := 1) hX.1 dL_acts_13 (by decide) ?_
  refine z_icmp_ne hX.1 26 dL_acts_14 (by decide) (fun _ => ?_) (fun c => absurd c (by decide))
  refine z_aload_n hX.1 0 dL_acts_26 rfl rfl ?_
  refine z_iload_n hX.1 2 dL_acts_27 rfl rfl ?_
  refine z_iload_n hX.1 3 dL_acts_28 rfl rfl ?_
  refine z_catchV (k := 3) (stk := []) hX [] ⟨0, 32, 33, 17⟩ [] (cx_X6_fill X.l hX.2.2.2.1 st a2 a3 (3, u) hf) zb_X6_fill 0 dL_acts_29 zm_416 (by decide) shC_0 rfl rfl rfl rfl ⟨by decide, by decide⟩ ⟨rfl, rfl⟩ (Nat.le_of_ble_eq_true rfl) rfl (fun z hz => absurd hz List.not_mem_nil) (by decide) (by decide) zm_603 zm_399 (fun q => ?_)
  refine z_astoreA hX.bump dL_acts_33 (by show 4 < X.nL; rw [hnl]; decide) ?_
  refine z_bipush (v := -9) hX.bump dL_acts_35 (by decide) ?_
  exact z_iret hX.bump hQ dL_acts_37 rfl
def g_L_acts2 (st : zSt) (a2 : Int32) (a3 : Int32) : Option (Int32 × zSt) := zwrap (f_X6_fill st a2 a3) (fx_X6_fill st a2 a3) zh3
theorem cg_L_acts2 (l : Launch) (hfl : l.stackTraces = false) (st : zSt) (a2 : Int32) (a3 : Int32) (out : Int32 × zSt) (hg : g_L_acts2 st a2 a3 = some out) : zMetW l yL_acts cL_acts 5 (some .int) zh_L_acts zr_L_acts 98 shC (fun ad => [.ref (ad 0), .int 2, .int a2, .int a3]) st (fun _ => some (.int out.1)) out.2 := by
  rcases zwrap_ex hg with h | ⟨⟨k, u⟩, h1, h2, h3⟩
  · exact cw_L_acts2 l hfl st a2 a3 out (by unfold f_L_acts2; rw [h]; rfl)
  · obtain ⟨v, w⟩ := out
    cases h3
    obtain ⟨e1, e2⟩ := zh3_ex h2
    cases e1
    cases e2
    exact cwx_L_acts2_3 l hfl st a2 a3 u h1
abbrev zr_L_book : Room := { frames := 9, cells := 1, slots := 6, locals := 161 }
abbrev zh_L_book : List (Nat × Nat × Nat × Nat) := [(0, 13, 14, 17)]
theorem zbW_L_book : Cond.static yL_book ∈ tables_1 ∧ Cond.initialized yL_book.cls ∈ tables_1 ∧ Cond.codeWith yL_book cL_book 8 (some .int) zh_L_book ∈ tables_1 ∧ (yL_book.cls ≠ "java/lang/invoke/MethodHandle" ∧ yL_book.cls ≠ "java/lang/invoke/VarHandle" ∧ (parseMethodDescriptor yL_book.desc).map (fun d => d.parameters.length) = some 7) := ⟨zm_636, zm_0, zm_637, by decide, by decide, rfl⟩
def f_L_book (st : zSt) (a1 : Int32) (a2 : Int32) (a3 : Int32) (a4 : Int32) (a5 : Int32) (a6 : Int32) : Option (Int32 × zSt) := ((f_X6_book st a1 a2 a3 a4 a5 a6).bind fun q1 => some (q1.1, q1.2))
set_option maxHeartbeats 4000000 in
set_option maxRecDepth 100000 in
theorem t_L_book (X : zCx) (out : Int32 × zSt) (hX : zOk X RL cL_book zr_L_book) (hQ : zPost X 98 shC (some .int) (some (.int out.1)) out.2) (hnl : X.nL = 8) (st : zSt) (a1 : Int32) (a2 : Int32) (a3 : Int32) (a4 : Int32) (a5 : Int32) (a6 : Int32) (hf : f_L_book st a1 a2 a3 a4 a5 a6 = some out) : zG 98 shC X st 0 [(0, .ref (X.ad 0)), (1, .int a1), (2, .int a2), (3, .int a3), (4, .int a4), (5, .int a5), (6, .int a6)] [] := by
  unfold f_L_book at hf
  refine z_aload_n hX 0 dL_book_0 rfl rfl ?_
  refine z_iload_n hX 1 dL_book_1 rfl rfl ?_
  refine z_iload_n hX 2 dL_book_2 rfl rfl ?_
  refine z_iload_n hX 3 dL_book_3 rfl rfl ?_
  refine z_iload hX 4 dL_book_4 rfl ?_
  refine z_iload hX 5 dL_book_6 rfl ?_
  refine z_iload hX 6 dL_book_8 rfl ?_
  obtain ⟨q1, e2, hf⟩ := zbind hf
  refine z_callV (stk := []) (stk' := [.int q1.1]) hX (c_X6_book X.l st a1 a2 a3 a4 a5 a6 q1 e2) zb_X6_book 0 dL_book_10 zm_638 (by decide) shC_0 rfl rfl rfl rfl ⟨by decide, by decide⟩ ⟨rfl, rfl⟩ (Nat.le_of_ble_eq_true rfl) rfl ?_
  obtain rfl := Option.some.inj hf
  exact z_iret hX hQ dL_book_13 rfl
theorem cw_L_book (l : Launch) (hfl : l.stackTraces = false) (st : zSt) (a1 : Int32) (a2 : Int32) (a3 : Int32) (a4 : Int32) (a5 : Int32) (a6 : Int32) (out : Int32 × zSt) (hf : f_L_book st a1 a2 a3 a4 a5 a6 = some out) : zMetW l yL_book cL_book 8 (some .int) zh_L_book zr_L_book 98 shC (fun ad => [.ref (ad 0), .int a1, .int a2, .int a3, .int a4, .int a5, .int a6]) st (fun _ => some (.int out.1)) out.2 :=
  zmetW_of hfl zm_637 (by decide) (fun _ => Nat.le_of_ble_eq_true rfl) (by decide) (fun X _ hnl hX hQ => z_widen (t_L_book (zbump X) out hX.bump hQ hnl st a1 a2 a3 a4 a5 a6 hf))
set_option maxHeartbeats 4000000 in
set_option maxRecDepth 100000 in
theorem cwx_L_book_3 (l : Launch) (hfl : l.stackTraces = false) (st : zSt) (a1 : Int32) (a2 : Int32) (a3 : Int32) (a4 : Int32) (a5 : Int32) (a6 : Int32) (u : zSt) (hf : fx_X6_book st a1 a2 a3 a4 a5 a6 = some (3, u)) : zMetW l yL_book cL_book 8 (some .int) zh_L_book zr_L_book 98 shC (fun ad => [.ref (ad 0), .int a1, .int a2, .int a3, .int a4, .int a5, .int a6]) st (fun _ => some (.int (-9))) u := by
  refine zmetW_of hfl zm_637 (by decide) (fun _ => Nat.le_of_ble_eq_true rfl) (by decide) (fun X _ hnl hX hQ => ?_)
  show zG 98 shC X st 0 [(0, .ref (X.ad 0)), (1, .int a1), (2, .int a2), (3, .int a3), (4, .int a4), (5, .int a5), (6, .int a6)] []
  refine z_aload_n hX.1 0 dL_book_0 rfl rfl ?_
  refine z_iload_n hX.1 1 dL_book_1 rfl rfl ?_
  refine z_iload_n hX.1 2 dL_book_2 rfl rfl ?_
  refine z_iload_n hX.1 3 dL_book_3 rfl rfl ?_
  refine z_iload hX.1 4 dL_book_4 rfl ?_
  refine z_iload hX.1 5 dL_book_6 rfl ?_
  refine z_iload hX.1 6 dL_book_8 rfl ?_
  refine z_catchV (k := 3) (stk := []) hX [] ⟨0, 13, 14, 17⟩ [] (cx_X6_book X.l hX.2.2.2.1 st a1 a2 a3 a4 a5 a6 (3, u) hf) zb_X6_book 0 dL_book_10 zm_638 (by decide) shC_0 rfl rfl rfl rfl ⟨by decide, by decide⟩ ⟨rfl, rfl⟩ (Nat.le_of_ble_eq_true rfl) rfl (fun z hz => absurd hz List.not_mem_nil) (by decide) (by decide) zm_603 zm_399 (fun q => ?_)
  refine z_astoreA hX.bump dL_book_14 (by show 7 < X.nL; rw [hnl]; decide) ?_
  refine z_bipush (v := -9) hX.bump dL_book_16 (by decide) ?_
  exact z_iret hX.bump hQ dL_book_18 rfl
def g_L_book (st : zSt) (a1 : Int32) (a2 : Int32) (a3 : Int32) (a4 : Int32) (a5 : Int32) (a6 : Int32) : Option (Int32 × zSt) := zwrap (f_X6_book st a1 a2 a3 a4 a5 a6) (fx_X6_book st a1 a2 a3 a4 a5 a6) zh3
theorem cg_L_book (l : Launch) (hfl : l.stackTraces = false) (st : zSt) (a1 : Int32) (a2 : Int32) (a3 : Int32) (a4 : Int32) (a5 : Int32) (a6 : Int32) (out : Int32 × zSt) (hg : g_L_book st a1 a2 a3 a4 a5 a6 = some out) : zMetW l yL_book cL_book 8 (some .int) zh_L_book zr_L_book 98 shC (fun ad => [.ref (ad 0), .int a1, .int a2, .int a3, .int a4, .int a5, .int a6]) st (fun _ => some (.int out.1)) out.2 := by
  rcases zwrap_ex hg with h | ⟨⟨k, u⟩, h1, h2, h3⟩
  · exact cw_L_book l hfl st a1 a2 a3 a4 a5 a6 out (by unfold f_L_book; rw [h]; rfl)
  · obtain ⟨v, w⟩ := out
    cases h3
    obtain ⟨e1, e2⟩ := zh3_ex h2
    cases e1
    cases e2
    exact cwx_L_book_3 l hfl st a1 a2 a3 a4 a5 a6 u h1
