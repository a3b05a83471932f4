/-! the law's own small methods -/
theorem zb_L_cell : zCalS yL_cell cL_cell 2 (some .int) 2 := ⟨zm_596, zm_0, zm_597, by decide, by decide, rfl⟩
abbrev zr_L_cell : Room := { frames := 0, cells := 0, slots := 0, locals := 0 }
def f_L_cell (L : Nat) (xs : Nat → Int32) (st : zSt) (k : Int32) : Option (Int32 × zSt) := if nI L ≤ k then some (40503 * k + 977, st) else if zin k L then some (xs k.toNatClampNeg, st) else none
set_option maxHeartbeats 4000000 in
theorem c_L_cell (l : Launch) {n : Nat} {sh : Nat → zShp} {b L : Nat} {xs : Nat → Int32} (st : zSt) (k : Int32) (out : Int32 × zSt) (hf : f_L_cell L xs st k = some out) : zMetS l yL_cell cL_cell 2 (some .int) zr_L_cell n sh b L xs (fun _ => [.ref b, .int k]) st (fun _ => some (.int out.1)) out.2 := by
  refine zmetS_of (by decide +kernel) (fun _ => Nat.le_of_ble_eq_true rfl) (fun X _ hnl hX hs hQ => ?_)
  show zG n sh X st 0 [(0, .ref b), (1, .int k)] []
  unfold f_L_cell at hf
  refine z_iload_n hX 1 dL_cell_0 rfl rfl ?_
  refine z_aload_n hX 0 dL_cell_1 rfl rfl ?_
  refine z_slen hX hs dL_cell_2 ?_
  refine z_icmp_ge hX 12 dL_cell_3 (by decide) (fun c => ?_) (fun c => ?_)
  · have hf := (if_pos c).symm.trans hf
    obtain rfl := Option.some.inj hf
    refine z_ldci (v := 40503) hX dL_cell_12 zm_598 ?_
    refine z_iload_n hX 1 dL_cell_14 rfl rfl ?_
    refine z_imul hX dL_cell_15 ?_
    refine z_sipush (v := 977) hX dL_cell_16 (by decide) ?_
    refine z_iadd hX dL_cell_19 ?_
    exact z_iret hX hQ dL_cell_20 rfl
  · have hf := (if_neg c).symm.trans hf
    obtain ⟨i, hf⟩ := zifd hf
    obtain rfl := Option.some.inj hf
    refine z_aload_n hX 0 dL_cell_6 rfl rfl ?_
    refine z_iload_n hX 1 dL_cell_7 rfl rfl ?_
    refine z_sld hX hs dL_cell_8 i rfl ?_
    refine z_goto hX 20 dL_cell_9 (by decide) ?_
    exact z_iret hX hQ dL_cell_20 rfl
theorem z_callCell {X : zCx} {own : String} {cc : ByteArray} {rm : Room} {pc index : Nat} {lv : List (Nat × Value)} {stk : List Value} {n : Nat} {sh : Nat → zShp} {st : zSt} {b L : Nat} {xs : Nat → Int32} {k : Int32} {out : Int32 × zSt} (hX : zOk X own cc rm) (hs : zScr X b L xs) (hf : f_L_cell L xs st k = some out) (hy : zCalS yL_cell cL_cell 2 (some .int) 2) (hdg : decode cc pc = .ok (.invokestatic index, 3)) (hw : Cond.methodLink own index yL_cell ∈ tables_1) (hst : [.int k, .ref b] ++ stk = .int k :: .ref b :: stk) (hR : 1 ≤ rm.frames ∧ 21 ≤ rm.locals) (hcat : (stk.map fun v => v.category).sum ≤ 8) (kk : zG n sh X out.2 (pc + 3) lv (.int out.1 :: stk)) : zG n sh X st pc lv (.int k :: .ref b :: stk) :=
  z_callSS (stk := stk) (stk' := .int out.1 :: stk) hX hs (c_L_cell X.l st k out hf) hy hdg hw rfl hst.symm rfl hR ⟨rfl, rfl⟩ hcat rfl kk
abbrev zr_L_low : Room := { frames := 0, cells := 0, slots := 0, locals := 0 }
def f_L_low (st : zSt) (a0 : Int32) (a1 : Int32) : Option (Int32 × zSt) := (if ¬ a1 = 0 then some (((a0 &&& 2147483647) - (a0 &&& 2147483647) / a1 * a1), st) else none)
set_option maxHeartbeats 4000000 in
set_option maxRecDepth 100000 in
theorem t_L_low (X : zCx) (out : Int32 × zSt) (hX : zOk X RL cL_low zr_L_low) (hQ : zPost X 98 shC (some .int) (some (.int out.1)) out.2) (hnl : X.nL = 2) (st : zSt) (a0 : Int32) (a1 : Int32) (hf : f_L_low st a0 a1 = some out) : zG 98 shC X st 0 [(0, .int a0), (1, .int a1)] [] := by
  unfold f_L_low at hf
  refine z_iload_n hX 0 dL_low_0 rfl rfl ?_
  refine z_ldci (v := 2147483647) hX dL_low_1 zm_594 ?_
  refine z_iand hX dL_low_3 ?_
  refine z_iload_n hX 1 dL_low_4 rfl rfl ?_
  obtain ⟨i1, hf⟩ := zifd hf
  refine z_irem hX dL_low_5 i1 ?_
  obtain rfl := Option.some.inj hf
  exact z_iret hX hQ dL_low_6 rfl
theorem zb_L_low : zCalS yL_low cL_low 2 (some .int) 2 := ⟨zm_592, zm_0, zm_593, by decide, by decide, rfl⟩
theorem c_L_low (l : Launch) (st : zSt) (a0 : Int32) (a1 : Int32) (out : Int32 × zSt) (hf : f_L_low st a0 a1 = some out) : zMet l yL_low cL_low 2 (some .int) zr_L_low 98 shC (fun ad => [.int a0, .int a1]) st (fun ad => some (.int out.1)) out.2 :=
  zmet_of (by decide +kernel) (fun _ => Nat.le_of_ble_eq_true rfl) (fun X _ hnl hX hQ => t_L_low X out hX hQ hnl st a0 a1 hf)
abbrev zr_L_sailing : Room := { frames := 3, cells := 0, slots := 0, locals := 66 }
def f_L_sailing_48  (st : zSt) (v1 : Int32) (v2 : Int32) (v3 : Int32) (v4 : Int32) : Option (Int32 × zSt) := (if v2 = 2 then ((f_X6_list st v1).bind fun q11 => (if v4 = 0 then some (0, q11.2) else (if q11.1 < (-20) then some (0, q11.2) else (if 20 < q11.1 then some (0, q11.2) else (if v3 < (-1) then some (0, q11.2) else (if 12 ≤ v3 then some (0, q11.2) else some (1, q11.2))))))) else (if v4 = 0 then some (0, st) else ((f_X6_taken st v1).bind fun q19 => (if q19.1 = 0 then (if v3 = (-1) then some (1, q19.2) else some (0, q19.2)) else some (0, q19.2)))))
def f_L_sailing_41  (st : zSt) (v1 : Int32) (v2 : Int32) (v3 : Int32) : Option (Int32 × zSt) := f_L_sailing_48 st v1 v2 v3 1
def f_L_sailing_45  (st : zSt) (v1 : Int32) (v2 : Int32) (v3 : Int32) : Option (Int32 × zSt) := f_L_sailing_48 st v1 v2 v3 0
def f_L_sailing (st : zSt) (a1 : Int32) : Option (Int32 × zSt) := ((f_X6_state st a1).bind fun q1 => ((f_X6_busAfter q1.2 a1).bind fun q3 => (if q1.1 = 0 then f_L_sailing_41 q3.2 a1 q1.1 q3.1 else (if q1.1 = 2 then f_L_sailing_41 q3.2 a1 q1.1 q3.1 else (if (q1.1 - q1.1 / 10 * 10) = 1 then (if q1.1 < 11 then f_L_sailing_45 q3.2 a1 q1.1 q3.1 else (if 71 < q1.1 then f_L_sailing_45 q3.2 a1 q1.1 q3.1 else f_L_sailing_41 q3.2 a1 q1.1 q3.1)) else f_L_sailing_45 q3.2 a1 q1.1 q3.1)))))
set_option maxHeartbeats 4000000 in
set_option maxRecDepth 100000 in
theorem t_L_sailing_48 (X : zCx) (out : Int32 × zSt) (hX : zOk X RL cL_sailing zr_L_sailing) (hQ : zPost X 98 shC (some .boolean) (some (.int out.1)) out.2) (hnl : X.nL = 6) (st : zSt) (v1 : Int32) (v2 : Int32) (v3 : Int32) (v4 : Int32) (hf : f_L_sailing_48  st v1 v2 v3 v4 = some out) : zG 98 shC X st 48 [(0, .ref (X.ad 0)), (1, .int v1), (2, .int v2), (3, .int v3), (4, .int v4)] [] := by
  unfold f_L_sailing_48 at hf
  refine z_iload_n hX 2 dL_sailing_48 rfl rfl ?_
  refine z_iconst (v := 2) hX dL_sailing_49 (by decide) ?_
  refine z_icmp_eq hX 77 dL_sailing_50 (by decide) (fun c10 => ?_) (fun c10 => ?_)
  · have hf := (if_pos c10).symm.trans hf
    refine z_aload_n hX 0 dL_sailing_77 rfl rfl ?_
    refine z_iload_n hX 1 dL_sailing_78 rfl rfl ?_
    obtain ⟨q11, e12, hf⟩ := zbind hf
    refine z_callV (stk := []) (stk' := [.int q11.1]) hX (c_X6_list X.l st v1 q11 e12) zb_X6_list 0 dL_sailing_79 zm_685 (by decide) shC_0 rfl rfl rfl rfl ⟨by decide, by decide⟩ ⟨rfl, rfl⟩ (Nat.le_of_ble_eq_true rfl) rfl ?_
    refine z_istore hX [(0, .ref (X.ad 0)), (1, .int v1), (2, .int v2), (3, .int v3), (4, .int v4), (5, .int q11.1)] dL_sailing_82 (by rw [hnl]; decide) [1, 2, 3, 4, 5, 0] rfl ?_
    refine z_iload hX 4 dL_sailing_84 rfl ?_
    refine z_if_eq hX 118 dL_sailing_86 (by decide) (fun c13 => ?_) (fun c13 => ?_)
    · have hf := (if_pos c13).symm.trans hf
      refine z_iconst (v := 0) hX dL_sailing_118 (by decide) ?_
      obtain rfl := Option.some.inj hf
      exact z_iret hX hQ dL_sailing_119 rfl
    have hf := (if_neg c13).symm.trans hf
    refine z_iload hX 5 dL_sailing_89 rfl ?_
    refine z_bipush (v := (-20)) hX dL_sailing_91 (by decide) ?_
    refine z_icmp_lt hX 118 dL_sailing_93 (by decide) (fun c14 => ?_) (fun c14 => ?_)
    · have hf := (if_pos c14).symm.trans hf
      refine z_iconst (v := 0) hX dL_sailing_118 (by decide) ?_
      obtain rfl := Option.some.inj hf
      exact z_iret hX hQ dL_sailing_119 rfl
    have hf := (if_neg c14).symm.trans hf
    refine z_iload hX 5 dL_sailing_96 rfl ?_
    refine z_bipush (v := 20) hX dL_sailing_98 (by decide) ?_
    refine z_icmp_gt hX 118 dL_sailing_100 (by decide) (fun c15 => ?_) (fun c15 => ?_)
    · have hf := (if_pos c15).symm.trans hf
      refine z_iconst (v := 0) hX dL_sailing_118 (by decide) ?_
      obtain rfl := Option.some.inj hf
      exact z_iret hX hQ dL_sailing_119 rfl
    have hf := (if_neg c15).symm.trans hf
    refine z_iload_n hX 3 dL_sailing_103 rfl rfl ?_
    refine z_iconst (v := (-1)) hX dL_sailing_104 (by decide) ?_
    refine z_icmp_lt hX 118 dL_sailing_105 (by decide) (fun c16 => ?_) (fun c16 => ?_)
    · have hf := (if_pos c16).symm.trans hf
      refine z_iconst (v := 0) hX dL_sailing_118 (by decide) ?_
      obtain rfl := Option.some.inj hf
      exact z_iret hX hQ dL_sailing_119 rfl
    have hf := (if_neg c16).symm.trans hf
    refine z_iload_n hX 3 dL_sailing_108 rfl rfl ?_
    refine z_bipush (v := 12) hX dL_sailing_109 (by decide) ?_
    refine z_icmp_ge hX 118 dL_sailing_111 (by decide) (fun c17 => ?_) (fun c17 => ?_)
    · have hf := (if_pos c17).symm.trans hf
      refine z_iconst (v := 0) hX dL_sailing_118 (by decide) ?_
      obtain rfl := Option.some.inj hf
      exact z_iret hX hQ dL_sailing_119 rfl
    have hf := (if_neg c17).symm.trans hf
    refine z_iconst (v := 1) hX dL_sailing_114 (by decide) ?_
    refine z_goto hX 119 dL_sailing_115 (by decide) ?_
    obtain rfl := Option.some.inj hf
    exact z_iret hX hQ dL_sailing_119 rfl
  have hf := (if_neg c10).symm.trans hf
  refine z_iload hX 4 dL_sailing_53 rfl ?_
  refine z_if_eq hX 75 dL_sailing_55 (by decide) (fun c18 => ?_) (fun c18 => ?_)
  · have hf := (if_pos c18).symm.trans hf
    refine z_iconst (v := 0) hX dL_sailing_75 (by decide) ?_
    obtain rfl := Option.some.inj hf
    exact z_iret hX hQ dL_sailing_76 rfl
  have hf := (if_neg c18).symm.trans hf
  refine z_aload_n hX 0 dL_sailing_58 rfl rfl ?_
  refine z_iload_n hX 1 dL_sailing_59 rfl rfl ?_
  obtain ⟨q19, e20, hf⟩ := zbind hf
  refine z_callV (stk := []) (stk' := [.int q19.1]) hX (c_X6_taken X.l st v1 q19 e20) zb_X6_taken 0 dL_sailing_60 zm_681 (by decide) shC_0 rfl rfl rfl rfl ⟨by decide, by decide⟩ ⟨rfl, rfl⟩ (Nat.le_of_ble_eq_true rfl) rfl ?_
  refine z_if_ne hX 75 dL_sailing_63 (by decide) (fun c21 => ?_) (fun c21 => ?_)
  · have hf := (if_neg c21).symm.trans hf
    refine z_iconst (v := 0) hX dL_sailing_75 (by decide) ?_
    obtain rfl := Option.some.inj hf
    exact z_iret hX hQ dL_sailing_76 rfl
  have hf := (if_pos c21).symm.trans hf
  refine z_iload_n hX 3 dL_sailing_66 rfl rfl ?_
  refine z_iconst (v := (-1)) hX dL_sailing_67 (by decide) ?_
  refine z_icmp_ne hX 75 dL_sailing_68 (by decide) (fun c22 => ?_) (fun c22 => ?_)
  · have hf := (if_neg c22).symm.trans hf
    refine z_iconst (v := 0) hX dL_sailing_75 (by decide) ?_
    obtain rfl := Option.some.inj hf
    exact z_iret hX hQ dL_sailing_76 rfl
  have hf := (if_pos c22).symm.trans hf
  refine z_iconst (v := 1) hX dL_sailing_71 (by decide) ?_
  refine z_goto hX 76 dL_sailing_72 (by decide) ?_
  obtain rfl := Option.some.inj hf
  exact z_iret hX hQ dL_sailing_76 rfl
set_option maxHeartbeats 4000000 in
set_option maxRecDepth 100000 in
theorem t_L_sailing_41 (X : zCx) (out : Int32 × zSt) (hX : zOk X RL cL_sailing zr_L_sailing) (hQ : zPost X 98 shC (some .boolean) (some (.int out.1)) out.2) (hnl : X.nL = 6) (st : zSt) (v1 : Int32) (v2 : Int32) (v3 : Int32) (hf : f_L_sailing_41  st v1 v2 v3 = some out) : zG 98 shC X st 41 [(0, .ref (X.ad 0)), (1, .int v1), (2, .int v2), (3, .int v3)] [] := by
  unfold f_L_sailing_41 at hf
  refine z_iconst (v := 1) hX dL_sailing_41 (by decide) ?_
  refine z_goto hX 46 dL_sailing_42 (by decide) ?_
  refine z_istore hX [(0, .ref (X.ad 0)), (1, .int v1), (2, .int v2), (3, .int v3), (4, .int 1)] dL_sailing_46 (by rw [hnl]; decide) [1, 2, 3, 4, 0] rfl ?_
  exact t_L_sailing_48 X out hX hQ hnl st v1 v2 v3 1 hf
set_option maxHeartbeats 4000000 in
set_option maxRecDepth 100000 in
theorem t_L_sailing_45 (X : zCx) (out : Int32 × zSt) (hX : zOk X RL cL_sailing zr_L_sailing) (hQ : zPost X 98 shC (some .boolean) (some (.int out.1)) out.2) (hnl : X.nL = 6) (st : zSt) (v1 : Int32) (v2 : Int32) (v3 : Int32) (hf : f_L_sailing_45  st v1 v2 v3 = some out) : zG 98 shC X st 45 [(0, .ref (X.ad 0)), (1, .int v1), (2, .int v2), (3, .int v3)] [] := by
  unfold f_L_sailing_45 at hf
  refine z_iconst (v := 0) hX dL_sailing_45 (by decide) ?_
  refine z_istore hX [(0, .ref (X.ad 0)), (1, .int v1), (2, .int v2), (3, .int v3), (4, .int 0)] dL_sailing_46 (by rw [hnl]; decide) [1, 2, 3, 4, 0] rfl ?_
  exact t_L_sailing_48 X out hX hQ hnl st v1 v2 v3 0 hf
set_option maxHeartbeats 4000000 in
set_option maxRecDepth 100000 in
theorem t_L_sailing (X : zCx) (out : Int32 × zSt) (hX : zOk X RL cL_sailing zr_L_sailing) (hQ : zPost X 98 shC (some .boolean) (some (.int out.1)) out.2) (hnl : X.nL = 6) (st : zSt) (a1 : Int32) (hf : f_L_sailing st a1 = some out) : zG 98 shC X st 0 [(0, .ref (X.ad 0)), (1, .int a1)] [] := by
  unfold f_L_sailing at hf
  refine z_aload_n hX 0 dL_sailing_0 rfl rfl ?_
  refine z_iload_n hX 1 dL_sailing_1 rfl rfl ?_
  obtain ⟨q1, e2, hf⟩ := zbind hf
  refine z_callV (stk := []) (stk' := [.int q1.1]) hX (c_X6_state X.l st a1 q1 e2) zb_X6_state 0 dL_sailing_2 zm_571 (by decide) shC_0 rfl rfl rfl rfl ⟨by decide, by decide⟩ ⟨rfl, rfl⟩ (Nat.le_of_ble_eq_true rfl) rfl ?_
  refine z_istore_n hX [(0, .ref (X.ad 0)), (1, .int a1), (2, .int q1.1)] dL_sailing_5 rfl (by rw [hnl]; decide) [1, 2, 0] rfl ?_
  refine z_aload_n hX 0 dL_sailing_6 rfl rfl ?_
  refine z_iload_n hX 1 dL_sailing_7 rfl rfl ?_
  obtain ⟨q3, e4, hf⟩ := zbind hf
  refine z_callV (stk := []) (stk' := [.int q3.1]) hX (c_X6_busAfter X.l q1.2 a1 q3 e4) zb_X6_busAfter 0 dL_sailing_8 zm_674 (by decide) shC_0 rfl rfl rfl rfl ⟨by decide, by decide⟩ ⟨rfl, rfl⟩ (Nat.le_of_ble_eq_true rfl) rfl ?_
  refine z_istore_n hX [(0, .ref (X.ad 0)), (1, .int a1), (2, .int q1.1), (3, .int q3.1)] dL_sailing_11 rfl (by rw [hnl]; decide) [1, 2, 3, 0] rfl ?_
  refine z_iload_n hX 2 dL_sailing_12 rfl rfl ?_
  refine z_if_eq hX 41 dL_sailing_13 (by decide) (fun c5 => ?_) (fun c5 => ?_)
  · have hf := (if_pos c5).symm.trans hf
    exact t_L_sailing_41 X out hX hQ hnl q3.2 a1 q1.1 q3.1 hf
  have hf := (if_neg c5).symm.trans hf
  refine z_iload_n hX 2 dL_sailing_16 rfl rfl ?_
  refine z_iconst (v := 2) hX dL_sailing_17 (by decide) ?_
  refine z_icmp_eq hX 41 dL_sailing_18 (by decide) (fun c6 => ?_) (fun c6 => ?_)
  · have hf := (if_pos c6).symm.trans hf
    exact t_L_sailing_41 X out hX hQ hnl q3.2 a1 q1.1 q3.1 hf
  have hf := (if_neg c6).symm.trans hf
  refine z_iload_n hX 2 dL_sailing_21 rfl rfl ?_
  refine z_bipush (v := 10) hX dL_sailing_22 (by decide) ?_
  refine z_irem hX dL_sailing_24 (by decide) ?_
  refine z_iconst (v := 1) hX dL_sailing_25 (by decide) ?_
  refine z_icmp_ne hX 45 dL_sailing_26 (by decide) (fun c7 => ?_) (fun c7 => ?_)
  · have hf := (if_neg c7).symm.trans hf
    exact t_L_sailing_45 X out hX hQ hnl q3.2 a1 q1.1 q3.1 hf
  have hf := (if_pos c7).symm.trans hf
  refine z_iload_n hX 2 dL_sailing_29 rfl rfl ?_
  refine z_bipush (v := 11) hX dL_sailing_30 (by decide) ?_
  refine z_icmp_lt hX 45 dL_sailing_32 (by decide) (fun c8 => ?_) (fun c8 => ?_)
  · have hf := (if_pos c8).symm.trans hf
    exact t_L_sailing_45 X out hX hQ hnl q3.2 a1 q1.1 q3.1 hf
  have hf := (if_neg c8).symm.trans hf
  refine z_iload_n hX 2 dL_sailing_35 rfl rfl ?_
  refine z_bipush (v := 71) hX dL_sailing_36 (by decide) ?_
  refine z_icmp_gt hX 45 dL_sailing_38 (by decide) (fun c9 => ?_) (fun c9 => ?_)
  · have hf := (if_pos c9).symm.trans hf
    exact t_L_sailing_45 X out hX hQ hnl q3.2 a1 q1.1 q3.1 hf
  have hf := (if_neg c9).symm.trans hf
  exact t_L_sailing_41 X out hX hQ hnl q3.2 a1 q1.1 q3.1 hf
theorem zb_L_sailing : zCalS yL_sailing cL_sailing 6 (some .boolean) 2 := ⟨zm_672, zm_0, zm_673, by decide, by decide, rfl⟩
theorem c_L_sailing (l : Launch) (st : zSt) (a1 : Int32) (out : Int32 × zSt) (hf : f_L_sailing st a1 = some out) : zMet l yL_sailing cL_sailing 6 (some .boolean) zr_L_sailing 98 shC (fun ad => [.ref (ad 0), .int a1]) st (fun ad => some (.int out.1)) out.2 :=
  zmet_of (by decide +kernel) (fun _ => Nat.le_of_ble_eq_true rfl) (fun X _ hnl hX hQ => t_L_sailing X out hX hQ hnl st a1 hf)
abbrev zr_L_booking : Room := { frames := 3, cells := 0, slots := 0, locals := 64 }
def f_L_booking_78  (st : zSt) (v2 : Int32) : Option (Int32 × zSt) := (if v2 = (-1) then some (1, st) else ((f_X6_state st v2).bind fun q22 => (if q22.1 = 0 then some (1, q22.2) else ((f_X6_state q22.2 v2).bind fun q25 => (if q25.1 = 2 then some (1, q25.2) else some (0, q25.2))))))
def f_L_booking_59  (st : zSt) (v2 : Int32) (v3 : Int32) (v5 : Int32) : Option (Int32 × zSt) := (if v5 = 0 then some (0, st) else (if v3 = (-1) then f_L_booking_78 st v2 else ((f_X6_state st v2).bind fun q18 => (if q18.1 = 2 then f_L_booking_78 q18.2 v2 else some (0, q18.2)))))
def f_L_booking_56  (st : zSt) (v2 : Int32) (v3 : Int32) : Option (Int32 × zSt) := f_L_booking_59 st v2 v3 0
def f_L_booking_42  (st : zSt) (v2 : Int32) (v3 : Int32) : Option (Int32 × zSt) := (if v3 < (-1) then f_L_booking_56 st v2 v3 else (if 4 ≤ v3 then f_L_booking_56 st v2 v3 else f_L_booking_59 st v2 v3 1))
def f_L_booking (st : zSt) (a1 : Int32) : Option (Int32 × zSt) := ((f_X6_sailingOf st a1).bind fun q1 => ((f_X6_lane q1.2 a1).bind fun q3 => ((f_X6_paid q3.2 a1).bind fun q5 => (if q1.1 = (-1) then (if q5.1 = 0 then f_L_booking_42 q5.2 q1.1 q3.1 else f_L_booking_56 q5.2 q1.1 q3.1) else (if q5.1 = 0 then f_L_booking_56 q5.2 q1.1 q3.1 else f_L_booking_42 q5.2 q1.1 q3.1)))))
set_option maxHeartbeats 4000000 in
set_option maxRecDepth 100000 in
theorem t_L_booking_78 (X : zCx) (out : Int32 × zSt) (hX : zOk X RL cL_booking zr_L_booking) (hQ : zPost X 98 shC (some .boolean) (some (.int out.1)) out.2) (hnl : X.nL = 6) (st : zSt) (v2 : Int32) (hf : f_L_booking_78  st v2 = some out) : zG 98 shC X st 78 [(0, .ref (X.ad 0)), (2, .int v2)] [] := by
  unfold f_L_booking_78 at hf
  refine z_iload_n hX 1 dL_booking_78 rfl rfl ?_
  refine z_iconst (v := (-1)) hX dL_booking_79 (by decide) ?_
  refine z_icmp_eq hX 100 dL_booking_80 (by decide) (fun c21 => ?_) (fun c21 => ?_)
  · have hf := (if_pos c21).symm.trans hf
    refine z_iconst (v := 1) hX dL_booking_100 (by decide) ?_
    refine z_goto hX 105 dL_booking_101 (by decide) ?_
    obtain rfl := Option.some.inj hf
    exact z_iret hX hQ dL_booking_105 rfl
  have hf := (if_neg c21).symm.trans hf
  refine z_aload_n hX 0 dL_booking_83 rfl rfl ?_
  refine z_iload_n hX 1 dL_booking_84 rfl rfl ?_
  obtain ⟨q22, e23, hf⟩ := zbind hf
  refine z_callV (stk := []) (stk' := [.int q22.1]) hX (c_X6_state X.l st v2 q22 e23) zb_X6_state 0 dL_booking_85 zm_571 (by decide) shC_0 rfl rfl rfl rfl ⟨by decide, by decide⟩ ⟨rfl, rfl⟩ (Nat.le_of_ble_eq_true rfl) rfl ?_
  refine z_if_eq hX 100 dL_booking_88 (by decide) (fun c24 => ?_) (fun c24 => ?_)
  · have hf := (if_pos c24).symm.trans hf
    refine z_iconst (v := 1) hX dL_booking_100 (by decide) ?_
    refine z_goto hX 105 dL_booking_101 (by decide) ?_
    obtain rfl := Option.some.inj hf
    exact z_iret hX hQ dL_booking_105 rfl
  have hf := (if_neg c24).symm.trans hf
  refine z_aload_n hX 0 dL_booking_91 rfl rfl ?_
  refine z_iload_n hX 1 dL_booking_92 rfl rfl ?_
  obtain ⟨q25, e26, hf⟩ := zbind hf
  refine z_callV (stk := []) (stk' := [.int q25.1]) hX (c_X6_state X.l q22.2 v2 q25 e26) zb_X6_state 0 dL_booking_93 zm_571 (by decide) shC_0 rfl rfl rfl rfl ⟨by decide, by decide⟩ ⟨rfl, rfl⟩ (Nat.le_of_ble_eq_true rfl) rfl ?_
  refine z_iconst (v := 2) hX dL_booking_96 (by decide) ?_
  refine z_icmp_ne hX 104 dL_booking_97 (by decide) (fun c27 => ?_) (fun c27 => ?_)
  · have hf := (if_neg c27).symm.trans hf
    refine z_iconst (v := 0) hX dL_booking_104 (by decide) ?_
    obtain rfl := Option.some.inj hf
    exact z_iret hX hQ dL_booking_105 rfl
  have hf := (if_pos c27).symm.trans hf
  refine z_iconst (v := 1) hX dL_booking_100 (by decide) ?_
  refine z_goto hX 105 dL_booking_101 (by decide) ?_
  obtain rfl := Option.some.inj hf
  exact z_iret hX hQ dL_booking_105 rfl
set_option maxHeartbeats 4000000 in
set_option maxRecDepth 100000 in
theorem t_L_booking_59 (X : zCx) (out : Int32 × zSt) (hX : zOk X RL cL_booking zr_L_booking) (hQ : zPost X 98 shC (some .boolean) (some (.int out.1)) out.2) (hnl : X.nL = 6) (st : zSt) (v2 : Int32) (v3 : Int32) (v5 : Int32) (hf : f_L_booking_59  st v2 v3 v5 = some out) : zG 98 shC X st 59 [(0, .ref (X.ad 0)), (2, .int v2), (3, .int v3), (5, .int v5)] [] := by
  unfold f_L_booking_59 at hf
  refine z_iload hX 3 dL_booking_59 rfl ?_
  refine z_if_eq hX 104 dL_booking_61 (by decide) (fun c16 => ?_) (fun c16 => ?_)
  · have hf := (if_pos c16).symm.trans hf
    refine z_iconst (v := 0) hX dL_booking_104 (by decide) ?_
    obtain rfl := Option.some.inj hf
    exact z_iret hX hQ dL_booking_105 rfl
  have hf := (if_neg c16).symm.trans hf
  refine z_iload_n hX 2 dL_booking_64 rfl rfl ?_
  refine z_iconst (v := (-1)) hX dL_booking_65 (by decide) ?_
  refine z_icmp_eq hX 78 dL_booking_66 (by decide) (fun c17 => ?_) (fun c17 => ?_)
  · have hf := (if_pos c17).symm.trans hf
    refine z_locals [0, 1] [(0, .ref (X.ad 0)), (2, .int v2)] rfl ?_
    exact t_L_booking_78 X out hX hQ hnl st v2 hf
  have hf := (if_neg c17).symm.trans hf
  refine z_aload_n hX 0 dL_booking_69 rfl rfl ?_
  refine z_iload_n hX 1 dL_booking_70 rfl rfl ?_
  obtain ⟨q18, e19, hf⟩ := zbind hf
  refine z_callV (stk := []) (stk' := [.int q18.1]) hX (c_X6_state X.l st v2 q18 e19) zb_X6_state 0 dL_booking_71 zm_571 (by decide) shC_0 rfl rfl rfl rfl ⟨by decide, by decide⟩ ⟨rfl, rfl⟩ (Nat.le_of_ble_eq_true rfl) rfl ?_
  refine z_iconst (v := 2) hX dL_booking_74 (by decide) ?_
  refine z_icmp_ne hX 104 dL_booking_75 (by decide) (fun c20 => ?_) (fun c20 => ?_)
  · have hf := (if_neg c20).symm.trans hf
    refine z_iconst (v := 0) hX dL_booking_104 (by decide) ?_
    obtain rfl := Option.some.inj hf
    exact z_iret hX hQ dL_booking_105 rfl
  have hf := (if_pos c20).symm.trans hf
  refine z_locals [0, 1] [(0, .ref (X.ad 0)), (2, .int v2)] rfl ?_
  exact t_L_booking_78 X out hX hQ hnl q18.2 v2 hf
set_option maxHeartbeats 4000000 in
set_option maxRecDepth 100000 in
theorem t_L_booking_56 (X : zCx) (out : Int32 × zSt) (hX : zOk X RL cL_booking zr_L_booking) (hQ : zPost X 98 shC (some .boolean) (some (.int out.1)) out.2) (hnl : X.nL = 6) (st : zSt) (v2 : Int32) (v3 : Int32) (hf : f_L_booking_56  st v2 v3 = some out) : zG 98 shC X st 56 [(0, .ref (X.ad 0)), (2, .int v2), (3, .int v3)] [] := by
  unfold f_L_booking_56 at hf
  refine z_iconst (v := 0) hX dL_booking_56 (by decide) ?_
  refine z_istore hX [(0, .ref (X.ad 0)), (2, .int v2), (3, .int v3), (5, .int 0)] dL_booking_57 (by rw [hnl]; decide) [1, 2, 3, 0] rfl ?_
  exact t_L_booking_59 X out hX hQ hnl st v2 v3 0 hf
set_option maxHeartbeats 4000000 in
set_option maxRecDepth 100000 in
theorem t_L_booking_42 (X : zCx) (out : Int32 × zSt) (hX : zOk X RL cL_booking zr_L_booking) (hQ : zPost X 98 shC (some .boolean) (some (.int out.1)) out.2) (hnl : X.nL = 6) (st : zSt) (v2 : Int32) (v3 : Int32) (hf : f_L_booking_42  st v2 v3 = some out) : zG 98 shC X st 42 [(0, .ref (X.ad 0)), (2, .int v2), (3, .int v3)] [] := by
  unfold f_L_booking_42 at hf
  refine z_iload_n hX 2 dL_booking_42 rfl rfl ?_
  refine z_iconst (v := (-1)) hX dL_booking_43 (by decide) ?_
  refine z_icmp_lt hX 56 dL_booking_44 (by decide) (fun c14 => ?_) (fun c14 => ?_)
  · have hf := (if_pos c14).symm.trans hf
    exact t_L_booking_56 X out hX hQ hnl st v2 v3 hf
  have hf := (if_neg c14).symm.trans hf
  refine z_iload_n hX 2 dL_booking_47 rfl rfl ?_
  refine z_iconst (v := 4) hX dL_booking_48 (by decide) ?_
  refine z_icmp_ge hX 56 dL_booking_49 (by decide) (fun c15 => ?_) (fun c15 => ?_)
  · have hf := (if_pos c15).symm.trans hf
    exact t_L_booking_56 X out hX hQ hnl st v2 v3 hf
  have hf := (if_neg c15).symm.trans hf
  refine z_iconst (v := 1) hX dL_booking_52 (by decide) ?_
  refine z_goto hX 57 dL_booking_53 (by decide) ?_
  refine z_istore hX [(0, .ref (X.ad 0)), (2, .int v2), (3, .int v3), (5, .int 1)] dL_booking_57 (by rw [hnl]; decide) [1, 2, 3, 0] rfl ?_
  exact t_L_booking_59 X out hX hQ hnl st v2 v3 1 hf
set_option maxHeartbeats 4000000 in
set_option maxRecDepth 100000 in
theorem t_L_booking (X : zCx) (out : Int32 × zSt) (hX : zOk X RL cL_booking zr_L_booking) (hQ : zPost X 98 shC (some .boolean) (some (.int out.1)) out.2) (hnl : X.nL = 6) (st : zSt) (a1 : Int32) (hf : f_L_booking st a1 = some out) : zG 98 shC X st 0 [(0, .ref (X.ad 0)), (1, .int a1)] [] := by
  unfold f_L_booking at hf
  refine z_aload_n hX 0 dL_booking_0 rfl rfl ?_
  refine z_iload_n hX 1 dL_booking_1 rfl rfl ?_
  obtain ⟨q1, e2, hf⟩ := zbind hf
  refine z_callV (stk := []) (stk' := [.int q1.1]) hX (c_X6_sailingOf X.l st a1 q1 e2) zb_X6_sailingOf 0 dL_booking_2 zm_583 (by decide) shC_0 rfl rfl rfl rfl ⟨by decide, by decide⟩ ⟨rfl, rfl⟩ (Nat.le_of_ble_eq_true rfl) rfl ?_
  refine z_istore_n hX [(0, .ref (X.ad 0)), (1, .int a1), (2, .int q1.1)] dL_booking_5 rfl (by rw [hnl]; decide) [1, 2, 0] rfl ?_
  refine z_aload_n hX 0 dL_booking_6 rfl rfl ?_
  refine z_iload_n hX 1 dL_booking_7 rfl rfl ?_
  obtain ⟨q3, e4, hf⟩ := zbind hf
  refine z_callV (stk := []) (stk' := [.int q3.1]) hX (c_X6_lane X.l q1.2 a1 q3 e4) zb_X6_lane 0 dL_booking_8 zm_707 (by decide) shC_0 rfl rfl rfl rfl ⟨by decide, by decide⟩ ⟨rfl, rfl⟩ (Nat.le_of_ble_eq_true rfl) rfl ?_
  refine z_istore_n hX [(0, .ref (X.ad 0)), (1, .int a1), (2, .int q1.1), (3, .int q3.1)] dL_booking_11 rfl (by rw [hnl]; decide) [1, 2, 3, 0] rfl ?_
  refine z_aload_n hX 0 dL_booking_12 rfl rfl ?_
  refine z_iload_n hX 1 dL_booking_13 rfl rfl ?_
  obtain ⟨q5, e6, hf⟩ := zbind hf
  refine z_callV (stk := []) (stk' := [.int q5.1]) hX (c_X6_paid X.l q3.2 a1 q5 e6) zb_X6_paid 0 dL_booking_14 zm_587 (by decide) shC_0 rfl rfl rfl rfl ⟨by decide, by decide⟩ ⟨rfl, rfl⟩ (Nat.le_of_ble_eq_true rfl) rfl ?_
  refine z_istore hX [(0, .ref (X.ad 0)), (1, .int a1), (2, .int q1.1), (3, .int q3.1), (4, .int q5.1)] dL_booking_17 (by rw [hnl]; decide) [1, 2, 3, 4, 0] rfl ?_
  refine z_iload_n hX 2 dL_booking_19 rfl rfl ?_
  refine z_iconst (v := (-1)) hX dL_booking_20 (by decide) ?_
  refine z_icmp_ne hX 28 dL_booking_21 (by decide) (fun c7 => ?_) (fun c7 => ?_)
  · have hf := (if_neg c7).symm.trans hf
    refine z_iconst (v := 0) hX dL_booking_28 (by decide) ?_
    refine z_iload hX 4 dL_booking_29 rfl ?_
    refine z_if_ne hX 38 dL_booking_31 (by decide) (fun c8 => ?_) (fun c8 => ?_)
    · have hf := (if_neg c8).symm.trans hf
      refine z_iconst (v := 0) hX dL_booking_38 (by decide) ?_
      refine z_icmp_ne hX 56 dL_booking_39 (by decide) (fun c => absurd c (by decide)) (fun _ => ?_)
      refine z_locals [0, 2, 3] [(0, .ref (X.ad 0)), (2, .int q1.1), (3, .int q3.1)] rfl ?_
      exact t_L_booking_42 X out hX hQ hnl q5.2 q1.1 q3.1 hf
    have hf := (if_pos c8).symm.trans hf
    refine z_iconst (v := 1) hX dL_booking_34 (by decide) ?_
    refine z_goto hX 39 dL_booking_35 (by decide) ?_
    refine z_icmp_ne hX 56 dL_booking_39 (by decide) (fun _ => ?_) (fun c => absurd c (by decide))
    refine z_locals [0, 2, 3] [(0, .ref (X.ad 0)), (2, .int q1.1), (3, .int q3.1)] rfl ?_
    exact t_L_booking_56 X out hX hQ hnl q5.2 q1.1 q3.1 hf
  have hf := (if_pos c7).symm.trans hf
  refine z_iconst (v := 1) hX dL_booking_24 (by decide) ?_
  refine z_goto hX 29 dL_booking_25 (by decide) ?_
  refine z_iload hX 4 dL_booking_29 rfl ?_
  refine z_if_ne hX 38 dL_booking_31 (by decide) (fun c11 => ?_) (fun c11 => ?_)
  · have hf := (if_neg c11).symm.trans hf
    refine z_iconst (v := 0) hX dL_booking_38 (by decide) ?_
    refine z_icmp_ne hX 56 dL_booking_39 (by decide) (fun _ => ?_) (fun c => absurd c (by decide))
    refine z_locals [0, 2, 3] [(0, .ref (X.ad 0)), (2, .int q1.1), (3, .int q3.1)] rfl ?_
    exact t_L_booking_56 X out hX hQ hnl q5.2 q1.1 q3.1 hf
  have hf := (if_pos c11).symm.trans hf
  refine z_iconst (v := 1) hX dL_booking_34 (by decide) ?_
  refine z_goto hX 39 dL_booking_35 (by decide) ?_
  refine z_icmp_ne hX 56 dL_booking_39 (by decide) (fun c => absurd c (by decide)) (fun _ => ?_)
  refine z_locals [0, 2, 3] [(0, .ref (X.ad 0)), (2, .int q1.1), (3, .int q3.1)] rfl ?_
  exact t_L_booking_42 X out hX hQ hnl q5.2 q1.1 q3.1 hf
theorem zb_L_booking : zCalS yL_booking cL_booking 6 (some .boolean) 2 := ⟨zm_705, zm_0, zm_706, by decide, by decide, rfl⟩
theorem c_L_booking (l : Launch) (st : zSt) (a1 : Int32) (out : Int32 × zSt) (hf : f_L_booking st a1 = some out) : zMet l yL_booking cL_booking 6 (some .boolean) zr_L_booking 98 shC (fun ad => [.ref (ad 0), .int a1]) st (fun ad => some (.int out.1)) out.2 :=
  zmet_of (by decide +kernel) (fun _ => Nat.le_of_ble_eq_true rfl) (fun X _ hnl hX hQ => t_L_booking X out hX hQ hnl st a1 hf)
abbrev zr_L_all : Room := { frames := 4, cells := 0, slots := 0, locals := 91 }
def f_L_all_138  : Nat → zSt → Int32 → Int32 → Int32 → Option (Int32 × zSt)
  | 0, _, _, _, _ => none
  | n + 1, st, v2, v3, v4 => (if v2 ≤ v4 then (if v3 = 0 ∨ v3 = 1 then some (v3, st) else none) else (if v3 = 0 then (if v3 = 0 ∨ v3 = 1 then some (v3, st) else none) else ((f_L_booking st v4).bind fun q37 => f_L_all_138 n q37.2 v2 q37.1 (v4 + 1))))
def f_L_all_112  : Nat → zSt → Int32 → Int32 → Int32 → Int32 → Option (Int32 × zSt)
  | 0, _, _, _, _, _ => none
  | n + 1, st, v1, v2, v3, v4 => (if v1 ≤ v4 then f_L_all_138 64 st v2 v3 0 else (if v3 = 0 then f_L_all_138 64 st v2 v3 0 else ((f_L_sailing st v4).bind fun q31 => f_L_all_112 n q31.2 v1 v2 q31.1 (v4 + 1))))
def f_L_all_47  : Nat → zSt → Int32 → Int32 → Int32 → Int32 → Option (Int32 × zSt)
  | 0, _, _, _, _, _ => none
  | n + 1, st, v1, v2, v3, v4 => (if 2 ≤ v4 then f_L_all_112 64 st v1 v2 v3 0 else (if v3 = 0 then f_L_all_112 64 st v1 v2 v3 0 else ((f_X6_place st v4).bind fun q16 => ((f_X6_now q16.2).bind fun q18 => ((f_X6_placeByLine q18.2 v4 q18.1).bind fun q20 => (if q16.1 = q20.1 then ((f_X6_fuel q20.2 v4).bind fun q23 => (if q23.1 < 0 then f_L_all_47 n q23.2 v1 v2 0 (v4 + 1) else ((f_X6_fuel q23.2 v4).bind fun q26 => (if 1000 < q26.1 then f_L_all_47 n q26.2 v1 v2 0 (v4 + 1) else f_L_all_47 n q26.2 v1 v2 1 (v4 + 1))))) else f_L_all_47 n q20.2 v1 v2 0 (v4 + 1)))))))
def f_L_all (st : zSt) (a1 : Int32) (a2 : Int32) : Option (Int32 × zSt) := ((f_X6_accountAnew st 0).bind fun q1 => ((f_X6_account q1.2 0).bind fun q3 => (if (lg_cmp q1.1 q3.1) = 0 then ((f_X6_accountAnew q3.2 1).bind fun q6 => ((f_X6_account q6.2 1).bind fun q8 => (if (lg_cmp q6.1 q8.1) = 0 then ((f_X6_account q8.2 2).bind fun q11 => (if 0 < (lg_cmp q11.1 0) then f_L_all_47 64 q11.2 a1 a2 0 0 else f_L_all_47 64 q11.2 a1 a2 1 0)) else f_L_all_47 64 q8.2 a1 a2 0 0))) else f_L_all_47 64 q3.2 a1 a2 0 0)))
set_option maxHeartbeats 4000000 in
set_option maxRecDepth 100000 in
theorem t_L_all_138 (X : zCx) (out : Int32 × zSt) (hX : zOk X RL cL_all zr_L_all) (hQ : zPost X 98 shC (some .boolean) (some (.int out.1)) out.2) (hnl : X.nL = 5) : ∀ (n : Nat) (st : zSt) (v2 : Int32) (v3 : Int32) (v4 : Int32), f_L_all_138  n st v2 v3 v4 = some out → zG 98 shC X st 138 [(0, .ref (X.ad 0)), (2, .int v2), (3, .int v3), (4, .int v4)] [] := by
  intro n
  induction n with
  | zero => intro st v2 v3 v4 hf; rw [f_L_all_138] at hf; exact (znone hf).elim
  | succ n ih =>
    intro st v2 v3 v4 hf
    rw [f_L_all_138] at hf
    refine z_iload hX 3 dL_all_138 rfl ?_
    refine z_iload_n hX 1 dL_all_140 rfl rfl ?_
    refine z_icmp_ge hX 161 dL_all_141 (by decide) (fun c33 => ?_) (fun c33 => ?_)
    · have hf := (if_pos c33).symm.trans hf
      refine z_iload_n hX 2 dL_all_161 rfl rfl ?_
      obtain ⟨i34, hf⟩ := zifd hf
      obtain rfl := Option.some.inj hf
      exact z_iret hX hQ dL_all_162 (znb i34)
    have hf := (if_neg c33).symm.trans hf
    refine z_iload_n hX 2 dL_all_144 rfl rfl ?_
    refine z_if_eq hX 161 dL_all_145 (by decide) (fun c35 => ?_) (fun c35 => ?_)
    · have hf := (if_pos c35).symm.trans hf
      refine z_iload_n hX 2 dL_all_161 rfl rfl ?_
      obtain ⟨i36, hf⟩ := zifd hf
      obtain rfl := Option.some.inj hf
      exact z_iret hX hQ dL_all_162 (znb i36)
    have hf := (if_neg c35).symm.trans hf
    refine z_aload_n hX 0 dL_all_148 rfl rfl ?_
    refine z_iload hX 3 dL_all_149 rfl ?_
    obtain ⟨q37, e38, hf⟩ := zbind hf
    refine z_callS (stk := []) (stk' := [.int q37.1]) hX (c_L_booking X.l st v4 q37 e38) zb_L_booking dL_all_151 zm_704 rfl rfl rfl ⟨by decide, by decide⟩ ⟨rfl, rfl⟩ (Nat.le_of_ble_eq_true rfl) rfl ?_
    refine z_istore_n hX [(0, .ref (X.ad 0)), (2, .int v2), (3, .int q37.1), (4, .int v4)] dL_all_154 rfl (by rw [hnl]; decide) [1, 2, 0, 3] rfl ?_
    refine z_iinc (j := 3) (v := 1) hX [(0, .ref (X.ad 0)), (2, .int v2), (3, .int q37.1), (4, .int (v4 + 1))] dL_all_155 rfl (by decide) (by rw [hnl]; decide) [1, 2, 3, 0] rfl ?_
    refine z_goto hX 138 dL_all_158 (by decide) ?_
    exact ih q37.2 v2 q37.1 (v4 + 1) hf
set_option maxHeartbeats 4000000 in
set_option maxRecDepth 100000 in
theorem t_L_all_112 (X : zCx) (out : Int32 × zSt) (hX : zOk X RL cL_all zr_L_all) (hQ : zPost X 98 shC (some .boolean) (some (.int out.1)) out.2) (hnl : X.nL = 5) : ∀ (n : Nat) (st : zSt) (v1 : Int32) (v2 : Int32) (v3 : Int32) (v4 : Int32), f_L_all_112  n st v1 v2 v3 v4 = some out → zG 98 shC X st 112 [(0, .ref (X.ad 0)), (1, .int v1), (2, .int v2), (3, .int v3), (4, .int v4)] [] := by
  intro n
  induction n with
  | zero => intro st v1 v2 v3 v4 hf; rw [f_L_all_112] at hf; exact (znone hf).elim
  | succ n ih =>
    intro st v1 v2 v3 v4 hf
    rw [f_L_all_112] at hf
    refine z_iload hX 4 dL_all_112 rfl ?_
    refine z_iload_n hX 1 dL_all_114 rfl rfl ?_
    refine z_icmp_ge hX 135 dL_all_115 (by decide) (fun c29 => ?_) (fun c29 => ?_)
    · have hf := (if_pos c29).symm.trans hf
      refine z_iconst (v := 0) hX dL_all_135 (by decide) ?_
      refine z_istore hX [(0, .ref (X.ad 0)), (1, .int v1), (2, .int v2), (3, .int v3), (4, .int 0)] dL_all_136 (by rw [hnl]; decide) [1, 2, 3, 4, 0] rfl ?_
      refine z_locals [0, 2, 3, 4] [(0, .ref (X.ad 0)), (2, .int v2), (3, .int v3), (4, .int 0)] rfl ?_
      exact t_L_all_138 X out hX hQ hnl 64 st v2 v3 0 hf
    have hf := (if_neg c29).symm.trans hf
    refine z_iload_n hX 3 dL_all_118 rfl rfl ?_
    refine z_if_eq hX 135 dL_all_119 (by decide) (fun c30 => ?_) (fun c30 => ?_)
    · have hf := (if_pos c30).symm.trans hf
      refine z_iconst (v := 0) hX dL_all_135 (by decide) ?_
      refine z_istore hX [(0, .ref (X.ad 0)), (1, .int v1), (2, .int v2), (3, .int v3), (4, .int 0)] dL_all_136 (by rw [hnl]; decide) [1, 2, 3, 4, 0] rfl ?_
      refine z_locals [0, 2, 3, 4] [(0, .ref (X.ad 0)), (2, .int v2), (3, .int v3), (4, .int 0)] rfl ?_
      exact t_L_all_138 X out hX hQ hnl 64 st v2 v3 0 hf
    have hf := (if_neg c30).symm.trans hf
    refine z_aload_n hX 0 dL_all_122 rfl rfl ?_
    refine z_iload hX 4 dL_all_123 rfl ?_
    obtain ⟨q31, e32, hf⟩ := zbind hf
    refine z_callS (stk := []) (stk' := [.int q31.1]) hX (c_L_sailing X.l st v4 q31 e32) zb_L_sailing dL_all_125 zm_671 rfl rfl rfl ⟨by decide, by decide⟩ ⟨rfl, rfl⟩ (Nat.le_of_ble_eq_true rfl) rfl ?_
    refine z_istore_n hX [(0, .ref (X.ad 0)), (1, .int v1), (2, .int v2), (3, .int q31.1), (4, .int v4)] dL_all_128 rfl (by rw [hnl]; decide) [1, 2, 3, 0, 4] rfl ?_
    refine z_iinc (j := 4) (v := 1) hX [(0, .ref (X.ad 0)), (1, .int v1), (2, .int v2), (3, .int q31.1), (4, .int (v4 + 1))] dL_all_129 rfl (by decide) (by rw [hnl]; decide) [1, 2, 3, 4, 0] rfl ?_
    refine z_goto hX 112 dL_all_132 (by decide) ?_
    exact ih q31.2 v1 v2 q31.1 (v4 + 1) hf
set_option maxHeartbeats 4000000 in
set_option maxRecDepth 100000 in
theorem t_L_all_47 (X : zCx) (out : Int32 × zSt) (hX : zOk X RL cL_all zr_L_all) (hQ : zPost X 98 shC (some .boolean) (some (.int out.1)) out.2) (hnl : X.nL = 5) : ∀ (n : Nat) (st : zSt) (v1 : Int32) (v2 : Int32) (v3 : Int32) (v4 : Int32), f_L_all_47  n st v1 v2 v3 v4 = some out → zG 98 shC X st 47 [(0, .ref (X.ad 0)), (1, .int v1), (2, .int v2), (3, .int v3), (4, .int v4)] [] := by
  intro n
  induction n with
  | zero => intro st v1 v2 v3 v4 hf; rw [f_L_all_47] at hf; exact (znone hf).elim
  | succ n ih =>
    intro st v1 v2 v3 v4 hf
    rw [f_L_all_47] at hf
    refine z_iload hX 4 dL_all_47 rfl ?_
    refine z_iconst (v := 2) hX dL_all_49 (by decide) ?_
    refine z_icmp_ge hX 109 dL_all_50 (by decide) (fun c14 => ?_) (fun c14 => ?_)
    · have hf := (if_pos c14).symm.trans hf
      refine z_iconst (v := 0) hX dL_all_109 (by decide) ?_
      refine z_istore hX [(0, .ref (X.ad 0)), (1, .int v1), (2, .int v2), (3, .int v3), (4, .int 0)] dL_all_110 (by rw [hnl]; decide) [1, 2, 3, 4, 0] rfl ?_
      exact t_L_all_112 X out hX hQ hnl 64 st v1 v2 v3 0 hf
    have hf := (if_neg c14).symm.trans hf
    refine z_iload_n hX 3 dL_all_53 rfl rfl ?_
    refine z_if_eq hX 109 dL_all_54 (by decide) (fun c15 => ?_) (fun c15 => ?_)
    · have hf := (if_pos c15).symm.trans hf
      refine z_iconst (v := 0) hX dL_all_109 (by decide) ?_
      refine z_istore hX [(0, .ref (X.ad 0)), (1, .int v1), (2, .int v2), (3, .int v3), (4, .int 0)] dL_all_110 (by rw [hnl]; decide) [1, 2, 3, 4, 0] rfl ?_
      exact t_L_all_112 X out hX hQ hnl 64 st v1 v2 v3 0 hf
    have hf := (if_neg c15).symm.trans hf
    refine z_aload_n hX 0 dL_all_57 rfl rfl ?_
    refine z_iload hX 4 dL_all_58 rfl ?_
    obtain ⟨q16, e17, hf⟩ := zbind hf
    refine z_callV (stk := []) (stk' := [.int q16.1]) hX (c_X6_place X.l st v4 q16 e17) zb_X6_place 0 dL_all_60 zm_663 (by decide) shC_0 rfl rfl rfl rfl ⟨by decide, by decide⟩ ⟨rfl, rfl⟩ (Nat.le_of_ble_eq_true rfl) rfl ?_
    refine z_aload_n hX 0 dL_all_63 rfl rfl ?_
    refine z_iload hX 4 dL_all_64 rfl ?_
    refine z_aload_n hX 0 dL_all_66 rfl rfl ?_
    obtain ⟨q18, e19, hf⟩ := zbind hf
    refine z_callV (stk := [.int v4, .ref (X.ad 0), .int q16.1]) (stk' := [.int q18.1, .int v4, .ref (X.ad 0), .int q16.1]) hX (c_X6_now X.l q16.2 q18 e19) zb_X6_now 0 dL_all_67 zm_567 (by decide) shC_0 rfl rfl rfl rfl ⟨by decide, by decide⟩ ⟨rfl, rfl⟩ (Nat.le_of_ble_eq_true rfl) rfl ?_
    obtain ⟨q20, e21, hf⟩ := zbind hf
    refine z_callV (stk := [.int q16.1]) (stk' := [.int q20.1, .int q16.1]) hX (c_X6_placeByLine X.l q18.2 v4 q18.1 q20 e21) zb_X6_placeByLine 0 dL_all_70 zm_667 (by decide) shC_0 rfl rfl rfl rfl ⟨by decide, by decide⟩ ⟨rfl, rfl⟩ (Nat.le_of_ble_eq_true rfl) rfl ?_
    refine z_icmp_ne hX 101 dL_all_73 (by decide) (fun c22 => ?_) (fun c22 => ?_)
    · have hf := (if_neg c22).symm.trans hf
      refine z_iconst (v := 0) hX dL_all_101 (by decide) ?_
      refine z_istore_n hX [(0, .ref (X.ad 0)), (1, .int v1), (2, .int v2), (3, .int 0), (4, .int v4)] dL_all_102 rfl (by rw [hnl]; decide) [1, 2, 3, 0, 4] rfl ?_
      refine z_iinc (j := 4) (v := 1) hX [(0, .ref (X.ad 0)), (1, .int v1), (2, .int v2), (3, .int 0), (4, .int (v4 + 1))] dL_all_103 rfl (by decide) (by rw [hnl]; decide) [1, 2, 3, 4, 0] rfl ?_
      refine z_goto hX 47 dL_all_106 (by decide) ?_
      exact ih q20.2 v1 v2 0 (v4 + 1) hf
    have hf := (if_pos c22).symm.trans hf
    refine z_aload_n hX 0 dL_all_76 rfl rfl ?_
    refine z_iload hX 4 dL_all_77 rfl ?_
    obtain ⟨q23, e24, hf⟩ := zbind hf
    refine z_callV (stk := []) (stk' := [.int q23.1]) hX (c_X6_fuel X.l q20.2 v4 q23 e24) zb_X6_fuel 0 dL_all_79 zm_579 (by decide) shC_0 rfl rfl rfl rfl ⟨by decide, by decide⟩ ⟨rfl, rfl⟩ (Nat.le_of_ble_eq_true rfl) rfl ?_
    refine z_if_lt hX 101 dL_all_82 (by decide) (fun c25 => ?_) (fun c25 => ?_)
    · have hf := (if_pos c25).symm.trans hf
      refine z_iconst (v := 0) hX dL_all_101 (by decide) ?_
      refine z_istore_n hX [(0, .ref (X.ad 0)), (1, .int v1), (2, .int v2), (3, .int 0), (4, .int v4)] dL_all_102 rfl (by rw [hnl]; decide) [1, 2, 3, 0, 4] rfl ?_
      refine z_iinc (j := 4) (v := 1) hX [(0, .ref (X.ad 0)), (1, .int v1), (2, .int v2), (3, .int 0), (4, .int (v4 + 1))] dL_all_103 rfl (by decide) (by rw [hnl]; decide) [1, 2, 3, 4, 0] rfl ?_
      refine z_goto hX 47 dL_all_106 (by decide) ?_
      exact ih q23.2 v1 v2 0 (v4 + 1) hf
    have hf := (if_neg c25).symm.trans hf
    refine z_aload_n hX 0 dL_all_85 rfl rfl ?_
    refine z_iload hX 4 dL_all_86 rfl ?_
    obtain ⟨q26, e27, hf⟩ := zbind hf
    refine z_callV (stk := []) (stk' := [.int q26.1]) hX (c_X6_fuel X.l q23.2 v4 q26 e27) zb_X6_fuel 0 dL_all_88 zm_579 (by decide) shC_0 rfl rfl rfl rfl ⟨by decide, by decide⟩ ⟨rfl, rfl⟩ (Nat.le_of_ble_eq_true rfl) rfl ?_
    refine z_sipush (v := 1000) hX dL_all_91 (by decide) ?_
    refine z_icmp_gt hX 101 dL_all_94 (by decide) (fun c28 => ?_) (fun c28 => ?_)
    · have hf := (if_pos c28).symm.trans hf
      refine z_iconst (v := 0) hX dL_all_101 (by decide) ?_
      refine z_istore_n hX [(0, .ref (X.ad 0)), (1, .int v1), (2, .int v2), (3, .int 0), (4, .int v4)] dL_all_102 rfl (by rw [hnl]; decide) [1, 2, 3, 0, 4] rfl ?_
      refine z_iinc (j := 4) (v := 1) hX [(0, .ref (X.ad 0)), (1, .int v1), (2, .int v2), (3, .int 0), (4, .int (v4 + 1))] dL_all_103 rfl (by decide) (by rw [hnl]; decide) [1, 2, 3, 4, 0] rfl ?_
      refine z_goto hX 47 dL_all_106 (by decide) ?_
      exact ih q26.2 v1 v2 0 (v4 + 1) hf
    have hf := (if_neg c28).symm.trans hf
    refine z_iconst (v := 1) hX dL_all_97 (by decide) ?_
    refine z_goto hX 102 dL_all_98 (by decide) ?_
    refine z_istore_n hX [(0, .ref (X.ad 0)), (1, .int v1), (2, .int v2), (3, .int 1), (4, .int v4)] dL_all_102 rfl (by rw [hnl]; decide) [1, 2, 3, 0, 4] rfl ?_
    refine z_iinc (j := 4) (v := 1) hX [(0, .ref (X.ad 0)), (1, .int v1), (2, .int v2), (3, .int 1), (4, .int (v4 + 1))] dL_all_103 rfl (by decide) (by rw [hnl]; decide) [1, 2, 3, 4, 0] rfl ?_
    refine z_goto hX 47 dL_all_106 (by decide) ?_
    exact ih q26.2 v1 v2 1 (v4 + 1) hf
set_option maxHeartbeats 4000000 in
set_option maxRecDepth 100000 in
theorem t_L_all (X : zCx) (out : Int32 × zSt) (hX : zOk X RL cL_all zr_L_all) (hQ : zPost X 98 shC (some .boolean) (some (.int out.1)) out.2) (hnl : X.nL = 5) (st : zSt) (a1 : Int32) (a2 : Int32) (hf : f_L_all st a1 a2 = some out) : zG 98 shC X st 0 [(0, .ref (X.ad 0)), (1, .int a1), (2, .int a2)] [] := by
  unfold f_L_all at hf
  refine z_aload_n hX 0 dL_all_0 rfl rfl ?_
  refine z_iconst (v := 0) hX dL_all_1 (by decide) ?_
  obtain ⟨q1, e2, hf⟩ := zbind hf
  refine z_callV (stk := []) (stk' := [.long q1.1]) hX (c_X6_accountAnew X.l st 0 q1 e2) zb_X6_accountAnew 0 dL_all_2 zm_655 (by decide) shC_0 rfl rfl rfl rfl ⟨by decide, by decide⟩ ⟨rfl, rfl⟩ (Nat.le_of_ble_eq_true rfl) rfl ?_
  refine z_aload_n hX 0 dL_all_5 rfl rfl ?_
  refine z_iconst (v := 0) hX dL_all_6 (by decide) ?_
  obtain ⟨q3, e4, hf⟩ := zbind hf
  refine z_callV (stk := [.long q1.1]) (stk' := [.long q3.1, .long q1.1]) hX (c_X6_account X.l q1.2 0 q3 e4) zb_X6_account 0 dL_all_7 zm_659 (by decide) shC_0 rfl rfl rfl rfl ⟨by decide, by decide⟩ ⟨rfl, rfl⟩ (Nat.le_of_ble_eq_true rfl) rfl ?_
  refine z_lcmp hX dL_all_10 ?_
  refine z_if_ne hX 42 dL_all_11 (by decide) (fun c5 => ?_) (fun c5 => ?_)
  · have hf := (if_neg c5).symm.trans hf
    refine z_iconst (v := 0) hX dL_all_42 (by decide) ?_
    refine z_istore_n hX [(0, .ref (X.ad 0)), (1, .int a1), (2, .int a2), (3, .int 0)] dL_all_43 rfl (by rw [hnl]; decide) [1, 2, 3, 0] rfl ?_
    refine z_iconst (v := 0) hX dL_all_44 (by decide) ?_
    refine z_istore hX [(0, .ref (X.ad 0)), (1, .int a1), (2, .int a2), (3, .int 0), (4, .int 0)] dL_all_45 (by rw [hnl]; decide) [1, 2, 3, 4, 0] rfl ?_
    exact t_L_all_47 X out hX hQ hnl 64 q3.2 a1 a2 0 0 hf
  have hf := (if_pos c5).symm.trans hf
  refine z_aload_n hX 0 dL_all_14 rfl rfl ?_
  refine z_iconst (v := 1) hX dL_all_15 (by decide) ?_
  obtain ⟨q6, e7, hf⟩ := zbind hf
  refine z_callV (stk := []) (stk' := [.long q6.1]) hX (c_X6_accountAnew X.l q3.2 1 q6 e7) zb_X6_accountAnew 0 dL_all_16 zm_655 (by decide) shC_0 rfl rfl rfl rfl ⟨by decide, by decide⟩ ⟨rfl, rfl⟩ (Nat.le_of_ble_eq_true rfl) rfl ?_
  refine z_aload_n hX 0 dL_all_19 rfl rfl ?_
  refine z_iconst (v := 1) hX dL_all_20 (by decide) ?_
  obtain ⟨q8, e9, hf⟩ := zbind hf
  refine z_callV (stk := [.long q6.1]) (stk' := [.long q8.1, .long q6.1]) hX (c_X6_account X.l q6.2 1 q8 e9) zb_X6_account 0 dL_all_21 zm_659 (by decide) shC_0 rfl rfl rfl rfl ⟨by decide, by decide⟩ ⟨rfl, rfl⟩ (Nat.le_of_ble_eq_true rfl) rfl ?_
  refine z_lcmp hX dL_all_24 ?_
  refine z_if_ne hX 42 dL_all_25 (by decide) (fun c10 => ?_) (fun c10 => ?_)
  · have hf := (if_neg c10).symm.trans hf
    refine z_iconst (v := 0) hX dL_all_42 (by decide) ?_
    refine z_istore_n hX [(0, .ref (X.ad 0)), (1, .int a1), (2, .int a2), (3, .int 0)] dL_all_43 rfl (by rw [hnl]; decide) [1, 2, 3, 0] rfl ?_
    refine z_iconst (v := 0) hX dL_all_44 (by decide) ?_
    refine z_istore hX [(0, .ref (X.ad 0)), (1, .int a1), (2, .int a2), (3, .int 0), (4, .int 0)] dL_all_45 (by rw [hnl]; decide) [1, 2, 3, 4, 0] rfl ?_
    exact t_L_all_47 X out hX hQ hnl 64 q8.2 a1 a2 0 0 hf
  have hf := (if_pos c10).symm.trans hf
  refine z_aload_n hX 0 dL_all_28 rfl rfl ?_
  refine z_iconst (v := 2) hX dL_all_29 (by decide) ?_
  obtain ⟨q11, e12, hf⟩ := zbind hf
  refine z_callV (stk := []) (stk' := [.long q11.1]) hX (c_X6_account X.l q8.2 2 q11 e12) zb_X6_account 0 dL_all_30 zm_659 (by decide) shC_0 rfl rfl rfl rfl ⟨by decide, by decide⟩ ⟨rfl, rfl⟩ (Nat.le_of_ble_eq_true rfl) rfl ?_
  refine z_lconst (v := 0) hX dL_all_33 (by decide) ?_
  refine z_lcmp hX dL_all_34 ?_
  refine z_if_gt hX 42 dL_all_35 (by decide) (fun c13 => ?_) (fun c13 => ?_)
  · have hf := (if_pos c13).symm.trans hf
    refine z_iconst (v := 0) hX dL_all_42 (by decide) ?_
    refine z_istore_n hX [(0, .ref (X.ad 0)), (1, .int a1), (2, .int a2), (3, .int 0)] dL_all_43 rfl (by rw [hnl]; decide) [1, 2, 3, 0] rfl ?_
    refine z_iconst (v := 0) hX dL_all_44 (by decide) ?_
    refine z_istore hX [(0, .ref (X.ad 0)), (1, .int a1), (2, .int a2), (3, .int 0), (4, .int 0)] dL_all_45 (by rw [hnl]; decide) [1, 2, 3, 4, 0] rfl ?_
    exact t_L_all_47 X out hX hQ hnl 64 q11.2 a1 a2 0 0 hf
  have hf := (if_neg c13).symm.trans hf
  refine z_iconst (v := 1) hX dL_all_38 (by decide) ?_
  refine z_goto hX 43 dL_all_39 (by decide) ?_
  refine z_istore_n hX [(0, .ref (X.ad 0)), (1, .int a1), (2, .int a2), (3, .int 1)] dL_all_43 rfl (by rw [hnl]; decide) [1, 2, 3, 0] rfl ?_
  refine z_iconst (v := 0) hX dL_all_44 (by decide) ?_
  refine z_istore hX [(0, .ref (X.ad 0)), (1, .int a1), (2, .int a2), (3, .int 1), (4, .int 0)] dL_all_45 (by rw [hnl]; decide) [1, 2, 3, 4, 0] rfl ?_
  exact t_L_all_47 X out hX hQ hnl 64 q11.2 a1 a2 1 0 hf
theorem zb_L_all : zCalS yL_all cL_all 5 (some .boolean) 3 := ⟨zm_653, zm_0, zm_654, by decide, by decide, rfl⟩
theorem c_L_all (l : Launch) (st : zSt) (a1 : Int32) (a2 : Int32) (out : Int32 × zSt) (hf : f_L_all st a1 a2 = some out) : zMet l yL_all cL_all 5 (some .boolean) zr_L_all 98 shC (fun ad => [.ref (ad 0), .int a1, .int a2]) st (fun ad => some (.int out.1)) out.2 :=
  zmet_of (by decide +kernel) (fun _ => Nat.le_of_ble_eq_true rfl) (fun X _ hnl hX hQ => t_L_all X out hX hQ hnl st a1 a2 hf)
