/-! methods, walked by program: f_.. what they do to the numbered world, t_.. the walk, c_.. the contract -/
abbrev zr_X6_ship : Room := { frames := 2, cells := 0, slots := 0, locals := 42 }
def f_X6_ship_64  (st : zSt) (v1 : Int32) (v2 : Int32) (v3 : Int32) (v4 : Int32) (v5 : Int32) (v6 : Int32) : Option (Int32 × zSt) := none
def f_X6_ship (st : zSt) (a0 : Int32) (a1 : Int32) (a2 : Int32) (a3 : Int32) (a4 : Int32) (a5 : Int32) : Option (Int32 × zSt) := ((f_X6_demandIndex st a0 6).bind fun q1 => ((f_X6_isWithin q1.2 a1 1 4).bind fun q3 => (if q3.1 = 0 then f_X6_ship_64 q3.2 a0 a1 a2 a3 a4 a5 else ((f_X6_isWithin q3.2 a2 10 100).bind fun q6 => (if q6.1 = 0 then f_X6_ship_64 q6.2 a0 a1 a2 a3 a4 a5 else ((f_X6_isWithin q6.2 a3 1 1000).bind fun q9 => (if q9.1 = 0 then f_X6_ship_64 q9.2 a0 a1 a2 a3 a4 a5 else ((f_X6_isWithin q9.2 a4 1 9).bind fun q12 => (if q12.1 = 0 then f_X6_ship_64 q12.2 a0 a1 a2 a3 a4 a5 else ((f_X6_isWithin q12.2 a5 1 40).bind fun q15 => (if q15.1 = 0 then f_X6_ship_64 q15.2 a0 a1 a2 a3 a4 a5 else (if 4 ≤ (q15.2.1 0 11) then none else (zlet (zwI q15.2 0 11 ((q15.2.1 0 11) + 1)) fun s23 => ((f_X6_knownShip s23 (q15.2.1 0 11)).bind fun q25 => (zlet (zwI q25.2 q25.1 0 a0) fun s27 => (zlet (zwI s27 q25.1 1 a1) fun s29 => (zlet (zwI s29 q25.1 2 a2) fun s31 => (zlet (zwI s31 q25.1 3 a3) fun s33 => (zlet (zwI s33 q25.1 4 a4) fun s35 => (zlet (zwI s35 q25.1 5 a5) fun s37 => some ((q15.2.1 0 11), s37)))))))))))))))))))))
set_option maxHeartbeats 4000000 in
set_option maxRecDepth 100000 in
theorem t_X6_ship_64 (X : zCx) (out : Int32 × zSt) (hX : zOk X RX6 cX6_ship zr_X6_ship) (hQ : zPost X 98 shC (some .int) (some (.int out.1)) out.2) (hnl : X.nL = 9) (st : zSt) (v1 : Int32) (v2 : Int32) (v3 : Int32) (v4 : Int32) (v5 : Int32) (v6 : Int32) (hf : f_X6_ship_64  st v1 v2 v3 v4 v5 v6 = some out) : zG 98 shC X st 64 [(0, .ref (X.ad 0)), (1, .int v1), (2, .int v2), (3, .int v3), (4, .int v4), (5, .int v5), (6, .int v6)] [] := by
  unfold f_X6_ship_64 at hf
  refine z_iconst (v := 0) hX dX6_ship_64 (by decide) ?_
  exact (znone hf).elim
set_option maxHeartbeats 4000000 in
set_option maxRecDepth 100000 in
theorem t_X6_ship (X : zCx) (out : Int32 × zSt) (hX : zOk X RX6 cX6_ship zr_X6_ship) (hQ : zPost X 98 shC (some .int) (some (.int out.1)) out.2) (hnl : X.nL = 9) (st : zSt) (a0 : Int32) (a1 : Int32) (a2 : Int32) (a3 : Int32) (a4 : Int32) (a5 : Int32) (hf : f_X6_ship st a0 a1 a2 a3 a4 a5 = some out) : zG 98 shC X st 0 [(0, .ref (X.ad 0)), (1, .int a0), (2, .int a1), (3, .int a2), (4, .int a3), (5, .int a4), (6, .int a5)] [] := by
  unfold f_X6_ship at hf
  refine z_iload_n hX 1 dX6_ship_0 rfl rfl ?_
  refine z_bipush (v := 6) hX dX6_ship_1 (by decide) ?_
  obtain ⟨q1, e2, hf⟩ := zbind hf
  refine z_callS (stk := []) (stk' := []) hX (c_X6_demandIndex X.l st a0 6 q1 e2) zb_X6_demandIndex dX6_ship_3 zm_306 rfl rfl rfl ⟨by decide, by decide⟩ ⟨rfl, rfl⟩ (Nat.le_of_ble_eq_true rfl) rfl ?_
  refine z_iload_n hX 2 dX6_ship_6 rfl rfl ?_
  refine z_iconst (v := 1) hX dX6_ship_7 (by decide) ?_
  refine z_iconst (v := 4) hX dX6_ship_8 (by decide) ?_
  obtain ⟨q3, e4, hf⟩ := zbind hf
  refine z_callS (stk := []) (stk' := [.int q3.1]) hX (c_X6_isWithin X.l q1.2 a1 1 4 q3 e4) zb_X6_isWithin dX6_ship_9 zm_373 rfl rfl rfl ⟨by decide, by decide⟩ ⟨rfl, rfl⟩ (Nat.le_of_ble_eq_true rfl) rfl ?_
  refine z_if_eq hX 64 dX6_ship_12 (by decide) (fun c5 => ?_) (fun c5 => ?_)
  · have hf := (if_pos c5).symm.trans hf
    exact t_X6_ship_64 X out hX hQ hnl q3.2 a0 a1 a2 a3 a4 a5 hf
  have hf := (if_neg c5).symm.trans hf
  refine z_iload_n hX 3 dX6_ship_15 rfl rfl ?_
  refine z_bipush (v := 10) hX dX6_ship_16 (by decide) ?_
  refine z_bipush (v := 100) hX dX6_ship_18 (by decide) ?_
  obtain ⟨q6, e7, hf⟩ := zbind hf
  refine z_callS (stk := []) (stk' := [.int q6.1]) hX (c_X6_isWithin X.l q3.2 a2 10 100 q6 e7) zb_X6_isWithin dX6_ship_20 zm_373 rfl rfl rfl ⟨by decide, by decide⟩ ⟨rfl, rfl⟩ (Nat.le_of_ble_eq_true rfl) rfl ?_
  refine z_if_eq hX 64 dX6_ship_23 (by decide) (fun c8 => ?_) (fun c8 => ?_)
  · have hf := (if_pos c8).symm.trans hf
    exact t_X6_ship_64 X out hX hQ hnl q6.2 a0 a1 a2 a3 a4 a5 hf
  have hf := (if_neg c8).symm.trans hf
  refine z_iload hX 4 dX6_ship_26 rfl ?_
  refine z_iconst (v := 1) hX dX6_ship_28 (by decide) ?_
  refine z_sipush (v := 1000) hX dX6_ship_29 (by decide) ?_
  obtain ⟨q9, e10, hf⟩ := zbind hf
  refine z_callS (stk := []) (stk' := [.int q9.1]) hX (c_X6_isWithin X.l q6.2 a3 1 1000 q9 e10) zb_X6_isWithin dX6_ship_32 zm_373 rfl rfl rfl ⟨by decide, by decide⟩ ⟨rfl, rfl⟩ (Nat.le_of_ble_eq_true rfl) rfl ?_
  refine z_if_eq hX 64 dX6_ship_35 (by decide) (fun c11 => ?_) (fun c11 => ?_)
  · have hf := (if_pos c11).symm.trans hf
    exact t_X6_ship_64 X out hX hQ hnl q9.2 a0 a1 a2 a3 a4 a5 hf
  have hf := (if_neg c11).symm.trans hf
  refine z_iload hX 5 dX6_ship_38 rfl ?_
  refine z_iconst (v := 1) hX dX6_ship_40 (by decide) ?_
  refine z_bipush (v := 9) hX dX6_ship_41 (by decide) ?_
  obtain ⟨q12, e13, hf⟩ := zbind hf
  refine z_callS (stk := []) (stk' := [.int q12.1]) hX (c_X6_isWithin X.l q9.2 a4 1 9 q12 e13) zb_X6_isWithin dX6_ship_43 zm_373 rfl rfl rfl ⟨by decide, by decide⟩ ⟨rfl, rfl⟩ (Nat.le_of_ble_eq_true rfl) rfl ?_
  refine z_if_eq hX 64 dX6_ship_46 (by decide) (fun c14 => ?_) (fun c14 => ?_)
  · have hf := (if_pos c14).symm.trans hf
    exact t_X6_ship_64 X out hX hQ hnl q12.2 a0 a1 a2 a3 a4 a5 hf
  have hf := (if_neg c14).symm.trans hf
  refine z_iload hX 6 dX6_ship_49 rfl ?_
  refine z_iconst (v := 1) hX dX6_ship_51 (by decide) ?_
  refine z_bipush (v := 40) hX dX6_ship_52 (by decide) ?_
  obtain ⟨q15, e16, hf⟩ := zbind hf
  refine z_callS (stk := []) (stk' := [.int q15.1]) hX (c_X6_isWithin X.l q12.2 a5 1 40 q15 e16) zb_X6_isWithin dX6_ship_54 zm_373 rfl rfl rfl ⟨by decide, by decide⟩ ⟨rfl, rfl⟩ (Nat.le_of_ble_eq_true rfl) rfl ?_
  refine z_if_eq hX 64 dX6_ship_57 (by decide) (fun c17 => ?_) (fun c17 => ?_)
  · have hf := (if_pos c17).symm.trans hf
    exact t_X6_ship_64 X out hX hQ hnl q15.2 a0 a1 a2 a3 a4 a5 hf
  have hf := (if_neg c17).symm.trans hf
  refine z_iconst (v := 1) hX dX6_ship_60 (by decide) ?_
  refine z_goto hX 65 dX6_ship_61 (by decide) ?_
  refine z_callS (stk := []) (stk' := []) hX (c_X6_demandArgument X.l q15.2 1 ((), q15.2) rfl) zb_X6_demandArgument dX6_ship_65 zm_376 rfl rfl rfl ⟨by decide, by decide⟩ ⟨rfl, rfl⟩ (Nat.le_of_ble_eq_true rfl) rfl ?_
  refine z_aload_n hX 0 dX6_ship_68 rfl rfl ?_
  refine z_getI hX 0 11 dX6_ship_69 (by decide) shC_0 rfl rfl zin_X6 (by decide) zm_264 ?_
  refine z_iconst (v := 4) hX dX6_ship_72 (by decide) ?_
  refine z_icmp_ge hX 80 dX6_ship_73 (by decide) (fun c20 => ?_) (fun c20 => ?_)
  · have hf := (if_pos c20).symm.trans hf
    refine z_iconst (v := 0) hX dX6_ship_80 (by decide) ?_
    exact (znone hf).elim
  have hf := (if_neg c20).symm.trans hf
  refine z_iconst (v := 1) hX dX6_ship_76 (by decide) ?_
  refine z_goto hX 81 dX6_ship_77 (by decide) ?_
  refine z_callS (stk := []) (stk' := []) hX (c_X6_demandState X.l q15.2 1 ((), q15.2) rfl) zb_X6_demandState dX6_ship_81 zm_394 rfl rfl rfl ⟨by decide, by decide⟩ ⟨rfl, rfl⟩ (Nat.le_of_ble_eq_true rfl) rfl ?_
  refine z_aload_n hX 0 dX6_ship_84 rfl rfl ?_
  refine z_getI hX 0 11 dX6_ship_85 (by decide) shC_0 rfl rfl zin_X6 (by decide) zm_264 ?_
  refine z_istore hX [(0, .ref (X.ad 0)), (1, .int a0), (2, .int a1), (3, .int a2), (4, .int a3), (5, .int a4), (6, .int a5), (7, .int (q15.2.1 0 11))] dX6_ship_88 (by rw [hnl]; decide) [1, 2, 3, 4, 5, 6, 7, 0] rfl ?_
  refine z_aload_n hX 0 dX6_ship_90 rfl rfl ?_
  refine z_dup hX dX6_ship_91 rfl ?_
  refine z_getI hX 0 11 dX6_ship_92 (by decide) shC_0 rfl rfl zin_X6 (by decide) zm_264 ?_
  refine z_iconst (v := 1) hX dX6_ship_95 (by decide) ?_
  refine z_iadd hX dX6_ship_96 ?_
  refine z_putI hX 0 11 dX6_ship_97 (by decide) shC_0 rfl rfl zin_X6 tyX6_ok nmX6 (by decide) zm_264 rfl rfl ?_
  obtain ⟨s23, h24, hf⟩ := zlet_ex hf
  refine z_name h24 ?_
  refine z_aload_n hX 0 dX6_ship_100 rfl rfl ?_
  refine z_iload hX 7 dX6_ship_101 rfl ?_
  obtain ⟨q25, e26, hf⟩ := zbind hf
  refine z_callV (stk := []) (stk' := [.ref (X.ad q25.1)]) hX (c_X6_knownShip X.l s23 (q15.2.1 0 11) q25 e26) zb_X6_knownShip 0 dX6_ship_103 zm_412 (by decide) shC_0 rfl rfl rfl rfl ⟨by decide, by decide⟩ ⟨rfl, rfl⟩ (Nat.le_of_ble_eq_true rfl) rfl ?_
  refine z_astore hX [(0, .ref (X.ad 0)), (1, .int a0), (2, .int a1), (3, .int a2), (4, .int a3), (5, .int a4), (6, .int a5), (7, .int (q15.2.1 0 11)), (8, .ref (X.ad q25.1))] dX6_ship_106 (by rw [hnl]; decide) [1, 2, 3, 4, 5, 6, 7, 8, 0] rfl ?_
  refine z_aload hX 8 dX6_ship_108 rfl ?_
  refine z_iload_n hX 1 dX6_ship_110 rfl rfl ?_
  refine z_putIN hX q25.1 0 dX6_ship_111 (zlt_Ship (rr_X6_knownShip e26)) (zsh_Ship (rr_X6_knownShip e26)) rfl rfl zin_X4 tyX4_ok nmX4 (by decide) zm_91 rfl rfl ?_
  obtain ⟨s27, h28, hf⟩ := zlet_ex hf
  refine z_name h28 ?_
  refine z_aload hX 8 dX6_ship_114 rfl ?_
  refine z_iload_n hX 2 dX6_ship_116 rfl rfl ?_
  refine z_putIN hX q25.1 1 dX6_ship_117 (zlt_Ship (rr_X6_knownShip e26)) (zsh_Ship (rr_X6_knownShip e26)) rfl rfl zin_X4 tyX4_ok nmX4 (by decide) zm_94 rfl rfl ?_
  obtain ⟨s29, h30, hf⟩ := zlet_ex hf
  refine z_name h30 ?_
  refine z_aload hX 8 dX6_ship_120 rfl ?_
  refine z_iload_n hX 3 dX6_ship_122 rfl rfl ?_
  refine z_putIN hX q25.1 2 dX6_ship_123 (zlt_Ship (rr_X6_knownShip e26)) (zsh_Ship (rr_X6_knownShip e26)) rfl rfl zin_X4 tyX4_ok nmX4 (by decide) zm_97 rfl rfl ?_
  obtain ⟨s31, h32, hf⟩ := zlet_ex hf
  refine z_name h32 ?_
  refine z_aload hX 8 dX6_ship_126 rfl ?_
  refine z_iload hX 4 dX6_ship_128 rfl ?_
  refine z_putIN hX q25.1 3 dX6_ship_130 (zlt_Ship (rr_X6_knownShip e26)) (zsh_Ship (rr_X6_knownShip e26)) rfl rfl zin_X4 tyX4_ok nmX4 (by decide) zm_100 rfl rfl ?_
  obtain ⟨s33, h34, hf⟩ := zlet_ex hf
  refine z_name h34 ?_
  refine z_aload hX 8 dX6_ship_133 rfl ?_
  refine z_iload hX 5 dX6_ship_135 rfl ?_
  refine z_putIN hX q25.1 4 dX6_ship_137 (zlt_Ship (rr_X6_knownShip e26)) (zsh_Ship (rr_X6_knownShip e26)) rfl rfl zin_X4 tyX4_ok nmX4 (by decide) zm_102 rfl rfl ?_
  obtain ⟨s35, h36, hf⟩ := zlet_ex hf
  refine z_name h36 ?_
  refine z_aload hX 8 dX6_ship_140 rfl ?_
  refine z_iload hX 6 dX6_ship_142 rfl ?_
  refine z_putIN hX q25.1 5 dX6_ship_144 (zlt_Ship (rr_X6_knownShip e26)) (zsh_Ship (rr_X6_knownShip e26)) rfl rfl zin_X4 tyX4_ok nmX4 (by decide) zm_104 rfl rfl ?_
  obtain ⟨s37, h38, hf⟩ := zlet_ex hf
  refine z_name h38 ?_
  refine z_iload hX 7 dX6_ship_147 rfl ?_
  obtain rfl := Option.some.inj hf
  exact z_iret hX hQ dX6_ship_149 rfl
theorem zb_X6_ship : zCal yX6_ship cX6_ship 9 (some .int) 6 := ⟨zm_303, (zwl_in zm_304 rfl), zm_1, zm_305, by decide, by decide, rfl⟩
theorem c_X6_ship (l : Launch) (st : zSt) (a0 : Int32) (a1 : Int32) (a2 : Int32) (a3 : Int32) (a4 : Int32) (a5 : Int32) (out : Int32 × zSt) (hf : f_X6_ship st a0 a1 a2 a3 a4 a5 = some out) : zMet l yX6_ship cX6_ship 9 (some .int) zr_X6_ship 98 shC (fun ad => [.ref (ad 0), .int a0, .int a1, .int a2, .int a3, .int a4, .int a5]) st (fun ad => some (.int out.1)) out.2 :=
  zmet_of (by decide +kernel) (fun _ => Nat.le_of_ble_eq_true rfl) (fun X _ hnl hX hQ => t_X6_ship X out hX hQ hnl st a0 a1 a2 a3 a4 a5 hf)
abbrev zr_X6_fill : Room := { frames := 2, cells := 0, slots := 0, locals := 42 }
def f_X6_fill (st : zSt) (a0 : Int32) (a1 : Int32) : Option (Int32 × zSt) := ((f_X6_knownShip st a0).bind fun q1 => ((f_X6_isWithin q1.2 a1 1 1000).bind fun q3 => ((f_X6_demandArgument q3.2 q3.1).bind fun q5 => (if 1000 < ((q5.2.1 q1.1 6) + a1) then none else (zlet (zwI q5.2 q1.1 6 ((q5.2.1 q1.1 6) + a1)) fun s10 => (zlet (zwL s10 8 (2 : Int32).toNatClampNeg ((s10.2 8 (2 : Int32).toNatClampNeg) - (((3 * a1)).toInt64))) fun s14 => some ((s14.1 q1.1 6), s14)))))))
set_option maxHeartbeats 4000000 in
set_option maxRecDepth 100000 in
theorem t_X6_fill (X : zCx) (out : Int32 × zSt) (hX : zOk X RX6 cX6_fill zr_X6_fill) (hQ : zPost X 98 shC (some .int) (some (.int out.1)) out.2) (hnl : X.nL = 4) (st : zSt) (a0 : Int32) (a1 : Int32) (hf : f_X6_fill st a0 a1 = some out) : zG 98 shC X st 0 [(0, .ref (X.ad 0)), (1, .int a0), (2, .int a1)] [] := by
  unfold f_X6_fill at hf
  refine z_aload_n hX 0 dX6_fill_0 rfl rfl ?_
  refine z_iload_n hX 1 dX6_fill_1 rfl rfl ?_
  obtain ⟨q1, e2, hf⟩ := zbind hf
  refine z_callV (stk := []) (stk' := [.ref (X.ad q1.1)]) hX (c_X6_knownShip X.l st a0 q1 e2) zb_X6_knownShip 0 dX6_fill_2 zm_412 (by decide) shC_0 rfl rfl rfl rfl ⟨by decide, by decide⟩ ⟨rfl, rfl⟩ (Nat.le_of_ble_eq_true rfl) rfl ?_
  refine z_astore_n hX [(0, .ref (X.ad 0)), (1, .int a0), (2, .int a1), (3, .ref (X.ad q1.1))] dX6_fill_5 rfl (by rw [hnl]; decide) [1, 2, 3, 0] rfl ?_
  refine z_iload_n hX 2 dX6_fill_6 rfl rfl ?_
  refine z_iconst (v := 1) hX dX6_fill_7 (by decide) ?_
  refine z_sipush (v := 1000) hX dX6_fill_8 (by decide) ?_
  obtain ⟨q3, e4, hf⟩ := zbind hf
  refine z_callS (stk := []) (stk' := [.int q3.1]) hX (c_X6_isWithin X.l q1.2 a1 1 1000 q3 e4) zb_X6_isWithin dX6_fill_11 zm_373 rfl rfl rfl ⟨by decide, by decide⟩ ⟨rfl, rfl⟩ (Nat.le_of_ble_eq_true rfl) rfl ?_
  obtain ⟨q5, e6, hf⟩ := zbind hf
  refine z_callS (stk := []) (stk' := []) hX (c_X6_demandArgument X.l q3.2 q3.1 q5 e6) zb_X6_demandArgument dX6_fill_14 zm_376 rfl rfl rfl ⟨by decide, by decide⟩ ⟨rfl, rfl⟩ (Nat.le_of_ble_eq_true rfl) rfl ?_
  refine z_aload_n hX 3 dX6_fill_17 rfl rfl ?_
  refine z_getIN hX q1.1 6 dX6_fill_18 (zlt_Ship (rr_X6_knownShip e2)) (zsh_Ship (rr_X6_knownShip e2)) rfl rfl zin_X4 (by decide) zm_106 ?_
  refine z_iload_n hX 2 dX6_fill_21 rfl rfl ?_
  refine z_iadd hX dX6_fill_22 ?_
  refine z_sipush (v := 1000) hX dX6_fill_23 (by decide) ?_
  refine z_icmp_gt hX 33 dX6_fill_26 (by decide) (fun c7 => ?_) (fun c7 => ?_)
  · have hf := (if_pos c7).symm.trans hf
    refine z_iconst (v := 0) hX dX6_fill_33 (by decide) ?_
    exact (znone hf).elim
  have hf := (if_neg c7).symm.trans hf
  refine z_iconst (v := 1) hX dX6_fill_29 (by decide) ?_
  refine z_goto hX 34 dX6_fill_30 (by decide) ?_
  refine z_callS (stk := []) (stk' := []) hX (c_X6_demandState X.l q5.2 1 ((), q5.2) rfl) zb_X6_demandState dX6_fill_34 zm_394 rfl rfl rfl ⟨by decide, by decide⟩ ⟨rfl, rfl⟩ (Nat.le_of_ble_eq_true rfl) rfl ?_
  refine z_aload_n hX 3 dX6_fill_37 rfl rfl ?_
  refine z_dup hX dX6_fill_38 rfl ?_
  refine z_getIN hX q1.1 6 dX6_fill_39 (zlt_Ship (rr_X6_knownShip e2)) (zsh_Ship (rr_X6_knownShip e2)) rfl rfl zin_X4 (by decide) zm_106 ?_
  refine z_iload_n hX 2 dX6_fill_42 rfl rfl ?_
  refine z_iadd hX dX6_fill_43 ?_
  refine z_putIN hX q1.1 6 dX6_fill_44 (zlt_Ship (rr_X6_knownShip e2)) (zsh_Ship (rr_X6_knownShip e2)) rfl rfl zin_X4 tyX4_ok nmX4 (by decide) zm_106 rfl rfl ?_
  obtain ⟨s10, h11, hf⟩ := zlet_ex hf
  refine z_name h11 ?_
  refine z_aload_n hX 0 dX6_fill_47 rfl rfl ?_
  refine z_getR hX 0 7 8 dX6_fill_48 (by decide) shC_0 rfl rfl zin_X6 (by decide) zm_260 ?_
  refine z_iconst (v := 2) hX dX6_fill_51 (by decide) ?_
  refine z_dup2 hX dX6_fill_52 rfl rfl ?_
  refine z_lald hX 8 dX6_fill_53 (by decide) shC_8 (show zin 2 3 by decide) ?_
  refine z_iconst (v := 3) hX dX6_fill_54 (by decide) ?_
  refine z_iload_n hX 2 dX6_fill_55 rfl rfl ?_
  refine z_imul hX dX6_fill_56 ?_
  refine z_i2l hX dX6_fill_57 ?_
  refine z_lsub hX dX6_fill_58 ?_
  refine z_last hX 8 dX6_fill_59 (by decide) shC_8 (show zin 2 3 by decide) ?_
  obtain ⟨s14, h15, hf⟩ := zlet_ex hf
  refine z_name h15 ?_
  refine z_aload_n hX 3 dX6_fill_60 rfl rfl ?_
  refine z_getIN hX q1.1 6 dX6_fill_61 (zlt_Ship (rr_X6_knownShip e2)) (zsh_Ship (rr_X6_knownShip e2)) rfl rfl zin_X4 (by decide) zm_106 ?_
  obtain rfl := Option.some.inj hf
  exact z_iret hX hQ dX6_fill_64 rfl
theorem zb_X6_fill : zCal yX6_fill cX6_fill 4 (some .int) 2 := ⟨zm_417, (zwl_in zm_418 rfl), zm_1, zm_419, by decide, by decide, rfl⟩
theorem c_X6_fill (l : Launch) (st : zSt) (a0 : Int32) (a1 : Int32) (out : Int32 × zSt) (hf : f_X6_fill st a0 a1 = some out) : zMet l yX6_fill cX6_fill 4 (some .int) zr_X6_fill 98 shC (fun ad => [.ref (ad 0), .int a0, .int a1]) st (fun ad => some (.int out.1)) out.2 :=
  zmet_of (by decide +kernel) (fun _ => Nat.le_of_ble_eq_true rfl) (fun X _ hnl hX hQ => t_X6_fill X out hX hQ hnl st a0 a1 hf)
abbrev zr_X6_crew : Room := { frames := 2, cells := 0, slots := 0, locals := 42 }
def f_X6_crew_34  (st : zSt) (v1 : Int32) (v2 : Int32) (v3 : Int32) : Option (Int32 × zSt) := none
def f_X6_crew (st : zSt) (a0 : Int32) (a1 : Int32) (a2 : Int32) : Option (Int32 × zSt) := ((f_X6_demandIndex st a0 (st.1 0 11)).bind fun q1 => ((f_X6_isWithin q1.2 a1 0 500).bind fun q3 => (if q3.1 = 0 then f_X6_crew_34 q3.2 a0 a1 a2 else ((f_X6_isWithin q3.2 a2 a1 500).bind fun q6 => (if q6.1 = 0 then f_X6_crew_34 q6.2 a0 a1 a2 else (if 6 ≤ (q6.2.1 0 12) then none else (zlet (zwI q6.2 0 12 ((q6.2.1 0 12) + 1)) fun s14 => ((f_X6_knownCrew s14 (q6.2.1 0 12)).bind fun q16 => (zlet (zwI q16.2 q16.1 0 a0) fun s18 => ((f_X5_tell s18 (q16.1 + 6) a1 a2).bind fun q20 => some ((q6.2.1 0 12), q20.2)))))))))))
set_option maxHeartbeats 4000000 in
set_option maxRecDepth 100000 in
theorem t_X6_crew_34 (X : zCx) (out : Int32 × zSt) (hX : zOk X RX6 cX6_crew zr_X6_crew) (hQ : zPost X 98 shC (some .int) (some (.int out.1)) out.2) (hnl : X.nL = 6) (st : zSt) (v1 : Int32) (v2 : Int32) (v3 : Int32) (hf : f_X6_crew_34  st v1 v2 v3 = some out) : zG 98 shC X st 34 [(0, .ref (X.ad 0)), (1, .int v1), (2, .int v2), (3, .int v3)] [] := by
  unfold f_X6_crew_34 at hf
  refine z_iconst (v := 0) hX dX6_crew_34 (by decide) ?_
  exact (znone hf).elim
set_option maxHeartbeats 4000000 in
set_option maxRecDepth 100000 in
theorem t_X6_crew (X : zCx) (out : Int32 × zSt) (hX : zOk X RX6 cX6_crew zr_X6_crew) (hQ : zPost X 98 shC (some .int) (some (.int out.1)) out.2) (hnl : X.nL = 6) (st : zSt) (a0 : Int32) (a1 : Int32) (a2 : Int32) (hf : f_X6_crew st a0 a1 a2 = some out) : zG 98 shC X st 0 [(0, .ref (X.ad 0)), (1, .int a0), (2, .int a1), (3, .int a2)] [] := by
  unfold f_X6_crew at hf
  refine z_iload_n hX 1 dX6_crew_0 rfl rfl ?_
  refine z_aload_n hX 0 dX6_crew_1 rfl rfl ?_
  refine z_getI hX 0 11 dX6_crew_2 (by decide) shC_0 rfl rfl zin_X6 (by decide) zm_264 ?_
  obtain ⟨q1, e2, hf⟩ := zbind hf
  refine z_callS (stk := []) (stk' := []) hX (c_X6_demandIndex X.l st a0 (st.1 0 11) q1 e2) zb_X6_demandIndex dX6_crew_5 zm_306 rfl rfl rfl ⟨by decide, by decide⟩ ⟨rfl, rfl⟩ (Nat.le_of_ble_eq_true rfl) rfl ?_
  refine z_iload_n hX 2 dX6_crew_8 rfl rfl ?_
  refine z_iconst (v := 0) hX dX6_crew_9 (by decide) ?_
  refine z_sipush (v := 500) hX dX6_crew_10 (by decide) ?_
  obtain ⟨q3, e4, hf⟩ := zbind hf
  refine z_callS (stk := []) (stk' := [.int q3.1]) hX (c_X6_isWithin X.l q1.2 a1 0 500 q3 e4) zb_X6_isWithin dX6_crew_13 zm_373 rfl rfl rfl ⟨by decide, by decide⟩ ⟨rfl, rfl⟩ (Nat.le_of_ble_eq_true rfl) rfl ?_
  refine z_if_eq hX 34 dX6_crew_16 (by decide) (fun c5 => ?_) (fun c5 => ?_)
  · have hf := (if_pos c5).symm.trans hf
    exact t_X6_crew_34 X out hX hQ hnl q3.2 a0 a1 a2 hf
  have hf := (if_neg c5).symm.trans hf
  refine z_iload_n hX 3 dX6_crew_19 rfl rfl ?_
  refine z_iload_n hX 2 dX6_crew_20 rfl rfl ?_
  refine z_sipush (v := 500) hX dX6_crew_21 (by decide) ?_
  obtain ⟨q6, e7, hf⟩ := zbind hf
  refine z_callS (stk := []) (stk' := [.int q6.1]) hX (c_X6_isWithin X.l q3.2 a2 a1 500 q6 e7) zb_X6_isWithin dX6_crew_24 zm_373 rfl rfl rfl ⟨by decide, by decide⟩ ⟨rfl, rfl⟩ (Nat.le_of_ble_eq_true rfl) rfl ?_
  refine z_if_eq hX 34 dX6_crew_27 (by decide) (fun c8 => ?_) (fun c8 => ?_)
  · have hf := (if_pos c8).symm.trans hf
    exact t_X6_crew_34 X out hX hQ hnl q6.2 a0 a1 a2 hf
  have hf := (if_neg c8).symm.trans hf
  refine z_iconst (v := 1) hX dX6_crew_30 (by decide) ?_
  refine z_goto hX 35 dX6_crew_31 (by decide) ?_
  refine z_callS (stk := []) (stk' := []) hX (c_X6_demandArgument X.l q6.2 1 ((), q6.2) rfl) zb_X6_demandArgument dX6_crew_35 zm_376 rfl rfl rfl ⟨by decide, by decide⟩ ⟨rfl, rfl⟩ (Nat.le_of_ble_eq_true rfl) rfl ?_
  refine z_aload_n hX 0 dX6_crew_38 rfl rfl ?_
  refine z_getI hX 0 12 dX6_crew_39 (by decide) shC_0 rfl rfl zin_X6 (by decide) zm_265 ?_
  refine z_bipush (v := 6) hX dX6_crew_42 (by decide) ?_
  refine z_icmp_ge hX 51 dX6_crew_44 (by decide) (fun c11 => ?_) (fun c11 => ?_)
  · have hf := (if_pos c11).symm.trans hf
    refine z_iconst (v := 0) hX dX6_crew_51 (by decide) ?_
    exact (znone hf).elim
  have hf := (if_neg c11).symm.trans hf
  refine z_iconst (v := 1) hX dX6_crew_47 (by decide) ?_
  refine z_goto hX 52 dX6_crew_48 (by decide) ?_
  refine z_callS (stk := []) (stk' := []) hX (c_X6_demandState X.l q6.2 1 ((), q6.2) rfl) zb_X6_demandState dX6_crew_52 zm_394 rfl rfl rfl ⟨by decide, by decide⟩ ⟨rfl, rfl⟩ (Nat.le_of_ble_eq_true rfl) rfl ?_
  refine z_aload_n hX 0 dX6_crew_55 rfl rfl ?_
  refine z_getI hX 0 12 dX6_crew_56 (by decide) shC_0 rfl rfl zin_X6 (by decide) zm_265 ?_
  refine z_istore hX [(0, .ref (X.ad 0)), (1, .int a0), (2, .int a1), (3, .int a2), (4, .int (q6.2.1 0 12))] dX6_crew_59 (by rw [hnl]; decide) [1, 2, 3, 4, 0] rfl ?_
  refine z_aload_n hX 0 dX6_crew_61 rfl rfl ?_
  refine z_dup hX dX6_crew_62 rfl ?_
  refine z_getI hX 0 12 dX6_crew_63 (by decide) shC_0 rfl rfl zin_X6 (by decide) zm_265 ?_
  refine z_iconst (v := 1) hX dX6_crew_66 (by decide) ?_
  refine z_iadd hX dX6_crew_67 ?_
  refine z_putI hX 0 12 dX6_crew_68 (by decide) shC_0 rfl rfl zin_X6 tyX6_ok nmX6 (by decide) zm_265 rfl rfl ?_
  obtain ⟨s14, h15, hf⟩ := zlet_ex hf
  refine z_name h15 ?_
  refine z_aload_n hX 0 dX6_crew_71 rfl rfl ?_
  refine z_iload hX 4 dX6_crew_72 rfl ?_
  obtain ⟨q16, e17, hf⟩ := zbind hf
  refine z_callV (stk := []) (stk' := [.ref (X.ad q16.1)]) hX (c_X6_knownCrew X.l s14 (q6.2.1 0 12) q16 e17) zb_X6_knownCrew 0 dX6_crew_74 zm_424 (by decide) shC_0 rfl rfl rfl rfl ⟨by decide, by decide⟩ ⟨rfl, rfl⟩ (Nat.le_of_ble_eq_true rfl) rfl ?_
  refine z_astore hX [(0, .ref (X.ad 0)), (1, .int a0), (2, .int a1), (3, .int a2), (4, .int (q6.2.1 0 12)), (5, .ref (X.ad q16.1))] dX6_crew_77 (by rw [hnl]; decide) [1, 2, 3, 4, 5, 0] rfl ?_
  refine z_aload hX 5 dX6_crew_79 rfl ?_
  refine z_iload_n hX 1 dX6_crew_81 rfl rfl ?_
  refine z_putIN hX q16.1 0 dX6_crew_82 (zlt_Crew (rr_X6_knownCrew e17)) (zsh_Crew (rr_X6_knownCrew e17)) rfl rfl zin_X1 tyX1_ok nmX1 (by decide) zm_134 rfl rfl ?_
  obtain ⟨s18, h19, hf⟩ := zlet_ex hf
  refine z_name h19 ?_
  refine z_aload hX 5 dX6_crew_85 rfl ?_
  refine z_getRN hX q16.1 1 (q16.1 + 6) dX6_crew_87 (zlt_Crew (rr_X6_knownCrew e17)) (zsh_Crew (rr_X6_knownCrew e17)) rfl rfl zin_X1 (by decide) zm_136 ?_
  refine z_iload_n hX 2 dX6_crew_90 rfl rfl ?_
  refine z_iload_n hX 3 dX6_crew_91 rfl rfl ?_
  obtain ⟨q20, e21, hf⟩ := zbind hf
  refine z_callVN (stk := []) (stk' := []) hX (c_X5_tell X.l s18 (q16.1 + 6) a1 a2 (zsp_days (rr_X6_knownCrew e17)) q20 e21) zb_X5_tell (q16.1 + 6) dX6_crew_92 zm_428 (zlt_Span (zsp_days (rr_X6_knownCrew e17))) (zsh_Span (zsp_days (rr_X6_knownCrew e17))) rfl rfl rfl rfl ⟨by decide, by decide⟩ ⟨rfl, rfl⟩ (Nat.le_of_ble_eq_true rfl) rfl ?_
  refine z_iload hX 4 dX6_crew_95 rfl ?_
  obtain rfl := Option.some.inj hf
  exact z_iret hX hQ dX6_crew_97 rfl
theorem zb_X6_crew : zCal yX6_crew cX6_crew 6 (some .int) 3 := ⟨zm_421, (zwl_in zm_422 rfl), zm_1, zm_423, by decide, by decide, rfl⟩
theorem c_X6_crew (l : Launch) (st : zSt) (a0 : Int32) (a1 : Int32) (a2 : Int32) (out : Int32 × zSt) (hf : f_X6_crew st a0 a1 a2 = some out) : zMet l yX6_crew cX6_crew 6 (some .int) zr_X6_crew 98 shC (fun ad => [.ref (ad 0), .int a0, .int a1, .int a2]) st (fun ad => some (.int out.1)) out.2 :=
  zmet_of (by decide +kernel) (fun _ => Nat.le_of_ble_eq_true rfl) (fun X _ hnl hX hQ => t_X6_crew X out hX hQ hnl st a0 a1 a2 hf)
abbrev zr_X6_hinder : Room := { frames := 3, cells := 0, slots := 0, locals := 64 }
def f_X6_hinder_35  (st : zSt) (v3 : Int32) (v4 : Int32) (r5 : Nat) : Option (Unit × zSt) := none
def f_X6_hinder (st : zSt) (a0 : Int32) (a1 : Int32) (a2 : Int32) (a3 : Int32) : Option (Unit × zSt) := ((f_X6_spanFor st a0 a1).bind fun q1 => ((f_X6_isWithin q1.2 a2 0 10000).bind fun q3 => (if q3.1 = 0 then f_X6_hinder_35 q3.2 a2 a3 q1.1 else ((f_X6_isWithin q3.2 a3 a2 10000).bind fun q6 => (if q6.1 = 0 then f_X6_hinder_35 q6.2 a2 a3 q1.1 else ((f_X5_tell q6.2 q1.1 a2 a3).bind fun q11 => some ((), q11.2)))))))
set_option maxHeartbeats 4000000 in
set_option maxRecDepth 100000 in
theorem t_X6_hinder_35 (X : zCx) (out : Unit × zSt) (hX : zOk X RX6 cX6_hinder zr_X6_hinder) (hQ : zPost X 98 shC none (none) out.2) (hnl : X.nL = 6) (st : zSt) (v3 : Int32) (v4 : Int32) (r5 : Nat) (hr5 : zkSpan r5) (hf : f_X6_hinder_35  st v3 v4 r5 = some out) : zG 98 shC X st 35 [(3, .int v3), (4, .int v4), (5, .ref (X.ad r5))] [] := by
  unfold f_X6_hinder_35 at hf
  refine z_iconst (v := 0) hX dX6_hinder_35 (by decide) ?_
  exact (znone hf).elim
set_option maxHeartbeats 4000000 in
set_option maxRecDepth 100000 in
theorem t_X6_hinder (X : zCx) (out : Unit × zSt) (hX : zOk X RX6 cX6_hinder zr_X6_hinder) (hQ : zPost X 98 shC none (none) out.2) (hnl : X.nL = 6) (st : zSt) (a0 : Int32) (a1 : Int32) (a2 : Int32) (a3 : Int32) (hf : f_X6_hinder st a0 a1 a2 a3 = some out) : zG 98 shC X st 0 [(0, .ref (X.ad 0)), (1, .int a0), (2, .int a1), (3, .int a2), (4, .int a3)] [] := by
  unfold f_X6_hinder at hf
  refine z_aload_n hX 0 dX6_hinder_0 rfl rfl ?_
  refine z_iload_n hX 1 dX6_hinder_1 rfl rfl ?_
  refine z_iload_n hX 2 dX6_hinder_2 rfl rfl ?_
  obtain ⟨q1, e2, hf⟩ := zbind hf
  refine z_callV (stk := []) (stk' := [.ref (X.ad q1.1)]) hX (c_X6_spanFor X.l st a0 a1 q1 e2) zb_X6_spanFor 0 dX6_hinder_3 zm_436 (by decide) shC_0 rfl rfl rfl rfl ⟨by decide, by decide⟩ ⟨rfl, rfl⟩ (Nat.le_of_ble_eq_true rfl) rfl ?_
  refine z_astore hX [(0, .ref (X.ad 0)), (1, .int a0), (2, .int a1), (3, .int a2), (4, .int a3), (5, .ref (X.ad q1.1))] dX6_hinder_6 (by rw [hnl]; decide) [1, 2, 3, 4, 5, 0] rfl ?_
  refine z_iload_n hX 3 dX6_hinder_8 rfl rfl ?_
  refine z_iconst (v := 0) hX dX6_hinder_9 (by decide) ?_
  refine z_sipush (v := 10000) hX dX6_hinder_10 (by decide) ?_
  obtain ⟨q3, e4, hf⟩ := zbind hf
  refine z_callS (stk := []) (stk' := [.int q3.1]) hX (c_X6_isWithin X.l q1.2 a2 0 10000 q3 e4) zb_X6_isWithin dX6_hinder_13 zm_373 rfl rfl rfl ⟨by decide, by decide⟩ ⟨rfl, rfl⟩ (Nat.le_of_ble_eq_true rfl) rfl ?_
  refine z_if_eq hX 35 dX6_hinder_16 (by decide) (fun c5 => ?_) (fun c5 => ?_)
  · have hf := (if_pos c5).symm.trans hf
    refine z_locals [3, 4, 5] [(3, .int a2), (4, .int a3), (5, .ref (X.ad q1.1))] rfl ?_
    exact t_X6_hinder_35 X out hX hQ hnl q3.2 a2 a3 q1.1 (rr_X6_spanFor e2) hf
  have hf := (if_neg c5).symm.trans hf
  refine z_iload hX 4 dX6_hinder_19 rfl ?_
  refine z_iload_n hX 3 dX6_hinder_21 rfl rfl ?_
  refine z_sipush (v := 10000) hX dX6_hinder_22 (by decide) ?_
  obtain ⟨q6, e7, hf⟩ := zbind hf
  refine z_callS (stk := []) (stk' := [.int q6.1]) hX (c_X6_isWithin X.l q3.2 a3 a2 10000 q6 e7) zb_X6_isWithin dX6_hinder_25 zm_373 rfl rfl rfl ⟨by decide, by decide⟩ ⟨rfl, rfl⟩ (Nat.le_of_ble_eq_true rfl) rfl ?_
  refine z_if_eq hX 35 dX6_hinder_28 (by decide) (fun c8 => ?_) (fun c8 => ?_)
  · have hf := (if_pos c8).symm.trans hf
    refine z_locals [3, 4, 5] [(3, .int a2), (4, .int a3), (5, .ref (X.ad q1.1))] rfl ?_
    exact t_X6_hinder_35 X out hX hQ hnl q6.2 a2 a3 q1.1 (rr_X6_spanFor e2) hf
  have hf := (if_neg c8).symm.trans hf
  refine z_iconst (v := 1) hX dX6_hinder_31 (by decide) ?_
  refine z_goto hX 36 dX6_hinder_32 (by decide) ?_
  refine z_callS (stk := []) (stk' := []) hX (c_X6_demandArgument X.l q6.2 1 ((), q6.2) rfl) zb_X6_demandArgument dX6_hinder_36 zm_376 rfl rfl rfl ⟨by decide, by decide⟩ ⟨rfl, rfl⟩ (Nat.le_of_ble_eq_true rfl) rfl ?_
  refine z_aload hX 5 dX6_hinder_39 rfl ?_
  refine z_iload_n hX 3 dX6_hinder_41 rfl rfl ?_
  refine z_iload hX 4 dX6_hinder_42 rfl ?_
  obtain ⟨q11, e12, hf⟩ := zbind hf
  refine z_callVN (stk := []) (stk' := []) hX (c_X5_tell X.l q6.2 q1.1 a2 a3 (rr_X6_spanFor e2) q11 e12) zb_X5_tell q1.1 dX6_hinder_44 zm_428 (zlt_Span (rr_X6_spanFor e2)) (zsh_Span (rr_X6_spanFor e2)) rfl rfl rfl rfl ⟨by decide, by decide⟩ ⟨rfl, rfl⟩ (Nat.le_of_ble_eq_true rfl) rfl ?_
  obtain rfl := Option.some.inj hf
  exact z_vret hX hQ dX6_hinder_47
theorem zb_X6_hinder : zCal yX6_hinder cX6_hinder 6 none 4 := ⟨zm_433, (zwl_in zm_434 rfl), zm_1, zm_435, by decide, by decide, rfl⟩
theorem c_X6_hinder (l : Launch) (st : zSt) (a0 : Int32) (a1 : Int32) (a2 : Int32) (a3 : Int32) (out : Unit × zSt) (hf : f_X6_hinder st a0 a1 a2 a3 = some out) : zMet l yX6_hinder cX6_hinder 6 none zr_X6_hinder 98 shC (fun ad => [.ref (ad 0), .int a0, .int a1, .int a2, .int a3]) st (fun ad => none) out.2 :=
  zmet_of (by decide +kernel) (fun _ => Nat.le_of_ble_eq_true rfl) (fun X _ hnl hX hQ => t_X6_hinder X out hX hQ hnl st a0 a1 a2 a3 hf)
abbrev zr_X6_bus : Room := { frames := 1, cells := 0, slots := 0, locals := 22 }
def f_X6_bus_31  (st : zSt) (v1 : Int32) (v2 : Int32) (v3 : Int32) : Option (Unit × zSt) := none
def f_X6_bus (st : zSt) (a0 : Int32) (a1 : Int32) (a2 : Int32) : Option (Unit × zSt) := ((f_X6_demandIndex st a0 6).bind fun q1 => ((f_X6_isWithin q1.2 a1 1 12).bind fun q3 => (if q3.1 = 0 then f_X6_bus_31 q3.2 a0 a1 a2 else ((f_X6_isWithin q3.2 a2 0 (a1 - 1)).bind fun q6 => (if q6.1 = 0 then f_X6_bus_31 q6.2 a0 a1 a2 else (if zin a0 6 then (zlet (zwI q6.2 6 a0.toNatClampNeg a1) fun s12 => (if zin a0 6 then (zlet (zwI s12 7 a0.toNatClampNeg a2) fun s15 => some ((), s15)) else none)) else none))))))
set_option maxHeartbeats 4000000 in
set_option maxRecDepth 100000 in
theorem t_X6_bus_31 (X : zCx) (out : Unit × zSt) (hX : zOk X RX6 cX6_bus zr_X6_bus) (hQ : zPost X 98 shC none (none) out.2) (hnl : X.nL = 4) (st : zSt) (v1 : Int32) (v2 : Int32) (v3 : Int32) (hf : f_X6_bus_31  st v1 v2 v3 = some out) : zG 98 shC X st 31 [(0, .ref (X.ad 0)), (1, .int v1), (2, .int v2), (3, .int v3)] [] := by
  unfold f_X6_bus_31 at hf
  refine z_iconst (v := 0) hX dX6_bus_31 (by decide) ?_
  exact (znone hf).elim
set_option maxHeartbeats 4000000 in
set_option maxRecDepth 100000 in
theorem t_X6_bus (X : zCx) (out : Unit × zSt) (hX : zOk X RX6 cX6_bus zr_X6_bus) (hQ : zPost X 98 shC none (none) out.2) (hnl : X.nL = 4) (st : zSt) (a0 : Int32) (a1 : Int32) (a2 : Int32) (hf : f_X6_bus st a0 a1 a2 = some out) : zG 98 shC X st 0 [(0, .ref (X.ad 0)), (1, .int a0), (2, .int a1), (3, .int a2)] [] := by
  unfold f_X6_bus at hf
  refine z_iload_n hX 1 dX6_bus_0 rfl rfl ?_
  refine z_bipush (v := 6) hX dX6_bus_1 (by decide) ?_
  obtain ⟨q1, e2, hf⟩ := zbind hf
  refine z_callS (stk := []) (stk' := []) hX (c_X6_demandIndex X.l st a0 6 q1 e2) zb_X6_demandIndex dX6_bus_3 zm_306 rfl rfl rfl ⟨by decide, by decide⟩ ⟨rfl, rfl⟩ (Nat.le_of_ble_eq_true rfl) rfl ?_
  refine z_iload_n hX 2 dX6_bus_6 rfl rfl ?_
  refine z_iconst (v := 1) hX dX6_bus_7 (by decide) ?_
  refine z_bipush (v := 12) hX dX6_bus_8 (by decide) ?_
  obtain ⟨q3, e4, hf⟩ := zbind hf
  refine z_callS (stk := []) (stk' := [.int q3.1]) hX (c_X6_isWithin X.l q1.2 a1 1 12 q3 e4) zb_X6_isWithin dX6_bus_10 zm_373 rfl rfl rfl ⟨by decide, by decide⟩ ⟨rfl, rfl⟩ (Nat.le_of_ble_eq_true rfl) rfl ?_
  refine z_if_eq hX 31 dX6_bus_13 (by decide) (fun c5 => ?_) (fun c5 => ?_)
  · have hf := (if_pos c5).symm.trans hf
    exact t_X6_bus_31 X out hX hQ hnl q3.2 a0 a1 a2 hf
  have hf := (if_neg c5).symm.trans hf
  refine z_iload_n hX 3 dX6_bus_16 rfl rfl ?_
  refine z_iconst (v := 0) hX dX6_bus_17 (by decide) ?_
  refine z_iload_n hX 2 dX6_bus_18 rfl rfl ?_
  refine z_iconst (v := 1) hX dX6_bus_19 (by decide) ?_
  refine z_isub hX dX6_bus_20 ?_
  obtain ⟨q6, e7, hf⟩ := zbind hf
  refine z_callS (stk := []) (stk' := [.int q6.1]) hX (c_X6_isWithin X.l q3.2 a2 0 (a1 - 1) q6 e7) zb_X6_isWithin dX6_bus_21 zm_373 rfl rfl rfl ⟨by decide, by decide⟩ ⟨rfl, rfl⟩ (Nat.le_of_ble_eq_true rfl) rfl ?_
  refine z_if_eq hX 31 dX6_bus_24 (by decide) (fun c8 => ?_) (fun c8 => ?_)
  · have hf := (if_pos c8).symm.trans hf
    exact t_X6_bus_31 X out hX hQ hnl q6.2 a0 a1 a2 hf
  have hf := (if_neg c8).symm.trans hf
  refine z_iconst (v := 1) hX dX6_bus_27 (by decide) ?_
  refine z_goto hX 32 dX6_bus_28 (by decide) ?_
  refine z_callS (stk := []) (stk' := []) hX (c_X6_demandArgument X.l q6.2 1 ((), q6.2) rfl) zb_X6_demandArgument dX6_bus_32 zm_376 rfl rfl rfl ⟨by decide, by decide⟩ ⟨rfl, rfl⟩ (Nat.le_of_ble_eq_true rfl) rfl ?_
  refine z_aload_n hX 0 dX6_bus_35 rfl rfl ?_
  refine z_getR hX 0 5 6 dX6_bus_36 (by decide) shC_0 rfl rfl zin_X6 (by decide) zm_258 ?_
  refine z_iload_n hX 1 dX6_bus_39 rfl rfl ?_
  refine z_iload_n hX 2 dX6_bus_40 rfl rfl ?_
  obtain ⟨i11, hf⟩ := zifd hf
  refine z_iast hX 6 dX6_bus_41 (by decide) shC_6 i11 ?_
  obtain ⟨s12, h13, hf⟩ := zlet_ex hf
  refine z_name h13 ?_
  refine z_aload_n hX 0 dX6_bus_42 rfl rfl ?_
  refine z_getR hX 0 6 7 dX6_bus_43 (by decide) shC_0 rfl rfl zin_X6 (by decide) zm_259 ?_
  refine z_iload_n hX 1 dX6_bus_46 rfl rfl ?_
  refine z_iload_n hX 3 dX6_bus_47 rfl rfl ?_
  obtain ⟨i14, hf⟩ := zifd hf
  refine z_iast hX 7 dX6_bus_48 (by decide) shC_7 i14 ?_
  obtain ⟨s15, h16, hf⟩ := zlet_ex hf
  refine z_name h16 ?_
  obtain rfl := Option.some.inj hf
  exact z_vret hX hQ dX6_bus_49
theorem zb_X6_bus : zCal yX6_bus cX6_bus 4 none 3 := ⟨zm_441, (zwl_in zm_442 rfl), zm_1, zm_443, by decide, by decide, rfl⟩
theorem c_X6_bus (l : Launch) (st : zSt) (a0 : Int32) (a1 : Int32) (a2 : Int32) (out : Unit × zSt) (hf : f_X6_bus st a0 a1 a2 = some out) : zMet l yX6_bus cX6_bus 4 none zr_X6_bus 98 shC (fun ad => [.ref (ad 0), .int a0, .int a1, .int a2]) st (fun ad => none) out.2 :=
  zmet_of (by decide +kernel) (fun _ => Nat.le_of_ble_eq_true rfl) (fun X _ hnl hX hQ => t_X6_bus X out hX hQ hnl st a0 a1 a2 hf)
abbrev zr_X6_reside : Room := { frames := 1, cells := 0, slots := 0, locals := 21 }
def f_X6_reside_17  (st : zSt) (v1 : Int32) (v2 : Int32) : Option (Int32 × zSt) := (if zin v1 10 then (if zin v1 10 then (zlet (zwI st 5 v1.toNatClampNeg v2) fun s8 => some ((st.1 5 v1.toNatClampNeg), s8)) else none) else none)
def f_X6_reside (st : zSt) (a0 : Int32) (a1 : Int32) : Option (Int32 × zSt) := ((f_X6_demandIndex st a0 10).bind fun q1 => (if a1 = (-1) then f_X6_reside_17 q1.2 a0 a1 else ((f_X6_demandIndex q1.2 a1 6).bind fun q4 => f_X6_reside_17 q4.2 a0 a1)))
set_option maxHeartbeats 4000000 in
set_option maxRecDepth 100000 in
theorem t_X6_reside_17 (X : zCx) (out : Int32 × zSt) (hX : zOk X RX6 cX6_reside zr_X6_reside) (hQ : zPost X 98 shC (some .int) (some (.int out.1)) out.2) (hnl : X.nL = 4) (st : zSt) (v1 : Int32) (v2 : Int32) (hf : f_X6_reside_17  st v1 v2 = some out) : zG 98 shC X st 17 [(0, .ref (X.ad 0)), (1, .int v1), (2, .int v2)] [] := by
  unfold f_X6_reside_17 at hf
  refine z_aload_n hX 0 dX6_reside_17 rfl rfl ?_
  refine z_getR hX 0 4 5 dX6_reside_18 (by decide) shC_0 rfl rfl zin_X6 (by decide) zm_257 ?_
  refine z_iload_n hX 1 dX6_reside_21 rfl rfl ?_
  obtain ⟨i6, hf⟩ := zifd hf
  refine z_iald hX 5 dX6_reside_22 (by decide) shC_5 i6 ?_
  refine z_istore_n hX [(0, .ref (X.ad 0)), (1, .int v1), (2, .int v2), (3, .int (st.1 5 v1.toNatClampNeg))] dX6_reside_23 rfl (by rw [hnl]; decide) [1, 2, 3, 0] rfl ?_
  refine z_aload_n hX 0 dX6_reside_24 rfl rfl ?_
  refine z_getR hX 0 4 5 dX6_reside_25 (by decide) shC_0 rfl rfl zin_X6 (by decide) zm_257 ?_
  refine z_iload_n hX 1 dX6_reside_28 rfl rfl ?_
  refine z_iload_n hX 2 dX6_reside_29 rfl rfl ?_
  obtain ⟨i7, hf⟩ := zifd hf
  refine z_iast hX 5 dX6_reside_30 (by decide) shC_5 i7 ?_
  obtain ⟨s8, h9, hf⟩ := zlet_ex hf
  refine z_name h9 ?_
  refine z_iload_n hX 3 dX6_reside_31 rfl rfl ?_
  obtain rfl := Option.some.inj hf
  exact z_iret hX hQ dX6_reside_32 rfl
set_option maxHeartbeats 4000000 in
set_option maxRecDepth 100000 in
theorem t_X6_reside (X : zCx) (out : Int32 × zSt) (hX : zOk X RX6 cX6_reside zr_X6_reside) (hQ : zPost X 98 shC (some .int) (some (.int out.1)) out.2) (hnl : X.nL = 4) (st : zSt) (a0 : Int32) (a1 : Int32) (hf : f_X6_reside st a0 a1 = some out) : zG 98 shC X st 0 [(0, .ref (X.ad 0)), (1, .int a0), (2, .int a1)] [] := by
  unfold f_X6_reside at hf
  refine z_iload_n hX 1 dX6_reside_0 rfl rfl ?_
  refine z_bipush (v := 10) hX dX6_reside_1 (by decide) ?_
  obtain ⟨q1, e2, hf⟩ := zbind hf
  refine z_callS (stk := []) (stk' := []) hX (c_X6_demandIndex X.l st a0 10 q1 e2) zb_X6_demandIndex dX6_reside_3 zm_306 rfl rfl rfl ⟨by decide, by decide⟩ ⟨rfl, rfl⟩ (Nat.le_of_ble_eq_true rfl) rfl ?_
  refine z_iload_n hX 2 dX6_reside_6 rfl rfl ?_
  refine z_iconst (v := (-1)) hX dX6_reside_7 (by decide) ?_
  refine z_icmp_eq hX 17 dX6_reside_8 (by decide) (fun c3 => ?_) (fun c3 => ?_)
  · have hf := (if_pos c3).symm.trans hf
    exact t_X6_reside_17 X out hX hQ hnl q1.2 a0 a1 hf
  have hf := (if_neg c3).symm.trans hf
  refine z_iload_n hX 2 dX6_reside_11 rfl rfl ?_
  refine z_bipush (v := 6) hX dX6_reside_12 (by decide) ?_
  obtain ⟨q4, e5, hf⟩ := zbind hf
  refine z_callS (stk := []) (stk' := []) hX (c_X6_demandIndex X.l q1.2 a1 6 q4 e5) zb_X6_demandIndex dX6_reside_14 zm_306 rfl rfl rfl ⟨by decide, by decide⟩ ⟨rfl, rfl⟩ (Nat.le_of_ble_eq_true rfl) rfl ?_
  exact t_X6_reside_17 X out hX hQ hnl q4.2 a0 a1 hf
theorem zb_X6_reside : zCal yX6_reside cX6_reside 4 (some .int) 2 := ⟨zm_445, (zwl_in zm_446 rfl), zm_1, zm_447, by decide, by decide, rfl⟩
theorem c_X6_reside (l : Launch) (st : zSt) (a0 : Int32) (a1 : Int32) (out : Int32 × zSt) (hf : f_X6_reside st a0 a1 = some out) : zMet l yX6_reside cX6_reside 4 (some .int) zr_X6_reside 98 shC (fun ad => [.ref (ad 0), .int a0, .int a1]) st (fun ad => some (.int out.1)) out.2 :=
  zmet_of (by decide +kernel) (fun _ => Nat.le_of_ble_eq_true rfl) (fun X _ hnl hX hQ => t_X6_reside X out hX hQ hnl st a0 a1 hf)
abbrev zr_X6_plan : Room := { frames := 3, cells := 0, slots := 0, locals := 69 }
def f_X6_plan_125  (st : zSt) (v1 : Int32) (v2 : Int32) (v3 : Int32) (v4 : Int32) (v7 : Int32) : Option (Int32 × zSt) := none
def f_X6_plan_102  (st : zSt) (v1 : Int32) (v2 : Int32) (v3 : Int32) (v4 : Int32) (v7 : Int32) (v8 : Int32) : Option (Int32 × zSt) := none
def f_X6_plan_66  (st : zSt) (v1 : Int32) (v2 : Int32) (v3 : Int32) (v4 : Int32) (v7 : Int32) (v8 : Int32) : Option (Int32 × zSt) := ((f_X6_isWithin st v3 (st.1 0 15) 10000).bind fun q13 => (if q13.1 = 0 then f_X6_plan_102 q13.2 v1 v2 v3 v4 v7 v8 else ((f_X6_isWithin q13.2 v4 1 400).bind fun q16 => (if q16.1 = 0 then f_X6_plan_102 q16.2 v1 v2 v3 v4 v7 v8 else (if v2 = v7 then f_X6_plan_102 q16.2 v1 v2 v3 v4 v7 v8 else (if v3 < v8 then f_X6_plan_125 q16.2 v1 v2 v3 v4 v7 else (if 24 ≤ (q16.2.1 0 13) then f_X6_plan_125 q16.2 v1 v2 v3 v4 v7 else ((f_X6_addSailing q16.2 v1 v7 v2 v3 v4).bind fun q26 => some (q26.1, q26.2)))))))))
def f_X6_plan_45  (st : zSt) (v1 : Int32) (v2 : Int32) (v3 : Int32) (v4 : Int32) (v6 : Int32) (v7 : Int32) : Option (Int32 × zSt) := (if v6 = (-1) then f_X6_plan_66 st v1 v2 v3 v4 v7 0 else ((f_X6_knownSailing st v6).bind fun q11 => f_X6_plan_66 q11.2 v1 v2 v3 v4 v7 (q11.2.1 q11.1 4)))
def f_X6_plan (st : zSt) (a0 : Int32) (a1 : Int32) (a2 : Int32) (a3 : Int32) : Option (Int32 × zSt) := ((f_X6_knownShip st a0).bind fun q1 => ((f_X6_demandIndex q1.2 a1 6).bind fun q3 => ((f_X6_lastSailing q3.2 a0).bind fun q5 => (if q5.1 = (-1) then f_X6_plan_45 q5.2 a0 a1 a2 a3 q5.1 (q5.2.1 q1.1 0) else ((f_X6_knownSailing q5.2 q5.1).bind fun q8 => f_X6_plan_45 q8.2 a0 a1 a2 a3 q5.1 (q8.2.1 q8.1 2))))))
set_option maxHeartbeats 4000000 in
set_option maxRecDepth 100000 in
theorem t_X6_plan_125 (X : zCx) (out : Int32 × zSt) (hX : zOk X RX6 cX6_plan zr_X6_plan) (hQ : zPost X 98 shC (some .int) (some (.int out.1)) out.2) (hnl : X.nL = 9) (st : zSt) (v1 : Int32) (v2 : Int32) (v3 : Int32) (v4 : Int32) (v7 : Int32) (hf : f_X6_plan_125  st v1 v2 v3 v4 v7 = some out) : zG 98 shC X st 125 [(0, .ref (X.ad 0)), (1, .int v1), (2, .int v2), (3, .int v3), (4, .int v4), (7, .int v7)] [] := by
  unfold f_X6_plan_125 at hf
  refine z_iconst (v := 0) hX dX6_plan_125 (by decide) ?_
  exact (znone hf).elim
set_option maxHeartbeats 4000000 in
set_option maxRecDepth 100000 in
theorem t_X6_plan_102 (X : zCx) (out : Int32 × zSt) (hX : zOk X RX6 cX6_plan zr_X6_plan) (hQ : zPost X 98 shC (some .int) (some (.int out.1)) out.2) (hnl : X.nL = 9) (st : zSt) (v1 : Int32) (v2 : Int32) (v3 : Int32) (v4 : Int32) (v7 : Int32) (v8 : Int32) (hf : f_X6_plan_102  st v1 v2 v3 v4 v7 v8 = some out) : zG 98 shC X st 102 [(0, .ref (X.ad 0)), (1, .int v1), (2, .int v2), (3, .int v3), (4, .int v4), (7, .int v7), (8, .int v8)] [] := by
  unfold f_X6_plan_102 at hf
  refine z_iconst (v := 0) hX dX6_plan_102 (by decide) ?_
  exact (znone hf).elim
set_option maxHeartbeats 4000000 in
set_option maxRecDepth 100000 in
theorem t_X6_plan_66 (X : zCx) (out : Int32 × zSt) (hX : zOk X RX6 cX6_plan zr_X6_plan) (hQ : zPost X 98 shC (some .int) (some (.int out.1)) out.2) (hnl : X.nL = 9) (st : zSt) (v1 : Int32) (v2 : Int32) (v3 : Int32) (v4 : Int32) (v7 : Int32) (v8 : Int32) (hf : f_X6_plan_66  st v1 v2 v3 v4 v7 v8 = some out) : zG 98 shC X st 66 [(0, .ref (X.ad 0)), (1, .int v1), (2, .int v2), (3, .int v3), (4, .int v4), (7, .int v7), (8, .int v8)] [] := by
  unfold f_X6_plan_66 at hf
  refine z_iload_n hX 3 dX6_plan_66 rfl rfl ?_
  refine z_aload_n hX 0 dX6_plan_67 rfl rfl ?_
  refine z_getI hX 0 15 dX6_plan_68 (by decide) shC_0 rfl rfl zin_X6 (by decide) zm_268 ?_
  refine z_sipush (v := 10000) hX dX6_plan_71 (by decide) ?_
  obtain ⟨q13, e14, hf⟩ := zbind hf
  refine z_callS (stk := []) (stk' := [.int q13.1]) hX (c_X6_isWithin X.l st v3 (st.1 0 15) 10000 q13 e14) zb_X6_isWithin dX6_plan_74 zm_373 rfl rfl rfl ⟨by decide, by decide⟩ ⟨rfl, rfl⟩ (Nat.le_of_ble_eq_true rfl) rfl ?_
  refine z_if_eq hX 102 dX6_plan_77 (by decide) (fun c15 => ?_) (fun c15 => ?_)
  · have hf := (if_pos c15).symm.trans hf
    exact t_X6_plan_102 X out hX hQ hnl q13.2 v1 v2 v3 v4 v7 v8 hf
  have hf := (if_neg c15).symm.trans hf
  refine z_iload hX 4 dX6_plan_80 rfl ?_
  refine z_iconst (v := 1) hX dX6_plan_82 (by decide) ?_
  refine z_sipush (v := 400) hX dX6_plan_83 (by decide) ?_
  obtain ⟨q16, e17, hf⟩ := zbind hf
  refine z_callS (stk := []) (stk' := [.int q16.1]) hX (c_X6_isWithin X.l q13.2 v4 1 400 q16 e17) zb_X6_isWithin dX6_plan_86 zm_373 rfl rfl rfl ⟨by decide, by decide⟩ ⟨rfl, rfl⟩ (Nat.le_of_ble_eq_true rfl) rfl ?_
  refine z_if_eq hX 102 dX6_plan_89 (by decide) (fun c18 => ?_) (fun c18 => ?_)
  · have hf := (if_pos c18).symm.trans hf
    exact t_X6_plan_102 X out hX hQ hnl q16.2 v1 v2 v3 v4 v7 v8 hf
  have hf := (if_neg c18).symm.trans hf
  refine z_iload_n hX 2 dX6_plan_92 rfl rfl ?_
  refine z_iload hX 5 dX6_plan_93 rfl ?_
  refine z_icmp_eq hX 102 dX6_plan_95 (by decide) (fun c19 => ?_) (fun c19 => ?_)
  · have hf := (if_pos c19).symm.trans hf
    exact t_X6_plan_102 X out hX hQ hnl q16.2 v1 v2 v3 v4 v7 v8 hf
  have hf := (if_neg c19).symm.trans hf
  refine z_iconst (v := 1) hX dX6_plan_98 (by decide) ?_
  refine z_goto hX 103 dX6_plan_99 (by decide) ?_
  refine z_callS (stk := []) (stk' := []) hX (c_X6_demandArgument X.l q16.2 1 ((), q16.2) rfl) zb_X6_demandArgument dX6_plan_103 zm_376 rfl rfl rfl ⟨by decide, by decide⟩ ⟨rfl, rfl⟩ (Nat.le_of_ble_eq_true rfl) rfl ?_
  refine z_iload hX 6 dX6_plan_106 rfl ?_
  refine z_iload_n hX 3 dX6_plan_108 rfl rfl ?_
  refine z_icmp_gt hX 125 dX6_plan_109 (by decide) (fun c22 => ?_) (fun c22 => ?_)
  · have hf := (if_pos c22).symm.trans hf
    refine z_locals [0, 1, 2, 3, 4, 5] [(0, .ref (X.ad 0)), (1, .int v1), (2, .int v2), (3, .int v3), (4, .int v4), (7, .int v7)] rfl ?_
    exact t_X6_plan_125 X out hX hQ hnl q16.2 v1 v2 v3 v4 v7 hf
  have hf := (if_neg c22).symm.trans hf
  refine z_aload_n hX 0 dX6_plan_112 rfl rfl ?_
  refine z_getI hX 0 13 dX6_plan_113 (by decide) shC_0 rfl rfl zin_X6 (by decide) zm_266 ?_
  refine z_bipush (v := 24) hX dX6_plan_116 (by decide) ?_
  refine z_icmp_ge hX 125 dX6_plan_118 (by decide) (fun c23 => ?_) (fun c23 => ?_)
  · have hf := (if_pos c23).symm.trans hf
    refine z_locals [0, 1, 2, 3, 4, 5] [(0, .ref (X.ad 0)), (1, .int v1), (2, .int v2), (3, .int v3), (4, .int v4), (7, .int v7)] rfl ?_
    exact t_X6_plan_125 X out hX hQ hnl q16.2 v1 v2 v3 v4 v7 hf
  have hf := (if_neg c23).symm.trans hf
  refine z_iconst (v := 1) hX dX6_plan_121 (by decide) ?_
  refine z_goto hX 126 dX6_plan_122 (by decide) ?_
  refine z_callS (stk := []) (stk' := []) hX (c_X6_demandState X.l q16.2 1 ((), q16.2) rfl) zb_X6_demandState dX6_plan_126 zm_394 rfl rfl rfl ⟨by decide, by decide⟩ ⟨rfl, rfl⟩ (Nat.le_of_ble_eq_true rfl) rfl ?_
  refine z_aload_n hX 0 dX6_plan_129 rfl rfl ?_
  refine z_iload_n hX 1 dX6_plan_130 rfl rfl ?_
  refine z_iload hX 5 dX6_plan_131 rfl ?_
  refine z_iload_n hX 2 dX6_plan_133 rfl rfl ?_
  refine z_iload_n hX 3 dX6_plan_134 rfl rfl ?_
  refine z_iload hX 4 dX6_plan_135 rfl ?_
  obtain ⟨q26, e27, hf⟩ := zbind hf
  refine z_callV (stk := []) (stk' := [.int q26.1]) hX (c_X6_addSailing X.l q16.2 v1 v7 v2 v3 v4 q26 e27) zb_X6_addSailing 0 dX6_plan_137 zm_612 (by decide) shC_0 rfl rfl rfl rfl ⟨by decide, by decide⟩ ⟨rfl, rfl⟩ (Nat.le_of_ble_eq_true rfl) rfl ?_
  obtain rfl := Option.some.inj hf
  exact z_iret hX hQ dX6_plan_140 rfl
set_option maxHeartbeats 4000000 in
set_option maxRecDepth 100000 in
theorem t_X6_plan_45 (X : zCx) (out : Int32 × zSt) (hX : zOk X RX6 cX6_plan zr_X6_plan) (hQ : zPost X 98 shC (some .int) (some (.int out.1)) out.2) (hnl : X.nL = 9) (st : zSt) (v1 : Int32) (v2 : Int32) (v3 : Int32) (v4 : Int32) (v6 : Int32) (v7 : Int32) (hf : f_X6_plan_45  st v1 v2 v3 v4 v6 v7 = some out) : zG 98 shC X st 45 [(0, .ref (X.ad 0)), (1, .int v1), (2, .int v2), (3, .int v3), (4, .int v4), (6, .int v6), (7, .int v7)] [] := by
  unfold f_X6_plan_45 at hf
  refine z_iload hX 5 dX6_plan_45 rfl ?_
  refine z_iconst (v := (-1)) hX dX6_plan_47 (by decide) ?_
  refine z_icmp_ne hX 55 dX6_plan_48 (by decide) (fun c10 => ?_) (fun c10 => ?_)
  · have hf := (if_neg c10).symm.trans hf
    refine z_aload_n hX 0 dX6_plan_55 rfl rfl ?_
    refine z_iload hX 5 dX6_plan_56 rfl ?_
    obtain ⟨q11, e12, hf⟩ := zbind hf
    refine z_callV (stk := []) (stk' := [.ref (X.ad q11.1)]) hX (c_X6_knownSailing X.l st v6 q11 e12) zb_X6_knownSailing 0 dX6_plan_58 zm_456 (by decide) shC_0 rfl rfl rfl rfl ⟨by decide, by decide⟩ ⟨rfl, rfl⟩ (Nat.le_of_ble_eq_true rfl) rfl ?_
    refine z_getIN hX q11.1 4 dX6_plan_61 (zlt_Sailing (rr_X6_knownSailing e12)) (zsh_Sailing (rr_X6_knownSailing e12)) rfl rfl zin_X3 (by decide) zm_156 ?_
    refine z_istore hX [(0, .ref (X.ad 0)), (1, .int v1), (2, .int v2), (3, .int v3), (4, .int v4), (6, .int v6), (7, .int v7), (8, .int (q11.2.1 q11.1 4))] dX6_plan_64 (by rw [hnl]; decide) [1, 2, 3, 4, 5, 6, 7, 0] rfl ?_
    refine z_locals [0, 1, 2, 3, 4, 6, 7] [(0, .ref (X.ad 0)), (1, .int v1), (2, .int v2), (3, .int v3), (4, .int v4), (7, .int v7), (8, .int (q11.2.1 q11.1 4))] rfl ?_
    exact t_X6_plan_66 X out hX hQ hnl q11.2 v1 v2 v3 v4 v7 (q11.2.1 q11.1 4) hf
  have hf := (if_pos c10).symm.trans hf
  refine z_iconst (v := 0) hX dX6_plan_51 (by decide) ?_
  refine z_goto hX 64 dX6_plan_52 (by decide) ?_
  refine z_istore hX [(0, .ref (X.ad 0)), (1, .int v1), (2, .int v2), (3, .int v3), (4, .int v4), (6, .int v6), (7, .int v7), (8, .int 0)] dX6_plan_64 (by rw [hnl]; decide) [1, 2, 3, 4, 5, 6, 7, 0] rfl ?_
  refine z_locals [0, 1, 2, 3, 4, 6, 7] [(0, .ref (X.ad 0)), (1, .int v1), (2, .int v2), (3, .int v3), (4, .int v4), (7, .int v7), (8, .int 0)] rfl ?_
  exact t_X6_plan_66 X out hX hQ hnl st v1 v2 v3 v4 v7 0 hf
set_option maxHeartbeats 4000000 in
set_option maxRecDepth 100000 in
theorem t_X6_plan (X : zCx) (out : Int32 × zSt) (hX : zOk X RX6 cX6_plan zr_X6_plan) (hQ : zPost X 98 shC (some .int) (some (.int out.1)) out.2) (hnl : X.nL = 9) (st : zSt) (a0 : Int32) (a1 : Int32) (a2 : Int32) (a3 : Int32) (hf : f_X6_plan st a0 a1 a2 a3 = some out) : zG 98 shC X st 0 [(0, .ref (X.ad 0)), (1, .int a0), (2, .int a1), (3, .int a2), (4, .int a3)] [] := by
  unfold f_X6_plan at hf
  refine z_aload_n hX 0 dX6_plan_0 rfl rfl ?_
  refine z_iload_n hX 1 dX6_plan_1 rfl rfl ?_
  obtain ⟨q1, e2, hf⟩ := zbind hf
  refine z_callV (stk := []) (stk' := [.ref (X.ad q1.1)]) hX (c_X6_knownShip X.l st a0 q1 e2) zb_X6_knownShip 0 dX6_plan_2 zm_412 (by decide) shC_0 rfl rfl rfl rfl ⟨by decide, by decide⟩ ⟨rfl, rfl⟩ (Nat.le_of_ble_eq_true rfl) rfl ?_
  refine z_astore hX [(0, .ref (X.ad 0)), (1, .int a0), (2, .int a1), (3, .int a2), (4, .int a3), (5, .ref (X.ad q1.1))] dX6_plan_5 (by rw [hnl]; decide) [1, 2, 3, 4, 5, 0] rfl ?_
  refine z_iload_n hX 2 dX6_plan_7 rfl rfl ?_
  refine z_bipush (v := 6) hX dX6_plan_8 (by decide) ?_
  obtain ⟨q3, e4, hf⟩ := zbind hf
  refine z_callS (stk := []) (stk' := []) hX (c_X6_demandIndex X.l q1.2 a1 6 q3 e4) zb_X6_demandIndex dX6_plan_10 zm_306 rfl rfl rfl ⟨by decide, by decide⟩ ⟨rfl, rfl⟩ (Nat.le_of_ble_eq_true rfl) rfl ?_
  refine z_aload_n hX 0 dX6_plan_13 rfl rfl ?_
  refine z_iload_n hX 1 dX6_plan_14 rfl rfl ?_
  obtain ⟨q5, e6, hf⟩ := zbind hf
  refine z_callV (stk := []) (stk' := [.int q5.1]) hX (c_X6_lastSailing X.l q3.2 a0 q5 e6) zb_X6_lastSailing 0 dX6_plan_15 zm_608 (by decide) shC_0 rfl rfl rfl rfl ⟨by decide, by decide⟩ ⟨rfl, rfl⟩ (Nat.le_of_ble_eq_true rfl) rfl ?_
  refine z_istore hX [(0, .ref (X.ad 0)), (1, .int a0), (2, .int a1), (3, .int a2), (4, .int a3), (5, .ref (X.ad q1.1)), (6, .int q5.1)] dX6_plan_18 (by rw [hnl]; decide) [1, 2, 3, 4, 5, 6, 0] rfl ?_
  refine z_iload hX 6 dX6_plan_20 rfl ?_
  refine z_iconst (v := (-1)) hX dX6_plan_22 (by decide) ?_
  refine z_icmp_ne hX 34 dX6_plan_23 (by decide) (fun c7 => ?_) (fun c7 => ?_)
  · have hf := (if_neg c7).symm.trans hf
    refine z_aload_n hX 0 dX6_plan_34 rfl rfl ?_
    refine z_iload hX 6 dX6_plan_35 rfl ?_
    obtain ⟨q8, e9, hf⟩ := zbind hf
    refine z_callV (stk := []) (stk' := [.ref (X.ad q8.1)]) hX (c_X6_knownSailing X.l q5.2 q5.1 q8 e9) zb_X6_knownSailing 0 dX6_plan_37 zm_456 (by decide) shC_0 rfl rfl rfl rfl ⟨by decide, by decide⟩ ⟨rfl, rfl⟩ (Nat.le_of_ble_eq_true rfl) rfl ?_
    refine z_getIN hX q8.1 2 dX6_plan_40 (zlt_Sailing (rr_X6_knownSailing e9)) (zsh_Sailing (rr_X6_knownSailing e9)) rfl rfl zin_X3 (by decide) zm_152 ?_
    refine z_istore hX [(0, .ref (X.ad 0)), (1, .int a0), (2, .int a1), (3, .int a2), (4, .int a3), (5, .ref (X.ad q1.1)), (6, .int q5.1), (7, .int (q8.2.1 q8.1 2))] dX6_plan_43 (by rw [hnl]; decide) [1, 2, 3, 4, 5, 6, 7, 0] rfl ?_
    refine z_locals [0, 1, 2, 3, 4, 6, 7] [(0, .ref (X.ad 0)), (1, .int a0), (2, .int a1), (3, .int a2), (4, .int a3), (6, .int q5.1), (7, .int (q8.2.1 q8.1 2))] rfl ?_
    exact t_X6_plan_45 X out hX hQ hnl q8.2 a0 a1 a2 a3 q5.1 (q8.2.1 q8.1 2) hf
  have hf := (if_pos c7).symm.trans hf
  refine z_aload hX 5 dX6_plan_26 rfl ?_
  refine z_getIN hX q1.1 0 dX6_plan_28 (zlt_Ship (rr_X6_knownShip e2)) (zsh_Ship (rr_X6_knownShip e2)) rfl rfl zin_X4 (by decide) zm_91 ?_
  refine z_goto hX 43 dX6_plan_31 (by decide) ?_
  refine z_istore hX [(0, .ref (X.ad 0)), (1, .int a0), (2, .int a1), (3, .int a2), (4, .int a3), (5, .ref (X.ad q1.1)), (6, .int q5.1), (7, .int (q5.2.1 q1.1 0))] dX6_plan_43 (by rw [hnl]; decide) [1, 2, 3, 4, 5, 6, 7, 0] rfl ?_
  refine z_locals [0, 1, 2, 3, 4, 6, 7] [(0, .ref (X.ad 0)), (1, .int a0), (2, .int a1), (3, .int a2), (4, .int a3), (6, .int q5.1), (7, .int (q5.2.1 q1.1 0))] rfl ?_
  exact t_X6_plan_45 X out hX hQ hnl q5.2 a0 a1 a2 a3 q5.1 (q5.2.1 q1.1 0) hf
theorem zb_X6_plan : zCal yX6_plan cX6_plan 9 (some .int) 4 := ⟨zm_605, (zwl_in zm_606 rfl), zm_1, zm_607, by decide, by decide, rfl⟩
theorem c_X6_plan (l : Launch) (st : zSt) (a0 : Int32) (a1 : Int32) (a2 : Int32) (a3 : Int32) (out : Int32 × zSt) (hf : f_X6_plan st a0 a1 a2 a3 = some out) : zMet l yX6_plan cX6_plan 9 (some .int) zr_X6_plan 98 shC (fun ad => [.ref (ad 0), .int a0, .int a1, .int a2, .int a3]) st (fun ad => some (.int out.1)) out.2 :=
  zmet_of (by decide +kernel) (fun _ => Nat.le_of_ble_eq_true rfl) (fun X _ hnl hX hQ => t_X6_plan X out hX hQ hnl st a0 a1 a2 a3 hf)
abbrev zr_X6_cancel : Room := { frames := 5, cells := 0, slots := 0, locals := 115 }
def f_X6_cancel (st : zSt) (a0 : Int32) : Option (Int32 × zSt) := ((f_X6_knownSailing st a0).bind fun q1 => (if (q1.2.1 q1.1 6) = 0 then ((f_X6_callOff q1.2 a0 7).bind fun q6 => some (q6.1, q6.2)) else none))
set_option maxHeartbeats 4000000 in
set_option maxRecDepth 100000 in
theorem t_X6_cancel (X : zCx) (out : Int32 × zSt) (hX : zOk X RX6 cX6_cancel zr_X6_cancel) (hQ : zPost X 98 shC (some .int) (some (.int out.1)) out.2) (hnl : X.nL = 3) (st : zSt) (a0 : Int32) (hf : f_X6_cancel st a0 = some out) : zG 98 shC X st 0 [(0, .ref (X.ad 0)), (1, .int a0)] [] := by
  unfold f_X6_cancel at hf
  refine z_aload_n hX 0 dX6_cancel_0 rfl rfl ?_
  refine z_iload_n hX 1 dX6_cancel_1 rfl rfl ?_
  obtain ⟨q1, e2, hf⟩ := zbind hf
  refine z_callV (stk := []) (stk' := [.ref (X.ad q1.1)]) hX (c_X6_knownSailing X.l st a0 q1 e2) zb_X6_knownSailing 0 dX6_cancel_2 zm_456 (by decide) shC_0 rfl rfl rfl rfl ⟨by decide, by decide⟩ ⟨rfl, rfl⟩ (Nat.le_of_ble_eq_true rfl) rfl ?_
  refine z_astore_n hX [(0, .ref (X.ad 0)), (1, .int a0), (2, .ref (X.ad q1.1))] dX6_cancel_5 rfl (by rw [hnl]; decide) [1, 2, 0] rfl ?_
  refine z_aload_n hX 2 dX6_cancel_6 rfl rfl ?_
  refine z_getIN hX q1.1 6 dX6_cancel_7 (zlt_Sailing (rr_X6_knownSailing e2)) (zsh_Sailing (rr_X6_knownSailing e2)) rfl rfl zin_X3 (by decide) zm_160 ?_
  refine z_if_ne hX 17 dX6_cancel_10 (by decide) (fun c3 => ?_) (fun c3 => ?_)
  · have hf := (if_neg c3).symm.trans hf
    refine z_iconst (v := 0) hX dX6_cancel_17 (by decide) ?_
    exact (znone hf).elim
  have hf := (if_pos c3).symm.trans hf
  refine z_iconst (v := 1) hX dX6_cancel_13 (by decide) ?_
  refine z_goto hX 18 dX6_cancel_14 (by decide) ?_
  refine z_callS (stk := []) (stk' := []) hX (c_X6_demandState X.l q1.2 1 ((), q1.2) rfl) zb_X6_demandState dX6_cancel_18 zm_394 rfl rfl rfl ⟨by decide, by decide⟩ ⟨rfl, rfl⟩ (Nat.le_of_ble_eq_true rfl) rfl ?_
  refine z_aload_n hX 0 dX6_cancel_21 rfl rfl ?_
  refine z_iload_n hX 1 dX6_cancel_22 rfl rfl ?_
  refine z_bipush (v := 7) hX dX6_cancel_23 (by decide) ?_
  obtain ⟨q6, e7, hf⟩ := zbind hf
  refine z_callV (stk := []) (stk' := [.int q6.1]) hX (c_X6_callOff X.l q1.2 a0 7 q6 e7) zb_X6_callOff 0 dX6_cancel_25 zm_563 (by decide) shC_0 rfl rfl rfl rfl ⟨by decide, by decide⟩ ⟨rfl, rfl⟩ (Nat.le_of_ble_eq_true rfl) rfl ?_
  obtain rfl := Option.some.inj hf
  exact z_iret hX hQ dX6_cancel_28 rfl
theorem zb_X6_cancel : zCal yX6_cancel cX6_cancel 3 (some .int) 1 := ⟨zm_624, (zwl_in zm_625 rfl), zm_1, zm_626, by decide, by decide, rfl⟩
theorem c_X6_cancel (l : Launch) (st : zSt) (a0 : Int32) (out : Int32 × zSt) (hf : f_X6_cancel st a0 = some out) : zMet l yX6_cancel cX6_cancel 3 (some .int) zr_X6_cancel 98 shC (fun ad => [.ref (ad 0), .int a0]) st (fun ad => some (.int out.1)) out.2 :=
  zmet_of (by decide +kernel) (fun _ => Nat.le_of_ble_eq_true rfl) (fun X _ hnl hX hQ => t_X6_cancel X out hX hQ hnl st a0 hf)
abbrev zr_X6_replace : Room := { frames := 4, cells := 0, slots := 0, locals := 88 }
def f_X6_replace_80  (st : zSt) (v2 : Int32) (r3 : Nat) : Option (Int32 × zSt) := none
def f_X6_replace (st : zSt) (a0 : Int32) (a1 : Int32) : Option (Int32 × zSt) := ((f_X6_knownSailing st a0).bind fun q1 => ((f_X6_knownShip q1.2 a1).bind fun q3 => (if (q3.2.1 q1.1 6) = 1 then (if (q3.2.1 q1.1 10) = 0 then ((f_X6_isFree q3.2 a1).bind fun q7 => (if q7.1 = 0 then f_X6_replace_80 q7.2 a1 q1.1 else ((f_X6_whereWas q7.2 a1 (q7.2.1 0 15)).bind fun q10 => (if q10.1 = (q10.2.1 q1.1 1) then ((f_X5_has q10.2 (q3.1 + 4) (q10.2.1 0 15)).bind fun q13 => (if q13.1 = 0 then (if 24 ≤ (q13.2.1 0 13) then f_X6_replace_80 q13.2 a1 q1.1 else (zlet (zwI q13.2 q1.1 10 1) fun s19 => ((f_X6_addSailing s19 a1 (s19.1 q1.1 1) (s19.1 q1.1 2) (s19.1 0 15) (s19.1 q1.1 5)).bind fun q21 => some (q21.1, q21.2)))) else f_X6_replace_80 q13.2 a1 q1.1)) else f_X6_replace_80 q10.2 a1 q1.1)))) else f_X6_replace_80 q3.2 a1 q1.1) else f_X6_replace_80 q3.2 a1 q1.1)))
set_option maxHeartbeats 4000000 in
set_option maxRecDepth 100000 in
theorem t_X6_replace_80 (X : zCx) (out : Int32 × zSt) (hX : zOk X RX6 cX6_replace zr_X6_replace) (hQ : zPost X 98 shC (some .int) (some (.int out.1)) out.2) (hnl : X.nL = 5) (st : zSt) (v2 : Int32) (r3 : Nat) (hr3 : zkSailing r3) (hf : f_X6_replace_80  st v2 r3 = some out) : zG 98 shC X st 80 [(0, .ref (X.ad 0)), (2, .int v2), (3, .ref (X.ad r3))] [] := by
  unfold f_X6_replace_80 at hf
  refine z_iconst (v := 0) hX dX6_replace_80 (by decide) ?_
  exact (znone hf).elim
set_option maxHeartbeats 4000000 in
set_option maxRecDepth 100000 in
theorem t_X6_replace (X : zCx) (out : Int32 × zSt) (hX : zOk X RX6 cX6_replace zr_X6_replace) (hQ : zPost X 98 shC (some .int) (some (.int out.1)) out.2) (hnl : X.nL = 5) (st : zSt) (a0 : Int32) (a1 : Int32) (hf : f_X6_replace st a0 a1 = some out) : zG 98 shC X st 0 [(0, .ref (X.ad 0)), (1, .int a0), (2, .int a1)] [] := by
  unfold f_X6_replace at hf
  refine z_aload_n hX 0 dX6_replace_0 rfl rfl ?_
  refine z_iload_n hX 1 dX6_replace_1 rfl rfl ?_
  obtain ⟨q1, e2, hf⟩ := zbind hf
  refine z_callV (stk := []) (stk' := [.ref (X.ad q1.1)]) hX (c_X6_knownSailing X.l st a0 q1 e2) zb_X6_knownSailing 0 dX6_replace_2 zm_456 (by decide) shC_0 rfl rfl rfl rfl ⟨by decide, by decide⟩ ⟨rfl, rfl⟩ (Nat.le_of_ble_eq_true rfl) rfl ?_
  refine z_astore_n hX [(0, .ref (X.ad 0)), (1, .int a0), (2, .int a1), (3, .ref (X.ad q1.1))] dX6_replace_5 rfl (by rw [hnl]; decide) [1, 2, 3, 0] rfl ?_
  refine z_aload_n hX 0 dX6_replace_6 rfl rfl ?_
  refine z_iload_n hX 2 dX6_replace_7 rfl rfl ?_
  obtain ⟨q3, e4, hf⟩ := zbind hf
  refine z_callV (stk := []) (stk' := [.ref (X.ad q3.1)]) hX (c_X6_knownShip X.l q1.2 a1 q3 e4) zb_X6_knownShip 0 dX6_replace_8 zm_412 (by decide) shC_0 rfl rfl rfl rfl ⟨by decide, by decide⟩ ⟨rfl, rfl⟩ (Nat.le_of_ble_eq_true rfl) rfl ?_
  refine z_astore hX [(0, .ref (X.ad 0)), (1, .int a0), (2, .int a1), (3, .ref (X.ad q1.1)), (4, .ref (X.ad q3.1))] dX6_replace_11 (by rw [hnl]; decide) [1, 2, 3, 4, 0] rfl ?_
  refine z_aload_n hX 3 dX6_replace_13 rfl rfl ?_
  refine z_getIN hX q1.1 6 dX6_replace_14 (zlt_Sailing (rr_X6_knownSailing e2)) (zsh_Sailing (rr_X6_knownSailing e2)) rfl rfl zin_X3 (by decide) zm_160 ?_
  refine z_iconst (v := 1) hX dX6_replace_17 (by decide) ?_
  refine z_icmp_ne hX 80 dX6_replace_18 (by decide) (fun c5 => ?_) (fun c5 => ?_)
  · have hf := (if_neg c5).symm.trans hf
    refine z_locals [0, 2, 3] [(0, .ref (X.ad 0)), (2, .int a1), (3, .ref (X.ad q1.1))] rfl ?_
    exact t_X6_replace_80 X out hX hQ hnl q3.2 a1 q1.1 (rr_X6_knownSailing e2) hf
  have hf := (if_pos c5).symm.trans hf
  refine z_aload_n hX 3 dX6_replace_21 rfl rfl ?_
  refine z_getIN hX q1.1 10 dX6_replace_22 (zlt_Sailing (rr_X6_knownSailing e2)) (zsh_Sailing (rr_X6_knownSailing e2)) rfl rfl zin_X3 (by decide) zm_168 ?_
  refine z_if_ne hX 80 dX6_replace_25 (by decide) (fun c6 => ?_) (fun c6 => ?_)
  · have hf := (if_neg c6).symm.trans hf
    refine z_locals [0, 2, 3] [(0, .ref (X.ad 0)), (2, .int a1), (3, .ref (X.ad q1.1))] rfl ?_
    exact t_X6_replace_80 X out hX hQ hnl q3.2 a1 q1.1 (rr_X6_knownSailing e2) hf
  have hf := (if_pos c6).symm.trans hf
  refine z_aload_n hX 0 dX6_replace_28 rfl rfl ?_
  refine z_iload_n hX 2 dX6_replace_29 rfl rfl ?_
  obtain ⟨q7, e8, hf⟩ := zbind hf
  refine z_callV (stk := []) (stk' := [.int q7.1]) hX (c_X6_isFree X.l q3.2 a1 q7 e8) zb_X6_isFree 0 dX6_replace_30 zm_631 (by decide) shC_0 rfl rfl rfl rfl ⟨by decide, by decide⟩ ⟨rfl, rfl⟩ (Nat.le_of_ble_eq_true rfl) rfl ?_
  refine z_if_eq hX 80 dX6_replace_33 (by decide) (fun c9 => ?_) (fun c9 => ?_)
  · have hf := (if_pos c9).symm.trans hf
    refine z_locals [0, 2, 3] [(0, .ref (X.ad 0)), (2, .int a1), (3, .ref (X.ad q1.1))] rfl ?_
    exact t_X6_replace_80 X out hX hQ hnl q7.2 a1 q1.1 (rr_X6_knownSailing e2) hf
  have hf := (if_neg c9).symm.trans hf
  refine z_aload_n hX 0 dX6_replace_36 rfl rfl ?_
  refine z_iload_n hX 2 dX6_replace_37 rfl rfl ?_
  refine z_aload_n hX 0 dX6_replace_38 rfl rfl ?_
  refine z_getI hX 0 15 dX6_replace_39 (by decide) shC_0 rfl rfl zin_X6 (by decide) zm_268 ?_
  obtain ⟨q10, e11, hf⟩ := zbind hf
  refine z_callV (stk := []) (stk' := [.int q10.1]) hX (c_X6_whereWas X.l q7.2 a1 (q7.2.1 0 15) q10 e11) zb_X6_whereWas 0 dX6_replace_42 zm_464 (by decide) shC_0 rfl rfl rfl rfl ⟨by decide, by decide⟩ ⟨rfl, rfl⟩ (Nat.le_of_ble_eq_true rfl) rfl ?_
  refine z_aload_n hX 3 dX6_replace_45 rfl rfl ?_
  refine z_getIN hX q1.1 1 dX6_replace_46 (zlt_Sailing (rr_X6_knownSailing e2)) (zsh_Sailing (rr_X6_knownSailing e2)) rfl rfl zin_X3 (by decide) zm_150 ?_
  refine z_icmp_ne hX 80 dX6_replace_49 (by decide) (fun c12 => ?_) (fun c12 => ?_)
  · have hf := (if_neg c12).symm.trans hf
    refine z_locals [0, 2, 3] [(0, .ref (X.ad 0)), (2, .int a1), (3, .ref (X.ad q1.1))] rfl ?_
    exact t_X6_replace_80 X out hX hQ hnl q10.2 a1 q1.1 (rr_X6_knownSailing e2) hf
  have hf := (if_pos c12).symm.trans hf
  refine z_aload hX 4 dX6_replace_52 rfl ?_
  refine z_getRN hX q3.1 7 (q3.1 + 4) dX6_replace_54 (zlt_Ship (rr_X6_knownShip e4)) (zsh_Ship (rr_X6_knownShip e4)) rfl rfl zin_X4 (by decide) zm_108 ?_
  refine z_aload_n hX 0 dX6_replace_57 rfl rfl ?_
  refine z_getI hX 0 15 dX6_replace_58 (by decide) shC_0 rfl rfl zin_X6 (by decide) zm_268 ?_
  obtain ⟨q13, e14, hf⟩ := zbind hf
  refine z_callVN (stk := []) (stk' := [.int q13.1]) hX (c_X5_has X.l q10.2 (q3.1 + 4) (q10.2.1 0 15) (zsp_out (rr_X6_knownShip e4)) q13 e14) zb_X5_has (q3.1 + 4) dX6_replace_61 zm_468 (zlt_Span (zsp_out (rr_X6_knownShip e4))) (zsh_Span (zsp_out (rr_X6_knownShip e4))) rfl rfl rfl rfl ⟨by decide, by decide⟩ ⟨rfl, rfl⟩ (Nat.le_of_ble_eq_true rfl) rfl ?_
  refine z_if_ne hX 80 dX6_replace_64 (by decide) (fun c15 => ?_) (fun c15 => ?_)
  · have hf := (if_neg c15).symm.trans hf
    refine z_locals [0, 2, 3] [(0, .ref (X.ad 0)), (2, .int a1), (3, .ref (X.ad q1.1))] rfl ?_
    exact t_X6_replace_80 X out hX hQ hnl q13.2 a1 q1.1 (rr_X6_knownSailing e2) hf
  have hf := (if_pos c15).symm.trans hf
  refine z_aload_n hX 0 dX6_replace_67 rfl rfl ?_
  refine z_getI hX 0 13 dX6_replace_68 (by decide) shC_0 rfl rfl zin_X6 (by decide) zm_266 ?_
  refine z_bipush (v := 24) hX dX6_replace_71 (by decide) ?_
  refine z_icmp_ge hX 80 dX6_replace_73 (by decide) (fun c16 => ?_) (fun c16 => ?_)
  · have hf := (if_pos c16).symm.trans hf
    refine z_locals [0, 2, 3] [(0, .ref (X.ad 0)), (2, .int a1), (3, .ref (X.ad q1.1))] rfl ?_
    exact t_X6_replace_80 X out hX hQ hnl q13.2 a1 q1.1 (rr_X6_knownSailing e2) hf
  have hf := (if_neg c16).symm.trans hf
  refine z_iconst (v := 1) hX dX6_replace_76 (by decide) ?_
  refine z_goto hX 81 dX6_replace_77 (by decide) ?_
  refine z_callS (stk := []) (stk' := []) hX (c_X6_demandState X.l q13.2 1 ((), q13.2) rfl) zb_X6_demandState dX6_replace_81 zm_394 rfl rfl rfl ⟨by decide, by decide⟩ ⟨rfl, rfl⟩ (Nat.le_of_ble_eq_true rfl) rfl ?_
  refine z_aload_n hX 3 dX6_replace_84 rfl rfl ?_
  refine z_iconst (v := 1) hX dX6_replace_85 (by decide) ?_
  refine z_putZN hX q1.1 10 dX6_replace_86 (zlt_Sailing (rr_X6_knownSailing e2)) (zsh_Sailing (rr_X6_knownSailing e2)) rfl rfl zin_X3 tyX3_ok nmX3 (by decide) zm_168 rfl rfl (Or.inr rfl) ?_
  obtain ⟨s19, h20, hf⟩ := zlet_ex hf
  refine z_name h20 ?_
  refine z_aload_n hX 0 dX6_replace_89 rfl rfl ?_
  refine z_iload_n hX 2 dX6_replace_90 rfl rfl ?_
  refine z_aload_n hX 3 dX6_replace_91 rfl rfl ?_
  refine z_getIN hX q1.1 1 dX6_replace_92 (zlt_Sailing (rr_X6_knownSailing e2)) (zsh_Sailing (rr_X6_knownSailing e2)) rfl rfl zin_X3 (by decide) zm_150 ?_
  refine z_aload_n hX 3 dX6_replace_95 rfl rfl ?_
  refine z_getIN hX q1.1 2 dX6_replace_96 (zlt_Sailing (rr_X6_knownSailing e2)) (zsh_Sailing (rr_X6_knownSailing e2)) rfl rfl zin_X3 (by decide) zm_152 ?_
  refine z_aload_n hX 0 dX6_replace_99 rfl rfl ?_
  refine z_getI hX 0 15 dX6_replace_100 (by decide) shC_0 rfl rfl zin_X6 (by decide) zm_268 ?_
  refine z_aload_n hX 3 dX6_replace_103 rfl rfl ?_
  refine z_getIN hX q1.1 5 dX6_replace_104 (zlt_Sailing (rr_X6_knownSailing e2)) (zsh_Sailing (rr_X6_knownSailing e2)) rfl rfl zin_X3 (by decide) zm_158 ?_
  obtain ⟨q21, e22, hf⟩ := zbind hf
  refine z_callV (stk := []) (stk' := [.int q21.1]) hX (c_X6_addSailing X.l s19 a1 (s19.1 q1.1 1) (s19.1 q1.1 2) (s19.1 0 15) (s19.1 q1.1 5) q21 e22) zb_X6_addSailing 0 dX6_replace_107 zm_612 (by decide) shC_0 rfl rfl rfl rfl ⟨by decide, by decide⟩ ⟨rfl, rfl⟩ (Nat.le_of_ble_eq_true rfl) rfl ?_
  obtain rfl := Option.some.inj hf
  exact z_iret hX hQ dX6_replace_110 rfl
theorem zb_X6_replace : zCal yX6_replace cX6_replace 5 (some .int) 2 := ⟨zm_628, (zwl_in zm_629 rfl), zm_1, zm_630, by decide, by decide, rfl⟩
theorem c_X6_replace (l : Launch) (st : zSt) (a0 : Int32) (a1 : Int32) (out : Int32 × zSt) (hf : f_X6_replace st a0 a1 = some out) : zMet l yX6_replace cX6_replace 5 (some .int) zr_X6_replace 98 shC (fun ad => [.ref (ad 0), .int a0, .int a1]) st (fun ad => some (.int out.1)) out.2 :=
  zmet_of (by decide +kernel) (fun _ => Nat.le_of_ble_eq_true rfl) (fun X _ hnl hX hQ => t_X6_replace X out hX hQ hnl st a0 a1 hf)
abbrev zr_X6_pass : Room := { frames := 7, cells := 0, slots := 0, locals := 162 }
def f_X6_pass_39 (K32 : zSt → Int32 → Int32 → Option (Int32 × zSt)) : Nat → zSt → Int32 → Int32 → Int32 → Option (Int32 × zSt)
  | 0, _, _, _, _ => none
  | n + 1, st, v1, v2, v3 => (if (st.1 0 13) ≤ v3 then (zlet (zwI st 0 15 ((st.1 0 15) + 1)) fun s10 => K32 s10 v1 (v2 + 1)) else ((f_X6_lookAt st v3).bind fun q12 => f_X6_pass_39 K32 n q12.2 v1 v2 (v3 + 1)))
def f_X6_pass_32  : Nat → zSt → Int32 → Int32 → Option (Int32 × zSt)
  | 0, _, _, _ => none
  | n + 1, st, v1, v2 => (if v1 ≤ v2 then some ((st.1 0 15), st) else f_X6_pass_39 (fun st v1 v2 => f_X6_pass_32 n st v1 v2) 64 st v1 v2 0)
def f_X6_pass (st : zSt) (a0 : Int32) : Option (Int32 × zSt) := ((f_X6_isWithin st a0 1 48).bind fun q1 => ((f_X6_demandArgument q1.2 q1.1).bind fun q3 => (if 9000 < ((q3.2.1 0 15) + a0) then none else f_X6_pass_32 64 q3.2 a0 0)))
set_option maxHeartbeats 4000000 in
set_option maxRecDepth 100000 in
theorem t_X6_pass_39 (X : zCx) (out : Int32 × zSt) (hX : zOk X RX6 cX6_pass zr_X6_pass) (hQ : zPost X 98 shC (some .int) (some (.int out.1)) out.2) (hnl : X.nL = 4) (K32 : zSt → Int32 → Int32 → Option (Int32 × zSt)) (hK32 : ∀ (st : zSt) (v1 : Int32) (v2 : Int32), K32 st v1 v2 = some out → zG 98 shC X st 32 [(0, .ref (X.ad 0)), (1, .int v1), (2, .int v2)] []) : ∀ (n : Nat) (st : zSt) (v1 : Int32) (v2 : Int32) (v3 : Int32), f_X6_pass_39 K32 n st v1 v2 v3 = some out → zG 98 shC X st 39 [(0, .ref (X.ad 0)), (1, .int v1), (2, .int v2), (3, .int v3)] [] := by
  intro n
  induction n with
  | zero => intro st v1 v2 v3 hf; rw [f_X6_pass_39] at hf; exact (znone hf).elim
  | succ n ih =>
    intro st v1 v2 v3 hf
    rw [f_X6_pass_39] at hf
    refine z_iload_n hX 3 dX6_pass_39 rfl rfl ?_
    refine z_aload_n hX 0 dX6_pass_40 rfl rfl ?_
    refine z_getI hX 0 13 dX6_pass_41 (by decide) shC_0 rfl rfl zin_X6 (by decide) zm_266 ?_
    refine z_icmp_ge hX 58 dX6_pass_44 (by decide) (fun c9 => ?_) (fun c9 => ?_)
    · have hf := (if_pos c9).symm.trans hf
      refine z_aload_n hX 0 dX6_pass_58 rfl rfl ?_
      refine z_dup hX dX6_pass_59 rfl ?_
      refine z_getI hX 0 15 dX6_pass_60 (by decide) shC_0 rfl rfl zin_X6 (by decide) zm_268 ?_
      refine z_iconst (v := 1) hX dX6_pass_63 (by decide) ?_
      refine z_iadd hX dX6_pass_64 ?_
      refine z_putI hX 0 15 dX6_pass_65 (by decide) shC_0 rfl rfl zin_X6 tyX6_ok nmX6 (by decide) zm_268 rfl rfl ?_
      obtain ⟨s10, h11, hf⟩ := zlet_ex hf
      refine z_name h11 ?_
      refine z_iinc (j := 2) (v := 1) hX [(0, .ref (X.ad 0)), (1, .int v1), (2, .int (v2 + 1)), (3, .int v3)] dX6_pass_68 rfl (by decide) (by rw [hnl]; decide) [1, 2, 0, 3] rfl ?_
      refine z_goto hX 32 dX6_pass_71 (by decide) ?_
      refine z_locals [0, 1, 2] [(0, .ref (X.ad 0)), (1, .int v1), (2, .int (v2 + 1))] rfl ?_
      exact hK32 s10 v1 (v2 + 1) hf
    have hf := (if_neg c9).symm.trans hf
    refine z_aload_n hX 0 dX6_pass_47 rfl rfl ?_
    refine z_iload_n hX 3 dX6_pass_48 rfl rfl ?_
    obtain ⟨q12, e13, hf⟩ := zbind hf
    refine z_callV (stk := []) (stk' := []) hX (c_X6_lookAt X.l st v3 q12 e13) zb_X6_lookAt 0 dX6_pass_49 zm_452 (by decide) shC_0 rfl rfl rfl rfl ⟨by decide, by decide⟩ ⟨rfl, rfl⟩ (Nat.le_of_ble_eq_true rfl) rfl ?_
    refine z_iinc (j := 3) (v := 1) hX [(0, .ref (X.ad 0)), (1, .int v1), (2, .int v2), (3, .int (v3 + 1))] dX6_pass_52 rfl (by decide) (by rw [hnl]; decide) [1, 2, 3, 0] rfl ?_
    refine z_goto hX 39 dX6_pass_55 (by decide) ?_
    exact ih q12.2 v1 v2 (v3 + 1) hf
set_option maxHeartbeats 4000000 in
set_option maxRecDepth 100000 in
theorem t_X6_pass_32 (X : zCx) (out : Int32 × zSt) (hX : zOk X RX6 cX6_pass zr_X6_pass) (hQ : zPost X 98 shC (some .int) (some (.int out.1)) out.2) (hnl : X.nL = 4) : ∀ (n : Nat) (st : zSt) (v1 : Int32) (v2 : Int32), f_X6_pass_32  n st v1 v2 = some out → zG 98 shC X st 32 [(0, .ref (X.ad 0)), (1, .int v1), (2, .int v2)] [] := by
  intro n
  induction n with
  | zero => intro st v1 v2 hf; rw [f_X6_pass_32] at hf; exact (znone hf).elim
  | succ n ih =>
    intro st v1 v2 hf
    rw [f_X6_pass_32] at hf
    refine z_iload_n hX 2 dX6_pass_32 rfl rfl ?_
    refine z_iload_n hX 1 dX6_pass_33 rfl rfl ?_
    refine z_icmp_ge hX 74 dX6_pass_34 (by decide) (fun c8 => ?_) (fun c8 => ?_)
    · have hf := (if_pos c8).symm.trans hf
      refine z_aload_n hX 0 dX6_pass_74 rfl rfl ?_
      refine z_getI hX 0 15 dX6_pass_75 (by decide) shC_0 rfl rfl zin_X6 (by decide) zm_268 ?_
      obtain rfl := Option.some.inj hf
      exact z_iret hX hQ dX6_pass_78 rfl
    have hf := (if_neg c8).symm.trans hf
    refine z_iconst (v := 0) hX dX6_pass_37 (by decide) ?_
    refine z_istore_n hX [(0, .ref (X.ad 0)), (1, .int v1), (2, .int v2), (3, .int 0)] dX6_pass_38 rfl (by rw [hnl]; decide) [1, 2, 3, 0] rfl ?_
    exact t_X6_pass_39 X out hX hQ hnl (fun st v1 v2 => f_X6_pass_32 n st v1 v2) ih 64 st v1 v2 0 hf
set_option maxHeartbeats 4000000 in
set_option maxRecDepth 100000 in
theorem t_X6_pass (X : zCx) (out : Int32 × zSt) (hX : zOk X RX6 cX6_pass zr_X6_pass) (hQ : zPost X 98 shC (some .int) (some (.int out.1)) out.2) (hnl : X.nL = 4) (st : zSt) (a0 : Int32) (hf : f_X6_pass st a0 = some out) : zG 98 shC X st 0 [(0, .ref (X.ad 0)), (1, .int a0)] [] := by
  unfold f_X6_pass at hf
  refine z_iload_n hX 1 dX6_pass_0 rfl rfl ?_
  refine z_iconst (v := 1) hX dX6_pass_1 (by decide) ?_
  refine z_bipush (v := 48) hX dX6_pass_2 (by decide) ?_
  obtain ⟨q1, e2, hf⟩ := zbind hf
  refine z_callS (stk := []) (stk' := [.int q1.1]) hX (c_X6_isWithin X.l st a0 1 48 q1 e2) zb_X6_isWithin dX6_pass_4 zm_373 rfl rfl rfl ⟨by decide, by decide⟩ ⟨rfl, rfl⟩ (Nat.le_of_ble_eq_true rfl) rfl ?_
  obtain ⟨q3, e4, hf⟩ := zbind hf
  refine z_callS (stk := []) (stk' := []) hX (c_X6_demandArgument X.l q1.2 q1.1 q3 e4) zb_X6_demandArgument dX6_pass_7 zm_376 rfl rfl rfl ⟨by decide, by decide⟩ ⟨rfl, rfl⟩ (Nat.le_of_ble_eq_true rfl) rfl ?_
  refine z_aload_n hX 0 dX6_pass_10 rfl rfl ?_
  refine z_getI hX 0 15 dX6_pass_11 (by decide) shC_0 rfl rfl zin_X6 (by decide) zm_268 ?_
  refine z_iload_n hX 1 dX6_pass_14 rfl rfl ?_
  refine z_iadd hX dX6_pass_15 ?_
  refine z_sipush (v := 9000) hX dX6_pass_16 (by decide) ?_
  refine z_icmp_gt hX 26 dX6_pass_19 (by decide) (fun c5 => ?_) (fun c5 => ?_)
  · have hf := (if_pos c5).symm.trans hf
    refine z_iconst (v := 0) hX dX6_pass_26 (by decide) ?_
    exact (znone hf).elim
  have hf := (if_neg c5).symm.trans hf
  refine z_iconst (v := 1) hX dX6_pass_22 (by decide) ?_
  refine z_goto hX 27 dX6_pass_23 (by decide) ?_
  refine z_callS (stk := []) (stk' := []) hX (c_X6_demandState X.l q3.2 1 ((), q3.2) rfl) zb_X6_demandState dX6_pass_27 zm_394 rfl rfl rfl ⟨by decide, by decide⟩ ⟨rfl, rfl⟩ (Nat.le_of_ble_eq_true rfl) rfl ?_
  refine z_iconst (v := 0) hX dX6_pass_30 (by decide) ?_
  refine z_istore_n hX [(0, .ref (X.ad 0)), (1, .int a0), (2, .int 0)] dX6_pass_31 rfl (by rw [hnl]; decide) [1, 2, 0] rfl ?_
  exact t_X6_pass_32 X out hX hQ hnl 64 q3.2 a0 0 hf
theorem zb_X6_pass : zCal yX6_pass cX6_pass 4 (some .int) 1 := ⟨zm_449, (zwl_in zm_450 rfl), zm_1, zm_451, by decide, by decide, rfl⟩
theorem c_X6_pass (l : Launch) (st : zSt) (a0 : Int32) (out : Int32 × zSt) (hf : f_X6_pass st a0 = some out) : zMet l yX6_pass cX6_pass 4 (some .int) zr_X6_pass 98 shC (fun ad => [.ref (ad 0), .int a0]) st (fun ad => some (.int out.1)) out.2 :=
  zmet_of (by decide +kernel) (fun _ => Nat.le_of_ble_eq_true rfl) (fun X _ hnl hX hQ => t_X6_pass X out hX hQ hnl st a0 hf)
abbrev zr_X6_now : Room := { frames := 0, cells := 0, slots := 0, locals := 0 }
def f_X6_now (st : zSt)  : Option (Int32 × zSt) := some ((st.1 0 15), st)
set_option maxHeartbeats 4000000 in
set_option maxRecDepth 100000 in
theorem t_X6_now (X : zCx) (out : Int32 × zSt) (hX : zOk X RX6 cX6_now zr_X6_now) (hQ : zPost X 98 shC (some .int) (some (.int out.1)) out.2) (hnl : X.nL = 1) (st : zSt)  (hf : f_X6_now st  = some out) : zG 98 shC X st 0 [(0, .ref (X.ad 0))] [] := by
  unfold f_X6_now at hf
  refine z_aload_n hX 0 dX6_now_0 rfl rfl ?_
  refine z_getI hX 0 15 dX6_now_1 (by decide) shC_0 rfl rfl zin_X6 (by decide) zm_268 ?_
  obtain rfl := Option.some.inj hf
  exact z_iret hX hQ dX6_now_4 rfl
theorem zb_X6_now : zCal yX6_now cX6_now 1 (some .int) 0 := ⟨zm_568, (zwl_in zm_569 rfl), zm_1, zm_570, by decide, by decide, rfl⟩
theorem c_X6_now (l : Launch) (st : zSt)  (out : Int32 × zSt) (hf : f_X6_now st  = some out) : zMet l yX6_now cX6_now 1 (some .int) zr_X6_now 98 shC (fun ad => [.ref (ad 0)]) st (fun ad => some (.int out.1)) out.2 :=
  zmet_of (by decide +kernel) (fun _ => Nat.le_of_ble_eq_true rfl) (fun X _ hnl hX hQ => t_X6_now X out hX hQ hnl st  hf)
abbrev zr_X6_state : Room := { frames := 2, cells := 0, slots := 0, locals := 42 }
def f_X6_state (st : zSt) (a0 : Int32) : Option (Int32 × zSt) := ((f_X6_knownSailing st a0).bind fun q1 => some (((q1.2.1 q1.1 6) + (10 * (q1.2.1 q1.1 7))), q1.2))
set_option maxHeartbeats 4000000 in
set_option maxRecDepth 100000 in
theorem t_X6_state (X : zCx) (out : Int32 × zSt) (hX : zOk X RX6 cX6_state zr_X6_state) (hQ : zPost X 98 shC (some .int) (some (.int out.1)) out.2) (hnl : X.nL = 3) (st : zSt) (a0 : Int32) (hf : f_X6_state st a0 = some out) : zG 98 shC X st 0 [(0, .ref (X.ad 0)), (1, .int a0)] [] := by
  unfold f_X6_state at hf
  refine z_aload_n hX 0 dX6_state_0 rfl rfl ?_
  refine z_iload_n hX 1 dX6_state_1 rfl rfl ?_
  obtain ⟨q1, e2, hf⟩ := zbind hf
  refine z_callV (stk := []) (stk' := [.ref (X.ad q1.1)]) hX (c_X6_knownSailing X.l st a0 q1 e2) zb_X6_knownSailing 0 dX6_state_2 zm_456 (by decide) shC_0 rfl rfl rfl rfl ⟨by decide, by decide⟩ ⟨rfl, rfl⟩ (Nat.le_of_ble_eq_true rfl) rfl ?_
  refine z_astore_n hX [(0, .ref (X.ad 0)), (1, .int a0), (2, .ref (X.ad q1.1))] dX6_state_5 rfl (by rw [hnl]; decide) [1, 2, 0] rfl ?_
  refine z_aload_n hX 2 dX6_state_6 rfl rfl ?_
  refine z_getIN hX q1.1 6 dX6_state_7 (zlt_Sailing (rr_X6_knownSailing e2)) (zsh_Sailing (rr_X6_knownSailing e2)) rfl rfl zin_X3 (by decide) zm_160 ?_
  refine z_bipush (v := 10) hX dX6_state_10 (by decide) ?_
  refine z_aload_n hX 2 dX6_state_12 rfl rfl ?_
  refine z_getIN hX q1.1 7 dX6_state_13 (zlt_Sailing (rr_X6_knownSailing e2)) (zsh_Sailing (rr_X6_knownSailing e2)) rfl rfl zin_X3 (by decide) zm_162 ?_
  refine z_imul hX dX6_state_16 ?_
  refine z_iadd hX dX6_state_17 ?_
  obtain rfl := Option.some.inj hf
  exact z_iret hX hQ dX6_state_18 rfl
theorem zb_X6_state : zCal yX6_state cX6_state 3 (some .int) 1 := ⟨zm_572, (zwl_in zm_573 rfl), zm_1, zm_574, by decide, by decide, rfl⟩
theorem c_X6_state (l : Launch) (st : zSt) (a0 : Int32) (out : Int32 × zSt) (hf : f_X6_state st a0 = some out) : zMet l yX6_state cX6_state 3 (some .int) zr_X6_state 98 shC (fun ad => [.ref (ad 0), .int a0]) st (fun ad => some (.int out.1)) out.2 :=
  zmet_of (by decide +kernel) (fun _ => Nat.le_of_ble_eq_true rfl) (fun X _ hnl hX hQ => t_X6_state X out hX hQ hnl st a0 hf)
abbrev zr_X6_ends : Room := { frames := 2, cells := 0, slots := 0, locals := 42 }
def f_X6_ends (st : zSt) (a0 : Int32) : Option (Int32 × zSt) := ((f_X6_knownSailing st a0).bind fun q1 => some ((q1.2.1 q1.1 4), q1.2))
set_option maxHeartbeats 4000000 in
set_option maxRecDepth 100000 in
theorem t_X6_ends (X : zCx) (out : Int32 × zSt) (hX : zOk X RX6 cX6_ends zr_X6_ends) (hQ : zPost X 98 shC (some .int) (some (.int out.1)) out.2) (hnl : X.nL = 2) (st : zSt) (a0 : Int32) (hf : f_X6_ends st a0 = some out) : zG 98 shC X st 0 [(0, .ref (X.ad 0)), (1, .int a0)] [] := by
  unfold f_X6_ends at hf
  refine z_aload_n hX 0 dX6_ends_0 rfl rfl ?_
  refine z_iload_n hX 1 dX6_ends_1 rfl rfl ?_
  obtain ⟨q1, e2, hf⟩ := zbind hf
  refine z_callV (stk := []) (stk' := [.ref (X.ad q1.1)]) hX (c_X6_knownSailing X.l st a0 q1 e2) zb_X6_knownSailing 0 dX6_ends_2 zm_456 (by decide) shC_0 rfl rfl rfl rfl ⟨by decide, by decide⟩ ⟨rfl, rfl⟩ (Nat.le_of_ble_eq_true rfl) rfl ?_
  refine z_getIN hX q1.1 4 dX6_ends_5 (zlt_Sailing (rr_X6_knownSailing e2)) (zsh_Sailing (rr_X6_knownSailing e2)) rfl rfl zin_X3 (by decide) zm_156 ?_
  obtain rfl := Option.some.inj hf
  exact z_iret hX hQ dX6_ends_8 rfl
theorem zb_X6_ends : zCal yX6_ends cX6_ends 2 (some .int) 1 := ⟨zm_576, (zwl_in zm_577 rfl), zm_1, zm_578, by decide, by decide, rfl⟩
theorem c_X6_ends (l : Launch) (st : zSt) (a0 : Int32) (out : Int32 × zSt) (hf : f_X6_ends st a0 = some out) : zMet l yX6_ends cX6_ends 2 (some .int) zr_X6_ends 98 shC (fun ad => [.ref (ad 0), .int a0]) st (fun ad => some (.int out.1)) out.2 :=
  zmet_of (by decide +kernel) (fun _ => Nat.le_of_ble_eq_true rfl) (fun X _ hnl hX hQ => t_X6_ends X out hX hQ hnl st a0 hf)
abbrev zr_X6_busAfter : Room := { frames := 2, cells := 0, slots := 0, locals := 42 }
def f_X6_busAfter (st : zSt) (a0 : Int32) : Option (Int32 × zSt) := ((f_X6_knownSailing st a0).bind fun q1 => ((f_X6_demandIndex q1.2 (q1.2.1 q1.1 2) 6).bind fun q3 => (if zin (q3.2.1 q1.1 2) 6 then (if (q3.2.1 q1.1 6) = 2 then (if 1 ≤ (q3.2.1 6 (q3.2.1 q1.1 2).toNatClampNeg) then (if zin (q3.2.1 q1.1 2) 6 then ((f_J9_floorMod_7cf53 q3.2 ((q3.2.1 7 (q3.2.1 q1.1 2).toNatClampNeg) - (q3.2.1 q1.1 4)) (q3.2.1 6 (q3.2.1 q1.1 2).toNatClampNeg)).bind fun q9 => some (q9.1, q9.2)) else none) else some ((-1), q3.2)) else some ((-1), q3.2)) else none)))
set_option maxHeartbeats 4000000 in
set_option maxRecDepth 100000 in
theorem t_X6_busAfter (X : zCx) (out : Int32 × zSt) (hX : zOk X RX6 cX6_busAfter zr_X6_busAfter) (hQ : zPost X 98 shC (some .int) (some (.int out.1)) out.2) (hnl : X.nL = 4) (st : zSt) (a0 : Int32) (hf : f_X6_busAfter st a0 = some out) : zG 98 shC X st 0 [(0, .ref (X.ad 0)), (1, .int a0)] [] := by
  unfold f_X6_busAfter at hf
  refine z_aload_n hX 0 dX6_busAfter_0 rfl rfl ?_
  refine z_iload_n hX 1 dX6_busAfter_1 rfl rfl ?_
  obtain ⟨q1, e2, hf⟩ := zbind hf
  refine z_callV (stk := []) (stk' := [.ref (X.ad q1.1)]) hX (c_X6_knownSailing X.l st a0 q1 e2) zb_X6_knownSailing 0 dX6_busAfter_2 zm_456 (by decide) shC_0 rfl rfl rfl rfl ⟨by decide, by decide⟩ ⟨rfl, rfl⟩ (Nat.le_of_ble_eq_true rfl) rfl ?_
  refine z_astore_n hX [(0, .ref (X.ad 0)), (1, .int a0), (2, .ref (X.ad q1.1))] dX6_busAfter_5 rfl (by rw [hnl]; decide) [1, 2, 0] rfl ?_
  refine z_aload_n hX 2 dX6_busAfter_6 rfl rfl ?_
  refine z_getIN hX q1.1 2 dX6_busAfter_7 (zlt_Sailing (rr_X6_knownSailing e2)) (zsh_Sailing (rr_X6_knownSailing e2)) rfl rfl zin_X3 (by decide) zm_152 ?_
  refine z_bipush (v := 6) hX dX6_busAfter_10 (by decide) ?_
  obtain ⟨q3, e4, hf⟩ := zbind hf
  refine z_callS (stk := []) (stk' := []) hX (c_X6_demandIndex X.l q1.2 (q1.2.1 q1.1 2) 6 q3 e4) zb_X6_demandIndex dX6_busAfter_12 zm_306 rfl rfl rfl ⟨by decide, by decide⟩ ⟨rfl, rfl⟩ (Nat.le_of_ble_eq_true rfl) rfl ?_
  refine z_aload_n hX 0 dX6_busAfter_15 rfl rfl ?_
  refine z_getR hX 0 5 6 dX6_busAfter_16 (by decide) shC_0 rfl rfl zin_X6 (by decide) zm_258 ?_
  refine z_aload_n hX 2 dX6_busAfter_19 rfl rfl ?_
  refine z_getIN hX q1.1 2 dX6_busAfter_20 (zlt_Sailing (rr_X6_knownSailing e2)) (zsh_Sailing (rr_X6_knownSailing e2)) rfl rfl zin_X3 (by decide) zm_152 ?_
  obtain ⟨i5, hf⟩ := zifd hf
  refine z_iald hX 6 dX6_busAfter_23 (by decide) shC_6 i5 ?_
  refine z_istore_n hX [(0, .ref (X.ad 0)), (1, .int a0), (2, .ref (X.ad q1.1)), (3, .int (q3.2.1 6 (q3.2.1 q1.1 2).toNatClampNeg))] dX6_busAfter_24 rfl (by rw [hnl]; decide) [1, 2, 3, 0] rfl ?_
  refine z_aload_n hX 2 dX6_busAfter_25 rfl rfl ?_
  refine z_getIN hX q1.1 6 dX6_busAfter_26 (zlt_Sailing (rr_X6_knownSailing e2)) (zsh_Sailing (rr_X6_knownSailing e2)) rfl rfl zin_X3 (by decide) zm_160 ?_
  refine z_iconst (v := 2) hX dX6_busAfter_29 (by decide) ?_
  refine z_icmp_ne hX 38 dX6_busAfter_30 (by decide) (fun c6 => ?_) (fun c6 => ?_)
  · have hf := (if_neg c6).symm.trans hf
    refine z_iconst (v := (-1)) hX dX6_busAfter_38 (by decide) ?_
    obtain rfl := Option.some.inj hf
    exact z_iret hX hQ dX6_busAfter_39 rfl
  have hf := (if_pos c6).symm.trans hf
  refine z_iload_n hX 3 dX6_busAfter_33 rfl rfl ?_
  refine z_iconst (v := 1) hX dX6_busAfter_34 (by decide) ?_
  refine z_icmp_ge hX 40 dX6_busAfter_35 (by decide) (fun c7 => ?_) (fun c7 => ?_)
  · have hf := (if_pos c7).symm.trans hf
    refine z_aload_n hX 0 dX6_busAfter_40 rfl rfl ?_
    refine z_getR hX 0 6 7 dX6_busAfter_41 (by decide) shC_0 rfl rfl zin_X6 (by decide) zm_259 ?_
    refine z_aload_n hX 2 dX6_busAfter_44 rfl rfl ?_
    refine z_getIN hX q1.1 2 dX6_busAfter_45 (zlt_Sailing (rr_X6_knownSailing e2)) (zsh_Sailing (rr_X6_knownSailing e2)) rfl rfl zin_X3 (by decide) zm_152 ?_
    obtain ⟨i8, hf⟩ := zifd hf
    refine z_iald hX 7 dX6_busAfter_48 (by decide) shC_7 i8 ?_
    refine z_aload_n hX 2 dX6_busAfter_49 rfl rfl ?_
    refine z_getIN hX q1.1 4 dX6_busAfter_50 (zlt_Sailing (rr_X6_knownSailing e2)) (zsh_Sailing (rr_X6_knownSailing e2)) rfl rfl zin_X3 (by decide) zm_156 ?_
    refine z_isub hX dX6_busAfter_53 ?_
    refine z_iload_n hX 3 dX6_busAfter_54 rfl rfl ?_
    obtain ⟨q9, e10, hf⟩ := zbind hf
    refine z_callS (stk := []) (stk' := [.int q9.1]) hX (c_J9_floorMod_7cf53 X.l q3.2 ((q3.2.1 7 (q3.2.1 q1.1 2).toNatClampNeg) - (q3.2.1 q1.1 4)) (q3.2.1 6 (q3.2.1 q1.1 2).toNatClampNeg) q9 e10) zb_J9_floorMod_7cf53 dX6_busAfter_55 zm_678 rfl rfl rfl ⟨by decide, by decide⟩ ⟨rfl, rfl⟩ (Nat.le_of_ble_eq_true rfl) rfl ?_
    obtain rfl := Option.some.inj hf
    exact z_iret hX hQ dX6_busAfter_58 rfl
  have hf := (if_neg c7).symm.trans hf
  refine z_iconst (v := (-1)) hX dX6_busAfter_38 (by decide) ?_
  obtain rfl := Option.some.inj hf
  exact z_iret hX hQ dX6_busAfter_39 rfl
theorem zb_X6_busAfter : zCal yX6_busAfter cX6_busAfter 4 (some .int) 1 := ⟨zm_675, (zwl_in zm_676 rfl), zm_1, zm_677, by decide, by decide, rfl⟩
theorem c_X6_busAfter (l : Launch) (st : zSt) (a0 : Int32) (out : Int32 × zSt) (hf : f_X6_busAfter st a0 = some out) : zMet l yX6_busAfter cX6_busAfter 4 (some .int) zr_X6_busAfter 98 shC (fun ad => [.ref (ad 0), .int a0]) st (fun ad => some (.int out.1)) out.2 :=
  zmet_of (by decide +kernel) (fun _ => Nat.le_of_ble_eq_true rfl) (fun X _ hnl hX hQ => t_X6_busAfter X out hX hQ hnl st a0 hf)
abbrev zr_X6_place : Room := { frames := 3, cells := 0, slots := 0, locals := 67 }
def f_X6_place (st : zSt) (a0 : Int32) : Option (Int32 × zSt) := ((f_X6_demandIndex st a0 (st.1 0 11)).bind fun q1 => ((f_X6_whereWas q1.2 a0 (q1.2.1 0 15)).bind fun q3 => some (q3.1, q3.2)))
set_option maxHeartbeats 4000000 in
set_option maxRecDepth 100000 in
theorem t_X6_place (X : zCx) (out : Int32 × zSt) (hX : zOk X RX6 cX6_place zr_X6_place) (hQ : zPost X 98 shC (some .int) (some (.int out.1)) out.2) (hnl : X.nL = 2) (st : zSt) (a0 : Int32) (hf : f_X6_place st a0 = some out) : zG 98 shC X st 0 [(0, .ref (X.ad 0)), (1, .int a0)] [] := by
  unfold f_X6_place at hf
  refine z_iload_n hX 1 dX6_place_0 rfl rfl ?_
  refine z_aload_n hX 0 dX6_place_1 rfl rfl ?_
  refine z_getI hX 0 11 dX6_place_2 (by decide) shC_0 rfl rfl zin_X6 (by decide) zm_264 ?_
  obtain ⟨q1, e2, hf⟩ := zbind hf
  refine z_callS (stk := []) (stk' := []) hX (c_X6_demandIndex X.l st a0 (st.1 0 11) q1 e2) zb_X6_demandIndex dX6_place_5 zm_306 rfl rfl rfl ⟨by decide, by decide⟩ ⟨rfl, rfl⟩ (Nat.le_of_ble_eq_true rfl) rfl ?_
  refine z_aload_n hX 0 dX6_place_8 rfl rfl ?_
  refine z_iload_n hX 1 dX6_place_9 rfl rfl ?_
  refine z_aload_n hX 0 dX6_place_10 rfl rfl ?_
  refine z_getI hX 0 15 dX6_place_11 (by decide) shC_0 rfl rfl zin_X6 (by decide) zm_268 ?_
  obtain ⟨q3, e4, hf⟩ := zbind hf
  refine z_callV (stk := []) (stk' := [.int q3.1]) hX (c_X6_whereWas X.l q1.2 a0 (q1.2.1 0 15) q3 e4) zb_X6_whereWas 0 dX6_place_14 zm_464 (by decide) shC_0 rfl rfl rfl rfl ⟨by decide, by decide⟩ ⟨rfl, rfl⟩ (Nat.le_of_ble_eq_true rfl) rfl ?_
  obtain rfl := Option.some.inj hf
  exact z_iret hX hQ dX6_place_17 rfl
theorem zb_X6_place : zCal yX6_place cX6_place 2 (some .int) 1 := ⟨zm_664, (zwl_in zm_665 rfl), zm_1, zm_666, by decide, by decide, rfl⟩
theorem c_X6_place (l : Launch) (st : zSt) (a0 : Int32) (out : Int32 × zSt) (hf : f_X6_place st a0 = some out) : zMet l yX6_place cX6_place 2 (some .int) zr_X6_place 98 shC (fun ad => [.ref (ad 0), .int a0]) st (fun ad => some (.int out.1)) out.2 :=
  zmet_of (by decide +kernel) (fun _ => Nat.le_of_ble_eq_true rfl) (fun X _ hnl hX hQ => t_X6_place X out hX hQ hnl st a0 hf)
abbrev zr_X6_placeByLine : Room := { frames := 3, cells := 0, slots := 0, locals := 67 }
def f_X6_placeByLine (st : zSt) (a0 : Int32) (a1 : Int32) : Option (Int32 × zSt) := ((f_X6_demandIndex st a0 (st.1 0 11)).bind fun q1 => ((f_X6_isWithin q1.2 a1 0 (q1.2.1 0 15)).bind fun q3 => ((f_X6_demandArgument q3.2 q3.1).bind fun q5 => ((f_X6_whereWas q5.2 a0 a1).bind fun q7 => some (q7.1, q7.2)))))
set_option maxHeartbeats 4000000 in
set_option maxRecDepth 100000 in
theorem t_X6_placeByLine (X : zCx) (out : Int32 × zSt) (hX : zOk X RX6 cX6_placeByLine zr_X6_placeByLine) (hQ : zPost X 98 shC (some .int) (some (.int out.1)) out.2) (hnl : X.nL = 3) (st : zSt) (a0 : Int32) (a1 : Int32) (hf : f_X6_placeByLine st a0 a1 = some out) : zG 98 shC X st 0 [(0, .ref (X.ad 0)), (1, .int a0), (2, .int a1)] [] := by
  unfold f_X6_placeByLine at hf
  refine z_iload_n hX 1 dX6_placeByLine_0 rfl rfl ?_
  refine z_aload_n hX 0 dX6_placeByLine_1 rfl rfl ?_
  refine z_getI hX 0 11 dX6_placeByLine_2 (by decide) shC_0 rfl rfl zin_X6 (by decide) zm_264 ?_
  obtain ⟨q1, e2, hf⟩ := zbind hf
  refine z_callS (stk := []) (stk' := []) hX (c_X6_demandIndex X.l st a0 (st.1 0 11) q1 e2) zb_X6_demandIndex dX6_placeByLine_5 zm_306 rfl rfl rfl ⟨by decide, by decide⟩ ⟨rfl, rfl⟩ (Nat.le_of_ble_eq_true rfl) rfl ?_
  refine z_iload_n hX 2 dX6_placeByLine_8 rfl rfl ?_
  refine z_iconst (v := 0) hX dX6_placeByLine_9 (by decide) ?_
  refine z_aload_n hX 0 dX6_placeByLine_10 rfl rfl ?_
  refine z_getI hX 0 15 dX6_placeByLine_11 (by decide) shC_0 rfl rfl zin_X6 (by decide) zm_268 ?_
  obtain ⟨q3, e4, hf⟩ := zbind hf
  refine z_callS (stk := []) (stk' := [.int q3.1]) hX (c_X6_isWithin X.l q1.2 a1 0 (q1.2.1 0 15) q3 e4) zb_X6_isWithin dX6_placeByLine_14 zm_373 rfl rfl rfl ⟨by decide, by decide⟩ ⟨rfl, rfl⟩ (Nat.le_of_ble_eq_true rfl) rfl ?_
  obtain ⟨q5, e6, hf⟩ := zbind hf
  refine z_callS (stk := []) (stk' := []) hX (c_X6_demandArgument X.l q3.2 q3.1 q5 e6) zb_X6_demandArgument dX6_placeByLine_17 zm_376 rfl rfl rfl ⟨by decide, by decide⟩ ⟨rfl, rfl⟩ (Nat.le_of_ble_eq_true rfl) rfl ?_
  refine z_aload_n hX 0 dX6_placeByLine_20 rfl rfl ?_
  refine z_iload_n hX 1 dX6_placeByLine_21 rfl rfl ?_
  refine z_iload_n hX 2 dX6_placeByLine_22 rfl rfl ?_
  obtain ⟨q7, e8, hf⟩ := zbind hf
  refine z_callV (stk := []) (stk' := [.int q7.1]) hX (c_X6_whereWas X.l q5.2 a0 a1 q7 e8) zb_X6_whereWas 0 dX6_placeByLine_23 zm_464 (by decide) shC_0 rfl rfl rfl rfl ⟨by decide, by decide⟩ ⟨rfl, rfl⟩ (Nat.le_of_ble_eq_true rfl) rfl ?_
  obtain rfl := Option.some.inj hf
  exact z_iret hX hQ dX6_placeByLine_26 rfl
theorem zb_X6_placeByLine : zCal yX6_placeByLine cX6_placeByLine 3 (some .int) 2 := ⟨zm_668, (zwl_in zm_669 rfl), zm_1, zm_670, by decide, by decide, rfl⟩
theorem c_X6_placeByLine (l : Launch) (st : zSt) (a0 : Int32) (a1 : Int32) (out : Int32 × zSt) (hf : f_X6_placeByLine st a0 a1 = some out) : zMet l yX6_placeByLine cX6_placeByLine 3 (some .int) zr_X6_placeByLine 98 shC (fun ad => [.ref (ad 0), .int a0, .int a1]) st (fun ad => some (.int out.1)) out.2 :=
  zmet_of (by decide +kernel) (fun _ => Nat.le_of_ble_eq_true rfl) (fun X _ hnl hX hQ => t_X6_placeByLine X out hX hQ hnl st a0 a1 hf)
abbrev zr_X6_fuel : Room := { frames := 2, cells := 0, slots := 0, locals := 42 }
def f_X6_fuel (st : zSt) (a0 : Int32) : Option (Int32 × zSt) := ((f_X6_knownShip st a0).bind fun q1 => some ((q1.2.1 q1.1 6), q1.2))
set_option maxHeartbeats 4000000 in
set_option maxRecDepth 100000 in
theorem t_X6_fuel (X : zCx) (out : Int32 × zSt) (hX : zOk X RX6 cX6_fuel zr_X6_fuel) (hQ : zPost X 98 shC (some .int) (some (.int out.1)) out.2) (hnl : X.nL = 2) (st : zSt) (a0 : Int32) (hf : f_X6_fuel st a0 = some out) : zG 98 shC X st 0 [(0, .ref (X.ad 0)), (1, .int a0)] [] := by
  unfold f_X6_fuel at hf
  refine z_aload_n hX 0 dX6_fuel_0 rfl rfl ?_
  refine z_iload_n hX 1 dX6_fuel_1 rfl rfl ?_
  obtain ⟨q1, e2, hf⟩ := zbind hf
  refine z_callV (stk := []) (stk' := [.ref (X.ad q1.1)]) hX (c_X6_knownShip X.l st a0 q1 e2) zb_X6_knownShip 0 dX6_fuel_2 zm_412 (by decide) shC_0 rfl rfl rfl rfl ⟨by decide, by decide⟩ ⟨rfl, rfl⟩ (Nat.le_of_ble_eq_true rfl) rfl ?_
  refine z_getIN hX q1.1 6 dX6_fuel_5 (zlt_Ship (rr_X6_knownShip e2)) (zsh_Ship (rr_X6_knownShip e2)) rfl rfl zin_X4 (by decide) zm_106 ?_
  obtain rfl := Option.some.inj hf
  exact z_iret hX hQ dX6_fuel_8 rfl
theorem zb_X6_fuel : zCal yX6_fuel cX6_fuel 2 (some .int) 1 := ⟨zm_580, (zwl_in zm_581 rfl), zm_1, zm_582, by decide, by decide, rfl⟩
theorem c_X6_fuel (l : Launch) (st : zSt) (a0 : Int32) (out : Int32 × zSt) (hf : f_X6_fuel st a0 = some out) : zMet l yX6_fuel cX6_fuel 2 (some .int) zr_X6_fuel 98 shC (fun ad => [.ref (ad 0), .int a0]) st (fun ad => some (.int out.1)) out.2 :=
  zmet_of (by decide +kernel) (fun _ => Nat.le_of_ble_eq_true rfl) (fun X _ hnl hX hQ => t_X6_fuel X out hX hQ hnl st a0 hf)
abbrev zr_X6_book : Room := { frames := 2, cells := 0, slots := 0, locals := 45 }
def f_X6_book_146  (st : zSt) (v3 : Int32) (r7 : Nat) (v8 : Int32) (r9 : Nat) : Option (Int32 × zSt) := ((f_X6_fareFor st v3).bind fun q38 => ((f_X6_payFor q38.2 r9 (q38.1 * (q38.2.1 r7 5))).bind fun q40 => some (v8, q40.2)))
def f_X6_book_47  (st : zSt) (v1 : Int32) (v2 : Int32) (v3 : Int32) (v4 : Int32) (v5 : Int32) (v6 : Int32) (r7 : Nat) : Option (Int32 × zSt) := none
def f_X6_book (st : zSt) (a0 : Int32) (a1 : Int32) (a2 : Int32) (a3 : Int32) (a4 : Int32) (a5 : Int32) : Option (Int32 × zSt) := ((f_X6_demandIndex st a0 10).bind fun q1 => ((f_X6_knownSailing q1.2 a1).bind fun q3 => ((f_X6_isBookable q3.2 a2 a3 a4 a5).bind fun q5 => ((f_X6_demandArgument q5.2 q5.1).bind fun q7 => (if (q7.2.1 q3.1 6) = 0 then (if 40 ≤ (q7.2.1 0 14) then f_X6_book_47 q7.2 a0 a1 a2 a3 a4 a5 q3.1 else (zlet (zwI q7.2 0 14 ((q7.2.1 0 14) + 1)) fun s13 => ((f_X6_knownBooking s13 (q7.2.1 0 14)).bind fun q15 => (zlet (zwI q15.2 q15.1 0 a1) fun s17 => (zlet (zwI s17 q15.1 1 a2) fun s19 => (zlet (zwI s19 q15.1 2 a3) fun s21 => (zlet (zwI s21 q15.1 3 a4) fun s23 => (if (a5 = 0 ∨ a5 = 1) then (zlet (zwI s23 q15.1 9 a5) fun s26 => (if zin a0 10 then (if (s26.1 5 a0.toNatClampNeg) = (s26.1 q3.1 1) then (zlet (zwI s26 q15.1 10 1) fun s30 => f_X6_book_146 s30 a2 q3.1 (q7.2.1 0 14) q15.1) else (if zin a0 10 then (if (s26.1 5 a0.toNatClampNeg) = (s26.1 q3.1 2) then (zlet (zwI s26 q15.1 10 1) fun s36 => f_X6_book_146 s36 a2 q3.1 (q7.2.1 0 14) q15.1) else (zlet (zwI s26 q15.1 10 0) fun s34 => f_X6_book_146 s34 a2 q3.1 (q7.2.1 0 14) q15.1)) else none)) else none)) else none)))))))) else f_X6_book_47 q7.2 a0 a1 a2 a3 a4 a5 q3.1)))))
set_option maxHeartbeats 4000000 in
set_option maxRecDepth 100000 in
theorem t_X6_book_146 (X : zCx) (out : Int32 × zSt) (hX : zOk X RX6 cX6_book zr_X6_book) (hQ : zPost X 98 shC (some .int) (some (.int out.1)) out.2) (hnl : X.nL = 10) (st : zSt) (v3 : Int32) (r7 : Nat) (v8 : Int32) (r9 : Nat) (hr7 : zkSailing r7) (hr9 : zkBooking r9) (hf : f_X6_book_146  st v3 r7 v8 r9 = some out) : zG 98 shC X st 146 [(0, .ref (X.ad 0)), (3, .int v3), (7, .ref (X.ad r7)), (8, .int v8), (9, .ref (X.ad r9))] [] := by
  unfold f_X6_book_146 at hf
  refine z_aload_n hX 0 dX6_book_146 rfl rfl ?_
  refine z_aload hX 4 dX6_book_147 rfl ?_
  refine z_iload_n hX 1 dX6_book_149 rfl rfl ?_
  obtain ⟨q38, e39, hf⟩ := zbind hf
  refine z_callS (stk := [.ref (X.ad r9), .ref (X.ad 0)]) (stk' := [.int q38.1, .ref (X.ad r9), .ref (X.ad 0)]) hX (c_X6_fareFor X.l st v3 q38 e39) zb_X6_fareFor dX6_book_150 zm_645 rfl rfl rfl ⟨by decide, by decide⟩ ⟨rfl, rfl⟩ (Nat.le_of_ble_eq_true rfl) rfl ?_
  refine z_aload hX 2 dX6_book_153 rfl ?_
  refine z_getIN hX r7 5 dX6_book_155 (zlt_Sailing hr7) (zsh_Sailing hr7) rfl rfl zin_X3 (by decide) zm_158 ?_
  refine z_imul hX dX6_book_158 ?_
  obtain ⟨q40, e41, hf⟩ := zbind hf
  refine z_callV (stk := []) (stk' := []) hX (c_X6_payFor X.l q38.2 r9 (q38.1 * (q38.2.1 r7 5)) hr9 q40 e41) zb_X6_payFor 0 dX6_book_159 zm_648 (by decide) shC_0 rfl rfl rfl rfl ⟨by decide, by decide⟩ ⟨rfl, rfl⟩ (Nat.le_of_ble_eq_true rfl) rfl ?_
  refine z_iload hX 3 dX6_book_162 rfl ?_
  obtain rfl := Option.some.inj hf
  exact z_iret hX hQ dX6_book_164 rfl
set_option maxHeartbeats 4000000 in
set_option maxRecDepth 100000 in
theorem t_X6_book_47 (X : zCx) (out : Int32 × zSt) (hX : zOk X RX6 cX6_book zr_X6_book) (hQ : zPost X 98 shC (some .int) (some (.int out.1)) out.2) (hnl : X.nL = 10) (st : zSt) (v1 : Int32) (v2 : Int32) (v3 : Int32) (v4 : Int32) (v5 : Int32) (v6 : Int32) (r7 : Nat) (hr7 : zkSailing r7) (hf : f_X6_book_47  st v1 v2 v3 v4 v5 v6 r7 = some out) : zG 98 shC X st 47 [(0, .ref (X.ad 0)), (1, .int v1), (2, .int v2), (3, .int v3), (4, .int v4), (5, .int v5), (6, .int v6), (7, .ref (X.ad r7))] [] := by
  unfold f_X6_book_47 at hf
  refine z_iconst (v := 0) hX dX6_book_47 (by decide) ?_
  exact (znone hf).elim
set_option maxHeartbeats 4000000 in
set_option maxRecDepth 100000 in
theorem t_X6_book (X : zCx) (out : Int32 × zSt) (hX : zOk X RX6 cX6_book zr_X6_book) (hQ : zPost X 98 shC (some .int) (some (.int out.1)) out.2) (hnl : X.nL = 10) (st : zSt) (a0 : Int32) (a1 : Int32) (a2 : Int32) (a3 : Int32) (a4 : Int32) (a5 : Int32) (hf : f_X6_book st a0 a1 a2 a3 a4 a5 = some out) : zG 98 shC X st 0 [(0, .ref (X.ad 0)), (1, .int a0), (2, .int a1), (3, .int a2), (4, .int a3), (5, .int a4), (6, .int a5)] [] := by
  unfold f_X6_book at hf
  refine z_iload_n hX 1 dX6_book_0 rfl rfl ?_
  refine z_bipush (v := 10) hX dX6_book_1 (by decide) ?_
  obtain ⟨q1, e2, hf⟩ := zbind hf
  refine z_callS (stk := []) (stk' := []) hX (c_X6_demandIndex X.l st a0 10 q1 e2) zb_X6_demandIndex dX6_book_3 zm_306 rfl rfl rfl ⟨by decide, by decide⟩ ⟨rfl, rfl⟩ (Nat.le_of_ble_eq_true rfl) rfl ?_
  refine z_aload_n hX 0 dX6_book_6 rfl rfl ?_
  refine z_iload_n hX 2 dX6_book_7 rfl rfl ?_
  obtain ⟨q3, e4, hf⟩ := zbind hf
  refine z_callV (stk := []) (stk' := [.ref (X.ad q3.1)]) hX (c_X6_knownSailing X.l q1.2 a1 q3 e4) zb_X6_knownSailing 0 dX6_book_8 zm_456 (by decide) shC_0 rfl rfl rfl rfl ⟨by decide, by decide⟩ ⟨rfl, rfl⟩ (Nat.le_of_ble_eq_true rfl) rfl ?_
  refine z_astore hX [(0, .ref (X.ad 0)), (1, .int a0), (2, .int a1), (3, .int a2), (4, .int a3), (5, .int a4), (6, .int a5), (7, .ref (X.ad q3.1))] dX6_book_11 (by rw [hnl]; decide) [1, 2, 3, 4, 5, 6, 7, 0] rfl ?_
  refine z_iload_n hX 3 dX6_book_13 rfl rfl ?_
  refine z_iload hX 4 dX6_book_14 rfl ?_
  refine z_iload hX 5 dX6_book_16 rfl ?_
  refine z_iload hX 6 dX6_book_18 rfl ?_
  obtain ⟨q5, e6, hf⟩ := zbind hf
  refine z_callS (stk := []) (stk' := [.int q5.1]) hX (c_X6_isBookable X.l q3.2 a2 a3 a4 a5 q5 e6) zb_X6_isBookable dX6_book_20 zm_642 rfl rfl rfl ⟨by decide, by decide⟩ ⟨rfl, rfl⟩ (Nat.le_of_ble_eq_true rfl) rfl ?_
  obtain ⟨q7, e8, hf⟩ := zbind hf
  refine z_callS (stk := []) (stk' := []) hX (c_X6_demandArgument X.l q5.2 q5.1 q7 e8) zb_X6_demandArgument dX6_book_23 zm_376 rfl rfl rfl ⟨by decide, by decide⟩ ⟨rfl, rfl⟩ (Nat.le_of_ble_eq_true rfl) rfl ?_
  refine z_aload hX 7 dX6_book_26 rfl ?_
  refine z_getIN hX q3.1 6 dX6_book_28 (zlt_Sailing (rr_X6_knownSailing e4)) (zsh_Sailing (rr_X6_knownSailing e4)) rfl rfl zin_X3 (by decide) zm_160 ?_
  refine z_if_ne hX 47 dX6_book_31 (by decide) (fun c9 => ?_) (fun c9 => ?_)
  · have hf := (if_neg c9).symm.trans hf
    exact t_X6_book_47 X out hX hQ hnl q7.2 a0 a1 a2 a3 a4 a5 q3.1 (rr_X6_knownSailing e4) hf
  have hf := (if_pos c9).symm.trans hf
  refine z_aload_n hX 0 dX6_book_34 rfl rfl ?_
  refine z_getI hX 0 14 dX6_book_35 (by decide) shC_0 rfl rfl zin_X6 (by decide) zm_267 ?_
  refine z_bipush (v := 40) hX dX6_book_38 (by decide) ?_
  refine z_icmp_ge hX 47 dX6_book_40 (by decide) (fun c10 => ?_) (fun c10 => ?_)
  · have hf := (if_pos c10).symm.trans hf
    exact t_X6_book_47 X out hX hQ hnl q7.2 a0 a1 a2 a3 a4 a5 q3.1 (rr_X6_knownSailing e4) hf
  have hf := (if_neg c10).symm.trans hf
  refine z_iconst (v := 1) hX dX6_book_43 (by decide) ?_
  refine z_goto hX 48 dX6_book_44 (by decide) ?_
  refine z_callS (stk := []) (stk' := []) hX (c_X6_demandState X.l q7.2 1 ((), q7.2) rfl) zb_X6_demandState dX6_book_48 zm_394 rfl rfl rfl ⟨by decide, by decide⟩ ⟨rfl, rfl⟩ (Nat.le_of_ble_eq_true rfl) rfl ?_
  refine z_aload_n hX 0 dX6_book_51 rfl rfl ?_
  refine z_getI hX 0 14 dX6_book_52 (by decide) shC_0 rfl rfl zin_X6 (by decide) zm_267 ?_
  refine z_istore hX [(0, .ref (X.ad 0)), (1, .int a0), (2, .int a1), (3, .int a2), (4, .int a3), (5, .int a4), (6, .int a5), (7, .ref (X.ad q3.1)), (8, .int (q7.2.1 0 14))] dX6_book_55 (by rw [hnl]; decide) [1, 2, 3, 4, 5, 6, 7, 8, 0] rfl ?_
  refine z_aload_n hX 0 dX6_book_57 rfl rfl ?_
  refine z_dup hX dX6_book_58 rfl ?_
  refine z_getI hX 0 14 dX6_book_59 (by decide) shC_0 rfl rfl zin_X6 (by decide) zm_267 ?_
  refine z_iconst (v := 1) hX dX6_book_62 (by decide) ?_
  refine z_iadd hX dX6_book_63 ?_
  refine z_putI hX 0 14 dX6_book_64 (by decide) shC_0 rfl rfl zin_X6 tyX6_ok nmX6 (by decide) zm_267 rfl rfl ?_
  obtain ⟨s13, h14, hf⟩ := zlet_ex hf
  refine z_name h14 ?_
  refine z_aload_n hX 0 dX6_book_67 rfl rfl ?_
  refine z_iload hX 8 dX6_book_68 rfl ?_
  obtain ⟨q15, e16, hf⟩ := zbind hf
  refine z_callV (stk := []) (stk' := [.ref (X.ad q15.1)]) hX (c_X6_knownBooking X.l s13 (q7.2.1 0 14) q15 e16) zb_X6_knownBooking 0 dX6_book_70 zm_503 (by decide) shC_0 rfl rfl rfl rfl ⟨by decide, by decide⟩ ⟨rfl, rfl⟩ (Nat.le_of_ble_eq_true rfl) rfl ?_
  refine z_astore hX [(0, .ref (X.ad 0)), (1, .int a0), (2, .int a1), (3, .int a2), (4, .int a3), (5, .int a4), (6, .int a5), (7, .ref (X.ad q3.1)), (8, .int (q7.2.1 0 14)), (9, .ref (X.ad q15.1))] dX6_book_73 (by rw [hnl]; decide) [1, 2, 3, 4, 5, 6, 7, 8, 9, 0] rfl ?_
  refine z_aload hX 9 dX6_book_75 rfl ?_
  refine z_iload_n hX 2 dX6_book_77 rfl rfl ?_
  refine z_putIN hX q15.1 0 dX6_book_78 (zlt_Booking (rr_X6_knownBooking e16)) (zsh_Booking (rr_X6_knownBooking e16)) rfl rfl zin_X0 tyX0_ok nmX0 (by decide) zm_198 rfl rfl ?_
  obtain ⟨s17, h18, hf⟩ := zlet_ex hf
  refine z_name h18 ?_
  refine z_aload hX 9 dX6_book_81 rfl ?_
  refine z_iload_n hX 3 dX6_book_83 rfl rfl ?_
  refine z_putIN hX q15.1 1 dX6_book_84 (zlt_Booking (rr_X6_knownBooking e16)) (zsh_Booking (rr_X6_knownBooking e16)) rfl rfl zin_X0 tyX0_ok nmX0 (by decide) zm_201 rfl rfl ?_
  obtain ⟨s19, h20, hf⟩ := zlet_ex hf
  refine z_name h20 ?_
  refine z_aload hX 9 dX6_book_87 rfl ?_
  refine z_iload hX 4 dX6_book_89 rfl ?_
  refine z_putIN hX q15.1 2 dX6_book_91 (zlt_Booking (rr_X6_knownBooking e16)) (zsh_Booking (rr_X6_knownBooking e16)) rfl rfl zin_X0 tyX0_ok nmX0 (by decide) zm_204 rfl rfl ?_
  obtain ⟨s21, h22, hf⟩ := zlet_ex hf
  refine z_name h22 ?_
  refine z_aload hX 9 dX6_book_94 rfl ?_
  refine z_iload hX 5 dX6_book_96 rfl ?_
  refine z_putIN hX q15.1 3 dX6_book_98 (zlt_Booking (rr_X6_knownBooking e16)) (zsh_Booking (rr_X6_knownBooking e16)) rfl rfl zin_X0 tyX0_ok nmX0 (by decide) zm_207 rfl rfl ?_
  obtain ⟨s23, h24, hf⟩ := zlet_ex hf
  refine z_name h24 ?_
  refine z_aload hX 9 dX6_book_101 rfl ?_
  refine z_iload hX 6 dX6_book_103 rfl ?_
  obtain ⟨i25, hf⟩ := zifd hf
  refine z_putZN hX q15.1 9 dX6_book_105 (zlt_Booking (rr_X6_knownBooking e16)) (zsh_Booking (rr_X6_knownBooking e16)) rfl rfl zin_X0 tyX0_ok nmX0 (by decide) zm_222 rfl rfl i25 ?_
  obtain ⟨s26, h27, hf⟩ := zlet_ex hf
  refine z_name h27 ?_
  refine z_aload hX 9 dX6_book_108 rfl ?_
  refine z_aload_n hX 0 dX6_book_110 rfl rfl ?_
  refine z_getR hX 0 4 5 dX6_book_111 (by decide) shC_0 rfl rfl zin_X6 (by decide) zm_257 ?_
  refine z_iload_n hX 1 dX6_book_114 rfl rfl ?_
  obtain ⟨i28, hf⟩ := zifd hf
  refine z_iald hX 5 dX6_book_115 (by decide) shC_5 i28 ?_
  refine z_aload hX 7 dX6_book_116 rfl ?_
  refine z_getIN hX q3.1 1 dX6_book_118 (zlt_Sailing (rr_X6_knownSailing e4)) (zsh_Sailing (rr_X6_knownSailing e4)) rfl rfl zin_X3 (by decide) zm_150 ?_
  refine z_icmp_eq hX 138 dX6_book_121 (by decide) (fun c29 => ?_) (fun c29 => ?_)
  · have hf := (if_pos c29).symm.trans hf
    refine z_iconst (v := 1) hX dX6_book_138 (by decide) ?_
    refine z_goto hX 143 dX6_book_139 (by decide) ?_
    refine z_putZN hX q15.1 10 dX6_book_143 (zlt_Booking (rr_X6_knownBooking e16)) (zsh_Booking (rr_X6_knownBooking e16)) rfl rfl zin_X0 tyX0_ok nmX0 (by decide) zm_224 rfl rfl (Or.inr rfl) ?_
    obtain ⟨s30, h31, hf⟩ := zlet_ex hf
    refine z_name h31 ?_
    refine z_locals [0, 3, 7, 8, 9] [(0, .ref (X.ad 0)), (3, .int a2), (7, .ref (X.ad q3.1)), (8, .int (q7.2.1 0 14)), (9, .ref (X.ad q15.1))] rfl ?_
    exact t_X6_book_146 X out hX hQ hnl s30 a2 q3.1 (q7.2.1 0 14) q15.1 (rr_X6_knownSailing e4) (rr_X6_knownBooking e16) hf
  have hf := (if_neg c29).symm.trans hf
  refine z_aload_n hX 0 dX6_book_124 rfl rfl ?_
  refine z_getR hX 0 4 5 dX6_book_125 (by decide) shC_0 rfl rfl zin_X6 (by decide) zm_257 ?_
  refine z_iload_n hX 1 dX6_book_128 rfl rfl ?_
  obtain ⟨i32, hf⟩ := zifd hf
  refine z_iald hX 5 dX6_book_129 (by decide) shC_5 i32 ?_
  refine z_aload hX 7 dX6_book_130 rfl ?_
  refine z_getIN hX q3.1 2 dX6_book_132 (zlt_Sailing (rr_X6_knownSailing e4)) (zsh_Sailing (rr_X6_knownSailing e4)) rfl rfl zin_X3 (by decide) zm_152 ?_
  refine z_icmp_ne hX 142 dX6_book_135 (by decide) (fun c33 => ?_) (fun c33 => ?_)
  · have hf := (if_neg c33).symm.trans hf
    refine z_iconst (v := 0) hX dX6_book_142 (by decide) ?_
    refine z_putZN hX q15.1 10 dX6_book_143 (zlt_Booking (rr_X6_knownBooking e16)) (zsh_Booking (rr_X6_knownBooking e16)) rfl rfl zin_X0 tyX0_ok nmX0 (by decide) zm_224 rfl rfl (Or.inl rfl) ?_
    obtain ⟨s34, h35, hf⟩ := zlet_ex hf
    refine z_name h35 ?_
    refine z_locals [0, 3, 7, 8, 9] [(0, .ref (X.ad 0)), (3, .int a2), (7, .ref (X.ad q3.1)), (8, .int (q7.2.1 0 14)), (9, .ref (X.ad q15.1))] rfl ?_
    exact t_X6_book_146 X out hX hQ hnl s34 a2 q3.1 (q7.2.1 0 14) q15.1 (rr_X6_knownSailing e4) (rr_X6_knownBooking e16) hf
  have hf := (if_pos c33).symm.trans hf
  refine z_iconst (v := 1) hX dX6_book_138 (by decide) ?_
  refine z_goto hX 143 dX6_book_139 (by decide) ?_
  refine z_putZN hX q15.1 10 dX6_book_143 (zlt_Booking (rr_X6_knownBooking e16)) (zsh_Booking (rr_X6_knownBooking e16)) rfl rfl zin_X0 tyX0_ok nmX0 (by decide) zm_224 rfl rfl (Or.inr rfl) ?_
  obtain ⟨s36, h37, hf⟩ := zlet_ex hf
  refine z_name h37 ?_
  refine z_locals [0, 3, 7, 8, 9] [(0, .ref (X.ad 0)), (3, .int a2), (7, .ref (X.ad q3.1)), (8, .int (q7.2.1 0 14)), (9, .ref (X.ad q15.1))] rfl ?_
  exact t_X6_book_146 X out hX hQ hnl s36 a2 q3.1 (q7.2.1 0 14) q15.1 (rr_X6_knownSailing e4) (rr_X6_knownBooking e16) hf
theorem zb_X6_book : zCal yX6_book cX6_book 10 (some .int) 6 := ⟨zm_639, (zwl_in zm_640 rfl), zm_1, zm_641, by decide, by decide, rfl⟩
theorem c_X6_book (l : Launch) (st : zSt) (a0 : Int32) (a1 : Int32) (a2 : Int32) (a3 : Int32) (a4 : Int32) (a5 : Int32) (out : Int32 × zSt) (hf : f_X6_book st a0 a1 a2 a3 a4 a5 = some out) : zMet l yX6_book cX6_book 10 (some .int) zr_X6_book 98 shC (fun ad => [.ref (ad 0), .int a0, .int a1, .int a2, .int a3, .int a4, .int a5]) st (fun ad => some (.int out.1)) out.2 :=
  zmet_of (by decide +kernel) (fun _ => Nat.le_of_ble_eq_true rfl) (fun X _ hnl hX hQ => t_X6_book X out hX hQ hnl st a0 a1 a2 a3 a4 a5 hf)
abbrev zr_X6_sailingOf : Room := { frames := 2, cells := 0, slots := 0, locals := 42 }
def f_X6_sailingOf (st : zSt) (a0 : Int32) : Option (Int32 × zSt) := ((f_X6_knownBooking st a0).bind fun q1 => some ((q1.2.1 q1.1 0), q1.2))
set_option maxHeartbeats 4000000 in
set_option maxRecDepth 100000 in
theorem t_X6_sailingOf (X : zCx) (out : Int32 × zSt) (hX : zOk X RX6 cX6_sailingOf zr_X6_sailingOf) (hQ : zPost X 98 shC (some .int) (some (.int out.1)) out.2) (hnl : X.nL = 2) (st : zSt) (a0 : Int32) (hf : f_X6_sailingOf st a0 = some out) : zG 98 shC X st 0 [(0, .ref (X.ad 0)), (1, .int a0)] [] := by
  unfold f_X6_sailingOf at hf
  refine z_aload_n hX 0 dX6_sailingOf_0 rfl rfl ?_
  refine z_iload_n hX 1 dX6_sailingOf_1 rfl rfl ?_
  obtain ⟨q1, e2, hf⟩ := zbind hf
  refine z_callV (stk := []) (stk' := [.ref (X.ad q1.1)]) hX (c_X6_knownBooking X.l st a0 q1 e2) zb_X6_knownBooking 0 dX6_sailingOf_2 zm_503 (by decide) shC_0 rfl rfl rfl rfl ⟨by decide, by decide⟩ ⟨rfl, rfl⟩ (Nat.le_of_ble_eq_true rfl) rfl ?_
  refine z_getIN hX q1.1 0 dX6_sailingOf_5 (zlt_Booking (rr_X6_knownBooking e2)) (zsh_Booking (rr_X6_knownBooking e2)) rfl rfl zin_X0 (by decide) zm_198 ?_
  obtain rfl := Option.some.inj hf
  exact z_iret hX hQ dX6_sailingOf_8 rfl
theorem zb_X6_sailingOf : zCal yX6_sailingOf cX6_sailingOf 2 (some .int) 1 := ⟨zm_584, (zwl_in zm_585 rfl), zm_1, zm_586, by decide, by decide, rfl⟩
theorem c_X6_sailingOf (l : Launch) (st : zSt) (a0 : Int32) (out : Int32 × zSt) (hf : f_X6_sailingOf st a0 = some out) : zMet l yX6_sailingOf cX6_sailingOf 2 (some .int) zr_X6_sailingOf 98 shC (fun ad => [.ref (ad 0), .int a0]) st (fun ad => some (.int out.1)) out.2 :=
  zmet_of (by decide +kernel) (fun _ => Nat.le_of_ble_eq_true rfl) (fun X _ hnl hX hQ => t_X6_sailingOf X out hX hQ hnl st a0 hf)
abbrev zr_X6_lane : Room := { frames := 2, cells := 0, slots := 0, locals := 42 }
def f_X6_lane (st : zSt) (a0 : Int32) : Option (Int32 × zSt) := ((f_X6_knownBooking st a0).bind fun q1 => some ((q1.2.1 q1.1 4), q1.2))
set_option maxHeartbeats 4000000 in
set_option maxRecDepth 100000 in
theorem t_X6_lane (X : zCx) (out : Int32 × zSt) (hX : zOk X RX6 cX6_lane zr_X6_lane) (hQ : zPost X 98 shC (some .int) (some (.int out.1)) out.2) (hnl : X.nL = 2) (st : zSt) (a0 : Int32) (hf : f_X6_lane st a0 = some out) : zG 98 shC X st 0 [(0, .ref (X.ad 0)), (1, .int a0)] [] := by
  unfold f_X6_lane at hf
  refine z_aload_n hX 0 dX6_lane_0 rfl rfl ?_
  refine z_iload_n hX 1 dX6_lane_1 rfl rfl ?_
  obtain ⟨q1, e2, hf⟩ := zbind hf
  refine z_callV (stk := []) (stk' := [.ref (X.ad q1.1)]) hX (c_X6_knownBooking X.l st a0 q1 e2) zb_X6_knownBooking 0 dX6_lane_2 zm_503 (by decide) shC_0 rfl rfl rfl rfl ⟨by decide, by decide⟩ ⟨rfl, rfl⟩ (Nat.le_of_ble_eq_true rfl) rfl ?_
  refine z_getIN hX q1.1 4 dX6_lane_5 (zlt_Booking (rr_X6_knownBooking e2)) (zsh_Booking (rr_X6_knownBooking e2)) rfl rfl zin_X0 (by decide) zm_210 ?_
  obtain rfl := Option.some.inj hf
  exact z_iret hX hQ dX6_lane_8 rfl
theorem zb_X6_lane : zCal yX6_lane cX6_lane 2 (some .int) 1 := ⟨zm_708, (zwl_in zm_709 rfl), zm_1, zm_710, by decide, by decide, rfl⟩
theorem c_X6_lane (l : Launch) (st : zSt) (a0 : Int32) (out : Int32 × zSt) (hf : f_X6_lane st a0 = some out) : zMet l yX6_lane cX6_lane 2 (some .int) zr_X6_lane 98 shC (fun ad => [.ref (ad 0), .int a0]) st (fun ad => some (.int out.1)) out.2 :=
  zmet_of (by decide +kernel) (fun _ => Nat.le_of_ble_eq_true rfl) (fun X _ hnl hX hQ => t_X6_lane X out hX hQ hnl st a0 hf)
abbrev zr_X6_paid : Room := { frames := 2, cells := 0, slots := 0, locals := 42 }
def f_X6_paid (st : zSt) (a0 : Int32) : Option (Int32 × zSt) := ((f_X6_knownBooking st a0).bind fun q1 => some ((q1.2.1 q1.1 7), q1.2))
set_option maxHeartbeats 4000000 in
set_option maxRecDepth 100000 in
theorem t_X6_paid (X : zCx) (out : Int32 × zSt) (hX : zOk X RX6 cX6_paid zr_X6_paid) (hQ : zPost X 98 shC (some .int) (some (.int out.1)) out.2) (hnl : X.nL = 2) (st : zSt) (a0 : Int32) (hf : f_X6_paid st a0 = some out) : zG 98 shC X st 0 [(0, .ref (X.ad 0)), (1, .int a0)] [] := by
  unfold f_X6_paid at hf
  refine z_aload_n hX 0 dX6_paid_0 rfl rfl ?_
  refine z_iload_n hX 1 dX6_paid_1 rfl rfl ?_
  obtain ⟨q1, e2, hf⟩ := zbind hf
  refine z_callV (stk := []) (stk' := [.ref (X.ad q1.1)]) hX (c_X6_knownBooking X.l st a0 q1 e2) zb_X6_knownBooking 0 dX6_paid_2 zm_503 (by decide) shC_0 rfl rfl rfl rfl ⟨by decide, by decide⟩ ⟨rfl, rfl⟩ (Nat.le_of_ble_eq_true rfl) rfl ?_
  refine z_getIN hX q1.1 7 dX6_paid_5 (zlt_Booking (rr_X6_knownBooking e2)) (zsh_Booking (rr_X6_knownBooking e2)) rfl rfl zin_X0 (by decide) zm_217 ?_
  obtain rfl := Option.some.inj hf
  exact z_iret hX hQ dX6_paid_8 rfl
theorem zb_X6_paid : zCal yX6_paid cX6_paid 2 (some .int) 1 := ⟨zm_588, (zwl_in zm_589 rfl), zm_1, zm_590, by decide, by decide, rfl⟩
theorem c_X6_paid (l : Launch) (st : zSt) (a0 : Int32) (out : Int32 × zSt) (hf : f_X6_paid st a0 = some out) : zMet l yX6_paid cX6_paid 2 (some .int) zr_X6_paid 98 shC (fun ad => [.ref (ad 0), .int a0]) st (fun ad => some (.int out.1)) out.2 :=
  zmet_of (by decide +kernel) (fun _ => Nat.le_of_ble_eq_true rfl) (fun X _ hnl hX hQ => t_X6_paid X out hX hQ hnl st a0 hf)
abbrev zr_X6_taken : Room := { frames := 2, cells := 0, slots := 0, locals := 42 }
def f_X6_taken_12  : Nat → zSt → Int32 → Int32 → Int32 → Option (Int32 × zSt)
  | 0, _, _, _, _ => none
  | n + 1, st, v1, v2, v3 => (if (st.1 0 14) ≤ v3 then some (v2, st) else ((f_X6_knownBooking st v3).bind fun q4 => (if (q4.2.1 q4.1 0) = v1 then (if (q4.2.1 q4.1 11) = 0 then f_X6_taken_12 n q4.2 v1 v2 (v3 + 1) else f_X6_taken_12 n q4.2 v1 (v2 + 1) (v3 + 1)) else f_X6_taken_12 n q4.2 v1 v2 (v3 + 1))))
def f_X6_taken (st : zSt) (a0 : Int32) : Option (Int32 × zSt) := ((f_X6_demandIndex st a0 (st.1 0 13)).bind fun q1 => f_X6_taken_12 64 q1.2 a0 0 0)
set_option maxHeartbeats 4000000 in
set_option maxRecDepth 100000 in
theorem t_X6_taken_12 (X : zCx) (out : Int32 × zSt) (hX : zOk X RX6 cX6_taken zr_X6_taken) (hQ : zPost X 98 shC (some .int) (some (.int out.1)) out.2) (hnl : X.nL = 5) : ∀ (n : Nat) (st : zSt) (v1 : Int32) (v2 : Int32) (v3 : Int32), f_X6_taken_12  n st v1 v2 v3 = some out → zG 98 shC X st 12 [(0, .ref (X.ad 0)), (1, .int v1), (2, .int v2), (3, .int v3)] [] := by
  intro n
  induction n with
  | zero => intro st v1 v2 v3 hf; rw [f_X6_taken_12] at hf; exact (znone hf).elim
  | succ n ih =>
    intro st v1 v2 v3 hf
    rw [f_X6_taken_12] at hf
    refine z_iload_n hX 3 dX6_taken_12 rfl rfl ?_
    refine z_aload_n hX 0 dX6_taken_13 rfl rfl ?_
    refine z_getI hX 0 14 dX6_taken_14 (by decide) shC_0 rfl rfl zin_X6 (by decide) zm_267 ?_
    refine z_icmp_ge hX 53 dX6_taken_17 (by decide) (fun c3 => ?_) (fun c3 => ?_)
    · have hf := (if_pos c3).symm.trans hf
      refine z_iload_n hX 2 dX6_taken_53 rfl rfl ?_
      obtain rfl := Option.some.inj hf
      exact z_iret hX hQ dX6_taken_54 rfl
    have hf := (if_neg c3).symm.trans hf
    refine z_aload_n hX 0 dX6_taken_20 rfl rfl ?_
    refine z_iload_n hX 3 dX6_taken_21 rfl rfl ?_
    obtain ⟨q4, e5, hf⟩ := zbind hf
    refine z_callV (stk := []) (stk' := [.ref (X.ad q4.1)]) hX (c_X6_knownBooking X.l st v3 q4 e5) zb_X6_knownBooking 0 dX6_taken_22 zm_503 (by decide) shC_0 rfl rfl rfl rfl ⟨by decide, by decide⟩ ⟨rfl, rfl⟩ (Nat.le_of_ble_eq_true rfl) rfl ?_
    refine z_astore hX [(0, .ref (X.ad 0)), (1, .int v1), (2, .int v2), (3, .int v3), (4, .ref (X.ad q4.1))] dX6_taken_25 (by rw [hnl]; decide) [1, 2, 3, 4, 0] rfl ?_
    refine z_aload hX 4 dX6_taken_27 rfl ?_
    refine z_getIN hX q4.1 0 dX6_taken_29 (zlt_Booking (rr_X6_knownBooking e5)) (zsh_Booking (rr_X6_knownBooking e5)) rfl rfl zin_X0 (by decide) zm_198 ?_
    refine z_iload_n hX 1 dX6_taken_32 rfl rfl ?_
    refine z_icmp_ne hX 47 dX6_taken_33 (by decide) (fun c6 => ?_) (fun c6 => ?_)
    · have hf := (if_neg c6).symm.trans hf
      refine z_iinc (j := 3) (v := 1) hX [(0, .ref (X.ad 0)), (1, .int v1), (2, .int v2), (3, .int (v3 + 1)), (4, .ref (X.ad q4.1))] dX6_taken_47 rfl (by decide) (by rw [hnl]; decide) [1, 2, 3, 0, 4] rfl ?_
      refine z_goto hX 12 dX6_taken_50 (by decide) ?_
      refine z_locals [0, 1, 2, 3] [(0, .ref (X.ad 0)), (1, .int v1), (2, .int v2), (3, .int (v3 + 1))] rfl ?_
      exact ih q4.2 v1 v2 (v3 + 1) hf
    have hf := (if_pos c6).symm.trans hf
    refine z_aload hX 4 dX6_taken_36 rfl ?_
    refine z_getIN hX q4.1 11 dX6_taken_38 (zlt_Booking (rr_X6_knownBooking e5)) (zsh_Booking (rr_X6_knownBooking e5)) rfl rfl zin_X0 (by decide) zm_227 ?_
    refine z_if_eq hX 47 dX6_taken_41 (by decide) (fun c7 => ?_) (fun c7 => ?_)
    · have hf := (if_pos c7).symm.trans hf
      refine z_iinc (j := 3) (v := 1) hX [(0, .ref (X.ad 0)), (1, .int v1), (2, .int v2), (3, .int (v3 + 1)), (4, .ref (X.ad q4.1))] dX6_taken_47 rfl (by decide) (by rw [hnl]; decide) [1, 2, 3, 0, 4] rfl ?_
      refine z_goto hX 12 dX6_taken_50 (by decide) ?_
      refine z_locals [0, 1, 2, 3] [(0, .ref (X.ad 0)), (1, .int v1), (2, .int v2), (3, .int (v3 + 1))] rfl ?_
      exact ih q4.2 v1 v2 (v3 + 1) hf
    have hf := (if_neg c7).symm.trans hf
    refine z_iinc (j := 2) (v := 1) hX [(0, .ref (X.ad 0)), (1, .int v1), (2, .int (v2 + 1)), (3, .int v3), (4, .ref (X.ad q4.1))] dX6_taken_44 rfl (by decide) (by rw [hnl]; decide) [1, 2, 0, 3, 4] rfl ?_
    refine z_iinc (j := 3) (v := 1) hX [(0, .ref (X.ad 0)), (1, .int v1), (2, .int (v2 + 1)), (3, .int (v3 + 1)), (4, .ref (X.ad q4.1))] dX6_taken_47 rfl (by decide) (by rw [hnl]; decide) [1, 2, 3, 0, 4] rfl ?_
    refine z_goto hX 12 dX6_taken_50 (by decide) ?_
    refine z_locals [0, 1, 2, 3] [(0, .ref (X.ad 0)), (1, .int v1), (2, .int (v2 + 1)), (3, .int (v3 + 1))] rfl ?_
    exact ih q4.2 v1 (v2 + 1) (v3 + 1) hf
set_option maxHeartbeats 4000000 in
set_option maxRecDepth 100000 in
theorem t_X6_taken (X : zCx) (out : Int32 × zSt) (hX : zOk X RX6 cX6_taken zr_X6_taken) (hQ : zPost X 98 shC (some .int) (some (.int out.1)) out.2) (hnl : X.nL = 5) (st : zSt) (a0 : Int32) (hf : f_X6_taken st a0 = some out) : zG 98 shC X st 0 [(0, .ref (X.ad 0)), (1, .int a0)] [] := by
  unfold f_X6_taken at hf
  refine z_iload_n hX 1 dX6_taken_0 rfl rfl ?_
  refine z_aload_n hX 0 dX6_taken_1 rfl rfl ?_
  refine z_getI hX 0 13 dX6_taken_2 (by decide) shC_0 rfl rfl zin_X6 (by decide) zm_266 ?_
  obtain ⟨q1, e2, hf⟩ := zbind hf
  refine z_callS (stk := []) (stk' := []) hX (c_X6_demandIndex X.l st a0 (st.1 0 13) q1 e2) zb_X6_demandIndex dX6_taken_5 zm_306 rfl rfl rfl ⟨by decide, by decide⟩ ⟨rfl, rfl⟩ (Nat.le_of_ble_eq_true rfl) rfl ?_
  refine z_iconst (v := 0) hX dX6_taken_8 (by decide) ?_
  refine z_istore_n hX [(0, .ref (X.ad 0)), (1, .int a0), (2, .int 0)] dX6_taken_9 rfl (by rw [hnl]; decide) [1, 2, 0] rfl ?_
  refine z_iconst (v := 0) hX dX6_taken_10 (by decide) ?_
  refine z_istore_n hX [(0, .ref (X.ad 0)), (1, .int a0), (2, .int 0), (3, .int 0)] dX6_taken_11 rfl (by rw [hnl]; decide) [1, 2, 3, 0] rfl ?_
  exact t_X6_taken_12 X out hX hQ hnl 64 q1.2 a0 0 0 hf
theorem zb_X6_taken : zCal yX6_taken cX6_taken 5 (some .int) 1 := ⟨zm_682, (zwl_in zm_683 rfl), zm_1, zm_684, by decide, by decide, rfl⟩
theorem c_X6_taken (l : Launch) (st : zSt) (a0 : Int32) (out : Int32 × zSt) (hf : f_X6_taken st a0 = some out) : zMet l yX6_taken cX6_taken 5 (some .int) zr_X6_taken 98 shC (fun ad => [.ref (ad 0), .int a0]) st (fun ad => some (.int out.1)) out.2 :=
  zmet_of (by decide +kernel) (fun _ => Nat.le_of_ble_eq_true rfl) (fun X _ hnl hX hQ => t_X6_taken X out hX hQ hnl st a0 hf)
abbrev zr_X6_list : Room := { frames := 2, cells := 0, slots := 0, locals := 42 }
def f_X6_list (st : zSt) (a0 : Int32) : Option (Int32 × zSt) := ((f_X6_knownSailing st a0).bind fun q1 => (if (q1.2.1 q1.1 6) = 2 then some ((q1.2.1 q1.1 9), q1.2) else none))
set_option maxHeartbeats 4000000 in
set_option maxRecDepth 100000 in
theorem t_X6_list (X : zCx) (out : Int32 × zSt) (hX : zOk X RX6 cX6_list zr_X6_list) (hQ : zPost X 98 shC (some .int) (some (.int out.1)) out.2) (hnl : X.nL = 3) (st : zSt) (a0 : Int32) (hf : f_X6_list st a0 = some out) : zG 98 shC X st 0 [(0, .ref (X.ad 0)), (1, .int a0)] [] := by
  unfold f_X6_list at hf
  refine z_aload_n hX 0 dX6_list_0 rfl rfl ?_
  refine z_iload_n hX 1 dX6_list_1 rfl rfl ?_
  obtain ⟨q1, e2, hf⟩ := zbind hf
  refine z_callV (stk := []) (stk' := [.ref (X.ad q1.1)]) hX (c_X6_knownSailing X.l st a0 q1 e2) zb_X6_knownSailing 0 dX6_list_2 zm_456 (by decide) shC_0 rfl rfl rfl rfl ⟨by decide, by decide⟩ ⟨rfl, rfl⟩ (Nat.le_of_ble_eq_true rfl) rfl ?_
  refine z_astore_n hX [(0, .ref (X.ad 0)), (1, .int a0), (2, .ref (X.ad q1.1))] dX6_list_5 rfl (by rw [hnl]; decide) [1, 2, 0] rfl ?_
  refine z_aload_n hX 2 dX6_list_6 rfl rfl ?_
  refine z_getIN hX q1.1 6 dX6_list_7 (zlt_Sailing (rr_X6_knownSailing e2)) (zsh_Sailing (rr_X6_knownSailing e2)) rfl rfl zin_X3 (by decide) zm_160 ?_
  refine z_iconst (v := 2) hX dX6_list_10 (by decide) ?_
  refine z_icmp_eq hX 22 dX6_list_11 (by decide) (fun c3 => ?_) (fun c3 => ?_)
  · have hf := (if_pos c3).symm.trans hf
    refine z_aload_n hX 2 dX6_list_22 rfl rfl ?_
    refine z_getIN hX q1.1 9 dX6_list_23 (zlt_Sailing (rr_X6_knownSailing e2)) (zsh_Sailing (rr_X6_knownSailing e2)) rfl rfl zin_X3 (by decide) zm_166 ?_
    obtain rfl := Option.some.inj hf
    exact z_iret hX hQ dX6_list_26 rfl
  have hf := (if_neg c3).symm.trans hf
  exact (znone hf).elim
theorem zb_X6_list : zCal yX6_list cX6_list 3 (some .int) 1 := ⟨zm_686, (zwl_in zm_687 rfl), zm_1, zm_688, by decide, by decide, rfl⟩
theorem c_X6_list (l : Launch) (st : zSt) (a0 : Int32) (out : Int32 × zSt) (hf : f_X6_list st a0 = some out) : zMet l yX6_list cX6_list 3 (some .int) zr_X6_list 98 shC (fun ad => [.ref (ad 0), .int a0]) st (fun ad => some (.int out.1)) out.2 :=
  zmet_of (by decide +kernel) (fun _ => Nat.le_of_ble_eq_true rfl) (fun X _ hnl hX hQ => t_X6_list X out hX hQ hnl st a0 hf)
abbrev zr_X6_account : Room := { frames := 1, cells := 0, slots := 0, locals := 22 }
def f_X6_account (st : zSt) (a0 : Int32) : Option (Int64 × zSt) := ((f_X6_isWithin st a0 0 2).bind fun q1 => ((f_X6_demandArgument q1.2 q1.1).bind fun q3 => (if zin a0 3 then some ((q3.2.2 8 a0.toNatClampNeg), q3.2) else none)))
set_option maxHeartbeats 4000000 in
set_option maxRecDepth 100000 in
theorem t_X6_account (X : zCx) (out : Int64 × zSt) (hX : zOk X RX6 cX6_account zr_X6_account) (hQ : zPost X 98 shC (some .long) (some (.long out.1)) out.2) (hnl : X.nL = 2) (st : zSt) (a0 : Int32) (hf : f_X6_account st a0 = some out) : zG 98 shC X st 0 [(0, .ref (X.ad 0)), (1, .int a0)] [] := by
  unfold f_X6_account at hf
  refine z_iload_n hX 1 dX6_account_0 rfl rfl ?_
  refine z_iconst (v := 0) hX dX6_account_1 (by decide) ?_
  refine z_iconst (v := 2) hX dX6_account_2 (by decide) ?_
  obtain ⟨q1, e2, hf⟩ := zbind hf
  refine z_callS (stk := []) (stk' := [.int q1.1]) hX (c_X6_isWithin X.l st a0 0 2 q1 e2) zb_X6_isWithin dX6_account_3 zm_373 rfl rfl rfl ⟨by decide, by decide⟩ ⟨rfl, rfl⟩ (Nat.le_of_ble_eq_true rfl) rfl ?_
  obtain ⟨q3, e4, hf⟩ := zbind hf
  refine z_callS (stk := []) (stk' := []) hX (c_X6_demandArgument X.l q1.2 q1.1 q3 e4) zb_X6_demandArgument dX6_account_6 zm_376 rfl rfl rfl ⟨by decide, by decide⟩ ⟨rfl, rfl⟩ (Nat.le_of_ble_eq_true rfl) rfl ?_
  refine z_aload_n hX 0 dX6_account_9 rfl rfl ?_
  refine z_getR hX 0 7 8 dX6_account_10 (by decide) shC_0 rfl rfl zin_X6 (by decide) zm_260 ?_
  refine z_iload_n hX 1 dX6_account_13 rfl rfl ?_
  obtain ⟨i5, hf⟩ := zifd hf
  refine z_lald hX 8 dX6_account_14 (by decide) shC_8 i5 ?_
  obtain rfl := Option.some.inj hf
  exact z_lret hX hQ dX6_account_15
theorem zb_X6_account : zCal yX6_account cX6_account 2 (some .long) 1 := ⟨zm_660, (zwl_in zm_661 rfl), zm_1, zm_662, by decide, by decide, rfl⟩
theorem c_X6_account (l : Launch) (st : zSt) (a0 : Int32) (out : Int64 × zSt) (hf : f_X6_account st a0 = some out) : zMet l yX6_account cX6_account 2 (some .long) zr_X6_account 98 shC (fun ad => [.ref (ad 0), .int a0]) st (fun ad => some (.long out.1)) out.2 :=
  zmet_of (by decide +kernel) (fun _ => Nat.le_of_ble_eq_true rfl) (fun X _ hnl hX hQ => t_X6_account X out hX hQ hnl st a0 hf)
abbrev zr_X6_accountAnew : Room := { frames := 2, cells := 0, slots := 0, locals := 42 }
def f_X6_accountAnew_22  : Nat → zSt → Int32 → Int64 → Int32 → Option (Int64 × zSt)
  | 0, _, _, _, _ => none
  | n + 1, st, v1, v2, v4 => (if (st.1 0 14) ≤ v4 then some (v2, st) else ((f_X6_knownBooking st v4).bind fun q6 => (if (q6.2.1 q6.1 0) = (-1) then f_X6_accountAnew_22 n q6.2 v1 v2 (v4 + 1) else (if v1 = 0 then f_X6_accountAnew_22 n q6.2 v1 (v2 + (((q6.2.1 q6.1 7)).toInt64)) (v4 + 1) else f_X6_accountAnew_22 n q6.2 v1 (v2 + (((q6.2.1 q6.1 8)).toInt64)) (v4 + 1)))))
def f_X6_accountAnew_9  (st : zSt) (v1 : Int32) : Option (Int64 × zSt) := f_X6_accountAnew_22 64 st v1 0 0
def f_X6_accountAnew (st : zSt) (a0 : Int32) : Option (Int64 × zSt) := (if a0 = 0 then f_X6_accountAnew_9 st a0 else (if a0 = 1 then f_X6_accountAnew_9 st a0 else none))
set_option maxHeartbeats 4000000 in
set_option maxRecDepth 100000 in
theorem t_X6_accountAnew_22 (X : zCx) (out : Int64 × zSt) (hX : zOk X RX6 cX6_accountAnew zr_X6_accountAnew) (hQ : zPost X 98 shC (some .long) (some (.long out.1)) out.2) (hnl : X.nL = 6) : ∀ (n : Nat) (st : zSt) (v1 : Int32) (v2 : Int64) (v4 : Int32), f_X6_accountAnew_22  n st v1 v2 v4 = some out → zG 98 shC X st 22 [(0, .ref (X.ad 0)), (1, .int v1), (2, .long v2), (4, .int v4)] [] := by
  intro n
  induction n with
  | zero => intro st v1 v2 v4 hf; rw [f_X6_accountAnew_22] at hf; exact (znone hf).elim
  | succ n ih =>
    intro st v1 v2 v4 hf
    rw [f_X6_accountAnew_22] at hf
    refine z_iload hX 3 dX6_accountAnew_22 rfl ?_
    refine z_aload_n hX 0 dX6_accountAnew_24 rfl rfl ?_
    refine z_getI hX 0 14 dX6_accountAnew_25 (by decide) shC_0 rfl rfl zin_X6 (by decide) zm_267 ?_
    refine z_icmp_ge hX 76 dX6_accountAnew_28 (by decide) (fun c5 => ?_) (fun c5 => ?_)
    · have hf := (if_pos c5).symm.trans hf
      refine z_lload_n hX 2 dX6_accountAnew_76 rfl rfl ?_
      obtain rfl := Option.some.inj hf
      exact z_lret hX hQ dX6_accountAnew_77
    have hf := (if_neg c5).symm.trans hf
    refine z_aload_n hX 0 dX6_accountAnew_31 rfl rfl ?_
    refine z_iload hX 3 dX6_accountAnew_32 rfl ?_
    obtain ⟨q6, e7, hf⟩ := zbind hf
    refine z_callV (stk := []) (stk' := [.ref (X.ad q6.1)]) hX (c_X6_knownBooking X.l st v4 q6 e7) zb_X6_knownBooking 0 dX6_accountAnew_34 zm_503 (by decide) shC_0 rfl rfl rfl rfl ⟨by decide, by decide⟩ ⟨rfl, rfl⟩ (Nat.le_of_ble_eq_true rfl) rfl ?_
    refine z_astore hX [(0, .ref (X.ad 0)), (1, .int v1), (2, .long v2), (4, .int v4), (5, .ref (X.ad q6.1))] dX6_accountAnew_37 (by rw [hnl]; decide) [1, 2, 3, 4, 0] rfl ?_
    refine z_aload hX 4 dX6_accountAnew_39 rfl ?_
    refine z_getIN hX q6.1 0 dX6_accountAnew_41 (zlt_Booking (rr_X6_knownBooking e7)) (zsh_Booking (rr_X6_knownBooking e7)) rfl rfl zin_X0 (by decide) zm_198 ?_
    refine z_iconst (v := (-1)) hX dX6_accountAnew_44 (by decide) ?_
    refine z_icmp_eq hX 70 dX6_accountAnew_45 (by decide) (fun c8 => ?_) (fun c8 => ?_)
    · have hf := (if_pos c8).symm.trans hf
      refine z_iinc (j := 3) (v := 1) hX [(0, .ref (X.ad 0)), (1, .int v1), (2, .long v2), (4, .int (v4 + 1)), (5, .ref (X.ad q6.1))] dX6_accountAnew_70 rfl (by decide) (by rw [hnl]; decide) [1, 2, 3, 0, 4] rfl ?_
      refine z_goto hX 22 dX6_accountAnew_73 (by decide) ?_
      refine z_locals [0, 1, 2, 3] [(0, .ref (X.ad 0)), (1, .int v1), (2, .long v2), (4, .int (v4 + 1))] rfl ?_
      exact ih q6.2 v1 v2 (v4 + 1) hf
    have hf := (if_neg c8).symm.trans hf
    refine z_lload_n hX 2 dX6_accountAnew_48 rfl rfl ?_
    refine z_iload_n hX 1 dX6_accountAnew_49 rfl rfl ?_
    refine z_if_ne hX 62 dX6_accountAnew_50 (by decide) (fun c9 => ?_) (fun c9 => ?_)
    · have hf := (if_neg c9).symm.trans hf
      refine z_aload hX 4 dX6_accountAnew_62 rfl ?_
      refine z_getIN hX q6.1 8 dX6_accountAnew_64 (zlt_Booking (rr_X6_knownBooking e7)) (zsh_Booking (rr_X6_knownBooking e7)) rfl rfl zin_X0 (by decide) zm_219 ?_
      refine z_i2l hX dX6_accountAnew_67 ?_
      refine z_ladd hX dX6_accountAnew_68 ?_
      refine z_lstore_n hX [(0, .ref (X.ad 0)), (1, .int v1), (2, .long (v2 + (((q6.2.1 q6.1 8)).toInt64))), (4, .int v4), (5, .ref (X.ad q6.1))] dX6_accountAnew_69 rfl (by rw [hnl]; decide) [1, 2, 0, 3, 4] rfl ?_
      refine z_iinc (j := 3) (v := 1) hX [(0, .ref (X.ad 0)), (1, .int v1), (2, .long (v2 + (((q6.2.1 q6.1 8)).toInt64))), (4, .int (v4 + 1)), (5, .ref (X.ad q6.1))] dX6_accountAnew_70 rfl (by decide) (by rw [hnl]; decide) [1, 2, 3, 0, 4] rfl ?_
      refine z_goto hX 22 dX6_accountAnew_73 (by decide) ?_
      refine z_locals [0, 1, 2, 3] [(0, .ref (X.ad 0)), (1, .int v1), (2, .long (v2 + (((q6.2.1 q6.1 8)).toInt64))), (4, .int (v4 + 1))] rfl ?_
      exact ih q6.2 v1 (v2 + (((q6.2.1 q6.1 8)).toInt64)) (v4 + 1) hf
    have hf := (if_pos c9).symm.trans hf
    refine z_aload hX 4 dX6_accountAnew_53 rfl ?_
    refine z_getIN hX q6.1 7 dX6_accountAnew_55 (zlt_Booking (rr_X6_knownBooking e7)) (zsh_Booking (rr_X6_knownBooking e7)) rfl rfl zin_X0 (by decide) zm_217 ?_
    refine z_i2l hX dX6_accountAnew_58 ?_
    refine z_goto hX 68 dX6_accountAnew_59 (by decide) ?_
    refine z_ladd hX dX6_accountAnew_68 ?_
    refine z_lstore_n hX [(0, .ref (X.ad 0)), (1, .int v1), (2, .long (v2 + (((q6.2.1 q6.1 7)).toInt64))), (4, .int v4), (5, .ref (X.ad q6.1))] dX6_accountAnew_69 rfl (by rw [hnl]; decide) [1, 2, 0, 3, 4] rfl ?_
    refine z_iinc (j := 3) (v := 1) hX [(0, .ref (X.ad 0)), (1, .int v1), (2, .long (v2 + (((q6.2.1 q6.1 7)).toInt64))), (4, .int (v4 + 1)), (5, .ref (X.ad q6.1))] dX6_accountAnew_70 rfl (by decide) (by rw [hnl]; decide) [1, 2, 3, 0, 4] rfl ?_
    refine z_goto hX 22 dX6_accountAnew_73 (by decide) ?_
    refine z_locals [0, 1, 2, 3] [(0, .ref (X.ad 0)), (1, .int v1), (2, .long (v2 + (((q6.2.1 q6.1 7)).toInt64))), (4, .int (v4 + 1))] rfl ?_
    exact ih q6.2 v1 (v2 + (((q6.2.1 q6.1 7)).toInt64)) (v4 + 1) hf
set_option maxHeartbeats 4000000 in
set_option maxRecDepth 100000 in
theorem t_X6_accountAnew_9 (X : zCx) (out : Int64 × zSt) (hX : zOk X RX6 cX6_accountAnew zr_X6_accountAnew) (hQ : zPost X 98 shC (some .long) (some (.long out.1)) out.2) (hnl : X.nL = 6) (st : zSt) (v1 : Int32) (hf : f_X6_accountAnew_9  st v1 = some out) : zG 98 shC X st 9 [(0, .ref (X.ad 0)), (1, .int v1)] [] := by
  unfold f_X6_accountAnew_9 at hf
  refine z_iconst (v := 1) hX dX6_accountAnew_9 (by decide) ?_
  refine z_goto hX 14 dX6_accountAnew_10 (by decide) ?_
  refine z_callS (stk := []) (stk' := []) hX (c_X6_demandArgument X.l st 1 ((), st) rfl) zb_X6_demandArgument dX6_accountAnew_14 zm_376 rfl rfl rfl ⟨by decide, by decide⟩ ⟨rfl, rfl⟩ (Nat.le_of_ble_eq_true rfl) rfl ?_
  refine z_lconst (v := 0) hX dX6_accountAnew_17 (by decide) ?_
  refine z_lstore_n hX [(0, .ref (X.ad 0)), (1, .int v1), (2, .long 0)] dX6_accountAnew_18 rfl (by rw [hnl]; decide) [1, 2, 0] rfl ?_
  refine z_iconst (v := 0) hX dX6_accountAnew_19 (by decide) ?_
  refine z_istore hX [(0, .ref (X.ad 0)), (1, .int v1), (2, .long 0), (4, .int 0)] dX6_accountAnew_20 (by rw [hnl]; decide) [1, 2, 3, 0] rfl ?_
  exact t_X6_accountAnew_22 X out hX hQ hnl 64 st v1 0 0 hf
set_option maxHeartbeats 4000000 in
set_option maxRecDepth 100000 in
theorem t_X6_accountAnew (X : zCx) (out : Int64 × zSt) (hX : zOk X RX6 cX6_accountAnew zr_X6_accountAnew) (hQ : zPost X 98 shC (some .long) (some (.long out.1)) out.2) (hnl : X.nL = 6) (st : zSt) (a0 : Int32) (hf : f_X6_accountAnew st a0 = some out) : zG 98 shC X st 0 [(0, .ref (X.ad 0)), (1, .int a0)] [] := by
  unfold f_X6_accountAnew at hf
  refine z_iload_n hX 1 dX6_accountAnew_0 rfl rfl ?_
  refine z_if_eq hX 9 dX6_accountAnew_1 (by decide) (fun c1 => ?_) (fun c1 => ?_)
  · have hf := (if_pos c1).symm.trans hf
    exact t_X6_accountAnew_9 X out hX hQ hnl st a0 hf
  have hf := (if_neg c1).symm.trans hf
  refine z_iload_n hX 1 dX6_accountAnew_4 rfl rfl ?_
  refine z_iconst (v := 1) hX dX6_accountAnew_5 (by decide) ?_
  refine z_icmp_ne hX 13 dX6_accountAnew_6 (by decide) (fun c2 => ?_) (fun c2 => ?_)
  · have hf := (if_neg c2).symm.trans hf
    refine z_iconst (v := 0) hX dX6_accountAnew_13 (by decide) ?_
    exact (znone hf).elim
  have hf := (if_pos c2).symm.trans hf
  exact t_X6_accountAnew_9 X out hX hQ hnl st a0 hf
theorem zb_X6_accountAnew : zCal yX6_accountAnew cX6_accountAnew 6 (some .long) 1 := ⟨zm_656, (zwl_in zm_657 rfl), zm_1, zm_658, by decide, by decide, rfl⟩
theorem c_X6_accountAnew (l : Launch) (st : zSt) (a0 : Int32) (out : Int64 × zSt) (hf : f_X6_accountAnew st a0 = some out) : zMet l yX6_accountAnew cX6_accountAnew 6 (some .long) zr_X6_accountAnew 98 shC (fun ad => [.ref (ad 0), .int a0]) st (fun ad => some (.long out.1)) out.2 :=
  zmet_of (by decide +kernel) (fun _ => Nat.le_of_ble_eq_true rfl) (fun X _ hnl hX hQ => t_X6_accountAnew X out hX hQ hnl st a0 hf)
