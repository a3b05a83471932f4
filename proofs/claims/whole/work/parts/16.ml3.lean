/-! methods, walked by program: f_.. what they do to the numbered world, t_.. the walk, c_.. the contract -/
abbrev zr_X7_now : Room := { frames := 0, cells := 0, slots := 0, locals := 0 }
def f_X7_now (st : zSt)  : Option (Int32 × zSt) := (zlet (zwI st 0 52 0) fun s1 => some ((s1.1 0 0), s1))
set_option maxHeartbeats 4000000 in
set_option maxRecDepth 100000 in
theorem t_X7_now (X : zCx) (out : Int32 × zSt) (hX : zOk X RX7 cX7_now zr_X7_now) (hQ : zPost X 42 shM (some .int) (some (.int out.1)) out.2) (hnl : X.nL = 1) (st : zSt)  (hf : f_X7_now st  = some out) : zG 42 shM X st 0 [(0, .ref (X.ad 0))] [] := by
  unfold f_X7_now at hf
  refine z_aload_n hX 0 dX7_now_0 rfl rfl ?_
  refine z_iconst (v := 0) hX dX7_now_1 (by decide) ?_
  refine z_putI hX 0 52 dX7_now_2 (by decide) shM_0 rfl rfl zin_X7 tyX7_ok nmX7 (by decide) zm_832 rfl rfl ?_
  obtain ⟨s1, h2, hf⟩ := zlet_ex hf
  refine z_name h2 ?_
  refine z_aload_n hX 0 dX7_now_5 rfl rfl ?_
  refine z_getI hX 0 0 dX7_now_6 (by decide) shM_0 rfl rfl zin_X7 (by decide) zm_780 ?_
  obtain rfl := Option.some.inj hf
  exact z_iret hX hQ dX7_now_9 rfl
theorem zb_X7_now : zCal yX7_now cX7_now 1 (some .int) 0 := ⟨zm_1083, (zwl_in zm_1084 rfl), zm_8, zm_1085, by decide, by decide, rfl⟩
theorem c_X7_now (l : Launch) (st : zSt)  (out : Int32 × zSt) (hf : f_X7_now st  = some out) : zMet l yX7_now cX7_now 1 (some .int) zr_X7_now 42 shM (fun ad => [.ref (ad 0)]) st (fun ad => some (.int out.1)) out.2 :=
  zmet_of (by decide +kernel) (fun _ => Nat.le_of_ble_eq_true rfl) (fun X _ hnl hX hQ => t_X7_now X out hX hQ hnl st  hf)
abbrev zr_X7_state : Room := { frames := 2, cells := 0, slots := 0, locals := 43 }
def f_X7_state (st : zSt) (a0 : Int32) : Option (Int32 × zSt) := ((f_X7_hasSailing st a0).bind fun q1 => (if q1.1 = 0 then some (0, q1.2) else (if zin a0 24 then (if (q1.2.1 22 a0.toNatClampNeg) = 1 then (if zin a0 24 then some ((1 + (10 * (q1.2.1 23 a0.toNatClampNeg))), q1.2) else none) else (if zin a0 24 then some ((q1.2.1 22 a0.toNatClampNeg), q1.2) else none)) else none)))
set_option maxHeartbeats 4000000 in
set_option maxRecDepth 100000 in
theorem t_X7_state (X : zCx) (out : Int32 × zSt) (hX : zOk X RX7 cX7_state zr_X7_state) (hQ : zPost X 42 shM (some .int) (some (.int out.1)) out.2) (hnl : X.nL = 2) (st : zSt) (a0 : Int32) (hf : f_X7_state st a0 = some out) : zG 42 shM X st 0 [(0, .ref (X.ad 0)), (1, .int a0)] [] := by
  unfold f_X7_state at hf
  refine z_aload_n hX 0 dX7_state_0 rfl rfl ?_
  refine z_iload_n hX 1 dX7_state_1 rfl rfl ?_
  obtain ⟨q1, e2, hf⟩ := zbind hf
  refine z_callV (stk := []) (stk' := [.int q1.1]) hX (c_X7_hasSailing X.l st a0 q1 e2) zb_X7_hasSailing 0 dX7_state_2 zm_1018 (by decide) shM_0 rfl rfl rfl rfl ⟨by decide, by decide⟩ ⟨rfl, rfl⟩ (Nat.le_of_ble_eq_true rfl) rfl ?_
  refine z_if_ne hX 12 dX7_state_5 (by decide) (fun c3 => ?_) (fun c3 => ?_)
  · have hf := (if_neg c3).symm.trans hf
    refine z_aload_n hX 0 dX7_state_12 rfl rfl ?_
    refine z_getR hX 0 25 22 dX7_state_13 (by decide) shM_0 rfl rfl zin_X7 (by decide) zm_805 ?_
    refine z_iload_n hX 1 dX7_state_16 rfl rfl ?_
    obtain ⟨i4, hf⟩ := zifd hf
    refine z_iald hX 22 dX7_state_17 (by decide) shM_22 i4 ?_
    refine z_iconst (v := 1) hX dX7_state_18 (by decide) ?_
    refine z_icmp_ne hX 36 dX7_state_19 (by decide) (fun c5 => ?_) (fun c5 => ?_)
    · have hf := (if_neg c5).symm.trans hf
      refine z_aload_n hX 0 dX7_state_36 rfl rfl ?_
      refine z_getR hX 0 25 22 dX7_state_37 (by decide) shM_0 rfl rfl zin_X7 (by decide) zm_805 ?_
      refine z_iload_n hX 1 dX7_state_40 rfl rfl ?_
      obtain ⟨i6, hf⟩ := zifd hf
      refine z_iald hX 22 dX7_state_41 (by decide) shM_22 i6 ?_
      obtain rfl := Option.some.inj hf
      exact z_iret hX hQ dX7_state_42 rfl
    have hf := (if_pos c5).symm.trans hf
    refine z_iconst (v := 1) hX dX7_state_22 (by decide) ?_
    refine z_bipush (v := 10) hX dX7_state_23 (by decide) ?_
    refine z_aload_n hX 0 dX7_state_25 rfl rfl ?_
    refine z_getR hX 0 26 23 dX7_state_26 (by decide) shM_0 rfl rfl zin_X7 (by decide) zm_806 ?_
    refine z_iload_n hX 1 dX7_state_29 rfl rfl ?_
    obtain ⟨i7, hf⟩ := zifd hf
    refine z_iald hX 23 dX7_state_30 (by decide) shM_23 i7 ?_
    refine z_imul hX dX7_state_31 ?_
    refine z_iadd hX dX7_state_32 ?_
    refine z_goto hX 42 dX7_state_33 (by decide) ?_
    obtain rfl := Option.some.inj hf
    exact z_iret hX hQ dX7_state_42 rfl
  have hf := (if_pos c3).symm.trans hf
  refine z_iconst (v := 0) hX dX7_state_8 (by decide) ?_
  refine z_goto hX 42 dX7_state_9 (by decide) ?_
  obtain rfl := Option.some.inj hf
  exact z_iret hX hQ dX7_state_42 rfl
theorem zb_X7_state : zCal yX7_state cX7_state 2 (some .int) 1 := ⟨zm_1087, (zwl_in zm_1088 rfl), zm_8, zm_1089, by decide, by decide, rfl⟩
theorem c_X7_state (l : Launch) (st : zSt) (a0 : Int32) (out : Int32 × zSt) (hf : f_X7_state st a0 = some out) : zMet l yX7_state cX7_state 2 (some .int) zr_X7_state 42 shM (fun ad => [.ref (ad 0), .int a0]) st (fun ad => some (.int out.1)) out.2 :=
  zmet_of (by decide +kernel) (fun _ => Nat.le_of_ble_eq_true rfl) (fun X _ hnl hX hQ => t_X7_state X out hX hQ hnl st a0 hf)
abbrev zr_X7_ends : Room := { frames := 2, cells := 0, slots := 0, locals := 43 }
def f_X7_ends (st : zSt) (a0 : Int32) : Option (Int32 × zSt) := ((f_X7_hasSailing st a0).bind fun q1 => (if q1.1 = 0 then some (0, q1.2) else ((f_X7_endOf q1.2 a0).bind fun q4 => some (q4.1, q4.2))))
set_option maxHeartbeats 4000000 in
set_option maxRecDepth 100000 in
theorem t_X7_ends (X : zCx) (out : Int32 × zSt) (hX : zOk X RX7 cX7_ends zr_X7_ends) (hQ : zPost X 42 shM (some .int) (some (.int out.1)) out.2) (hnl : X.nL = 2) (st : zSt) (a0 : Int32) (hf : f_X7_ends st a0 = some out) : zG 42 shM X st 0 [(0, .ref (X.ad 0)), (1, .int a0)] [] := by
  unfold f_X7_ends at hf
  refine z_aload_n hX 0 dX7_ends_0 rfl rfl ?_
  refine z_iload_n hX 1 dX7_ends_1 rfl rfl ?_
  obtain ⟨q1, e2, hf⟩ := zbind hf
  refine z_callV (stk := []) (stk' := [.int q1.1]) hX (c_X7_hasSailing X.l st a0 q1 e2) zb_X7_hasSailing 0 dX7_ends_2 zm_1018 (by decide) shM_0 rfl rfl rfl rfl ⟨by decide, by decide⟩ ⟨rfl, rfl⟩ (Nat.le_of_ble_eq_true rfl) rfl ?_
  refine z_if_eq hX 16 dX7_ends_5 (by decide) (fun c3 => ?_) (fun c3 => ?_)
  · have hf := (if_pos c3).symm.trans hf
    refine z_iconst (v := 0) hX dX7_ends_16 (by decide) ?_
    obtain rfl := Option.some.inj hf
    exact z_iret hX hQ dX7_ends_17 rfl
  have hf := (if_neg c3).symm.trans hf
  refine z_aload_n hX 0 dX7_ends_8 rfl rfl ?_
  refine z_iload_n hX 1 dX7_ends_9 rfl rfl ?_
  obtain ⟨q4, e5, hf⟩ := zbind hf
  refine z_callV (stk := []) (stk' := [.int q4.1]) hX (c_X7_endOf X.l q1.2 a0 q4 e5) zb_X7_endOf 0 dX7_ends_10 zm_1002 (by decide) shM_0 rfl rfl rfl rfl ⟨by decide, by decide⟩ ⟨rfl, rfl⟩ (Nat.le_of_ble_eq_true rfl) rfl ?_
  refine z_goto hX 17 dX7_ends_13 (by decide) ?_
  obtain rfl := Option.some.inj hf
  exact z_iret hX hQ dX7_ends_17 rfl
theorem zb_X7_ends : zCal yX7_ends cX7_ends 2 (some .int) 1 := ⟨zm_1091, (zwl_in zm_1092 rfl), zm_8, zm_1093, by decide, by decide, rfl⟩
theorem c_X7_ends (l : Launch) (st : zSt) (a0 : Int32) (out : Int32 × zSt) (hf : f_X7_ends st a0 = some out) : zMet l yX7_ends cX7_ends 2 (some .int) zr_X7_ends 42 shM (fun ad => [.ref (ad 0), .int a0]) st (fun ad => some (.int out.1)) out.2 :=
  zmet_of (by decide +kernel) (fun _ => Nat.le_of_ble_eq_true rfl) (fun X _ hnl hX hQ => t_X7_ends X out hX hQ hnl st a0 hf)
abbrev zr_X7_busAfter : Room := { frames := 2, cells := 0, slots := 0, locals := 43 }
def f_X7_busAfter (st : zSt) (a0 : Int32) : Option (Int32 × zSt) := ((f_X7_hasSailing st a0).bind fun q1 => (if q1.1 = 0 then some (0, q1.2) else (if zin a0 24 then (if zin (q1.2.1 19 a0.toNatClampNeg) 6 then (if zin a0 24 then (if (q1.2.1 22 a0.toNatClampNeg) = 2 then (if (q1.2.1 14 (q1.2.1 19 a0.toNatClampNeg).toNatClampNeg) = 0 then some ((-1), q1.2) else (if zin a0 24 then (if zin (q1.2.1 19 a0.toNatClampNeg) 6 then ((f_X7_endOf q1.2 a0).bind fun q11 => (if ¬ (q1.2.1 14 (q1.2.1 19 a0.toNatClampNeg).toNatClampNeg) = 0 then (if ¬ (q1.2.1 14 (q1.2.1 19 a0.toNatClampNeg).toNatClampNeg) = 0 then some (((((q1.2.1 15 (q1.2.1 19 a0.toNatClampNeg).toNatClampNeg) - (q11.1 - q11.1 / (q1.2.1 14 (q1.2.1 19 a0.toNatClampNeg).toNatClampNeg) * (q1.2.1 14 (q1.2.1 19 a0.toNatClampNeg).toNatClampNeg))) + (q1.2.1 14 (q1.2.1 19 a0.toNatClampNeg).toNatClampNeg)) - (((q1.2.1 15 (q1.2.1 19 a0.toNatClampNeg).toNatClampNeg) - (q11.1 - q11.1 / (q1.2.1 14 (q1.2.1 19 a0.toNatClampNeg).toNatClampNeg) * (q1.2.1 14 (q1.2.1 19 a0.toNatClampNeg).toNatClampNeg))) + (q1.2.1 14 (q1.2.1 19 a0.toNatClampNeg).toNatClampNeg)) / (q1.2.1 14 (q1.2.1 19 a0.toNatClampNeg).toNatClampNeg) * (q1.2.1 14 (q1.2.1 19 a0.toNatClampNeg).toNatClampNeg)), q11.2) else none) else none)) else none) else none)) else some ((-1), q1.2)) else none) else none) else none)))
set_option maxHeartbeats 4000000 in
set_option maxRecDepth 100000 in
theorem t_X7_busAfter (X : zCx) (out : Int32 × zSt) (hX : zOk X RX7 cX7_busAfter zr_X7_busAfter) (hQ : zPost X 42 shM (some .int) (some (.int out.1)) out.2) (hnl : X.nL = 3) (st : zSt) (a0 : Int32) (hf : f_X7_busAfter st a0 = some out) : zG 42 shM X st 0 [(0, .ref (X.ad 0)), (1, .int a0)] [] := by
  unfold f_X7_busAfter at hf
  refine z_aload_n hX 0 dX7_busAfter_0 rfl rfl ?_
  refine z_iload_n hX 1 dX7_busAfter_1 rfl rfl ?_
  obtain ⟨q1, e2, hf⟩ := zbind hf
  refine z_callV (stk := []) (stk' := [.int q1.1]) hX (c_X7_hasSailing X.l st a0 q1 e2) zb_X7_hasSailing 0 dX7_busAfter_2 zm_1018 (by decide) shM_0 rfl rfl rfl rfl ⟨by decide, by decide⟩ ⟨rfl, rfl⟩ (Nat.le_of_ble_eq_true rfl) rfl ?_
  refine z_if_ne hX 10 dX7_busAfter_5 (by decide) (fun c3 => ?_) (fun c3 => ?_)
  · have hf := (if_neg c3).symm.trans hf
    refine z_aload_n hX 0 dX7_busAfter_10 rfl rfl ?_
    refine z_getR hX 0 16 14 dX7_busAfter_11 (by decide) shM_0 rfl rfl zin_X7 (by decide) zm_796 ?_
    refine z_aload_n hX 0 dX7_busAfter_14 rfl rfl ?_
    refine z_getR hX 0 22 19 dX7_busAfter_15 (by decide) shM_0 rfl rfl zin_X7 (by decide) zm_802 ?_
    refine z_iload_n hX 1 dX7_busAfter_18 rfl rfl ?_
    obtain ⟨i4, hf⟩ := zifd hf
    refine z_iald hX 19 dX7_busAfter_19 (by decide) shM_19 i4 ?_
    obtain ⟨i5, hf⟩ := zifd hf
    refine z_iald hX 14 dX7_busAfter_20 (by decide) shM_14 i5 ?_
    refine z_istore_n hX [(0, .ref (X.ad 0)), (1, .int a0), (2, .int (q1.2.1 14 (q1.2.1 19 a0.toNatClampNeg).toNatClampNeg))] dX7_busAfter_21 rfl (by rw [hnl]; decide) [1, 2, 0] rfl ?_
    refine z_aload_n hX 0 dX7_busAfter_22 rfl rfl ?_
    refine z_getR hX 0 25 22 dX7_busAfter_23 (by decide) shM_0 rfl rfl zin_X7 (by decide) zm_805 ?_
    refine z_iload_n hX 1 dX7_busAfter_26 rfl rfl ?_
    obtain ⟨i6, hf⟩ := zifd hf
    refine z_iald hX 22 dX7_busAfter_27 (by decide) shM_22 i6 ?_
    refine z_iconst (v := 2) hX dX7_busAfter_28 (by decide) ?_
    refine z_icmp_ne hX 36 dX7_busAfter_29 (by decide) (fun c7 => ?_) (fun c7 => ?_)
    · have hf := (if_neg c7).symm.trans hf
      refine z_iconst (v := (-1)) hX dX7_busAfter_36 (by decide) ?_
      obtain rfl := Option.some.inj hf
      exact z_iret hX hQ dX7_busAfter_37 rfl
    have hf := (if_pos c7).symm.trans hf
    refine z_iload_n hX 2 dX7_busAfter_32 rfl rfl ?_
    refine z_if_ne hX 38 dX7_busAfter_33 (by decide) (fun c8 => ?_) (fun c8 => ?_)
    · have hf := (if_neg c8).symm.trans hf
      refine z_aload_n hX 0 dX7_busAfter_38 rfl rfl ?_
      refine z_getR hX 0 17 15 dX7_busAfter_39 (by decide) shM_0 rfl rfl zin_X7 (by decide) zm_797 ?_
      refine z_aload_n hX 0 dX7_busAfter_42 rfl rfl ?_
      refine z_getR hX 0 22 19 dX7_busAfter_43 (by decide) shM_0 rfl rfl zin_X7 (by decide) zm_802 ?_
      refine z_iload_n hX 1 dX7_busAfter_46 rfl rfl ?_
      obtain ⟨i9, hf⟩ := zifd hf
      refine z_iald hX 19 dX7_busAfter_47 (by decide) shM_19 i9 ?_
      obtain ⟨i10, hf⟩ := zifd hf
      refine z_iald hX 15 dX7_busAfter_48 (by decide) shM_15 i10 ?_
      refine z_aload_n hX 0 dX7_busAfter_49 rfl rfl ?_
      refine z_iload_n hX 1 dX7_busAfter_50 rfl rfl ?_
      obtain ⟨q11, e12, hf⟩ := zbind hf
      refine z_callV (stk := [.int (q1.2.1 15 (q1.2.1 19 a0.toNatClampNeg).toNatClampNeg)]) (stk' := [.int q11.1, .int (q1.2.1 15 (q1.2.1 19 a0.toNatClampNeg).toNatClampNeg)]) hX (c_X7_endOf X.l q1.2 a0 q11 e12) zb_X7_endOf 0 dX7_busAfter_51 zm_1002 (by decide) shM_0 rfl rfl rfl rfl ⟨by decide, by decide⟩ ⟨rfl, rfl⟩ (Nat.le_of_ble_eq_true rfl) rfl ?_
      refine z_iload_n hX 2 dX7_busAfter_54 rfl rfl ?_
      obtain ⟨i13, hf⟩ := zifd hf
      refine z_irem hX dX7_busAfter_55 i13 ?_
      refine z_isub hX dX7_busAfter_56 ?_
      refine z_iload_n hX 2 dX7_busAfter_57 rfl rfl ?_
      refine z_iadd hX dX7_busAfter_58 ?_
      refine z_iload_n hX 2 dX7_busAfter_59 rfl rfl ?_
      obtain ⟨i14, hf⟩ := zifd hf
      refine z_irem hX dX7_busAfter_60 i14 ?_
      obtain rfl := Option.some.inj hf
      exact z_iret hX hQ dX7_busAfter_61 rfl
    have hf := (if_pos c8).symm.trans hf
    refine z_iconst (v := (-1)) hX dX7_busAfter_36 (by decide) ?_
    obtain rfl := Option.some.inj hf
    exact z_iret hX hQ dX7_busAfter_37 rfl
  have hf := (if_pos c3).symm.trans hf
  refine z_iconst (v := 0) hX dX7_busAfter_8 (by decide) ?_
  obtain rfl := Option.some.inj hf
  exact z_iret hX hQ dX7_busAfter_9 rfl
theorem zb_X7_busAfter : zCal yX7_busAfter cX7_busAfter 3 (some .int) 1 := ⟨zm_1095, (zwl_in zm_1096 rfl), zm_8, zm_1097, by decide, by decide, rfl⟩
theorem c_X7_busAfter (l : Launch) (st : zSt) (a0 : Int32) (out : Int32 × zSt) (hf : f_X7_busAfter st a0 = some out) : zMet l yX7_busAfter cX7_busAfter 3 (some .int) zr_X7_busAfter 42 shM (fun ad => [.ref (ad 0), .int a0]) st (fun ad => some (.int out.1)) out.2 :=
  zmet_of (by decide +kernel) (fun _ => Nat.le_of_ble_eq_true rfl) (fun X _ hnl hX hQ => t_X7_busAfter X out hX hQ hnl st a0 hf)
abbrev zr_X7_place : Room := { frames := 3, cells := 0, slots := 0, locals := 68 }
def f_X7_place_17  (st : zSt) (v1 : Int32) : Option (Int32 × zSt) := (if (st.1 0 52) = 0 then ((f_X7_placeIn st v1 (st.1 0 0)).bind fun q9 => some (q9.1, q9.2)) else some (0, st))
def f_X7_place (st : zSt) (a0 : Int32) : Option (Int32 × zSt) := ((f_X7_isShip st a0).bind fun q1 => (if q1.1 = 0 then (zlet (zwI q1.2 0 52 1) fun s4 => f_X7_place_17 s4 a0) else (zlet (zwI q1.2 0 52 0) fun s6 => f_X7_place_17 s6 a0)))
set_option maxHeartbeats 4000000 in
set_option maxRecDepth 100000 in
theorem t_X7_place_17 (X : zCx) (out : Int32 × zSt) (hX : zOk X RX7 cX7_place zr_X7_place) (hQ : zPost X 42 shM (some .int) (some (.int out.1)) out.2) (hnl : X.nL = 2) (st : zSt) (v1 : Int32) (hf : f_X7_place_17  st v1 = some out) : zG 42 shM X st 17 [(0, .ref (X.ad 0)), (1, .int v1)] [] := by
  unfold f_X7_place_17 at hf
  refine z_aload_n hX 0 dX7_place_17 rfl rfl ?_
  refine z_getI hX 0 52 dX7_place_18 (by decide) shM_0 rfl rfl zin_X7 (by decide) zm_832 ?_
  refine z_if_ne hX 36 dX7_place_21 (by decide) (fun c8 => ?_) (fun c8 => ?_)
  · have hf := (if_neg c8).symm.trans hf
    refine z_iconst (v := 0) hX dX7_place_36 (by decide) ?_
    obtain rfl := Option.some.inj hf
    exact z_iret hX hQ dX7_place_37 rfl
  have hf := (if_pos c8).symm.trans hf
  refine z_aload_n hX 0 dX7_place_24 rfl rfl ?_
  refine z_iload_n hX 1 dX7_place_25 rfl rfl ?_
  refine z_aload_n hX 0 dX7_place_26 rfl rfl ?_
  refine z_getI hX 0 0 dX7_place_27 (by decide) shM_0 rfl rfl zin_X7 (by decide) zm_780 ?_
  obtain ⟨q9, e10, hf⟩ := zbind hf
  refine z_callV (stk := []) (stk' := [.int q9.1]) hX (c_X7_placeIn X.l st v1 (st.1 0 0) q9 e10) zb_X7_placeIn 0 dX7_place_30 zm_998 (by decide) shM_0 rfl rfl rfl rfl ⟨by decide, by decide⟩ ⟨rfl, rfl⟩ (Nat.le_of_ble_eq_true rfl) rfl ?_
  refine z_goto hX 37 dX7_place_33 (by decide) ?_
  obtain rfl := Option.some.inj hf
  exact z_iret hX hQ dX7_place_37 rfl
set_option maxHeartbeats 4000000 in
set_option maxRecDepth 100000 in
theorem t_X7_place (X : zCx) (out : Int32 × zSt) (hX : zOk X RX7 cX7_place zr_X7_place) (hQ : zPost X 42 shM (some .int) (some (.int out.1)) out.2) (hnl : X.nL = 2) (st : zSt) (a0 : Int32) (hf : f_X7_place st a0 = some out) : zG 42 shM X st 0 [(0, .ref (X.ad 0)), (1, .int a0)] [] := by
  unfold f_X7_place at hf
  refine z_aload_n hX 0 dX7_place_0 rfl rfl ?_
  refine z_aload_n hX 0 dX7_place_1 rfl rfl ?_
  refine z_iload_n hX 1 dX7_place_2 rfl rfl ?_
  obtain ⟨q1, e2, hf⟩ := zbind hf
  refine z_callV (stk := [.ref (X.ad 0)]) (stk' := [.int q1.1, .ref (X.ad 0)]) hX (c_X7_isShip X.l st a0 q1 e2) zb_X7_isShip 0 dX7_place_3 zm_958 (by decide) shM_0 rfl rfl rfl rfl ⟨by decide, by decide⟩ ⟨rfl, rfl⟩ (Nat.le_of_ble_eq_true rfl) rfl ?_
  refine z_if_eq hX 13 dX7_place_6 (by decide) (fun c3 => ?_) (fun c3 => ?_)
  · have hf := (if_pos c3).symm.trans hf
    refine z_iconst (v := 1) hX dX7_place_13 (by decide) ?_
    refine z_putI hX 0 52 dX7_place_14 (by decide) shM_0 rfl rfl zin_X7 tyX7_ok nmX7 (by decide) zm_832 rfl rfl ?_
    obtain ⟨s4, h5, hf⟩ := zlet_ex hf
    refine z_name h5 ?_
    exact t_X7_place_17 X out hX hQ hnl s4 a0 hf
  have hf := (if_neg c3).symm.trans hf
  refine z_iconst (v := 0) hX dX7_place_9 (by decide) ?_
  refine z_goto hX 14 dX7_place_10 (by decide) ?_
  refine z_putI hX 0 52 dX7_place_14 (by decide) shM_0 rfl rfl zin_X7 tyX7_ok nmX7 (by decide) zm_832 rfl rfl ?_
  obtain ⟨s6, h7, hf⟩ := zlet_ex hf
  refine z_name h7 ?_
  exact t_X7_place_17 X out hX hQ hnl s6 a0 hf
theorem zb_X7_place : zCal yX7_place cX7_place 2 (some .int) 1 := ⟨zm_1099, (zwl_in zm_1100 rfl), zm_8, zm_1101, by decide, by decide, rfl⟩
theorem c_X7_place (l : Launch) (st : zSt) (a0 : Int32) (out : Int32 × zSt) (hf : f_X7_place st a0 = some out) : zMet l yX7_place cX7_place 2 (some .int) zr_X7_place 42 shM (fun ad => [.ref (ad 0), .int a0]) st (fun ad => some (.int out.1)) out.2 :=
  zmet_of (by decide +kernel) (fun _ => Nat.le_of_ble_eq_true rfl) (fun X _ hnl hX hQ => t_X7_place X out hX hQ hnl st a0 hf)
abbrev zr_X7_placeByLine : Room := { frames := 3, cells := 0, slots := 0, locals := 68 }
def f_X7_placeByLine_33  (st : zSt) (v1 : Int32) (v2 : Int32) : Option (Int32 × zSt) := (if (st.1 0 52) = 0 then ((f_X7_placeIn st v1 v2).bind fun q14 => some (q14.1, q14.2)) else some (0, st))
def f_X7_placeByLine (st : zSt) (a0 : Int32) (a1 : Int32) : Option (Int32 × zSt) := ((f_X7_isShip st a0).bind fun q1 => (if q1.1 = 0 then (zlet (zwI q1.2 0 52 1) fun s11 => f_X7_placeByLine_33 s11 a0 a1) else ((f_X7_in q1.2 a1 0 (q1.2.1 0 0)).bind fun q4 => (if q4.1 = 0 then (zlet (zwI q4.2 0 52 2) fun s9 => f_X7_placeByLine_33 s9 a0 a1) else (zlet (zwI q4.2 0 52 0) fun s7 => f_X7_placeByLine_33 s7 a0 a1)))))
set_option maxHeartbeats 4000000 in
set_option maxRecDepth 100000 in
theorem t_X7_placeByLine_33 (X : zCx) (out : Int32 × zSt) (hX : zOk X RX7 cX7_placeByLine zr_X7_placeByLine) (hQ : zPost X 42 shM (some .int) (some (.int out.1)) out.2) (hnl : X.nL = 3) (st : zSt) (v1 : Int32) (v2 : Int32) (hf : f_X7_placeByLine_33  st v1 v2 = some out) : zG 42 shM X st 33 [(0, .ref (X.ad 0)), (1, .int v1), (2, .int v2)] [] := by
  unfold f_X7_placeByLine_33 at hf
  refine z_aload_n hX 0 dX7_placeByLine_33 rfl rfl ?_
  refine z_getI hX 0 52 dX7_placeByLine_34 (by decide) shM_0 rfl rfl zin_X7 (by decide) zm_832 ?_
  refine z_if_ne hX 49 dX7_placeByLine_37 (by decide) (fun c13 => ?_) (fun c13 => ?_)
  · have hf := (if_neg c13).symm.trans hf
    refine z_iconst (v := 0) hX dX7_placeByLine_49 (by decide) ?_
    obtain rfl := Option.some.inj hf
    exact z_iret hX hQ dX7_placeByLine_50 rfl
  have hf := (if_pos c13).symm.trans hf
  refine z_aload_n hX 0 dX7_placeByLine_40 rfl rfl ?_
  refine z_iload_n hX 1 dX7_placeByLine_41 rfl rfl ?_
  refine z_iload_n hX 2 dX7_placeByLine_42 rfl rfl ?_
  obtain ⟨q14, e15, hf⟩ := zbind hf
  refine z_callV (stk := []) (stk' := [.int q14.1]) hX (c_X7_placeIn X.l st v1 v2 q14 e15) zb_X7_placeIn 0 dX7_placeByLine_43 zm_998 (by decide) shM_0 rfl rfl rfl rfl ⟨by decide, by decide⟩ ⟨rfl, rfl⟩ (Nat.le_of_ble_eq_true rfl) rfl ?_
  refine z_goto hX 50 dX7_placeByLine_46 (by decide) ?_
  obtain rfl := Option.some.inj hf
  exact z_iret hX hQ dX7_placeByLine_50 rfl
set_option maxHeartbeats 4000000 in
set_option maxRecDepth 100000 in
theorem t_X7_placeByLine (X : zCx) (out : Int32 × zSt) (hX : zOk X RX7 cX7_placeByLine zr_X7_placeByLine) (hQ : zPost X 42 shM (some .int) (some (.int out.1)) out.2) (hnl : X.nL = 3) (st : zSt) (a0 : Int32) (a1 : Int32) (hf : f_X7_placeByLine st a0 a1 = some out) : zG 42 shM X st 0 [(0, .ref (X.ad 0)), (1, .int a0), (2, .int a1)] [] := by
  unfold f_X7_placeByLine at hf
  refine z_aload_n hX 0 dX7_placeByLine_0 rfl rfl ?_
  refine z_aload_n hX 0 dX7_placeByLine_1 rfl rfl ?_
  refine z_iload_n hX 1 dX7_placeByLine_2 rfl rfl ?_
  obtain ⟨q1, e2, hf⟩ := zbind hf
  refine z_callV (stk := [.ref (X.ad 0)]) (stk' := [.int q1.1, .ref (X.ad 0)]) hX (c_X7_isShip X.l st a0 q1 e2) zb_X7_isShip 0 dX7_placeByLine_3 zm_958 (by decide) shM_0 rfl rfl rfl rfl ⟨by decide, by decide⟩ ⟨rfl, rfl⟩ (Nat.le_of_ble_eq_true rfl) rfl ?_
  refine z_if_ne hX 13 dX7_placeByLine_6 (by decide) (fun c3 => ?_) (fun c3 => ?_)
  · have hf := (if_neg c3).symm.trans hf
    refine z_iload_n hX 2 dX7_placeByLine_13 rfl rfl ?_
    refine z_iconst (v := 0) hX dX7_placeByLine_14 (by decide) ?_
    refine z_aload_n hX 0 dX7_placeByLine_15 rfl rfl ?_
    refine z_getI hX 0 0 dX7_placeByLine_16 (by decide) shM_0 rfl rfl zin_X7 (by decide) zm_780 ?_
    obtain ⟨q4, e5, hf⟩ := zbind hf
    refine z_callS (stk := [.ref (X.ad 0)]) (stk' := [.int q4.1, .ref (X.ad 0)]) hX (c_X7_in X.l q1.2 a1 0 (q1.2.1 0 0) q4 e5) zb_X7_in dX7_placeByLine_19 zm_951 rfl rfl rfl ⟨by decide, by decide⟩ ⟨rfl, rfl⟩ (Nat.le_of_ble_eq_true rfl) rfl ?_
    refine z_if_ne hX 29 dX7_placeByLine_22 (by decide) (fun c6 => ?_) (fun c6 => ?_)
    · have hf := (if_neg c6).symm.trans hf
      refine z_iconst (v := 0) hX dX7_placeByLine_29 (by decide) ?_
      refine z_putI hX 0 52 dX7_placeByLine_30 (by decide) shM_0 rfl rfl zin_X7 tyX7_ok nmX7 (by decide) zm_832 rfl rfl ?_
      obtain ⟨s7, h8, hf⟩ := zlet_ex hf
      refine z_name h8 ?_
      exact t_X7_placeByLine_33 X out hX hQ hnl s7 a0 a1 hf
    have hf := (if_pos c6).symm.trans hf
    refine z_iconst (v := 2) hX dX7_placeByLine_25 (by decide) ?_
    refine z_goto hX 30 dX7_placeByLine_26 (by decide) ?_
    refine z_putI hX 0 52 dX7_placeByLine_30 (by decide) shM_0 rfl rfl zin_X7 tyX7_ok nmX7 (by decide) zm_832 rfl rfl ?_
    obtain ⟨s9, h10, hf⟩ := zlet_ex hf
    refine z_name h10 ?_
    exact t_X7_placeByLine_33 X out hX hQ hnl s9 a0 a1 hf
  have hf := (if_pos c3).symm.trans hf
  refine z_iconst (v := 1) hX dX7_placeByLine_9 (by decide) ?_
  refine z_goto hX 30 dX7_placeByLine_10 (by decide) ?_
  refine z_putI hX 0 52 dX7_placeByLine_30 (by decide) shM_0 rfl rfl zin_X7 tyX7_ok nmX7 (by decide) zm_832 rfl rfl ?_
  obtain ⟨s11, h12, hf⟩ := zlet_ex hf
  refine z_name h12 ?_
  exact t_X7_placeByLine_33 X out hX hQ hnl s11 a0 a1 hf
theorem zb_X7_placeByLine : zCal yX7_placeByLine cX7_placeByLine 3 (some .int) 2 := ⟨zm_1103, (zwl_in zm_1104 rfl), zm_8, zm_1105, by decide, by decide, rfl⟩
theorem c_X7_placeByLine (l : Launch) (st : zSt) (a0 : Int32) (a1 : Int32) (out : Int32 × zSt) (hf : f_X7_placeByLine st a0 a1 = some out) : zMet l yX7_placeByLine cX7_placeByLine 3 (some .int) zr_X7_placeByLine 42 shM (fun ad => [.ref (ad 0), .int a0, .int a1]) st (fun ad => some (.int out.1)) out.2 :=
  zmet_of (by decide +kernel) (fun _ => Nat.le_of_ble_eq_true rfl) (fun X _ hnl hX hQ => t_X7_placeByLine X out hX hQ hnl st a0 a1 hf)
abbrev zr_X7_fuel : Room := { frames := 2, cells := 0, slots := 0, locals := 43 }
def f_X7_fuel_17  (st : zSt) (v1 : Int32) : Option (Int32 × zSt) := (if (st.1 0 52) = 0 then (if zin v1 4 then some ((st.1 7 v1.toNatClampNeg), st) else none) else some (0, st))
def f_X7_fuel (st : zSt) (a0 : Int32) : Option (Int32 × zSt) := ((f_X7_isShip st a0).bind fun q1 => (if q1.1 = 0 then (zlet (zwI q1.2 0 52 1) fun s4 => f_X7_fuel_17 s4 a0) else (zlet (zwI q1.2 0 52 0) fun s6 => f_X7_fuel_17 s6 a0)))
set_option maxHeartbeats 4000000 in
set_option maxRecDepth 100000 in
theorem t_X7_fuel_17 (X : zCx) (out : Int32 × zSt) (hX : zOk X RX7 cX7_fuel zr_X7_fuel) (hQ : zPost X 42 shM (some .int) (some (.int out.1)) out.2) (hnl : X.nL = 2) (st : zSt) (v1 : Int32) (hf : f_X7_fuel_17  st v1 = some out) : zG 42 shM X st 17 [(0, .ref (X.ad 0)), (1, .int v1)] [] := by
  unfold f_X7_fuel_17 at hf
  refine z_aload_n hX 0 dX7_fuel_17 rfl rfl ?_
  refine z_getI hX 0 52 dX7_fuel_18 (by decide) shM_0 rfl rfl zin_X7 (by decide) zm_832 ?_
  refine z_if_ne hX 33 dX7_fuel_21 (by decide) (fun c8 => ?_) (fun c8 => ?_)
  · have hf := (if_neg c8).symm.trans hf
    refine z_iconst (v := 0) hX dX7_fuel_33 (by decide) ?_
    obtain rfl := Option.some.inj hf
    exact z_iret hX hQ dX7_fuel_34 rfl
  have hf := (if_pos c8).symm.trans hf
  refine z_aload_n hX 0 dX7_fuel_24 rfl rfl ?_
  refine z_getR hX 0 8 7 dX7_fuel_25 (by decide) shM_0 rfl rfl zin_X7 (by decide) zm_788 ?_
  refine z_iload_n hX 1 dX7_fuel_28 rfl rfl ?_
  obtain ⟨i9, hf⟩ := zifd hf
  refine z_iald hX 7 dX7_fuel_29 (by decide) shM_7 i9 ?_
  refine z_goto hX 34 dX7_fuel_30 (by decide) ?_
  obtain rfl := Option.some.inj hf
  exact z_iret hX hQ dX7_fuel_34 rfl
set_option maxHeartbeats 4000000 in
set_option maxRecDepth 100000 in
theorem t_X7_fuel (X : zCx) (out : Int32 × zSt) (hX : zOk X RX7 cX7_fuel zr_X7_fuel) (hQ : zPost X 42 shM (some .int) (some (.int out.1)) out.2) (hnl : X.nL = 2) (st : zSt) (a0 : Int32) (hf : f_X7_fuel st a0 = some out) : zG 42 shM X st 0 [(0, .ref (X.ad 0)), (1, .int a0)] [] := by
  unfold f_X7_fuel at hf
  refine z_aload_n hX 0 dX7_fuel_0 rfl rfl ?_
  refine z_aload_n hX 0 dX7_fuel_1 rfl rfl ?_
  refine z_iload_n hX 1 dX7_fuel_2 rfl rfl ?_
  obtain ⟨q1, e2, hf⟩ := zbind hf
  refine z_callV (stk := [.ref (X.ad 0)]) (stk' := [.int q1.1, .ref (X.ad 0)]) hX (c_X7_isShip X.l st a0 q1 e2) zb_X7_isShip 0 dX7_fuel_3 zm_958 (by decide) shM_0 rfl rfl rfl rfl ⟨by decide, by decide⟩ ⟨rfl, rfl⟩ (Nat.le_of_ble_eq_true rfl) rfl ?_
  refine z_if_eq hX 13 dX7_fuel_6 (by decide) (fun c3 => ?_) (fun c3 => ?_)
  · have hf := (if_pos c3).symm.trans hf
    refine z_iconst (v := 1) hX dX7_fuel_13 (by decide) ?_
    refine z_putI hX 0 52 dX7_fuel_14 (by decide) shM_0 rfl rfl zin_X7 tyX7_ok nmX7 (by decide) zm_832 rfl rfl ?_
    obtain ⟨s4, h5, hf⟩ := zlet_ex hf
    refine z_name h5 ?_
    exact t_X7_fuel_17 X out hX hQ hnl s4 a0 hf
  have hf := (if_neg c3).symm.trans hf
  refine z_iconst (v := 0) hX dX7_fuel_9 (by decide) ?_
  refine z_goto hX 14 dX7_fuel_10 (by decide) ?_
  refine z_putI hX 0 52 dX7_fuel_14 (by decide) shM_0 rfl rfl zin_X7 tyX7_ok nmX7 (by decide) zm_832 rfl rfl ?_
  obtain ⟨s6, h7, hf⟩ := zlet_ex hf
  refine z_name h7 ?_
  exact t_X7_fuel_17 X out hX hQ hnl s6 a0 hf
theorem zb_X7_fuel : zCal yX7_fuel cX7_fuel 2 (some .int) 1 := ⟨zm_1107, (zwl_in zm_1108 rfl), zm_8, zm_1109, by decide, by decide, rfl⟩
theorem c_X7_fuel (l : Launch) (st : zSt) (a0 : Int32) (out : Int32 × zSt) (hf : f_X7_fuel st a0 = some out) : zMet l yX7_fuel cX7_fuel 2 (some .int) zr_X7_fuel 42 shM (fun ad => [.ref (ad 0), .int a0]) st (fun ad => some (.int out.1)) out.2 :=
  zmet_of (by decide +kernel) (fun _ => Nat.le_of_ble_eq_true rfl) (fun X _ hnl hX hQ => t_X7_fuel X out hX hQ hnl st a0 hf)
abbrev zr_X7_book : Room := { frames := 1, cells := 0, slots := 0, locals := 22 }
def f_X7_book_349  (st : zSt) (v7 : Int32) : Option (Int32 × zSt) := (if zin (st.1 0 30) 40 then (if zin (st.1 0 30) 40 then (zlet (zwI st 35 (st.1 0 30).toNatClampNeg (v7 - (st.1 34 (st.1 0 30).toNatClampNeg))) fun s93 => (if zin (s93.1 0 30) 40 then (zlet (zwL s93 0 49 ((s93.2 0 49) + (((s93.1 34 (s93.1 0 30).toNatClampNeg)).toInt64))) fun s96 => (if zin (s96.1 0 30) 40 then (zlet (zwL s96 0 50 ((s96.2 0 50) + (((s96.1 35 (s96.1 0 30).toNatClampNeg)).toInt64))) fun s99 => (zlet (zwI s99 0 30 ((s99.1 0 30) + 1)) fun s101 => some (((s101.1 0 30) - 1), s101))) else none)) else none)) else none) else none)
def f_X7_book_326  (st : zSt) (v7 : Int32) (v9 : Int32) : Option (Int32 × zSt) := (if v9 = 0 then (if zin (st.1 0 30) 40 then (zlet (zwI st 34 (st.1 0 30).toNatClampNeg v7) fun s86 => f_X7_book_349 s86 v7) else none) else (if zin (st.1 0 30) 40 then (zlet (zwI st 34 (st.1 0 30).toNatClampNeg (v7 / 2)) fun s89 => f_X7_book_349 s89 v7) else none))
def f_X7_book_307  (st : zSt) (v7 : Int32) (v9 : Int32) : Option (Int32 × zSt) := (if v9 = 0 then (if zin (st.1 0 30) 40 then (zlet (zwI st 33 (st.1 0 30).toNatClampNeg 0) fun s79 => f_X7_book_326 s79 v7 v9) else none) else (if zin (st.1 0 30) 40 then (zlet (zwI st 33 (st.1 0 30).toNatClampNeg 1) fun s82 => f_X7_book_326 s82 v7 v9) else none))
def f_X7_book_234  (st : zSt) (v1 : Int32) (v2 : Int32) (v3 : Int32) (v4 : Int32) (v5 : Int32) (v6 : Int32) (v7 : Int32) (v9 : Int32) : Option (Int32 × zSt) := (if zin (st.1 0 30) 40 then (zlet (zwI st 27 (st.1 0 30).toNatClampNeg v1) fun s56 => (if zin (s56.1 0 30) 40 then (zlet (zwI s56 28 (s56.1 0 30).toNatClampNeg (v2 + 1)) fun s59 => (if zin (s59.1 0 30) 40 then (zlet (zwI s59 29 (s59.1 0 30).toNatClampNeg v3) fun s62 => (if zin (s62.1 0 30) 40 then (zlet (zwI s62 30 (s62.1 0 30).toNatClampNeg v4) fun s65 => (if zin (s65.1 0 30) 40 then (zlet (zwI s65 31 (s65.1 0 30).toNatClampNeg v5) fun s68 => (if v6 = 0 then (if zin (s68.1 0 30) 40 then (zlet (zwI s68 32 (s68.1 0 30).toNatClampNeg 0) fun s72 => f_X7_book_307 s72 v7 v9) else none) else (if zin (s68.1 0 30) 40 then (zlet (zwI s68 32 (s68.1 0 30).toNatClampNeg 1) fun s75 => f_X7_book_307 s75 v7 v9) else none))) else none)) else none)) else none)) else none)) else none)
def f_X7_book_189  (st : zSt) (v1 : Int32) (v2 : Int32) (v3 : Int32) (v4 : Int32) (v5 : Int32) (v6 : Int32) (v7 : Int32) : Option (Int32 × zSt) := (if zin v1 10 then (if ((st.1 16 v1.toNatClampNeg) - 1) = (-1) then f_X7_book_234 st v1 v2 v3 v4 v5 v6 v7 0 else (if zin v2 24 then (if ((st.1 16 v1.toNatClampNeg) - 1) = (st.1 18 v2.toNatClampNeg) then f_X7_book_234 st v1 v2 v3 v4 v5 v6 v7 1 else (if zin v2 24 then (if ((st.1 16 v1.toNatClampNeg) - 1) = (st.1 19 v2.toNatClampNeg) then f_X7_book_234 st v1 v2 v3 v4 v5 v6 v7 1 else f_X7_book_234 st v1 v2 v3 v4 v5 v6 v7 0) else none)) else none)) else none)
def f_X7_book_142  (st : zSt) (v1 : Int32) (v2 : Int32) (v3 : Int32) (v4 : Int32) (v5 : Int32) (v6 : Int32) : Option (Int32 × zSt) := (if (st.1 0 52) ≤ 0 then (if v3 = 0 then (if zin v2 24 then f_X7_book_189 st v1 v2 v3 v4 v5 v6 (2 * (st.1 21 v2.toNatClampNeg)) else none) else (if v3 = 1 then (if zin v2 24 then f_X7_book_189 st v1 v2 v3 v4 v5 v6 (5 * (st.1 21 v2.toNatClampNeg)) else none) else (if v3 = 2 then (if zin v2 24 then f_X7_book_189 st v1 v2 v3 v4 v5 v6 (8 * (st.1 21 v2.toNatClampNeg)) else none) else (if zin v2 24 then f_X7_book_189 st v1 v2 v3 v4 v5 v6 (20 * (st.1 21 v2.toNatClampNeg)) else none)))) else some (0, st))
def f_X7_book_97  (st : zSt) (v1 : Int32) (v2 : Int32) (v3 : Int32) (v4 : Int32) (v5 : Int32) (v6 : Int32) (v7 : Int32) : Option (Int32 × zSt) := ((f_X7_in st v3 0 3).bind fun q32 => (if q32.1 = 0 then (zlet (zwI q32.2 0 52 2) fun s35 => f_X7_book_142 s35 v1 v2 v3 v4 v5 v6) else (if v7 = 0 then (zlet (zwI q32.2 0 52 2) fun s47 => f_X7_book_142 s47 v1 v2 v3 v4 v5 v6) else (if zin v2 24 then (if (q32.2.1 22 v2.toNatClampNeg) = 0 then (if (q32.2.1 0 30) = 40 then (zlet (zwI q32.2 0 52 3) fun s45 => f_X7_book_142 s45 v1 v2 v3 v4 v5 v6) else (zlet (zwI q32.2 0 52 0) fun s43 => f_X7_book_142 s43 v1 v2 v3 v4 v5 v6)) else (zlet (zwI q32.2 0 52 3) fun s40 => f_X7_book_142 s40 v1 v2 v3 v4 v5 v6)) else none))))
def f_X7_book_33  (st : zSt) (v1 : Int32) (v2 : Int32) (v3 : Int32) (v4 : Int32) (v5 : Int32) (v6 : Int32) : Option (Int32 × zSt) := (if (st.1 0 52) = 0 then (if v3 = 0 then (if v4 = 0 then (if v5 = 0 then (if v6 = 0 then f_X7_book_97 st v1 v2 v3 v4 v5 v6 1 else f_X7_book_97 st v1 v2 v3 v4 v5 v6 0) else f_X7_book_97 st v1 v2 v3 v4 v5 v6 0) else f_X7_book_97 st v1 v2 v3 v4 v5 v6 0) else ((f_X7_in st v4 1 40).bind fun q15 => (if q15.1 = 0 then f_X7_book_97 q15.2 v1 v2 v3 v4 v5 v6 0 else ((f_X7_in q15.2 v5 1 200).bind fun q18 => (if q18.1 = 0 then f_X7_book_97 q18.2 v1 v2 v3 v4 v5 v6 0 else f_X7_book_97 q18.2 v1 v2 v3 v4 v5 v6 1))))) else f_X7_book_142 st v1 v2 v3 v4 v5 v6)
def f_X7_book (st : zSt) (a0 : Int32) (a1 : Int32) (a2 : Int32) (a3 : Int32) (a4 : Int32) (a5 : Int32) : Option (Int32 × zSt) := ((f_X7_in st a0 0 9).bind fun q1 => (if q1.1 = 0 then (zlet (zwI q1.2 0 52 1) fun s4 => f_X7_book_33 s4 a0 a1 a2 a3 a4 a5) else ((f_X7_in q1.2 a1 0 ((q1.2.1 0 19) - 1)).bind fun q6 => (if q6.1 = 0 then (zlet (zwI q6.2 0 52 1) fun s11 => f_X7_book_33 s11 a0 a1 a2 a3 a4 a5) else (zlet (zwI q6.2 0 52 0) fun s9 => f_X7_book_33 s9 a0 a1 a2 a3 a4 a5)))))
set_option maxHeartbeats 4000000 in
set_option maxRecDepth 100000 in
theorem t_X7_book_349 (X : zCx) (out : Int32 × zSt) (hX : zOk X RX7 cX7_book zr_X7_book) (hQ : zPost X 42 shM (some .int) (some (.int out.1)) out.2) (hnl : X.nL = 10) (st : zSt) (v7 : Int32) (hf : f_X7_book_349  st v7 = some out) : zG 42 shM X st 349 [(0, .ref (X.ad 0)), (7, .int v7)] [] := by
  unfold f_X7_book_349 at hf
  refine z_aload_n hX 0 dX7_book_349 rfl rfl ?_
  refine z_getR hX 0 39 35 dX7_book_350 (by decide) shM_0 rfl rfl zin_X7 (by decide) zm_819 ?_
  refine z_aload_n hX 0 dX7_book_353 rfl rfl ?_
  refine z_getI hX 0 30 dX7_book_354 (by decide) shM_0 rfl rfl zin_X7 (by decide) zm_810 ?_
  refine z_iload hX 1 dX7_book_357 rfl ?_
  refine z_aload_n hX 0 dX7_book_359 rfl rfl ?_
  refine z_getR hX 0 38 34 dX7_book_360 (by decide) shM_0 rfl rfl zin_X7 (by decide) zm_818 ?_
  refine z_aload_n hX 0 dX7_book_363 rfl rfl ?_
  refine z_getI hX 0 30 dX7_book_364 (by decide) shM_0 rfl rfl zin_X7 (by decide) zm_810 ?_
  obtain ⟨i91, hf⟩ := zifd hf
  refine z_iald hX 34 dX7_book_367 (by decide) shM_34 i91 ?_
  refine z_isub hX dX7_book_368 ?_
  obtain ⟨i92, hf⟩ := zifd hf
  refine z_iast hX 35 dX7_book_369 (by decide) shM_35 i92 ?_
  obtain ⟨s93, h94, hf⟩ := zlet_ex hf
  refine z_name h94 ?_
  refine z_aload_n hX 0 dX7_book_370 rfl rfl ?_
  refine z_dup hX dX7_book_371 rfl ?_
  refine z_getL hX 0 49 dX7_book_372 (by decide) shM_0 rfl rfl zin_X7 (by decide) zm_829 ?_
  refine z_aload_n hX 0 dX7_book_375 rfl rfl ?_
  refine z_getR hX 0 38 34 dX7_book_376 (by decide) shM_0 rfl rfl zin_X7 (by decide) zm_818 ?_
  refine z_aload_n hX 0 dX7_book_379 rfl rfl ?_
  refine z_getI hX 0 30 dX7_book_380 (by decide) shM_0 rfl rfl zin_X7 (by decide) zm_810 ?_
  obtain ⟨i95, hf⟩ := zifd hf
  refine z_iald hX 34 dX7_book_383 (by decide) shM_34 i95 ?_
  refine z_i2l hX dX7_book_384 ?_
  refine z_ladd hX dX7_book_385 ?_
  refine z_putL hX 0 49 dX7_book_386 (by decide) shM_0 rfl rfl zin_X7 tyX7_ok nmX7 (by decide) zm_829 rfl rfl ?_
  obtain ⟨s96, h97, hf⟩ := zlet_ex hf
  refine z_name h97 ?_
  refine z_aload_n hX 0 dX7_book_389 rfl rfl ?_
  refine z_dup hX dX7_book_390 rfl ?_
  refine z_getL hX 0 50 dX7_book_391 (by decide) shM_0 rfl rfl zin_X7 (by decide) zm_830 ?_
  refine z_aload_n hX 0 dX7_book_394 rfl rfl ?_
  refine z_getR hX 0 39 35 dX7_book_395 (by decide) shM_0 rfl rfl zin_X7 (by decide) zm_819 ?_
  refine z_aload_n hX 0 dX7_book_398 rfl rfl ?_
  refine z_getI hX 0 30 dX7_book_399 (by decide) shM_0 rfl rfl zin_X7 (by decide) zm_810 ?_
  obtain ⟨i98, hf⟩ := zifd hf
  refine z_iald hX 35 dX7_book_402 (by decide) shM_35 i98 ?_
  refine z_i2l hX dX7_book_403 ?_
  refine z_ladd hX dX7_book_404 ?_
  refine z_putL hX 0 50 dX7_book_405 (by decide) shM_0 rfl rfl zin_X7 tyX7_ok nmX7 (by decide) zm_830 rfl rfl ?_
  obtain ⟨s99, h100, hf⟩ := zlet_ex hf
  refine z_name h100 ?_
  refine z_aload_n hX 0 dX7_book_408 rfl rfl ?_
  refine z_dup hX dX7_book_409 rfl ?_
  refine z_getI hX 0 30 dX7_book_410 (by decide) shM_0 rfl rfl zin_X7 (by decide) zm_810 ?_
  refine z_iconst (v := 1) hX dX7_book_413 (by decide) ?_
  refine z_iadd hX dX7_book_414 ?_
  refine z_putI hX 0 30 dX7_book_415 (by decide) shM_0 rfl rfl zin_X7 tyX7_ok nmX7 (by decide) zm_810 rfl rfl ?_
  obtain ⟨s101, h102, hf⟩ := zlet_ex hf
  refine z_name h102 ?_
  refine z_aload_n hX 0 dX7_book_418 rfl rfl ?_
  refine z_getI hX 0 30 dX7_book_419 (by decide) shM_0 rfl rfl zin_X7 (by decide) zm_810 ?_
  refine z_iconst (v := 1) hX dX7_book_422 (by decide) ?_
  refine z_isub hX dX7_book_423 ?_
  obtain rfl := Option.some.inj hf
  exact z_iret hX hQ dX7_book_424 rfl
set_option maxHeartbeats 4000000 in
set_option maxRecDepth 100000 in
theorem t_X7_book_326 (X : zCx) (out : Int32 × zSt) (hX : zOk X RX7 cX7_book zr_X7_book) (hQ : zPost X 42 shM (some .int) (some (.int out.1)) out.2) (hnl : X.nL = 10) (st : zSt) (v7 : Int32) (v9 : Int32) (hf : f_X7_book_326  st v7 v9 = some out) : zG 42 shM X st 326 [(0, .ref (X.ad 0)), (7, .int v7), (9, .int v9)] [] := by
  unfold f_X7_book_326 at hf
  refine z_aload_n hX 0 dX7_book_326 rfl rfl ?_
  refine z_getR hX 0 38 34 dX7_book_327 (by decide) shM_0 rfl rfl zin_X7 (by decide) zm_818 ?_
  refine z_aload_n hX 0 dX7_book_330 rfl rfl ?_
  refine z_getI hX 0 30 dX7_book_331 (by decide) shM_0 rfl rfl zin_X7 (by decide) zm_810 ?_
  refine z_iload hX 2 dX7_book_334 rfl ?_
  refine z_if_eq hX 346 dX7_book_336 (by decide) (fun c84 => ?_) (fun c84 => ?_)
  · have hf := (if_pos c84).symm.trans hf
    refine z_iload hX 1 dX7_book_346 rfl ?_
    obtain ⟨i85, hf⟩ := zifd hf
    refine z_iast hX 34 dX7_book_348 (by decide) shM_34 i85 ?_
    obtain ⟨s86, h87, hf⟩ := zlet_ex hf
    refine z_name h87 ?_
    refine z_locals [0, 1] [(0, .ref (X.ad 0)), (7, .int v7)] rfl ?_
    exact t_X7_book_349 X out hX hQ hnl s86 v7 hf
  have hf := (if_neg c84).symm.trans hf
  refine z_iload hX 1 dX7_book_339 rfl ?_
  refine z_iconst (v := 2) hX dX7_book_341 (by decide) ?_
  refine z_idiv hX dX7_book_342 (by decide) ?_
  refine z_goto hX 348 dX7_book_343 (by decide) ?_
  obtain ⟨i88, hf⟩ := zifd hf
  refine z_iast hX 34 dX7_book_348 (by decide) shM_34 i88 ?_
  obtain ⟨s89, h90, hf⟩ := zlet_ex hf
  refine z_name h90 ?_
  refine z_locals [0, 1] [(0, .ref (X.ad 0)), (7, .int v7)] rfl ?_
  exact t_X7_book_349 X out hX hQ hnl s89 v7 hf
set_option maxHeartbeats 4000000 in
set_option maxRecDepth 100000 in
theorem t_X7_book_307 (X : zCx) (out : Int32 × zSt) (hX : zOk X RX7 cX7_book zr_X7_book) (hQ : zPost X 42 shM (some .int) (some (.int out.1)) out.2) (hnl : X.nL = 10) (st : zSt) (v7 : Int32) (v9 : Int32) (hf : f_X7_book_307  st v7 v9 = some out) : zG 42 shM X st 307 [(0, .ref (X.ad 0)), (7, .int v7), (9, .int v9)] [] := by
  unfold f_X7_book_307 at hf
  refine z_aload_n hX 0 dX7_book_307 rfl rfl ?_
  refine z_getR hX 0 37 33 dX7_book_308 (by decide) shM_0 rfl rfl zin_X7 (by decide) zm_817 ?_
  refine z_aload_n hX 0 dX7_book_311 rfl rfl ?_
  refine z_getI hX 0 30 dX7_book_312 (by decide) shM_0 rfl rfl zin_X7 (by decide) zm_810 ?_
  refine z_iload hX 2 dX7_book_315 rfl ?_
  refine z_if_eq hX 324 dX7_book_317 (by decide) (fun c77 => ?_) (fun c77 => ?_)
  · have hf := (if_pos c77).symm.trans hf
    refine z_iconst (v := 0) hX dX7_book_324 (by decide) ?_
    obtain ⟨i78, hf⟩ := zifd hf
    refine z_iast hX 33 dX7_book_325 (by decide) shM_33 i78 ?_
    obtain ⟨s79, h80, hf⟩ := zlet_ex hf
    refine z_name h80 ?_
    exact t_X7_book_326 X out hX hQ hnl s79 v7 v9 hf
  have hf := (if_neg c77).symm.trans hf
  refine z_iconst (v := 1) hX dX7_book_320 (by decide) ?_
  refine z_goto hX 325 dX7_book_321 (by decide) ?_
  obtain ⟨i81, hf⟩ := zifd hf
  refine z_iast hX 33 dX7_book_325 (by decide) shM_33 i81 ?_
  obtain ⟨s82, h83, hf⟩ := zlet_ex hf
  refine z_name h83 ?_
  exact t_X7_book_326 X out hX hQ hnl s82 v7 v9 hf
set_option maxHeartbeats 4000000 in
set_option maxRecDepth 100000 in
theorem t_X7_book_234 (X : zCx) (out : Int32 × zSt) (hX : zOk X RX7 cX7_book zr_X7_book) (hQ : zPost X 42 shM (some .int) (some (.int out.1)) out.2) (hnl : X.nL = 10) (st : zSt) (v1 : Int32) (v2 : Int32) (v3 : Int32) (v4 : Int32) (v5 : Int32) (v6 : Int32) (v7 : Int32) (v9 : Int32) (hf : f_X7_book_234  st v1 v2 v3 v4 v5 v6 v7 v9 = some out) : zG 42 shM X st 234 [(0, .ref (X.ad 0)), (1, .int v1), (2, .int v2), (3, .int v3), (4, .int v4), (5, .int v5), (6, .int v6), (7, .int v7), (9, .int v9)] [] := by
  unfold f_X7_book_234 at hf
  refine z_aload_n hX 0 dX7_book_234 rfl rfl ?_
  refine z_getR hX 0 31 27 dX7_book_235 (by decide) shM_0 rfl rfl zin_X7 (by decide) zm_811 ?_
  refine z_aload_n hX 0 dX7_book_238 rfl rfl ?_
  refine z_getI hX 0 30 dX7_book_239 (by decide) shM_0 rfl rfl zin_X7 (by decide) zm_810 ?_
  refine z_iload_n hX 1 dX7_book_242 rfl rfl ?_
  obtain ⟨i55, hf⟩ := zifd hf
  refine z_iast hX 27 dX7_book_243 (by decide) shM_27 i55 ?_
  obtain ⟨s56, h57, hf⟩ := zlet_ex hf
  refine z_name h57 ?_
  refine z_aload_n hX 0 dX7_book_244 rfl rfl ?_
  refine z_getR hX 0 32 28 dX7_book_245 (by decide) shM_0 rfl rfl zin_X7 (by decide) zm_812 ?_
  refine z_aload_n hX 0 dX7_book_248 rfl rfl ?_
  refine z_getI hX 0 30 dX7_book_249 (by decide) shM_0 rfl rfl zin_X7 (by decide) zm_810 ?_
  refine z_iload_n hX 2 dX7_book_252 rfl rfl ?_
  refine z_iconst (v := 1) hX dX7_book_253 (by decide) ?_
  refine z_iadd hX dX7_book_254 ?_
  obtain ⟨i58, hf⟩ := zifd hf
  refine z_iast hX 28 dX7_book_255 (by decide) shM_28 i58 ?_
  obtain ⟨s59, h60, hf⟩ := zlet_ex hf
  refine z_name h60 ?_
  refine z_aload_n hX 0 dX7_book_256 rfl rfl ?_
  refine z_getR hX 0 33 29 dX7_book_257 (by decide) shM_0 rfl rfl zin_X7 (by decide) zm_813 ?_
  refine z_aload_n hX 0 dX7_book_260 rfl rfl ?_
  refine z_getI hX 0 30 dX7_book_261 (by decide) shM_0 rfl rfl zin_X7 (by decide) zm_810 ?_
  refine z_iload_n hX 3 dX7_book_264 rfl rfl ?_
  obtain ⟨i61, hf⟩ := zifd hf
  refine z_iast hX 29 dX7_book_265 (by decide) shM_29 i61 ?_
  obtain ⟨s62, h63, hf⟩ := zlet_ex hf
  refine z_name h63 ?_
  refine z_aload_n hX 0 dX7_book_266 rfl rfl ?_
  refine z_getR hX 0 34 30 dX7_book_267 (by decide) shM_0 rfl rfl zin_X7 (by decide) zm_814 ?_
  refine z_aload_n hX 0 dX7_book_270 rfl rfl ?_
  refine z_getI hX 0 30 dX7_book_271 (by decide) shM_0 rfl rfl zin_X7 (by decide) zm_810 ?_
  refine z_iload hX 4 dX7_book_274 rfl ?_
  obtain ⟨i64, hf⟩ := zifd hf
  refine z_iast hX 30 dX7_book_276 (by decide) shM_30 i64 ?_
  obtain ⟨s65, h66, hf⟩ := zlet_ex hf
  refine z_name h66 ?_
  refine z_aload_n hX 0 dX7_book_277 rfl rfl ?_
  refine z_getR hX 0 35 31 dX7_book_278 (by decide) shM_0 rfl rfl zin_X7 (by decide) zm_815 ?_
  refine z_aload_n hX 0 dX7_book_281 rfl rfl ?_
  refine z_getI hX 0 30 dX7_book_282 (by decide) shM_0 rfl rfl zin_X7 (by decide) zm_810 ?_
  refine z_iload hX 5 dX7_book_285 rfl ?_
  obtain ⟨i67, hf⟩ := zifd hf
  refine z_iast hX 31 dX7_book_287 (by decide) shM_31 i67 ?_
  obtain ⟨s68, h69, hf⟩ := zlet_ex hf
  refine z_name h69 ?_
  refine z_aload_n hX 0 dX7_book_288 rfl rfl ?_
  refine z_getR hX 0 36 32 dX7_book_289 (by decide) shM_0 rfl rfl zin_X7 (by decide) zm_816 ?_
  refine z_aload_n hX 0 dX7_book_292 rfl rfl ?_
  refine z_getI hX 0 30 dX7_book_293 (by decide) shM_0 rfl rfl zin_X7 (by decide) zm_810 ?_
  refine z_iload hX 6 dX7_book_296 rfl ?_
  refine z_if_eq hX 305 dX7_book_298 (by decide) (fun c70 => ?_) (fun c70 => ?_)
  · have hf := (if_pos c70).symm.trans hf
    refine z_iconst (v := 0) hX dX7_book_305 (by decide) ?_
    obtain ⟨i71, hf⟩ := zifd hf
    refine z_iast hX 32 dX7_book_306 (by decide) shM_32 i71 ?_
    obtain ⟨s72, h73, hf⟩ := zlet_ex hf
    refine z_name h73 ?_
    refine z_locals [0, 7, 8] [(0, .ref (X.ad 0)), (7, .int v7), (9, .int v9)] rfl ?_
    exact t_X7_book_307 X out hX hQ hnl s72 v7 v9 hf
  have hf := (if_neg c70).symm.trans hf
  refine z_iconst (v := 1) hX dX7_book_301 (by decide) ?_
  refine z_goto hX 306 dX7_book_302 (by decide) ?_
  obtain ⟨i74, hf⟩ := zifd hf
  refine z_iast hX 32 dX7_book_306 (by decide) shM_32 i74 ?_
  obtain ⟨s75, h76, hf⟩ := zlet_ex hf
  refine z_name h76 ?_
  refine z_locals [0, 7, 8] [(0, .ref (X.ad 0)), (7, .int v7), (9, .int v9)] rfl ?_
  exact t_X7_book_307 X out hX hQ hnl s75 v7 v9 hf
set_option maxHeartbeats 4000000 in
set_option maxRecDepth 100000 in
theorem t_X7_book_189 (X : zCx) (out : Int32 × zSt) (hX : zOk X RX7 cX7_book zr_X7_book) (hQ : zPost X 42 shM (some .int) (some (.int out.1)) out.2) (hnl : X.nL = 10) (st : zSt) (v1 : Int32) (v2 : Int32) (v3 : Int32) (v4 : Int32) (v5 : Int32) (v6 : Int32) (v7 : Int32) (hf : f_X7_book_189  st v1 v2 v3 v4 v5 v6 v7 = some out) : zG 42 shM X st 189 [(0, .ref (X.ad 0)), (1, .int v1), (2, .int v2), (3, .int v3), (4, .int v4), (5, .int v5), (6, .int v6), (7, .int v7)] [] := by
  unfold f_X7_book_189 at hf
  refine z_aload_n hX 0 dX7_book_189 rfl rfl ?_
  refine z_getR hX 0 18 16 dX7_book_190 (by decide) shM_0 rfl rfl zin_X7 (by decide) zm_798 ?_
  refine z_iload_n hX 1 dX7_book_193 rfl rfl ?_
  obtain ⟨i49, hf⟩ := zifd hf
  refine z_iald hX 16 dX7_book_194 (by decide) shM_16 i49 ?_
  refine z_iconst (v := 1) hX dX7_book_195 (by decide) ?_
  refine z_isub hX dX7_book_196 ?_
  refine z_istore hX [(0, .ref (X.ad 0)), (1, .int v1), (2, .int v2), (3, .int v3), (4, .int v4), (5, .int v5), (6, .int v6), (7, .int v7), (8, .int ((st.1 16 v1.toNatClampNeg) - 1))] dX7_book_197 (by rw [hnl]; decide) [1, 2, 3, 4, 5, 6, 7, 8, 0] rfl ?_
  refine z_iload hX 8 dX7_book_199 rfl ?_
  refine z_iconst (v := (-1)) hX dX7_book_201 (by decide) ?_
  refine z_icmp_eq hX 231 dX7_book_202 (by decide) (fun c50 => ?_) (fun c50 => ?_)
  · have hf := (if_pos c50).symm.trans hf
    refine z_iconst (v := 0) hX dX7_book_231 (by decide) ?_
    refine z_istore hX [(0, .ref (X.ad 0)), (1, .int v1), (2, .int v2), (3, .int v3), (4, .int v4), (5, .int v5), (6, .int v6), (7, .int v7), (8, .int ((st.1 16 v1.toNatClampNeg) - 1)), (9, .int 0)] dX7_book_232 (by rw [hnl]; decide) [1, 2, 3, 4, 5, 6, 7, 8, 9, 0] rfl ?_
    refine z_locals [0, 1, 2, 3, 4, 5, 6, 7, 9] [(0, .ref (X.ad 0)), (1, .int v1), (2, .int v2), (3, .int v3), (4, .int v4), (5, .int v5), (6, .int v6), (7, .int v7), (9, .int 0)] rfl ?_
    exact t_X7_book_234 X out hX hQ hnl st v1 v2 v3 v4 v5 v6 v7 0 hf
  have hf := (if_neg c50).symm.trans hf
  refine z_iload hX 8 dX7_book_205 rfl ?_
  refine z_aload_n hX 0 dX7_book_207 rfl rfl ?_
  refine z_getR hX 0 21 18 dX7_book_208 (by decide) shM_0 rfl rfl zin_X7 (by decide) zm_801 ?_
  refine z_iload_n hX 2 dX7_book_211 rfl rfl ?_
  obtain ⟨i51, hf⟩ := zifd hf
  refine z_iald hX 18 dX7_book_212 (by decide) shM_18 i51 ?_
  refine z_icmp_eq hX 227 dX7_book_213 (by decide) (fun c52 => ?_) (fun c52 => ?_)
  · have hf := (if_pos c52).symm.trans hf
    refine z_iconst (v := 1) hX dX7_book_227 (by decide) ?_
    refine z_goto hX 232 dX7_book_228 (by decide) ?_
    refine z_istore hX [(0, .ref (X.ad 0)), (1, .int v1), (2, .int v2), (3, .int v3), (4, .int v4), (5, .int v5), (6, .int v6), (7, .int v7), (8, .int ((st.1 16 v1.toNatClampNeg) - 1)), (9, .int 1)] dX7_book_232 (by rw [hnl]; decide) [1, 2, 3, 4, 5, 6, 7, 8, 9, 0] rfl ?_
    refine z_locals [0, 1, 2, 3, 4, 5, 6, 7, 9] [(0, .ref (X.ad 0)), (1, .int v1), (2, .int v2), (3, .int v3), (4, .int v4), (5, .int v5), (6, .int v6), (7, .int v7), (9, .int 1)] rfl ?_
    exact t_X7_book_234 X out hX hQ hnl st v1 v2 v3 v4 v5 v6 v7 1 hf
  have hf := (if_neg c52).symm.trans hf
  refine z_iload hX 8 dX7_book_216 rfl ?_
  refine z_aload_n hX 0 dX7_book_218 rfl rfl ?_
  refine z_getR hX 0 22 19 dX7_book_219 (by decide) shM_0 rfl rfl zin_X7 (by decide) zm_802 ?_
  refine z_iload_n hX 2 dX7_book_222 rfl rfl ?_
  obtain ⟨i53, hf⟩ := zifd hf
  refine z_iald hX 19 dX7_book_223 (by decide) shM_19 i53 ?_
  refine z_icmp_ne hX 231 dX7_book_224 (by decide) (fun c54 => ?_) (fun c54 => ?_)
  · have hf := (if_neg c54).symm.trans hf
    refine z_iconst (v := 0) hX dX7_book_231 (by decide) ?_
    refine z_istore hX [(0, .ref (X.ad 0)), (1, .int v1), (2, .int v2), (3, .int v3), (4, .int v4), (5, .int v5), (6, .int v6), (7, .int v7), (8, .int ((st.1 16 v1.toNatClampNeg) - 1)), (9, .int 0)] dX7_book_232 (by rw [hnl]; decide) [1, 2, 3, 4, 5, 6, 7, 8, 9, 0] rfl ?_
    refine z_locals [0, 1, 2, 3, 4, 5, 6, 7, 9] [(0, .ref (X.ad 0)), (1, .int v1), (2, .int v2), (3, .int v3), (4, .int v4), (5, .int v5), (6, .int v6), (7, .int v7), (9, .int 0)] rfl ?_
    exact t_X7_book_234 X out hX hQ hnl st v1 v2 v3 v4 v5 v6 v7 0 hf
  have hf := (if_pos c54).symm.trans hf
  refine z_iconst (v := 1) hX dX7_book_227 (by decide) ?_
  refine z_goto hX 232 dX7_book_228 (by decide) ?_
  refine z_istore hX [(0, .ref (X.ad 0)), (1, .int v1), (2, .int v2), (3, .int v3), (4, .int v4), (5, .int v5), (6, .int v6), (7, .int v7), (8, .int ((st.1 16 v1.toNatClampNeg) - 1)), (9, .int 1)] dX7_book_232 (by rw [hnl]; decide) [1, 2, 3, 4, 5, 6, 7, 8, 9, 0] rfl ?_
  refine z_locals [0, 1, 2, 3, 4, 5, 6, 7, 9] [(0, .ref (X.ad 0)), (1, .int v1), (2, .int v2), (3, .int v3), (4, .int v4), (5, .int v5), (6, .int v6), (7, .int v7), (9, .int 1)] rfl ?_
  exact t_X7_book_234 X out hX hQ hnl st v1 v2 v3 v4 v5 v6 v7 1 hf
set_option maxHeartbeats 4000000 in
set_option maxRecDepth 100000 in
theorem t_X7_book_142 (X : zCx) (out : Int32 × zSt) (hX : zOk X RX7 cX7_book zr_X7_book) (hQ : zPost X 42 shM (some .int) (some (.int out.1)) out.2) (hnl : X.nL = 10) (st : zSt) (v1 : Int32) (v2 : Int32) (v3 : Int32) (v4 : Int32) (v5 : Int32) (v6 : Int32) (hf : f_X7_book_142  st v1 v2 v3 v4 v5 v6 = some out) : zG 42 shM X st 142 [(0, .ref (X.ad 0)), (1, .int v1), (2, .int v2), (3, .int v3), (4, .int v4), (5, .int v5), (6, .int v6)] [] := by
  unfold f_X7_book_142 at hf
  refine z_aload_n hX 0 dX7_book_142 rfl rfl ?_
  refine z_getI hX 0 52 dX7_book_143 (by decide) shM_0 rfl rfl zin_X7 (by decide) zm_832 ?_
  refine z_if_le hX 151 dX7_book_146 (by decide) (fun c24 => ?_) (fun c24 => ?_)
  · have hf := (if_pos c24).symm.trans hf
    refine z_iload_n hX 3 dX7_book_151 rfl rfl ?_
    refine z_if_ne hX 159 dX7_book_152 (by decide) (fun c25 => ?_) (fun c25 => ?_)
    · have hf := (if_neg c25).symm.trans hf
      refine z_iload_n hX 3 dX7_book_159 rfl rfl ?_
      refine z_iconst (v := 1) hX dX7_book_160 (by decide) ?_
      refine z_icmp_ne hX 168 dX7_book_161 (by decide) (fun c26 => ?_) (fun c26 => ?_)
      · have hf := (if_neg c26).symm.trans hf
        refine z_iload_n hX 3 dX7_book_168 rfl rfl ?_
        refine z_iconst (v := 2) hX dX7_book_169 (by decide) ?_
        refine z_icmp_ne hX 178 dX7_book_170 (by decide) (fun c27 => ?_) (fun c27 => ?_)
        · have hf := (if_neg c27).symm.trans hf
          refine z_bipush (v := 20) hX dX7_book_178 (by decide) ?_
          refine z_aload_n hX 0 dX7_book_180 rfl rfl ?_
          refine z_getR hX 0 24 21 dX7_book_181 (by decide) shM_0 rfl rfl zin_X7 (by decide) zm_804 ?_
          refine z_iload_n hX 2 dX7_book_184 rfl rfl ?_
          obtain ⟨i28, hf⟩ := zifd hf
          refine z_iald hX 21 dX7_book_185 (by decide) shM_21 i28 ?_
          refine z_imul hX dX7_book_186 ?_
          refine z_istore hX [(0, .ref (X.ad 0)), (1, .int v1), (2, .int v2), (3, .int v3), (4, .int v4), (5, .int v5), (6, .int v6), (7, .int (20 * (st.1 21 v2.toNatClampNeg)))] dX7_book_187 (by rw [hnl]; decide) [1, 2, 3, 4, 5, 6, 7, 0] rfl ?_
          exact t_X7_book_189 X out hX hQ hnl st v1 v2 v3 v4 v5 v6 (20 * (st.1 21 v2.toNatClampNeg)) hf
        have hf := (if_pos c27).symm.trans hf
        refine z_bipush (v := 8) hX dX7_book_173 (by decide) ?_
        refine z_goto hX 180 dX7_book_175 (by decide) ?_
        refine z_aload_n hX 0 dX7_book_180 rfl rfl ?_
        refine z_getR hX 0 24 21 dX7_book_181 (by decide) shM_0 rfl rfl zin_X7 (by decide) zm_804 ?_
        refine z_iload_n hX 2 dX7_book_184 rfl rfl ?_
        obtain ⟨i29, hf⟩ := zifd hf
        refine z_iald hX 21 dX7_book_185 (by decide) shM_21 i29 ?_
        refine z_imul hX dX7_book_186 ?_
        refine z_istore hX [(0, .ref (X.ad 0)), (1, .int v1), (2, .int v2), (3, .int v3), (4, .int v4), (5, .int v5), (6, .int v6), (7, .int (8 * (st.1 21 v2.toNatClampNeg)))] dX7_book_187 (by rw [hnl]; decide) [1, 2, 3, 4, 5, 6, 7, 0] rfl ?_
        exact t_X7_book_189 X out hX hQ hnl st v1 v2 v3 v4 v5 v6 (8 * (st.1 21 v2.toNatClampNeg)) hf
      have hf := (if_pos c26).symm.trans hf
      refine z_iconst (v := 5) hX dX7_book_164 (by decide) ?_
      refine z_goto hX 180 dX7_book_165 (by decide) ?_
      refine z_aload_n hX 0 dX7_book_180 rfl rfl ?_
      refine z_getR hX 0 24 21 dX7_book_181 (by decide) shM_0 rfl rfl zin_X7 (by decide) zm_804 ?_
      refine z_iload_n hX 2 dX7_book_184 rfl rfl ?_
      obtain ⟨i30, hf⟩ := zifd hf
      refine z_iald hX 21 dX7_book_185 (by decide) shM_21 i30 ?_
      refine z_imul hX dX7_book_186 ?_
      refine z_istore hX [(0, .ref (X.ad 0)), (1, .int v1), (2, .int v2), (3, .int v3), (4, .int v4), (5, .int v5), (6, .int v6), (7, .int (5 * (st.1 21 v2.toNatClampNeg)))] dX7_book_187 (by rw [hnl]; decide) [1, 2, 3, 4, 5, 6, 7, 0] rfl ?_
      exact t_X7_book_189 X out hX hQ hnl st v1 v2 v3 v4 v5 v6 (5 * (st.1 21 v2.toNatClampNeg)) hf
    have hf := (if_pos c25).symm.trans hf
    refine z_iconst (v := 2) hX dX7_book_155 (by decide) ?_
    refine z_goto hX 180 dX7_book_156 (by decide) ?_
    refine z_aload_n hX 0 dX7_book_180 rfl rfl ?_
    refine z_getR hX 0 24 21 dX7_book_181 (by decide) shM_0 rfl rfl zin_X7 (by decide) zm_804 ?_
    refine z_iload_n hX 2 dX7_book_184 rfl rfl ?_
    obtain ⟨i31, hf⟩ := zifd hf
    refine z_iald hX 21 dX7_book_185 (by decide) shM_21 i31 ?_
    refine z_imul hX dX7_book_186 ?_
    refine z_istore hX [(0, .ref (X.ad 0)), (1, .int v1), (2, .int v2), (3, .int v3), (4, .int v4), (5, .int v5), (6, .int v6), (7, .int (2 * (st.1 21 v2.toNatClampNeg)))] dX7_book_187 (by rw [hnl]; decide) [1, 2, 3, 4, 5, 6, 7, 0] rfl ?_
    exact t_X7_book_189 X out hX hQ hnl st v1 v2 v3 v4 v5 v6 (2 * (st.1 21 v2.toNatClampNeg)) hf
  have hf := (if_neg c24).symm.trans hf
  refine z_iconst (v := 0) hX dX7_book_149 (by decide) ?_
  obtain rfl := Option.some.inj hf
  exact z_iret hX hQ dX7_book_150 rfl
set_option maxHeartbeats 4000000 in
set_option maxRecDepth 100000 in
theorem t_X7_book_97 (X : zCx) (out : Int32 × zSt) (hX : zOk X RX7 cX7_book zr_X7_book) (hQ : zPost X 42 shM (some .int) (some (.int out.1)) out.2) (hnl : X.nL = 10) (st : zSt) (v1 : Int32) (v2 : Int32) (v3 : Int32) (v4 : Int32) (v5 : Int32) (v6 : Int32) (v7 : Int32) (hf : f_X7_book_97  st v1 v2 v3 v4 v5 v6 v7 = some out) : zG 42 shM X st 97 [(0, .ref (X.ad 0)), (1, .int v1), (2, .int v2), (3, .int v3), (4, .int v4), (5, .int v5), (6, .int v6), (7, .int v7)] [] := by
  unfold f_X7_book_97 at hf
  refine z_aload_n hX 0 dX7_book_97 rfl rfl ?_
  refine z_iload_n hX 3 dX7_book_98 rfl rfl ?_
  refine z_iconst (v := 0) hX dX7_book_99 (by decide) ?_
  refine z_iconst (v := 3) hX dX7_book_100 (by decide) ?_
  obtain ⟨q32, e33, hf⟩ := zbind hf
  refine z_callS (stk := [.ref (X.ad 0)]) (stk' := [.int q32.1, .ref (X.ad 0)]) hX (c_X7_in X.l st v3 0 3 q32 e33) zb_X7_in dX7_book_101 zm_951 rfl rfl rfl ⟨by decide, by decide⟩ ⟨rfl, rfl⟩ (Nat.le_of_ble_eq_true rfl) rfl ?_
  refine z_if_eq hX 112 dX7_book_104 (by decide) (fun c34 => ?_) (fun c34 => ?_)
  · have hf := (if_pos c34).symm.trans hf
    refine z_iconst (v := 2) hX dX7_book_112 (by decide) ?_
    refine z_goto hX 139 dX7_book_113 (by decide) ?_
    refine z_putI hX 0 52 dX7_book_139 (by decide) shM_0 rfl rfl zin_X7 tyX7_ok nmX7 (by decide) zm_832 rfl rfl ?_
    obtain ⟨s35, h36, hf⟩ := zlet_ex hf
    refine z_name h36 ?_
    refine z_locals [0, 1, 2, 3, 4, 5, 6] [(0, .ref (X.ad 0)), (1, .int v1), (2, .int v2), (3, .int v3), (4, .int v4), (5, .int v5), (6, .int v6)] rfl ?_
    exact t_X7_book_142 X out hX hQ hnl s35 v1 v2 v3 v4 v5 v6 hf
  have hf := (if_neg c34).symm.trans hf
  refine z_iload hX 7 dX7_book_107 rfl ?_
  refine z_if_ne hX 116 dX7_book_109 (by decide) (fun c37 => ?_) (fun c37 => ?_)
  · have hf := (if_neg c37).symm.trans hf
    refine z_aload_n hX 0 dX7_book_116 rfl rfl ?_
    refine z_getR hX 0 25 22 dX7_book_117 (by decide) shM_0 rfl rfl zin_X7 (by decide) zm_805 ?_
    refine z_iload_n hX 2 dX7_book_120 rfl rfl ?_
    obtain ⟨i38, hf⟩ := zifd hf
    refine z_iald hX 22 dX7_book_121 (by decide) shM_22 i38 ?_
    refine z_if_ne hX 134 dX7_book_122 (by decide) (fun c39 => ?_) (fun c39 => ?_)
    · have hf := (if_neg c39).symm.trans hf
      refine z_iconst (v := 3) hX dX7_book_134 (by decide) ?_
      refine z_goto hX 139 dX7_book_135 (by decide) ?_
      refine z_putI hX 0 52 dX7_book_139 (by decide) shM_0 rfl rfl zin_X7 tyX7_ok nmX7 (by decide) zm_832 rfl rfl ?_
      obtain ⟨s40, h41, hf⟩ := zlet_ex hf
      refine z_name h41 ?_
      refine z_locals [0, 1, 2, 3, 4, 5, 6] [(0, .ref (X.ad 0)), (1, .int v1), (2, .int v2), (3, .int v3), (4, .int v4), (5, .int v5), (6, .int v6)] rfl ?_
      exact t_X7_book_142 X out hX hQ hnl s40 v1 v2 v3 v4 v5 v6 hf
    have hf := (if_pos c39).symm.trans hf
    refine z_aload_n hX 0 dX7_book_125 rfl rfl ?_
    refine z_getI hX 0 30 dX7_book_126 (by decide) shM_0 rfl rfl zin_X7 (by decide) zm_810 ?_
    refine z_bipush (v := 40) hX dX7_book_129 (by decide) ?_
    refine z_icmp_ne hX 138 dX7_book_131 (by decide) (fun c42 => ?_) (fun c42 => ?_)
    · have hf := (if_neg c42).symm.trans hf
      refine z_iconst (v := 0) hX dX7_book_138 (by decide) ?_
      refine z_putI hX 0 52 dX7_book_139 (by decide) shM_0 rfl rfl zin_X7 tyX7_ok nmX7 (by decide) zm_832 rfl rfl ?_
      obtain ⟨s43, h44, hf⟩ := zlet_ex hf
      refine z_name h44 ?_
      refine z_locals [0, 1, 2, 3, 4, 5, 6] [(0, .ref (X.ad 0)), (1, .int v1), (2, .int v2), (3, .int v3), (4, .int v4), (5, .int v5), (6, .int v6)] rfl ?_
      exact t_X7_book_142 X out hX hQ hnl s43 v1 v2 v3 v4 v5 v6 hf
    have hf := (if_pos c42).symm.trans hf
    refine z_iconst (v := 3) hX dX7_book_134 (by decide) ?_
    refine z_goto hX 139 dX7_book_135 (by decide) ?_
    refine z_putI hX 0 52 dX7_book_139 (by decide) shM_0 rfl rfl zin_X7 tyX7_ok nmX7 (by decide) zm_832 rfl rfl ?_
    obtain ⟨s45, h46, hf⟩ := zlet_ex hf
    refine z_name h46 ?_
    refine z_locals [0, 1, 2, 3, 4, 5, 6] [(0, .ref (X.ad 0)), (1, .int v1), (2, .int v2), (3, .int v3), (4, .int v4), (5, .int v5), (6, .int v6)] rfl ?_
    exact t_X7_book_142 X out hX hQ hnl s45 v1 v2 v3 v4 v5 v6 hf
  have hf := (if_pos c37).symm.trans hf
  refine z_iconst (v := 2) hX dX7_book_112 (by decide) ?_
  refine z_goto hX 139 dX7_book_113 (by decide) ?_
  refine z_putI hX 0 52 dX7_book_139 (by decide) shM_0 rfl rfl zin_X7 tyX7_ok nmX7 (by decide) zm_832 rfl rfl ?_
  obtain ⟨s47, h48, hf⟩ := zlet_ex hf
  refine z_name h48 ?_
  refine z_locals [0, 1, 2, 3, 4, 5, 6] [(0, .ref (X.ad 0)), (1, .int v1), (2, .int v2), (3, .int v3), (4, .int v4), (5, .int v5), (6, .int v6)] rfl ?_
  exact t_X7_book_142 X out hX hQ hnl s47 v1 v2 v3 v4 v5 v6 hf
set_option maxHeartbeats 4000000 in
set_option maxRecDepth 100000 in
theorem t_X7_book_33 (X : zCx) (out : Int32 × zSt) (hX : zOk X RX7 cX7_book zr_X7_book) (hQ : zPost X 42 shM (some .int) (some (.int out.1)) out.2) (hnl : X.nL = 10) (st : zSt) (v1 : Int32) (v2 : Int32) (v3 : Int32) (v4 : Int32) (v5 : Int32) (v6 : Int32) (hf : f_X7_book_33  st v1 v2 v3 v4 v5 v6 = some out) : zG 42 shM X st 33 [(0, .ref (X.ad 0)), (1, .int v1), (2, .int v2), (3, .int v3), (4, .int v4), (5, .int v5), (6, .int v6)] [] := by
  unfold f_X7_book_33 at hf
  refine z_aload_n hX 0 dX7_book_33 rfl rfl ?_
  refine z_getI hX 0 52 dX7_book_34 (by decide) shM_0 rfl rfl zin_X7 (by decide) zm_832 ?_
  refine z_if_ne hX 142 dX7_book_37 (by decide) (fun c13 => ?_) (fun c13 => ?_)
  · have hf := (if_neg c13).symm.trans hf
    exact t_X7_book_142 X out hX hQ hnl st v1 v2 v3 v4 v5 v6 hf
  have hf := (if_pos c13).symm.trans hf
  refine z_iload_n hX 3 dX7_book_40 rfl rfl ?_
  refine z_if_ne hX 67 dX7_book_41 (by decide) (fun c14 => ?_) (fun c14 => ?_)
  · have hf := (if_neg c14).symm.trans hf
    refine z_iload hX 4 dX7_book_67 rfl ?_
    refine z_iconst (v := 1) hX dX7_book_69 (by decide) ?_
    refine z_bipush (v := 40) hX dX7_book_70 (by decide) ?_
    obtain ⟨q15, e16, hf⟩ := zbind hf
    refine z_callS (stk := []) (stk' := [.int q15.1]) hX (c_X7_in X.l st v4 1 40 q15 e16) zb_X7_in dX7_book_72 zm_951 rfl rfl rfl ⟨by decide, by decide⟩ ⟨rfl, rfl⟩ (Nat.le_of_ble_eq_true rfl) rfl ?_
    refine z_if_eq hX 94 dX7_book_75 (by decide) (fun c17 => ?_) (fun c17 => ?_)
    · have hf := (if_pos c17).symm.trans hf
      refine z_iconst (v := 0) hX dX7_book_94 (by decide) ?_
      refine z_istore hX [(0, .ref (X.ad 0)), (1, .int v1), (2, .int v2), (3, .int v3), (4, .int v4), (5, .int v5), (6, .int v6), (7, .int 0)] dX7_book_95 (by rw [hnl]; decide) [1, 2, 3, 4, 5, 6, 7, 0] rfl ?_
      exact t_X7_book_97 X out hX hQ hnl q15.2 v1 v2 v3 v4 v5 v6 0 hf
    have hf := (if_neg c17).symm.trans hf
    refine z_iload hX 5 dX7_book_78 rfl ?_
    refine z_iconst (v := 1) hX dX7_book_80 (by decide) ?_
    refine z_sipush (v := 200) hX dX7_book_81 (by decide) ?_
    obtain ⟨q18, e19, hf⟩ := zbind hf
    refine z_callS (stk := []) (stk' := [.int q18.1]) hX (c_X7_in X.l q15.2 v5 1 200 q18 e19) zb_X7_in dX7_book_84 zm_951 rfl rfl rfl ⟨by decide, by decide⟩ ⟨rfl, rfl⟩ (Nat.le_of_ble_eq_true rfl) rfl ?_
    refine z_if_eq hX 94 dX7_book_87 (by decide) (fun c20 => ?_) (fun c20 => ?_)
    · have hf := (if_pos c20).symm.trans hf
      refine z_iconst (v := 0) hX dX7_book_94 (by decide) ?_
      refine z_istore hX [(0, .ref (X.ad 0)), (1, .int v1), (2, .int v2), (3, .int v3), (4, .int v4), (5, .int v5), (6, .int v6), (7, .int 0)] dX7_book_95 (by rw [hnl]; decide) [1, 2, 3, 4, 5, 6, 7, 0] rfl ?_
      exact t_X7_book_97 X out hX hQ hnl q18.2 v1 v2 v3 v4 v5 v6 0 hf
    have hf := (if_neg c20).symm.trans hf
    refine z_iconst (v := 1) hX dX7_book_90 (by decide) ?_
    refine z_goto hX 95 dX7_book_91 (by decide) ?_
    refine z_istore hX [(0, .ref (X.ad 0)), (1, .int v1), (2, .int v2), (3, .int v3), (4, .int v4), (5, .int v5), (6, .int v6), (7, .int 1)] dX7_book_95 (by rw [hnl]; decide) [1, 2, 3, 4, 5, 6, 7, 0] rfl ?_
    exact t_X7_book_97 X out hX hQ hnl q18.2 v1 v2 v3 v4 v5 v6 1 hf
  have hf := (if_pos c14).symm.trans hf
  refine z_iload hX 4 dX7_book_44 rfl ?_
  refine z_if_ne hX 63 dX7_book_46 (by decide) (fun c21 => ?_) (fun c21 => ?_)
  · have hf := (if_neg c21).symm.trans hf
    refine z_iconst (v := 0) hX dX7_book_63 (by decide) ?_
    refine z_goto hX 95 dX7_book_64 (by decide) ?_
    refine z_istore hX [(0, .ref (X.ad 0)), (1, .int v1), (2, .int v2), (3, .int v3), (4, .int v4), (5, .int v5), (6, .int v6), (7, .int 0)] dX7_book_95 (by rw [hnl]; decide) [1, 2, 3, 4, 5, 6, 7, 0] rfl ?_
    exact t_X7_book_97 X out hX hQ hnl st v1 v2 v3 v4 v5 v6 0 hf
  have hf := (if_pos c21).symm.trans hf
  refine z_iload hX 5 dX7_book_49 rfl ?_
  refine z_if_ne hX 63 dX7_book_51 (by decide) (fun c22 => ?_) (fun c22 => ?_)
  · have hf := (if_neg c22).symm.trans hf
    refine z_iconst (v := 0) hX dX7_book_63 (by decide) ?_
    refine z_goto hX 95 dX7_book_64 (by decide) ?_
    refine z_istore hX [(0, .ref (X.ad 0)), (1, .int v1), (2, .int v2), (3, .int v3), (4, .int v4), (5, .int v5), (6, .int v6), (7, .int 0)] dX7_book_95 (by rw [hnl]; decide) [1, 2, 3, 4, 5, 6, 7, 0] rfl ?_
    exact t_X7_book_97 X out hX hQ hnl st v1 v2 v3 v4 v5 v6 0 hf
  have hf := (if_pos c22).symm.trans hf
  refine z_iload hX 6 dX7_book_54 rfl ?_
  refine z_if_ne hX 63 dX7_book_56 (by decide) (fun c23 => ?_) (fun c23 => ?_)
  · have hf := (if_neg c23).symm.trans hf
    refine z_iconst (v := 0) hX dX7_book_63 (by decide) ?_
    refine z_goto hX 95 dX7_book_64 (by decide) ?_
    refine z_istore hX [(0, .ref (X.ad 0)), (1, .int v1), (2, .int v2), (3, .int v3), (4, .int v4), (5, .int v5), (6, .int v6), (7, .int 0)] dX7_book_95 (by rw [hnl]; decide) [1, 2, 3, 4, 5, 6, 7, 0] rfl ?_
    exact t_X7_book_97 X out hX hQ hnl st v1 v2 v3 v4 v5 v6 0 hf
  have hf := (if_pos c23).symm.trans hf
  refine z_iconst (v := 1) hX dX7_book_59 (by decide) ?_
  refine z_goto hX 95 dX7_book_60 (by decide) ?_
  refine z_istore hX [(0, .ref (X.ad 0)), (1, .int v1), (2, .int v2), (3, .int v3), (4, .int v4), (5, .int v5), (6, .int v6), (7, .int 1)] dX7_book_95 (by rw [hnl]; decide) [1, 2, 3, 4, 5, 6, 7, 0] rfl ?_
  exact t_X7_book_97 X out hX hQ hnl st v1 v2 v3 v4 v5 v6 1 hf
set_option maxHeartbeats 4000000 in
set_option maxRecDepth 100000 in
theorem t_X7_book (X : zCx) (out : Int32 × zSt) (hX : zOk X RX7 cX7_book zr_X7_book) (hQ : zPost X 42 shM (some .int) (some (.int out.1)) out.2) (hnl : X.nL = 10) (st : zSt) (a0 : Int32) (a1 : Int32) (a2 : Int32) (a3 : Int32) (a4 : Int32) (a5 : Int32) (hf : f_X7_book st a0 a1 a2 a3 a4 a5 = some out) : zG 42 shM X st 0 [(0, .ref (X.ad 0)), (1, .int a0), (2, .int a1), (3, .int a2), (4, .int a3), (5, .int a4), (6, .int a5)] [] := by
  unfold f_X7_book at hf
  refine z_aload_n hX 0 dX7_book_0 rfl rfl ?_
  refine z_iload_n hX 1 dX7_book_1 rfl rfl ?_
  refine z_iconst (v := 0) hX dX7_book_2 (by decide) ?_
  refine z_bipush (v := 9) hX dX7_book_3 (by decide) ?_
  obtain ⟨q1, e2, hf⟩ := zbind hf
  refine z_callS (stk := [.ref (X.ad 0)]) (stk' := [.int q1.1, .ref (X.ad 0)]) hX (c_X7_in X.l st a0 0 9 q1 e2) zb_X7_in dX7_book_5 zm_951 rfl rfl rfl ⟨by decide, by decide⟩ ⟨rfl, rfl⟩ (Nat.le_of_ble_eq_true rfl) rfl ?_
  refine z_if_eq hX 25 dX7_book_8 (by decide) (fun c3 => ?_) (fun c3 => ?_)
  · have hf := (if_pos c3).symm.trans hf
    refine z_iconst (v := 1) hX dX7_book_25 (by decide) ?_
    refine z_goto hX 30 dX7_book_26 (by decide) ?_
    refine z_putI hX 0 52 dX7_book_30 (by decide) shM_0 rfl rfl zin_X7 tyX7_ok nmX7 (by decide) zm_832 rfl rfl ?_
    obtain ⟨s4, h5, hf⟩ := zlet_ex hf
    refine z_name h5 ?_
    exact t_X7_book_33 X out hX hQ hnl s4 a0 a1 a2 a3 a4 a5 hf
  have hf := (if_neg c3).symm.trans hf
  refine z_iload_n hX 2 dX7_book_11 rfl rfl ?_
  refine z_iconst (v := 0) hX dX7_book_12 (by decide) ?_
  refine z_aload_n hX 0 dX7_book_13 rfl rfl ?_
  refine z_getI hX 0 19 dX7_book_14 (by decide) shM_0 rfl rfl zin_X7 (by decide) zm_799 ?_
  refine z_iconst (v := 1) hX dX7_book_17 (by decide) ?_
  refine z_isub hX dX7_book_18 ?_
  obtain ⟨q6, e7, hf⟩ := zbind hf
  refine z_callS (stk := [.ref (X.ad 0)]) (stk' := [.int q6.1, .ref (X.ad 0)]) hX (c_X7_in X.l q1.2 a1 0 ((q1.2.1 0 19) - 1) q6 e7) zb_X7_in dX7_book_19 zm_951 rfl rfl rfl ⟨by decide, by decide⟩ ⟨rfl, rfl⟩ (Nat.le_of_ble_eq_true rfl) rfl ?_
  refine z_if_ne hX 29 dX7_book_22 (by decide) (fun c8 => ?_) (fun c8 => ?_)
  · have hf := (if_neg c8).symm.trans hf
    refine z_iconst (v := 0) hX dX7_book_29 (by decide) ?_
    refine z_putI hX 0 52 dX7_book_30 (by decide) shM_0 rfl rfl zin_X7 tyX7_ok nmX7 (by decide) zm_832 rfl rfl ?_
    obtain ⟨s9, h10, hf⟩ := zlet_ex hf
    refine z_name h10 ?_
    exact t_X7_book_33 X out hX hQ hnl s9 a0 a1 a2 a3 a4 a5 hf
  have hf := (if_pos c8).symm.trans hf
  refine z_iconst (v := 1) hX dX7_book_25 (by decide) ?_
  refine z_goto hX 30 dX7_book_26 (by decide) ?_
  refine z_putI hX 0 52 dX7_book_30 (by decide) shM_0 rfl rfl zin_X7 tyX7_ok nmX7 (by decide) zm_832 rfl rfl ?_
  obtain ⟨s11, h12, hf⟩ := zlet_ex hf
  refine z_name h12 ?_
  exact t_X7_book_33 X out hX hQ hnl s11 a0 a1 a2 a3 a4 a5 hf
theorem zb_X7_book : zCal yX7_book cX7_book 10 (some .int) 6 := ⟨zm_1111, (zwl_in zm_1112 rfl), zm_8, zm_1113, by decide, by decide, rfl⟩
theorem c_X7_book (l : Launch) (st : zSt) (a0 : Int32) (a1 : Int32) (a2 : Int32) (a3 : Int32) (a4 : Int32) (a5 : Int32) (out : Int32 × zSt) (hf : f_X7_book st a0 a1 a2 a3 a4 a5 = some out) : zMet l yX7_book cX7_book 10 (some .int) zr_X7_book 42 shM (fun ad => [.ref (ad 0), .int a0, .int a1, .int a2, .int a3, .int a4, .int a5]) st (fun ad => some (.int out.1)) out.2 :=
  zmet_of (by decide +kernel) (fun _ => Nat.le_of_ble_eq_true rfl) (fun X _ hnl hX hQ => t_X7_book X out hX hQ hnl st a0 a1 a2 a3 a4 a5 hf)
abbrev zr_X7_sailingOf : Room := { frames := 2, cells := 0, slots := 0, locals := 43 }
def f_X7_sailingOf (st : zSt) (a0 : Int32) : Option (Int32 × zSt) := ((f_X7_hasBooking st a0).bind fun q1 => (if q1.1 = 0 then some (0, q1.2) else (if zin a0 40 then some (((q1.2.1 28 a0.toNatClampNeg) - 1), q1.2) else none)))
set_option maxHeartbeats 4000000 in
set_option maxRecDepth 100000 in
theorem t_X7_sailingOf (X : zCx) (out : Int32 × zSt) (hX : zOk X RX7 cX7_sailingOf zr_X7_sailingOf) (hQ : zPost X 42 shM (some .int) (some (.int out.1)) out.2) (hnl : X.nL = 2) (st : zSt) (a0 : Int32) (hf : f_X7_sailingOf st a0 = some out) : zG 42 shM X st 0 [(0, .ref (X.ad 0)), (1, .int a0)] [] := by
  unfold f_X7_sailingOf at hf
  refine z_aload_n hX 0 dX7_sailingOf_0 rfl rfl ?_
  refine z_iload_n hX 1 dX7_sailingOf_1 rfl rfl ?_
  obtain ⟨q1, e2, hf⟩ := zbind hf
  refine z_callV (stk := []) (stk' := [.int q1.1]) hX (c_X7_hasBooking X.l st a0 q1 e2) zb_X7_hasBooking 0 dX7_sailingOf_2 zm_1118 (by decide) shM_0 rfl rfl rfl rfl ⟨by decide, by decide⟩ ⟨rfl, rfl⟩ (Nat.le_of_ble_eq_true rfl) rfl ?_
  refine z_if_eq hX 19 dX7_sailingOf_5 (by decide) (fun c3 => ?_) (fun c3 => ?_)
  · have hf := (if_pos c3).symm.trans hf
    refine z_iconst (v := 0) hX dX7_sailingOf_19 (by decide) ?_
    obtain rfl := Option.some.inj hf
    exact z_iret hX hQ dX7_sailingOf_20 rfl
  have hf := (if_neg c3).symm.trans hf
  refine z_aload_n hX 0 dX7_sailingOf_8 rfl rfl ?_
  refine z_getR hX 0 32 28 dX7_sailingOf_9 (by decide) shM_0 rfl rfl zin_X7 (by decide) zm_812 ?_
  refine z_iload_n hX 1 dX7_sailingOf_12 rfl rfl ?_
  obtain ⟨i4, hf⟩ := zifd hf
  refine z_iald hX 28 dX7_sailingOf_13 (by decide) shM_28 i4 ?_
  refine z_iconst (v := 1) hX dX7_sailingOf_14 (by decide) ?_
  refine z_isub hX dX7_sailingOf_15 ?_
  refine z_goto hX 20 dX7_sailingOf_16 (by decide) ?_
  obtain rfl := Option.some.inj hf
  exact z_iret hX hQ dX7_sailingOf_20 rfl
theorem zb_X7_sailingOf : zCal yX7_sailingOf cX7_sailingOf 2 (some .int) 1 := ⟨zm_1115, (zwl_in zm_1116 rfl), zm_8, zm_1117, by decide, by decide, rfl⟩
theorem c_X7_sailingOf (l : Launch) (st : zSt) (a0 : Int32) (out : Int32 × zSt) (hf : f_X7_sailingOf st a0 = some out) : zMet l yX7_sailingOf cX7_sailingOf 2 (some .int) zr_X7_sailingOf 42 shM (fun ad => [.ref (ad 0), .int a0]) st (fun ad => some (.int out.1)) out.2 :=
  zmet_of (by decide +kernel) (fun _ => Nat.le_of_ble_eq_true rfl) (fun X _ hnl hX hQ => t_X7_sailingOf X out hX hQ hnl st a0 hf)
abbrev zr_X7_lane : Room := { frames := 2, cells := 0, slots := 0, locals := 43 }
def f_X7_lane (st : zSt) (a0 : Int32) : Option (Int32 × zSt) := ((f_X7_hasBooking st a0).bind fun q1 => (if q1.1 = 0 then some (0, q1.2) else (if zin a0 40 then some (((q1.2.1 38 a0.toNatClampNeg) - 1), q1.2) else none)))
set_option maxHeartbeats 4000000 in
set_option maxRecDepth 100000 in
theorem t_X7_lane (X : zCx) (out : Int32 × zSt) (hX : zOk X RX7 cX7_lane zr_X7_lane) (hQ : zPost X 42 shM (some .int) (some (.int out.1)) out.2) (hnl : X.nL = 2) (st : zSt) (a0 : Int32) (hf : f_X7_lane st a0 = some out) : zG 42 shM X st 0 [(0, .ref (X.ad 0)), (1, .int a0)] [] := by
  unfold f_X7_lane at hf
  refine z_aload_n hX 0 dX7_lane_0 rfl rfl ?_
  refine z_iload_n hX 1 dX7_lane_1 rfl rfl ?_
  obtain ⟨q1, e2, hf⟩ := zbind hf
  refine z_callV (stk := []) (stk' := [.int q1.1]) hX (c_X7_hasBooking X.l st a0 q1 e2) zb_X7_hasBooking 0 dX7_lane_2 zm_1118 (by decide) shM_0 rfl rfl rfl rfl ⟨by decide, by decide⟩ ⟨rfl, rfl⟩ (Nat.le_of_ble_eq_true rfl) rfl ?_
  refine z_if_eq hX 19 dX7_lane_5 (by decide) (fun c3 => ?_) (fun c3 => ?_)
  · have hf := (if_pos c3).symm.trans hf
    refine z_iconst (v := 0) hX dX7_lane_19 (by decide) ?_
    obtain rfl := Option.some.inj hf
    exact z_iret hX hQ dX7_lane_20 rfl
  have hf := (if_neg c3).symm.trans hf
  refine z_aload_n hX 0 dX7_lane_8 rfl rfl ?_
  refine z_getR hX 0 42 38 dX7_lane_9 (by decide) shM_0 rfl rfl zin_X7 (by decide) zm_822 ?_
  refine z_iload_n hX 1 dX7_lane_12 rfl rfl ?_
  obtain ⟨i4, hf⟩ := zifd hf
  refine z_iald hX 38 dX7_lane_13 (by decide) shM_38 i4 ?_
  refine z_iconst (v := 1) hX dX7_lane_14 (by decide) ?_
  refine z_isub hX dX7_lane_15 ?_
  refine z_goto hX 20 dX7_lane_16 (by decide) ?_
  obtain rfl := Option.some.inj hf
  exact z_iret hX hQ dX7_lane_20 rfl
theorem zb_X7_lane : zCal yX7_lane cX7_lane 2 (some .int) 1 := ⟨zm_1123, (zwl_in zm_1124 rfl), zm_8, zm_1125, by decide, by decide, rfl⟩
theorem c_X7_lane (l : Launch) (st : zSt) (a0 : Int32) (out : Int32 × zSt) (hf : f_X7_lane st a0 = some out) : zMet l yX7_lane cX7_lane 2 (some .int) zr_X7_lane 42 shM (fun ad => [.ref (ad 0), .int a0]) st (fun ad => some (.int out.1)) out.2 :=
  zmet_of (by decide +kernel) (fun _ => Nat.le_of_ble_eq_true rfl) (fun X _ hnl hX hQ => t_X7_lane X out hX hQ hnl st a0 hf)
abbrev zr_X7_paid : Room := { frames := 2, cells := 0, slots := 0, locals := 43 }
def f_X7_paid (st : zSt) (a0 : Int32) : Option (Int32 × zSt) := ((f_X7_hasBooking st a0).bind fun q1 => (if q1.1 = 0 then some (0, q1.2) else (if zin a0 40 then some ((q1.2.1 34 a0.toNatClampNeg), q1.2) else none)))
set_option maxHeartbeats 4000000 in
set_option maxRecDepth 100000 in
theorem t_X7_paid (X : zCx) (out : Int32 × zSt) (hX : zOk X RX7 cX7_paid zr_X7_paid) (hQ : zPost X 42 shM (some .int) (some (.int out.1)) out.2) (hnl : X.nL = 2) (st : zSt) (a0 : Int32) (hf : f_X7_paid st a0 = some out) : zG 42 shM X st 0 [(0, .ref (X.ad 0)), (1, .int a0)] [] := by
  unfold f_X7_paid at hf
  refine z_aload_n hX 0 dX7_paid_0 rfl rfl ?_
  refine z_iload_n hX 1 dX7_paid_1 rfl rfl ?_
  obtain ⟨q1, e2, hf⟩ := zbind hf
  refine z_callV (stk := []) (stk' := [.int q1.1]) hX (c_X7_hasBooking X.l st a0 q1 e2) zb_X7_hasBooking 0 dX7_paid_2 zm_1118 (by decide) shM_0 rfl rfl rfl rfl ⟨by decide, by decide⟩ ⟨rfl, rfl⟩ (Nat.le_of_ble_eq_true rfl) rfl ?_
  refine z_if_eq hX 17 dX7_paid_5 (by decide) (fun c3 => ?_) (fun c3 => ?_)
  · have hf := (if_pos c3).symm.trans hf
    refine z_iconst (v := 0) hX dX7_paid_17 (by decide) ?_
    obtain rfl := Option.some.inj hf
    exact z_iret hX hQ dX7_paid_18 rfl
  have hf := (if_neg c3).symm.trans hf
  refine z_aload_n hX 0 dX7_paid_8 rfl rfl ?_
  refine z_getR hX 0 38 34 dX7_paid_9 (by decide) shM_0 rfl rfl zin_X7 (by decide) zm_818 ?_
  refine z_iload_n hX 1 dX7_paid_12 rfl rfl ?_
  obtain ⟨i4, hf⟩ := zifd hf
  refine z_iald hX 34 dX7_paid_13 (by decide) shM_34 i4 ?_
  refine z_goto hX 18 dX7_paid_14 (by decide) ?_
  obtain rfl := Option.some.inj hf
  exact z_iret hX hQ dX7_paid_18 rfl
theorem zb_X7_paid : zCal yX7_paid cX7_paid 2 (some .int) 1 := ⟨zm_1127, (zwl_in zm_1128 rfl), zm_8, zm_1129, by decide, by decide, rfl⟩
theorem c_X7_paid (l : Launch) (st : zSt) (a0 : Int32) (out : Int32 × zSt) (hf : f_X7_paid st a0 = some out) : zMet l yX7_paid cX7_paid 2 (some .int) zr_X7_paid 42 shM (fun ad => [.ref (ad 0), .int a0]) st (fun ad => some (.int out.1)) out.2 :=
  zmet_of (by decide +kernel) (fun _ => Nat.le_of_ble_eq_true rfl) (fun X _ hnl hX hQ => t_X7_paid X out hX hQ hnl st a0 hf)
abbrev zr_X7_taken : Room := { frames := 2, cells := 0, slots := 0, locals := 43 }
def f_X7_taken_4  : Nat → zSt → Int32 → Int32 → Int32 → Option (Int32 × zSt)
  | 0, _, _, _, _ => none
  | n + 1, st, v1, v2, v3 => ((f_X7_hasSailing st v1).bind fun q1 => (if q1.1 = 0 then some (v2, q1.2) else (if (q1.2.1 0 30) ≤ v3 then some (v2, q1.2) else (if zin v3 40 then (if (q1.2.1 28 v3.toNatClampNeg) = (v1 + 1) then (if zin v3 40 then (if (q1.2.1 37 v3.toNatClampNeg) = 1 then f_X7_taken_4 n q1.2 v1 (v2 + 1) (v3 + 1) else f_X7_taken_4 n q1.2 v1 (v2 + 0) (v3 + 1)) else none) else f_X7_taken_4 n q1.2 v1 (v2 + 0) (v3 + 1)) else none))))
def f_X7_taken (st : zSt) (a0 : Int32) : Option (Int32 × zSt) := f_X7_taken_4 64 st a0 0 0
set_option maxHeartbeats 4000000 in
set_option maxRecDepth 100000 in
theorem t_X7_taken_4 (X : zCx) (out : Int32 × zSt) (hX : zOk X RX7 cX7_taken zr_X7_taken) (hQ : zPost X 42 shM (some .int) (some (.int out.1)) out.2) (hnl : X.nL = 4) : ∀ (n : Nat) (st : zSt) (v1 : Int32) (v2 : Int32) (v3 : Int32), f_X7_taken_4  n st v1 v2 v3 = some out → zG 42 shM X st 4 [(0, .ref (X.ad 0)), (1, .int v1), (2, .int v2), (3, .int v3)] [] := by
  intro n
  induction n with
  | zero => intro st v1 v2 v3 hf; rw [f_X7_taken_4] at hf; exact (znone hf).elim
  | succ n ih =>
    intro st v1 v2 v3 hf
    rw [f_X7_taken_4] at hf
    refine z_aload_n hX 0 dX7_taken_4 rfl rfl ?_
    refine z_iload_n hX 1 dX7_taken_5 rfl rfl ?_
    obtain ⟨q1, e2, hf⟩ := zbind hf
    refine z_callV (stk := []) (stk' := [.int q1.1]) hX (c_X7_hasSailing X.l st v1 q1 e2) zb_X7_hasSailing 0 dX7_taken_6 zm_1018 (by decide) shM_0 rfl rfl rfl rfl ⟨by decide, by decide⟩ ⟨rfl, rfl⟩ (Nat.le_of_ble_eq_true rfl) rfl ?_
    refine z_if_eq hX 56 dX7_taken_9 (by decide) (fun c3 => ?_) (fun c3 => ?_)
    · have hf := (if_pos c3).symm.trans hf
      refine z_iload_n hX 2 dX7_taken_56 rfl rfl ?_
      obtain rfl := Option.some.inj hf
      exact z_iret hX hQ dX7_taken_57 rfl
    have hf := (if_neg c3).symm.trans hf
    refine z_iload_n hX 3 dX7_taken_12 rfl rfl ?_
    refine z_aload_n hX 0 dX7_taken_13 rfl rfl ?_
    refine z_getI hX 0 30 dX7_taken_14 (by decide) shM_0 rfl rfl zin_X7 (by decide) zm_810 ?_
    refine z_icmp_ge hX 56 dX7_taken_17 (by decide) (fun c4 => ?_) (fun c4 => ?_)
    · have hf := (if_pos c4).symm.trans hf
      refine z_iload_n hX 2 dX7_taken_56 rfl rfl ?_
      obtain rfl := Option.some.inj hf
      exact z_iret hX hQ dX7_taken_57 rfl
    have hf := (if_neg c4).symm.trans hf
    refine z_iload_n hX 2 dX7_taken_20 rfl rfl ?_
    refine z_aload_n hX 0 dX7_taken_21 rfl rfl ?_
    refine z_getR hX 0 32 28 dX7_taken_22 (by decide) shM_0 rfl rfl zin_X7 (by decide) zm_812 ?_
    refine z_iload_n hX 3 dX7_taken_25 rfl rfl ?_
    obtain ⟨i5, hf⟩ := zifd hf
    refine z_iald hX 28 dX7_taken_26 (by decide) shM_28 i5 ?_
    refine z_iload_n hX 1 dX7_taken_27 rfl rfl ?_
    refine z_iconst (v := 1) hX dX7_taken_28 (by decide) ?_
    refine z_iadd hX dX7_taken_29 ?_
    refine z_icmp_ne hX 47 dX7_taken_30 (by decide) (fun c6 => ?_) (fun c6 => ?_)
    · have hf := (if_neg c6).symm.trans hf
      refine z_iconst (v := 0) hX dX7_taken_47 (by decide) ?_
      refine z_iadd hX dX7_taken_48 ?_
      refine z_istore_n hX [(0, .ref (X.ad 0)), (1, .int v1), (2, .int (v2 + 0)), (3, .int v3)] dX7_taken_49 rfl (by rw [hnl]; decide) [1, 2, 0, 3] rfl ?_
      refine z_iinc (j := 3) (v := 1) hX [(0, .ref (X.ad 0)), (1, .int v1), (2, .int (v2 + 0)), (3, .int (v3 + 1))] dX7_taken_50 rfl (by decide) (by rw [hnl]; decide) [1, 2, 3, 0] rfl ?_
      refine z_goto hX 4 dX7_taken_53 (by decide) ?_
      exact ih q1.2 v1 (v2 + 0) (v3 + 1) hf
    have hf := (if_pos c6).symm.trans hf
    refine z_aload_n hX 0 dX7_taken_33 rfl rfl ?_
    refine z_getR hX 0 41 37 dX7_taken_34 (by decide) shM_0 rfl rfl zin_X7 (by decide) zm_821 ?_
    refine z_iload_n hX 3 dX7_taken_37 rfl rfl ?_
    obtain ⟨i7, hf⟩ := zifd hf
    refine z_iald hX 37 dX7_taken_38 (by decide) shM_37 i7 ?_
    refine z_iconst (v := 1) hX dX7_taken_39 (by decide) ?_
    refine z_icmp_ne hX 47 dX7_taken_40 (by decide) (fun c8 => ?_) (fun c8 => ?_)
    · have hf := (if_neg c8).symm.trans hf
      refine z_iconst (v := 0) hX dX7_taken_47 (by decide) ?_
      refine z_iadd hX dX7_taken_48 ?_
      refine z_istore_n hX [(0, .ref (X.ad 0)), (1, .int v1), (2, .int (v2 + 0)), (3, .int v3)] dX7_taken_49 rfl (by rw [hnl]; decide) [1, 2, 0, 3] rfl ?_
      refine z_iinc (j := 3) (v := 1) hX [(0, .ref (X.ad 0)), (1, .int v1), (2, .int (v2 + 0)), (3, .int (v3 + 1))] dX7_taken_50 rfl (by decide) (by rw [hnl]; decide) [1, 2, 3, 0] rfl ?_
      refine z_goto hX 4 dX7_taken_53 (by decide) ?_
      exact ih q1.2 v1 (v2 + 0) (v3 + 1) hf
    have hf := (if_pos c8).symm.trans hf
    refine z_iconst (v := 1) hX dX7_taken_43 (by decide) ?_
    refine z_goto hX 48 dX7_taken_44 (by decide) ?_
    refine z_iadd hX dX7_taken_48 ?_
    refine z_istore_n hX [(0, .ref (X.ad 0)), (1, .int v1), (2, .int (v2 + 1)), (3, .int v3)] dX7_taken_49 rfl (by rw [hnl]; decide) [1, 2, 0, 3] rfl ?_
    refine z_iinc (j := 3) (v := 1) hX [(0, .ref (X.ad 0)), (1, .int v1), (2, .int (v2 + 1)), (3, .int (v3 + 1))] dX7_taken_50 rfl (by decide) (by rw [hnl]; decide) [1, 2, 3, 0] rfl ?_
    refine z_goto hX 4 dX7_taken_53 (by decide) ?_
    exact ih q1.2 v1 (v2 + 1) (v3 + 1) hf
set_option maxHeartbeats 4000000 in
set_option maxRecDepth 100000 in
theorem t_X7_taken (X : zCx) (out : Int32 × zSt) (hX : zOk X RX7 cX7_taken zr_X7_taken) (hQ : zPost X 42 shM (some .int) (some (.int out.1)) out.2) (hnl : X.nL = 4) (st : zSt) (a0 : Int32) (hf : f_X7_taken st a0 = some out) : zG 42 shM X st 0 [(0, .ref (X.ad 0)), (1, .int a0)] [] := by
  unfold f_X7_taken at hf
  refine z_iconst (v := 0) hX dX7_taken_0 (by decide) ?_
  refine z_istore_n hX [(0, .ref (X.ad 0)), (1, .int a0), (2, .int 0)] dX7_taken_1 rfl (by rw [hnl]; decide) [1, 2, 0] rfl ?_
  refine z_iconst (v := 0) hX dX7_taken_2 (by decide) ?_
  refine z_istore_n hX [(0, .ref (X.ad 0)), (1, .int a0), (2, .int 0), (3, .int 0)] dX7_taken_3 rfl (by rw [hnl]; decide) [1, 2, 3, 0] rfl ?_
  exact t_X7_taken_4 X out hX hQ hnl 64 st a0 0 0 hf
theorem zb_X7_taken : zCal yX7_taken cX7_taken 4 (some .int) 1 := ⟨zm_1131, (zwl_in zm_1132 rfl), zm_8, zm_1133, by decide, by decide, rfl⟩
theorem c_X7_taken (l : Launch) (st : zSt) (a0 : Int32) (out : Int32 × zSt) (hf : f_X7_taken st a0 = some out) : zMet l yX7_taken cX7_taken 4 (some .int) zr_X7_taken 42 shM (fun ad => [.ref (ad 0), .int a0]) st (fun ad => some (.int out.1)) out.2 :=
  zmet_of (by decide +kernel) (fun _ => Nat.le_of_ble_eq_true rfl) (fun X _ hnl hX hQ => t_X7_taken X out hX hQ hnl st a0 hf)
abbrev zr_X7_list : Room := { frames := 2, cells := 0, slots := 0, locals := 43 }
def f_X7_list_29  (st : zSt) (v1 : Int32) : Option (Int32 × zSt) := (if (st.1 0 52) = 0 then (if zin v1 24 then (if zin v1 24 then some (((st.1 25 v1.toNatClampNeg) - (st.1 26 v1.toNatClampNeg)), st) else none) else none) else some (0, st))
def f_X7_list (st : zSt) (a0 : Int32) : Option (Int32 × zSt) := ((f_X7_hasSailing st a0).bind fun q1 => (if q1.1 = 0 then some (0, q1.2) else (if zin a0 24 then (if (q1.2.1 22 a0.toNatClampNeg) = 2 then (zlet (zwI q1.2 0 52 0) fun s8 => f_X7_list_29 s8 a0) else (zlet (zwI q1.2 0 52 2) fun s6 => f_X7_list_29 s6 a0)) else none)))
set_option maxHeartbeats 4000000 in
set_option maxRecDepth 100000 in
theorem t_X7_list_29 (X : zCx) (out : Int32 × zSt) (hX : zOk X RX7 cX7_list zr_X7_list) (hQ : zPost X 42 shM (some .int) (some (.int out.1)) out.2) (hnl : X.nL = 2) (st : zSt) (v1 : Int32) (hf : f_X7_list_29  st v1 = some out) : zG 42 shM X st 29 [(0, .ref (X.ad 0)), (1, .int v1)] [] := by
  unfold f_X7_list_29 at hf
  refine z_aload_n hX 0 dX7_list_29 rfl rfl ?_
  refine z_getI hX 0 52 dX7_list_30 (by decide) shM_0 rfl rfl zin_X7 (by decide) zm_832 ?_
  refine z_if_ne hX 52 dX7_list_33 (by decide) (fun c10 => ?_) (fun c10 => ?_)
  · have hf := (if_neg c10).symm.trans hf
    refine z_iconst (v := 0) hX dX7_list_52 (by decide) ?_
    obtain rfl := Option.some.inj hf
    exact z_iret hX hQ dX7_list_53 rfl
  have hf := (if_pos c10).symm.trans hf
  refine z_aload_n hX 0 dX7_list_36 rfl rfl ?_
  refine z_getR hX 0 28 25 dX7_list_37 (by decide) shM_0 rfl rfl zin_X7 (by decide) zm_808 ?_
  refine z_iload_n hX 1 dX7_list_40 rfl rfl ?_
  obtain ⟨i11, hf⟩ := zifd hf
  refine z_iald hX 25 dX7_list_41 (by decide) shM_25 i11 ?_
  refine z_aload_n hX 0 dX7_list_42 rfl rfl ?_
  refine z_getR hX 0 29 26 dX7_list_43 (by decide) shM_0 rfl rfl zin_X7 (by decide) zm_809 ?_
  refine z_iload_n hX 1 dX7_list_46 rfl rfl ?_
  obtain ⟨i12, hf⟩ := zifd hf
  refine z_iald hX 26 dX7_list_47 (by decide) shM_26 i12 ?_
  refine z_isub hX dX7_list_48 ?_
  refine z_goto hX 53 dX7_list_49 (by decide) ?_
  obtain rfl := Option.some.inj hf
  exact z_iret hX hQ dX7_list_53 rfl
set_option maxHeartbeats 4000000 in
set_option maxRecDepth 100000 in
theorem t_X7_list (X : zCx) (out : Int32 × zSt) (hX : zOk X RX7 cX7_list zr_X7_list) (hQ : zPost X 42 shM (some .int) (some (.int out.1)) out.2) (hnl : X.nL = 2) (st : zSt) (a0 : Int32) (hf : f_X7_list st a0 = some out) : zG 42 shM X st 0 [(0, .ref (X.ad 0)), (1, .int a0)] [] := by
  unfold f_X7_list at hf
  refine z_aload_n hX 0 dX7_list_0 rfl rfl ?_
  refine z_iload_n hX 1 dX7_list_1 rfl rfl ?_
  obtain ⟨q1, e2, hf⟩ := zbind hf
  refine z_callV (stk := []) (stk' := [.int q1.1]) hX (c_X7_hasSailing X.l st a0 q1 e2) zb_X7_hasSailing 0 dX7_list_2 zm_1018 (by decide) shM_0 rfl rfl rfl rfl ⟨by decide, by decide⟩ ⟨rfl, rfl⟩ (Nat.le_of_ble_eq_true rfl) rfl ?_
  refine z_if_ne hX 10 dX7_list_5 (by decide) (fun c3 => ?_) (fun c3 => ?_)
  · have hf := (if_neg c3).symm.trans hf
    refine z_aload_n hX 0 dX7_list_10 rfl rfl ?_
    refine z_aload_n hX 0 dX7_list_11 rfl rfl ?_
    refine z_getR hX 0 25 22 dX7_list_12 (by decide) shM_0 rfl rfl zin_X7 (by decide) zm_805 ?_
    refine z_iload_n hX 1 dX7_list_15 rfl rfl ?_
    obtain ⟨i4, hf⟩ := zifd hf
    refine z_iald hX 22 dX7_list_16 (by decide) shM_22 i4 ?_
    refine z_iconst (v := 2) hX dX7_list_17 (by decide) ?_
    refine z_icmp_ne hX 25 dX7_list_18 (by decide) (fun c5 => ?_) (fun c5 => ?_)
    · have hf := (if_neg c5).symm.trans hf
      refine z_iconst (v := 2) hX dX7_list_25 (by decide) ?_
      refine z_putI hX 0 52 dX7_list_26 (by decide) shM_0 rfl rfl zin_X7 tyX7_ok nmX7 (by decide) zm_832 rfl rfl ?_
      obtain ⟨s6, h7, hf⟩ := zlet_ex hf
      refine z_name h7 ?_
      exact t_X7_list_29 X out hX hQ hnl s6 a0 hf
    have hf := (if_pos c5).symm.trans hf
    refine z_iconst (v := 0) hX dX7_list_21 (by decide) ?_
    refine z_goto hX 26 dX7_list_22 (by decide) ?_
    refine z_putI hX 0 52 dX7_list_26 (by decide) shM_0 rfl rfl zin_X7 tyX7_ok nmX7 (by decide) zm_832 rfl rfl ?_
    obtain ⟨s8, h9, hf⟩ := zlet_ex hf
    refine z_name h9 ?_
    exact t_X7_list_29 X out hX hQ hnl s8 a0 hf
  have hf := (if_pos c3).symm.trans hf
  refine z_iconst (v := 0) hX dX7_list_8 (by decide) ?_
  obtain rfl := Option.some.inj hf
  exact z_iret hX hQ dX7_list_9 rfl
theorem zb_X7_list : zCal yX7_list cX7_list 2 (some .int) 1 := ⟨zm_1135, (zwl_in zm_1136 rfl), zm_8, zm_1137, by decide, by decide, rfl⟩
theorem c_X7_list (l : Launch) (st : zSt) (a0 : Int32) (out : Int32 × zSt) (hf : f_X7_list st a0 = some out) : zMet l yX7_list cX7_list 2 (some .int) zr_X7_list 42 shM (fun ad => [.ref (ad 0), .int a0]) st (fun ad => some (.int out.1)) out.2 :=
  zmet_of (by decide +kernel) (fun _ => Nat.le_of_ble_eq_true rfl) (fun X _ hnl hX hQ => t_X7_list X out hX hQ hnl st a0 hf)
abbrev zr_X7_account : Room := { frames := 1, cells := 0, slots := 0, locals := 22 }
def f_X7_account_18  (st : zSt) (v1 : Int32) : Option (Int64 × zSt) := (if (st.1 0 52) ≤ 0 then (if v1 = 0 then some ((st.2 0 49), st) else (if v1 = 1 then some ((st.2 0 50), st) else some ((st.2 0 51), st))) else some (0, st))
def f_X7_account (st : zSt) (a0 : Int32) : Option (Int64 × zSt) := ((f_X7_in st a0 0 2).bind fun q1 => (if q1.1 = 0 then (zlet (zwI q1.2 0 52 1) fun s4 => f_X7_account_18 s4 a0) else (zlet (zwI q1.2 0 52 0) fun s6 => f_X7_account_18 s6 a0)))
set_option maxHeartbeats 4000000 in
set_option maxRecDepth 100000 in
theorem t_X7_account_18 (X : zCx) (out : Int64 × zSt) (hX : zOk X RX7 cX7_account zr_X7_account) (hQ : zPost X 42 shM (some .long) (some (.long out.1)) out.2) (hnl : X.nL = 2) (st : zSt) (v1 : Int32) (hf : f_X7_account_18  st v1 = some out) : zG 42 shM X st 18 [(0, .ref (X.ad 0)), (1, .int v1)] [] := by
  unfold f_X7_account_18 at hf
  refine z_aload_n hX 0 dX7_account_18 rfl rfl ?_
  refine z_getI hX 0 52 dX7_account_19 (by decide) shM_0 rfl rfl zin_X7 (by decide) zm_832 ?_
  refine z_if_le hX 29 dX7_account_22 (by decide) (fun c8 => ?_) (fun c8 => ?_)
  · have hf := (if_pos c8).symm.trans hf
    refine z_iload_n hX 1 dX7_account_29 rfl rfl ?_
    refine z_if_ne hX 40 dX7_account_30 (by decide) (fun c9 => ?_) (fun c9 => ?_)
    · have hf := (if_neg c9).symm.trans hf
      refine z_iload_n hX 1 dX7_account_40 rfl rfl ?_
      refine z_iconst (v := 1) hX dX7_account_41 (by decide) ?_
      refine z_icmp_ne hX 52 dX7_account_42 (by decide) (fun c10 => ?_) (fun c10 => ?_)
      · have hf := (if_neg c10).symm.trans hf
        refine z_aload_n hX 0 dX7_account_52 rfl rfl ?_
        refine z_getL hX 0 51 dX7_account_53 (by decide) shM_0 rfl rfl zin_X7 (by decide) zm_831 ?_
        obtain rfl := Option.some.inj hf
        exact z_lret hX hQ dX7_account_56
      have hf := (if_pos c10).symm.trans hf
      refine z_aload_n hX 0 dX7_account_45 rfl rfl ?_
      refine z_getL hX 0 50 dX7_account_46 (by decide) shM_0 rfl rfl zin_X7 (by decide) zm_830 ?_
      refine z_goto hX 56 dX7_account_49 (by decide) ?_
      obtain rfl := Option.some.inj hf
      exact z_lret hX hQ dX7_account_56
    have hf := (if_pos c9).symm.trans hf
    refine z_aload_n hX 0 dX7_account_33 rfl rfl ?_
    refine z_getL hX 0 49 dX7_account_34 (by decide) shM_0 rfl rfl zin_X7 (by decide) zm_829 ?_
    refine z_goto hX 56 dX7_account_37 (by decide) ?_
    obtain rfl := Option.some.inj hf
    exact z_lret hX hQ dX7_account_56
  have hf := (if_neg c8).symm.trans hf
  refine z_lconst (v := 0) hX dX7_account_25 (by decide) ?_
  refine z_goto hX 56 dX7_account_26 (by decide) ?_
  obtain rfl := Option.some.inj hf
  exact z_lret hX hQ dX7_account_56
set_option maxHeartbeats 4000000 in
set_option maxRecDepth 100000 in
theorem t_X7_account (X : zCx) (out : Int64 × zSt) (hX : zOk X RX7 cX7_account zr_X7_account) (hQ : zPost X 42 shM (some .long) (some (.long out.1)) out.2) (hnl : X.nL = 2) (st : zSt) (a0 : Int32) (hf : f_X7_account st a0 = some out) : zG 42 shM X st 0 [(0, .ref (X.ad 0)), (1, .int a0)] [] := by
  unfold f_X7_account at hf
  refine z_aload_n hX 0 dX7_account_0 rfl rfl ?_
  refine z_iload_n hX 1 dX7_account_1 rfl rfl ?_
  refine z_iconst (v := 0) hX dX7_account_2 (by decide) ?_
  refine z_iconst (v := 2) hX dX7_account_3 (by decide) ?_
  obtain ⟨q1, e2, hf⟩ := zbind hf
  refine z_callS (stk := [.ref (X.ad 0)]) (stk' := [.int q1.1, .ref (X.ad 0)]) hX (c_X7_in X.l st a0 0 2 q1 e2) zb_X7_in dX7_account_4 zm_951 rfl rfl rfl ⟨by decide, by decide⟩ ⟨rfl, rfl⟩ (Nat.le_of_ble_eq_true rfl) rfl ?_
  refine z_if_eq hX 14 dX7_account_7 (by decide) (fun c3 => ?_) (fun c3 => ?_)
  · have hf := (if_pos c3).symm.trans hf
    refine z_iconst (v := 1) hX dX7_account_14 (by decide) ?_
    refine z_putI hX 0 52 dX7_account_15 (by decide) shM_0 rfl rfl zin_X7 tyX7_ok nmX7 (by decide) zm_832 rfl rfl ?_
    obtain ⟨s4, h5, hf⟩ := zlet_ex hf
    refine z_name h5 ?_
    exact t_X7_account_18 X out hX hQ hnl s4 a0 hf
  have hf := (if_neg c3).symm.trans hf
  refine z_iconst (v := 0) hX dX7_account_10 (by decide) ?_
  refine z_goto hX 15 dX7_account_11 (by decide) ?_
  refine z_putI hX 0 52 dX7_account_15 (by decide) shM_0 rfl rfl zin_X7 tyX7_ok nmX7 (by decide) zm_832 rfl rfl ?_
  obtain ⟨s6, h7, hf⟩ := zlet_ex hf
  refine z_name h7 ?_
  exact t_X7_account_18 X out hX hQ hnl s6 a0 hf
theorem zb_X7_account : zCal yX7_account cX7_account 2 (some .long) 1 := ⟨zm_1139, (zwl_in zm_1140 rfl), zm_8, zm_1141, by decide, by decide, rfl⟩
theorem c_X7_account (l : Launch) (st : zSt) (a0 : Int32) (out : Int64 × zSt) (hf : f_X7_account st a0 = some out) : zMet l yX7_account cX7_account 2 (some .long) zr_X7_account 42 shM (fun ad => [.ref (ad 0), .int a0]) st (fun ad => some (.long out.1)) out.2 :=
  zmet_of (by decide +kernel) (fun _ => Nat.le_of_ble_eq_true rfl) (fun X _ hnl hX hQ => t_X7_account X out hX hQ hnl st a0 hf)
abbrev zr_X7_accountAnew : Room := { frames := 1, cells := 0, slots := 0, locals := 22 }
def f_X7_accountAnew_23  : Nat → zSt → Int32 → Int64 → Int32 → Option (Int64 × zSt)
  | 0, _, _, _, _ => none
  | n + 1, st, v1, v2, v4 => (if (st.1 0 52) = 0 then (if (st.1 0 30) ≤ v4 then some (v2, st) else (if v1 = 0 then (if zin v4 40 then f_X7_accountAnew_23 n st v1 (v2 + (((st.1 34 v4.toNatClampNeg)).toInt64)) (v4 + 1) else none) else (if zin v4 40 then f_X7_accountAnew_23 n st v1 (v2 + (((st.1 35 v4.toNatClampNeg)).toInt64)) (v4 + 1) else none))) else some (v2, st))
def f_X7_accountAnew (st : zSt) (a0 : Int32) : Option (Int64 × zSt) := ((f_X7_in st a0 0 1).bind fun q1 => (if q1.1 = 0 then (zlet (zwI q1.2 0 52 1) fun s4 => f_X7_accountAnew_23 64 s4 a0 0 0) else (zlet (zwI q1.2 0 52 0) fun s6 => f_X7_accountAnew_23 64 s6 a0 0 0)))
set_option maxHeartbeats 4000000 in
set_option maxRecDepth 100000 in
theorem t_X7_accountAnew_23 (X : zCx) (out : Int64 × zSt) (hX : zOk X RX7 cX7_accountAnew zr_X7_accountAnew) (hQ : zPost X 42 shM (some .long) (some (.long out.1)) out.2) (hnl : X.nL = 5) : ∀ (n : Nat) (st : zSt) (v1 : Int32) (v2 : Int64) (v4 : Int32), f_X7_accountAnew_23  n st v1 v2 v4 = some out → zG 42 shM X st 23 [(0, .ref (X.ad 0)), (1, .int v1), (2, .long v2), (4, .int v4)] [] := by
  intro n
  induction n with
  | zero => intro st v1 v2 v4 hf; rw [f_X7_accountAnew_23] at hf; exact (znone hf).elim
  | succ n ih =>
    intro st v1 v2 v4 hf
    rw [f_X7_accountAnew_23] at hf
    refine z_aload_n hX 0 dX7_accountAnew_23 rfl rfl ?_
    refine z_getI hX 0 52 dX7_accountAnew_24 (by decide) shM_0 rfl rfl zin_X7 (by decide) zm_832 ?_
    refine z_if_ne hX 71 dX7_accountAnew_27 (by decide) (fun c8 => ?_) (fun c8 => ?_)
    · have hf := (if_neg c8).symm.trans hf
      refine z_lload_n hX 2 dX7_accountAnew_71 rfl rfl ?_
      obtain rfl := Option.some.inj hf
      exact z_lret hX hQ dX7_accountAnew_72
    have hf := (if_pos c8).symm.trans hf
    refine z_iload hX 3 dX7_accountAnew_30 rfl ?_
    refine z_aload_n hX 0 dX7_accountAnew_32 rfl rfl ?_
    refine z_getI hX 0 30 dX7_accountAnew_33 (by decide) shM_0 rfl rfl zin_X7 (by decide) zm_810 ?_
    refine z_icmp_ge hX 71 dX7_accountAnew_36 (by decide) (fun c9 => ?_) (fun c9 => ?_)
    · have hf := (if_pos c9).symm.trans hf
      refine z_lload_n hX 2 dX7_accountAnew_71 rfl rfl ?_
      obtain rfl := Option.some.inj hf
      exact z_lret hX hQ dX7_accountAnew_72
    have hf := (if_neg c9).symm.trans hf
    refine z_lload_n hX 2 dX7_accountAnew_39 rfl rfl ?_
    refine z_iload_n hX 1 dX7_accountAnew_40 rfl rfl ?_
    refine z_if_ne hX 55 dX7_accountAnew_41 (by decide) (fun c10 => ?_) (fun c10 => ?_)
    · have hf := (if_neg c10).symm.trans hf
      refine z_aload_n hX 0 dX7_accountAnew_55 rfl rfl ?_
      refine z_getR hX 0 39 35 dX7_accountAnew_56 (by decide) shM_0 rfl rfl zin_X7 (by decide) zm_819 ?_
      refine z_iload hX 3 dX7_accountAnew_59 rfl ?_
      obtain ⟨i11, hf⟩ := zifd hf
      refine z_iald hX 35 dX7_accountAnew_61 (by decide) shM_35 i11 ?_
      refine z_i2l hX dX7_accountAnew_62 ?_
      refine z_ladd hX dX7_accountAnew_63 ?_
      refine z_lstore_n hX [(0, .ref (X.ad 0)), (1, .int v1), (2, .long (v2 + (((st.1 35 v4.toNatClampNeg)).toInt64))), (4, .int v4)] dX7_accountAnew_64 rfl (by rw [hnl]; decide) [1, 2, 0, 3] rfl ?_
      refine z_iinc (j := 3) (v := 1) hX [(0, .ref (X.ad 0)), (1, .int v1), (2, .long (v2 + (((st.1 35 v4.toNatClampNeg)).toInt64))), (4, .int (v4 + 1))] dX7_accountAnew_65 rfl (by decide) (by rw [hnl]; decide) [1, 2, 3, 0] rfl ?_
      refine z_goto hX 23 dX7_accountAnew_68 (by decide) ?_
      exact ih st v1 (v2 + (((st.1 35 v4.toNatClampNeg)).toInt64)) (v4 + 1) hf
    have hf := (if_pos c10).symm.trans hf
    refine z_aload_n hX 0 dX7_accountAnew_44 rfl rfl ?_
    refine z_getR hX 0 38 34 dX7_accountAnew_45 (by decide) shM_0 rfl rfl zin_X7 (by decide) zm_818 ?_
    refine z_iload hX 3 dX7_accountAnew_48 rfl ?_
    obtain ⟨i12, hf⟩ := zifd hf
    refine z_iald hX 34 dX7_accountAnew_50 (by decide) shM_34 i12 ?_
    refine z_i2l hX dX7_accountAnew_51 ?_
    refine z_goto hX 63 dX7_accountAnew_52 (by decide) ?_
    refine z_ladd hX dX7_accountAnew_63 ?_
    refine z_lstore_n hX [(0, .ref (X.ad 0)), (1, .int v1), (2, .long (v2 + (((st.1 34 v4.toNatClampNeg)).toInt64))), (4, .int v4)] dX7_accountAnew_64 rfl (by rw [hnl]; decide) [1, 2, 0, 3] rfl ?_
    refine z_iinc (j := 3) (v := 1) hX [(0, .ref (X.ad 0)), (1, .int v1), (2, .long (v2 + (((st.1 34 v4.toNatClampNeg)).toInt64))), (4, .int (v4 + 1))] dX7_accountAnew_65 rfl (by decide) (by rw [hnl]; decide) [1, 2, 3, 0] rfl ?_
    refine z_goto hX 23 dX7_accountAnew_68 (by decide) ?_
    exact ih st v1 (v2 + (((st.1 34 v4.toNatClampNeg)).toInt64)) (v4 + 1) hf
set_option maxHeartbeats 4000000 in
set_option maxRecDepth 100000 in
theorem t_X7_accountAnew (X : zCx) (out : Int64 × zSt) (hX : zOk X RX7 cX7_accountAnew zr_X7_accountAnew) (hQ : zPost X 42 shM (some .long) (some (.long out.1)) out.2) (hnl : X.nL = 5) (st : zSt) (a0 : Int32) (hf : f_X7_accountAnew st a0 = some out) : zG 42 shM X st 0 [(0, .ref (X.ad 0)), (1, .int a0)] [] := by
  unfold f_X7_accountAnew at hf
  refine z_aload_n hX 0 dX7_accountAnew_0 rfl rfl ?_
  refine z_iload_n hX 1 dX7_accountAnew_1 rfl rfl ?_
  refine z_iconst (v := 0) hX dX7_accountAnew_2 (by decide) ?_
  refine z_iconst (v := 1) hX dX7_accountAnew_3 (by decide) ?_
  obtain ⟨q1, e2, hf⟩ := zbind hf
  refine z_callS (stk := [.ref (X.ad 0)]) (stk' := [.int q1.1, .ref (X.ad 0)]) hX (c_X7_in X.l st a0 0 1 q1 e2) zb_X7_in dX7_accountAnew_4 zm_951 rfl rfl rfl ⟨by decide, by decide⟩ ⟨rfl, rfl⟩ (Nat.le_of_ble_eq_true rfl) rfl ?_
  refine z_if_eq hX 14 dX7_accountAnew_7 (by decide) (fun c3 => ?_) (fun c3 => ?_)
  · have hf := (if_pos c3).symm.trans hf
    refine z_iconst (v := 1) hX dX7_accountAnew_14 (by decide) ?_
    refine z_putI hX 0 52 dX7_accountAnew_15 (by decide) shM_0 rfl rfl zin_X7 tyX7_ok nmX7 (by decide) zm_832 rfl rfl ?_
    obtain ⟨s4, h5, hf⟩ := zlet_ex hf
    refine z_name h5 ?_
    refine z_lconst (v := 0) hX dX7_accountAnew_18 (by decide) ?_
    refine z_lstore_n hX [(0, .ref (X.ad 0)), (1, .int a0), (2, .long 0)] dX7_accountAnew_19 rfl (by rw [hnl]; decide) [1, 2, 0] rfl ?_
    refine z_iconst (v := 0) hX dX7_accountAnew_20 (by decide) ?_
    refine z_istore hX [(0, .ref (X.ad 0)), (1, .int a0), (2, .long 0), (4, .int 0)] dX7_accountAnew_21 (by rw [hnl]; decide) [1, 2, 3, 0] rfl ?_
    exact t_X7_accountAnew_23 X out hX hQ hnl 64 s4 a0 0 0 hf
  have hf := (if_neg c3).symm.trans hf
  refine z_iconst (v := 0) hX dX7_accountAnew_10 (by decide) ?_
  refine z_goto hX 15 dX7_accountAnew_11 (by decide) ?_
  refine z_putI hX 0 52 dX7_accountAnew_15 (by decide) shM_0 rfl rfl zin_X7 tyX7_ok nmX7 (by decide) zm_832 rfl rfl ?_
  obtain ⟨s6, h7, hf⟩ := zlet_ex hf
  refine z_name h7 ?_
  refine z_lconst (v := 0) hX dX7_accountAnew_18 (by decide) ?_
  refine z_lstore_n hX [(0, .ref (X.ad 0)), (1, .int a0), (2, .long 0)] dX7_accountAnew_19 rfl (by rw [hnl]; decide) [1, 2, 0] rfl ?_
  refine z_iconst (v := 0) hX dX7_accountAnew_20 (by decide) ?_
  refine z_istore hX [(0, .ref (X.ad 0)), (1, .int a0), (2, .long 0), (4, .int 0)] dX7_accountAnew_21 (by rw [hnl]; decide) [1, 2, 3, 0] rfl ?_
  exact t_X7_accountAnew_23 X out hX hQ hnl 64 s6 a0 0 0 hf
theorem zb_X7_accountAnew : zCal yX7_accountAnew cX7_accountAnew 5 (some .long) 1 := ⟨zm_1143, (zwl_in zm_1144 rfl), zm_8, zm_1145, by decide, by decide, rfl⟩
theorem c_X7_accountAnew (l : Launch) (st : zSt) (a0 : Int32) (out : Int64 × zSt) (hf : f_X7_accountAnew st a0 = some out) : zMet l yX7_accountAnew cX7_accountAnew 5 (some .long) zr_X7_accountAnew 42 shM (fun ad => [.ref (ad 0), .int a0]) st (fun ad => some (.long out.1)) out.2 :=
  zmet_of (by decide +kernel) (fun _ => Nat.le_of_ble_eq_true rfl) (fun X _ hnl hX hQ => t_X7_accountAnew X out hX hQ hnl st a0 hf)
