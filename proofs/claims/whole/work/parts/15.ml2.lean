/-! methods, walked by program: f_.. what they do to the numbered world, t_.. the walk, c_.. the contract -/
abbrev zr_X7_crewFor : Room := { frames := 1, cells := 0, slots := 0, locals := 22 }
def f_X7_crewFor_61 (K12 : zSt → Int32 → Int32 → Int32 → Option (Int32 × zSt)) (st : zSt) (v1 : Int32) (v2 : Int32) (v3 : Int32) (v4 : Int32) : Option (Int32 × zSt) := (if v4 = 0 then K12 st v1 v2 (v3 + 1) else (if zin ((501 * v3) + v2) 3006 then ((f_X7_hoursOf st v1).bind fun q13 => (if 12 < ((st.1 11 ((501 * v3) + v2).toNatClampNeg) + q13.1) then K12 q13.2 v1 v2 (v3 + 1) else some (v3, q13.2))) else none))
def f_X7_crewFor_58 (K12 : zSt → Int32 → Int32 → Int32 → Option (Int32 × zSt)) (st : zSt) (v1 : Int32) (v2 : Int32) (v3 : Int32) : Option (Int32 × zSt) := f_X7_crewFor_61 K12 st v1 v2 v3 0
def f_X7_crewFor_12  : Nat → zSt → Int32 → Int32 → Int32 → Option (Int32 × zSt)
  | 0, _, _, _, _ => none
  | n + 1, st, v1, v2, v3 => (if (st.1 0 9) ≤ v3 then some ((-1), st) else (if zin v3 6 then (if zin v1 24 then (if (st.1 8 v3.toNatClampNeg) = (st.1 17 v1.toNatClampNeg) then (if zin v3 6 then (if zin v3 6 then ((f_X7_in st v2 (st.1 9 v3.toNatClampNeg) (st.1 10 v3.toNatClampNeg)).bind fun q8 => (if q8.1 = 0 then f_X7_crewFor_58 (fun st v1 v2 v3 => f_X7_crewFor_12 n st v1 v2 v3) q8.2 v1 v2 v3 else f_X7_crewFor_61 (fun st v1 v2 v3 => f_X7_crewFor_12 n st v1 v2 v3) q8.2 v1 v2 v3 1)) else none) else none) else f_X7_crewFor_58 (fun st v1 v2 v3 => f_X7_crewFor_12 n st v1 v2 v3) st v1 v2 v3) else none) else none))
def f_X7_crewFor (st : zSt) (a0 : Int32) : Option (Int32 × zSt) := (if zin a0 24 then f_X7_crewFor_12 64 st a0 ((st.1 20 a0.toNatClampNeg) / 24) 0 else none)
set_option maxHeartbeats 4000000 in
set_option maxRecDepth 100000 in
theorem t_X7_crewFor_61 (X : zCx) (out : Int32 × zSt) (hX : zOk X RX7 cX7_crewFor zr_X7_crewFor) (hQ : zPost X 42 shM (some .int) (some (.int out.1)) out.2) (hnl : X.nL = 5) (K12 : zSt → Int32 → Int32 → Int32 → Option (Int32 × zSt)) (hK12 : ∀ (st : zSt) (v1 : Int32) (v2 : Int32) (v3 : Int32), K12 st v1 v2 v3 = some out → zG 42 shM X st 12 [(0, .ref (X.ad 0)), (1, .int v1), (2, .int v2), (3, .int v3)] []) (st : zSt) (v1 : Int32) (v2 : Int32) (v3 : Int32) (v4 : Int32) (hf : f_X7_crewFor_61 K12 st v1 v2 v3 v4 = some out) : zG 42 shM X st 61 [(0, .ref (X.ad 0)), (1, .int v1), (2, .int v2), (3, .int v3), (4, .int v4)] [] := by
  unfold f_X7_crewFor_61 at hf
  refine z_iload hX 4 dX7_crewFor_61 rfl ?_
  refine z_if_eq hX 91 dX7_crewFor_63 (by decide) (fun c11 => ?_) (fun c11 => ?_)
  · have hf := (if_pos c11).symm.trans hf
    refine z_iinc (j := 3) (v := 1) hX [(0, .ref (X.ad 0)), (1, .int v1), (2, .int v2), (3, .int (v3 + 1)), (4, .int v4)] dX7_crewFor_91 rfl (by decide) (by rw [hnl]; decide) [1, 2, 3, 0, 4] rfl ?_
    refine z_goto hX 12 dX7_crewFor_94 (by decide) ?_
    refine z_locals [0, 1, 2, 3] [(0, .ref (X.ad 0)), (1, .int v1), (2, .int v2), (3, .int (v3 + 1))] rfl ?_
    exact hK12 st v1 v2 (v3 + 1) hf
  have hf := (if_neg c11).symm.trans hf
  refine z_aload_n hX 0 dX7_crewFor_66 rfl rfl ?_
  refine z_getR hX 0 13 11 dX7_crewFor_67 (by decide) shM_0 rfl rfl zin_X7 (by decide) zm_793 ?_
  refine z_sipush (v := 501) hX dX7_crewFor_70 (by decide) ?_
  refine z_iload_n hX 3 dX7_crewFor_73 rfl rfl ?_
  refine z_imul hX dX7_crewFor_74 ?_
  refine z_iload_n hX 2 dX7_crewFor_75 rfl rfl ?_
  refine z_iadd hX dX7_crewFor_76 ?_
  obtain ⟨i12, hf⟩ := zifd hf
  refine z_iald hX 11 dX7_crewFor_77 (by decide) shM_11 i12 ?_
  refine z_aload_n hX 0 dX7_crewFor_78 rfl rfl ?_
  refine z_iload_n hX 1 dX7_crewFor_79 rfl rfl ?_
  obtain ⟨q13, e14, hf⟩ := zbind hf
  refine z_callV (stk := [.int (st.1 11 ((501 * v3) + v2).toNatClampNeg)]) (stk' := [.int q13.1, .int (st.1 11 ((501 * v3) + v2).toNatClampNeg)]) hX (c_X7_hoursOf X.l st v1 q13 e14) zb_X7_hoursOf 0 dX7_crewFor_80 zm_1006 (by decide) shM_0 rfl rfl rfl rfl ⟨by decide, by decide⟩ ⟨rfl, rfl⟩ (Nat.le_of_ble_eq_true rfl) rfl ?_
  refine z_iadd hX dX7_crewFor_83 ?_
  refine z_bipush (v := 12) hX dX7_crewFor_84 (by decide) ?_
  refine z_icmp_gt hX 91 dX7_crewFor_86 (by decide) (fun c15 => ?_) (fun c15 => ?_)
  · have hf := (if_pos c15).symm.trans hf
    refine z_iinc (j := 3) (v := 1) hX [(0, .ref (X.ad 0)), (1, .int v1), (2, .int v2), (3, .int (v3 + 1)), (4, .int v4)] dX7_crewFor_91 rfl (by decide) (by rw [hnl]; decide) [1, 2, 3, 0, 4] rfl ?_
    refine z_goto hX 12 dX7_crewFor_94 (by decide) ?_
    refine z_locals [0, 1, 2, 3] [(0, .ref (X.ad 0)), (1, .int v1), (2, .int v2), (3, .int (v3 + 1))] rfl ?_
    exact hK12 q13.2 v1 v2 (v3 + 1) hf
  have hf := (if_neg c15).symm.trans hf
  refine z_iload_n hX 3 dX7_crewFor_89 rfl rfl ?_
  obtain rfl := Option.some.inj hf
  exact z_iret hX hQ dX7_crewFor_90 rfl
set_option maxHeartbeats 4000000 in
set_option maxRecDepth 100000 in
theorem t_X7_crewFor_58 (X : zCx) (out : Int32 × zSt) (hX : zOk X RX7 cX7_crewFor zr_X7_crewFor) (hQ : zPost X 42 shM (some .int) (some (.int out.1)) out.2) (hnl : X.nL = 5) (K12 : zSt → Int32 → Int32 → Int32 → Option (Int32 × zSt)) (hK12 : ∀ (st : zSt) (v1 : Int32) (v2 : Int32) (v3 : Int32), K12 st v1 v2 v3 = some out → zG 42 shM X st 12 [(0, .ref (X.ad 0)), (1, .int v1), (2, .int v2), (3, .int v3)] []) (st : zSt) (v1 : Int32) (v2 : Int32) (v3 : Int32) (hf : f_X7_crewFor_58 K12 st v1 v2 v3 = some out) : zG 42 shM X st 58 [(0, .ref (X.ad 0)), (1, .int v1), (2, .int v2), (3, .int v3)] [] := by
  unfold f_X7_crewFor_58 at hf
  refine z_iconst (v := 0) hX dX7_crewFor_58 (by decide) ?_
  refine z_istore hX [(0, .ref (X.ad 0)), (1, .int v1), (2, .int v2), (3, .int v3), (4, .int 0)] dX7_crewFor_59 (by rw [hnl]; decide) [1, 2, 3, 4, 0] rfl ?_
  exact t_X7_crewFor_61 X out hX hQ hnl K12 hK12 st v1 v2 v3 0 hf
set_option maxHeartbeats 4000000 in
set_option maxRecDepth 100000 in
theorem t_X7_crewFor_12 (X : zCx) (out : Int32 × zSt) (hX : zOk X RX7 cX7_crewFor zr_X7_crewFor) (hQ : zPost X 42 shM (some .int) (some (.int out.1)) out.2) (hnl : X.nL = 5) : ∀ (n : Nat) (st : zSt) (v1 : Int32) (v2 : Int32) (v3 : Int32), f_X7_crewFor_12  n st v1 v2 v3 = some out → zG 42 shM X st 12 [(0, .ref (X.ad 0)), (1, .int v1), (2, .int v2), (3, .int v3)] [] := by
  intro n
  induction n with
  | zero => intro st v1 v2 v3 hf; rw [f_X7_crewFor_12] at hf; exact (znone hf).elim
  | succ n ih =>
    intro st v1 v2 v3 hf
    rw [f_X7_crewFor_12] at hf
    refine z_iload_n hX 3 dX7_crewFor_12 rfl rfl ?_
    refine z_aload_n hX 0 dX7_crewFor_13 rfl rfl ?_
    refine z_getI hX 0 9 dX7_crewFor_14 (by decide) shM_0 rfl rfl zin_X7 (by decide) zm_789 ?_
    refine z_icmp_ge hX 97 dX7_crewFor_17 (by decide) (fun c2 => ?_) (fun c2 => ?_)
    · have hf := (if_pos c2).symm.trans hf
      refine z_iconst (v := (-1)) hX dX7_crewFor_97 (by decide) ?_
      obtain rfl := Option.some.inj hf
      exact z_iret hX hQ dX7_crewFor_98 rfl
    have hf := (if_neg c2).symm.trans hf
    refine z_aload_n hX 0 dX7_crewFor_20 rfl rfl ?_
    refine z_getR hX 0 10 8 dX7_crewFor_21 (by decide) shM_0 rfl rfl zin_X7 (by decide) zm_790 ?_
    refine z_iload_n hX 3 dX7_crewFor_24 rfl rfl ?_
    obtain ⟨i3, hf⟩ := zifd hf
    refine z_iald hX 8 dX7_crewFor_25 (by decide) shM_8 i3 ?_
    refine z_aload_n hX 0 dX7_crewFor_26 rfl rfl ?_
    refine z_getR hX 0 20 17 dX7_crewFor_27 (by decide) shM_0 rfl rfl zin_X7 (by decide) zm_800 ?_
    refine z_iload_n hX 1 dX7_crewFor_30 rfl rfl ?_
    obtain ⟨i4, hf⟩ := zifd hf
    refine z_iald hX 17 dX7_crewFor_31 (by decide) shM_17 i4 ?_
    refine z_icmp_ne hX 58 dX7_crewFor_32 (by decide) (fun c5 => ?_) (fun c5 => ?_)
    · have hf := (if_neg c5).symm.trans hf
      exact t_X7_crewFor_58 X out hX hQ hnl (fun st v1 v2 v3 => f_X7_crewFor_12 n st v1 v2 v3) ih st v1 v2 v3 hf
    have hf := (if_pos c5).symm.trans hf
    refine z_iload_n hX 2 dX7_crewFor_35 rfl rfl ?_
    refine z_aload_n hX 0 dX7_crewFor_36 rfl rfl ?_
    refine z_getR hX 0 11 9 dX7_crewFor_37 (by decide) shM_0 rfl rfl zin_X7 (by decide) zm_791 ?_
    refine z_iload_n hX 3 dX7_crewFor_40 rfl rfl ?_
    obtain ⟨i6, hf⟩ := zifd hf
    refine z_iald hX 9 dX7_crewFor_41 (by decide) shM_9 i6 ?_
    refine z_aload_n hX 0 dX7_crewFor_42 rfl rfl ?_
    refine z_getR hX 0 12 10 dX7_crewFor_43 (by decide) shM_0 rfl rfl zin_X7 (by decide) zm_792 ?_
    refine z_iload_n hX 3 dX7_crewFor_46 rfl rfl ?_
    obtain ⟨i7, hf⟩ := zifd hf
    refine z_iald hX 10 dX7_crewFor_47 (by decide) shM_10 i7 ?_
    obtain ⟨q8, e9, hf⟩ := zbind hf
    refine z_callS (stk := []) (stk' := [.int q8.1]) hX (c_X7_in X.l st v2 (st.1 9 v3.toNatClampNeg) (st.1 10 v3.toNatClampNeg) q8 e9) zb_X7_in dX7_crewFor_48 zm_951 rfl rfl rfl ⟨by decide, by decide⟩ ⟨rfl, rfl⟩ (Nat.le_of_ble_eq_true rfl) rfl ?_
    refine z_if_eq hX 58 dX7_crewFor_51 (by decide) (fun c10 => ?_) (fun c10 => ?_)
    · have hf := (if_pos c10).symm.trans hf
      exact t_X7_crewFor_58 X out hX hQ hnl (fun st v1 v2 v3 => f_X7_crewFor_12 n st v1 v2 v3) ih q8.2 v1 v2 v3 hf
    have hf := (if_neg c10).symm.trans hf
    refine z_iconst (v := 1) hX dX7_crewFor_54 (by decide) ?_
    refine z_goto hX 59 dX7_crewFor_55 (by decide) ?_
    refine z_istore hX [(0, .ref (X.ad 0)), (1, .int v1), (2, .int v2), (3, .int v3), (4, .int 1)] dX7_crewFor_59 (by rw [hnl]; decide) [1, 2, 3, 4, 0] rfl ?_
    exact t_X7_crewFor_61 X out hX hQ hnl (fun st v1 v2 v3 => f_X7_crewFor_12 n st v1 v2 v3) ih q8.2 v1 v2 v3 1 hf
set_option maxHeartbeats 4000000 in
set_option maxRecDepth 100000 in
theorem t_X7_crewFor (X : zCx) (out : Int32 × zSt) (hX : zOk X RX7 cX7_crewFor zr_X7_crewFor) (hQ : zPost X 42 shM (some .int) (some (.int out.1)) out.2) (hnl : X.nL = 5) (st : zSt) (a0 : Int32) (hf : f_X7_crewFor st a0 = some out) : zG 42 shM X st 0 [(0, .ref (X.ad 0)), (1, .int a0)] [] := by
  unfold f_X7_crewFor at hf
  refine z_aload_n hX 0 dX7_crewFor_0 rfl rfl ?_
  refine z_getR hX 0 23 20 dX7_crewFor_1 (by decide) shM_0 rfl rfl zin_X7 (by decide) zm_803 ?_
  refine z_iload_n hX 1 dX7_crewFor_4 rfl rfl ?_
  obtain ⟨i1, hf⟩ := zifd hf
  refine z_iald hX 20 dX7_crewFor_5 (by decide) shM_20 i1 ?_
  refine z_bipush (v := 24) hX dX7_crewFor_6 (by decide) ?_
  refine z_idiv hX dX7_crewFor_8 (by decide) ?_
  refine z_istore_n hX [(0, .ref (X.ad 0)), (1, .int a0), (2, .int ((st.1 20 a0.toNatClampNeg) / 24))] dX7_crewFor_9 rfl (by rw [hnl]; decide) [1, 2, 0] rfl ?_
  refine z_iconst (v := 0) hX dX7_crewFor_10 (by decide) ?_
  refine z_istore_n hX [(0, .ref (X.ad 0)), (1, .int a0), (2, .int ((st.1 20 a0.toNatClampNeg) / 24)), (3, .int 0)] dX7_crewFor_11 rfl (by rw [hnl]; decide) [1, 2, 3, 0] rfl ?_
  exact t_X7_crewFor_12 X out hX hQ hnl 64 st a0 ((st.1 20 a0.toNatClampNeg) / 24) 0 hf
theorem zb_X7_crewFor : zCal yX7_crewFor cX7_crewFor 5 (some .int) 1 := ⟨zm_1048, (zws_X7_crewFor), zm_8, zm_1049, by decide, by decide, rfl⟩
theorem c_X7_crewFor (l : Launch) (st : zSt) (a0 : Int32) (out : Int32 × zSt) (hf : f_X7_crewFor st a0 = some out) : zMet l yX7_crewFor cX7_crewFor 5 (some .int) zr_X7_crewFor 42 shM (fun ad => [.ref (ad 0), .int a0]) st (fun ad => some (.int out.1)) out.2 :=
  zmet_of (by decide +kernel) (fun _ => Nat.le_of_ble_eq_true rfl) (fun X _ hnl hX hQ => t_X7_crewFor X out hX hQ hnl st a0 hf)
abbrev zr_X7_burns : Room := { frames := 1, cells := 0, slots := 0, locals := 22 }
def f_X7_burns (st : zSt) (a0 : Int32) : Option (Int32 × zSt) := (if zin a0 24 then (if zin (st.1 17 a0.toNatClampNeg) 4 then ((f_X7_hoursOf st a0).bind fun q3 => some ((((q3.1 * (st.1 6 (st.1 17 a0.toNatClampNeg).toNatClampNeg)) * (st.1 6 (st.1 17 a0.toNatClampNeg).toNatClampNeg)) / 100), q3.2)) else none) else none)
set_option maxHeartbeats 4000000 in
set_option maxRecDepth 100000 in
theorem t_X7_burns (X : zCx) (out : Int32 × zSt) (hX : zOk X RX7 cX7_burns zr_X7_burns) (hQ : zPost X 42 shM (some .int) (some (.int out.1)) out.2) (hnl : X.nL = 3) (st : zSt) (a0 : Int32) (hf : f_X7_burns st a0 = some out) : zG 42 shM X st 0 [(0, .ref (X.ad 0)), (1, .int a0)] [] := by
  unfold f_X7_burns at hf
  refine z_aload_n hX 0 dX7_burns_0 rfl rfl ?_
  refine z_getR hX 0 7 6 dX7_burns_1 (by decide) shM_0 rfl rfl zin_X7 (by decide) zm_787 ?_
  refine z_aload_n hX 0 dX7_burns_4 rfl rfl ?_
  refine z_getR hX 0 20 17 dX7_burns_5 (by decide) shM_0 rfl rfl zin_X7 (by decide) zm_800 ?_
  refine z_iload_n hX 1 dX7_burns_8 rfl rfl ?_
  obtain ⟨i1, hf⟩ := zifd hf
  refine z_iald hX 17 dX7_burns_9 (by decide) shM_17 i1 ?_
  obtain ⟨i2, hf⟩ := zifd hf
  refine z_iald hX 6 dX7_burns_10 (by decide) shM_6 i2 ?_
  refine z_istore_n hX [(0, .ref (X.ad 0)), (1, .int a0), (2, .int (st.1 6 (st.1 17 a0.toNatClampNeg).toNatClampNeg))] dX7_burns_11 rfl (by rw [hnl]; decide) [1, 2, 0] rfl ?_
  refine z_aload_n hX 0 dX7_burns_12 rfl rfl ?_
  refine z_iload_n hX 1 dX7_burns_13 rfl rfl ?_
  obtain ⟨q3, e4, hf⟩ := zbind hf
  refine z_callV (stk := []) (stk' := [.int q3.1]) hX (c_X7_hoursOf X.l st a0 q3 e4) zb_X7_hoursOf 0 dX7_burns_14 zm_1006 (by decide) shM_0 rfl rfl rfl rfl ⟨by decide, by decide⟩ ⟨rfl, rfl⟩ (Nat.le_of_ble_eq_true rfl) rfl ?_
  refine z_iload_n hX 2 dX7_burns_17 rfl rfl ?_
  refine z_imul hX dX7_burns_18 ?_
  refine z_iload_n hX 2 dX7_burns_19 rfl rfl ?_
  refine z_imul hX dX7_burns_20 ?_
  refine z_bipush (v := 100) hX dX7_burns_21 (by decide) ?_
  refine z_idiv hX dX7_burns_23 (by decide) ?_
  obtain rfl := Option.some.inj hf
  exact z_iret hX hQ dX7_burns_24 rfl
theorem zb_X7_burns : zCal yX7_burns cX7_burns 3 (some .int) 1 := ⟨zm_1052, (zws_X7_burns), zm_8, zm_1053, by decide, by decide, rfl⟩
theorem c_X7_burns (l : Launch) (st : zSt) (a0 : Int32) (out : Int32 × zSt) (hf : f_X7_burns st a0 = some out) : zMet l yX7_burns cX7_burns 3 (some .int) zr_X7_burns 42 shM (fun ad => [.ref (ad 0), .int a0]) st (fun ad => some (.int out.1)) out.2 :=
  zmet_of (by decide +kernel) (fun _ => Nat.le_of_ble_eq_true rfl) (fun X _ hnl hX hQ => t_X7_burns X out hX hQ hnl st a0 hf)
abbrev zr_X7_reasonFor : Room := { frames := 3, cells := 0, slots := 0, locals := 68 }
def f_X7_reasonFor_115  (st : zSt) (v1 : Int32) (v2 : Int32) : Option (Int32 × zSt) := ((f_X7_crewFor st v1).bind fun q29 => (if q29.1 = (-1) then some (5, q29.2) else (if zin v2 4 then ((f_X7_burns q29.2 v1).bind fun q33 => (if q33.1 ≤ (q29.2.1 7 v2.toNatClampNeg) then some (0, q33.2) else some (6, q33.2))) else none)))
def f_X7_reasonFor (st : zSt) (a0 : Int32) : Option (Int32 × zSt) := (if zin a0 24 then (if zin a0 24 then ((f_X7_placeIn st (st.1 17 a0.toNatClampNeg) (st.1 20 a0.toNatClampNeg)).bind fun q3 => (if zin a0 24 then (if q3.1 = (q3.2.1 18 a0.toNatClampNeg) then ((f_X7_hinders q3.2 (2 + (st.1 17 a0.toNatClampNeg)) (st.1 20 a0.toNatClampNeg)).bind fun q7 => (if q7.1 = 0 then (if zin a0 24 then ((f_X7_depthOf q7.2 (q7.2.1 18 a0.toNatClampNeg) (st.1 20 a0.toNatClampNeg)).bind fun q11 => (if zin (st.1 17 a0.toNatClampNeg) 4 then (if q11.1 < (q11.2.1 5 (st.1 17 a0.toNatClampNeg).toNatClampNeg) then some (2, q11.2) else (if zin a0 24 then ((f_X7_endOf q11.2 a0).bind fun q16 => ((f_X7_depthOf q16.2 (q11.2.1 19 a0.toNatClampNeg) q16.1).bind fun q18 => (if zin (st.1 17 a0.toNatClampNeg) 4 then (if (q18.2.1 5 (st.1 17 a0.toNatClampNeg).toNatClampNeg) ≤ q18.1 then ((f_X7_hinders q18.2 0 (st.1 20 a0.toNatClampNeg)).bind fun q22 => (if q22.1 = 0 then ((f_X7_hinders q22.2 1 (st.1 20 a0.toNatClampNeg)).bind fun q25 => (if q25.1 = 0 then f_X7_reasonFor_115 q25.2 a0 (st.1 17 a0.toNatClampNeg) else (if (a0 - a0 / 2 * 2) = 1 then some (4, q25.2) else f_X7_reasonFor_115 q25.2 a0 (st.1 17 a0.toNatClampNeg)))) else some (3, q22.2))) else some (2, q18.2)) else none))) else none)) else none)) else none) else some (1, q7.2))) else some (1, q3.2)) else none)) else none) else none)
set_option maxHeartbeats 4000000 in
set_option maxRecDepth 100000 in
theorem t_X7_reasonFor_115 (X : zCx) (out : Int32 × zSt) (hX : zOk X RX7 cX7_reasonFor zr_X7_reasonFor) (hQ : zPost X 42 shM (some .int) (some (.int out.1)) out.2) (hnl : X.nL = 4) (st : zSt) (v1 : Int32) (v2 : Int32) (hf : f_X7_reasonFor_115  st v1 v2 = some out) : zG 42 shM X st 115 [(0, .ref (X.ad 0)), (1, .int v1), (2, .int v2)] [] := by
  unfold f_X7_reasonFor_115 at hf
  refine z_aload_n hX 0 dX7_reasonFor_115 rfl rfl ?_
  refine z_iload_n hX 1 dX7_reasonFor_116 rfl rfl ?_
  obtain ⟨q29, e30, hf⟩ := zbind hf
  refine z_callV (stk := []) (stk' := [.int q29.1]) hX (c_X7_crewFor X.l st v1 q29 e30) zb_X7_crewFor 0 dX7_reasonFor_117 zm_1046 (by decide) shM_0 rfl rfl rfl rfl ⟨by decide, by decide⟩ ⟨rfl, rfl⟩ (Nat.le_of_ble_eq_true rfl) rfl ?_
  refine z_iconst (v := (-1)) hX dX7_reasonFor_120 (by decide) ?_
  refine z_icmp_ne hX 128 dX7_reasonFor_121 (by decide) (fun c31 => ?_) (fun c31 => ?_)
  · have hf := (if_neg c31).symm.trans hf
    refine z_aload_n hX 0 dX7_reasonFor_128 rfl rfl ?_
    refine z_getR hX 0 8 7 dX7_reasonFor_129 (by decide) shM_0 rfl rfl zin_X7 (by decide) zm_788 ?_
    refine z_iload_n hX 2 dX7_reasonFor_132 rfl rfl ?_
    obtain ⟨i32, hf⟩ := zifd hf
    refine z_iald hX 7 dX7_reasonFor_133 (by decide) shM_7 i32 ?_
    refine z_aload_n hX 0 dX7_reasonFor_134 rfl rfl ?_
    refine z_iload_n hX 1 dX7_reasonFor_135 rfl rfl ?_
    obtain ⟨q33, e34, hf⟩ := zbind hf
    refine z_callV (stk := [.int (q29.2.1 7 v2.toNatClampNeg)]) (stk' := [.int q33.1, .int (q29.2.1 7 v2.toNatClampNeg)]) hX (c_X7_burns X.l q29.2 v1 q33 e34) zb_X7_burns 0 dX7_reasonFor_136 zm_1050 (by decide) shM_0 rfl rfl rfl rfl ⟨by decide, by decide⟩ ⟨rfl, rfl⟩ (Nat.le_of_ble_eq_true rfl) rfl ?_
    refine z_icmp_ge hX 147 dX7_reasonFor_139 (by decide) (fun c35 => ?_) (fun c35 => ?_)
    · have hf := (if_pos c35).symm.trans hf
      refine z_iconst (v := 0) hX dX7_reasonFor_147 (by decide) ?_
      obtain rfl := Option.some.inj hf
      exact z_iret hX hQ dX7_reasonFor_148 rfl
    have hf := (if_neg c35).symm.trans hf
    refine z_bipush (v := 6) hX dX7_reasonFor_142 (by decide) ?_
    refine z_goto hX 148 dX7_reasonFor_144 (by decide) ?_
    obtain rfl := Option.some.inj hf
    exact z_iret hX hQ dX7_reasonFor_148 rfl
  have hf := (if_pos c31).symm.trans hf
  refine z_iconst (v := 5) hX dX7_reasonFor_124 (by decide) ?_
  refine z_goto hX 148 dX7_reasonFor_125 (by decide) ?_
  obtain rfl := Option.some.inj hf
  exact z_iret hX hQ dX7_reasonFor_148 rfl
set_option maxHeartbeats 4000000 in
set_option maxRecDepth 100000 in
theorem t_X7_reasonFor (X : zCx) (out : Int32 × zSt) (hX : zOk X RX7 cX7_reasonFor zr_X7_reasonFor) (hQ : zPost X 42 shM (some .int) (some (.int out.1)) out.2) (hnl : X.nL = 4) (st : zSt) (a0 : Int32) (hf : f_X7_reasonFor st a0 = some out) : zG 42 shM X st 0 [(0, .ref (X.ad 0)), (1, .int a0)] [] := by
  unfold f_X7_reasonFor at hf
  refine z_aload_n hX 0 dX7_reasonFor_0 rfl rfl ?_
  refine z_getR hX 0 20 17 dX7_reasonFor_1 (by decide) shM_0 rfl rfl zin_X7 (by decide) zm_800 ?_
  refine z_iload_n hX 1 dX7_reasonFor_4 rfl rfl ?_
  obtain ⟨i1, hf⟩ := zifd hf
  refine z_iald hX 17 dX7_reasonFor_5 (by decide) shM_17 i1 ?_
  refine z_istore_n hX [(0, .ref (X.ad 0)), (1, .int a0), (2, .int (st.1 17 a0.toNatClampNeg))] dX7_reasonFor_6 rfl (by rw [hnl]; decide) [1, 2, 0] rfl ?_
  refine z_aload_n hX 0 dX7_reasonFor_7 rfl rfl ?_
  refine z_getR hX 0 23 20 dX7_reasonFor_8 (by decide) shM_0 rfl rfl zin_X7 (by decide) zm_803 ?_
  refine z_iload_n hX 1 dX7_reasonFor_11 rfl rfl ?_
  obtain ⟨i2, hf⟩ := zifd hf
  refine z_iald hX 20 dX7_reasonFor_12 (by decide) shM_20 i2 ?_
  refine z_istore_n hX [(0, .ref (X.ad 0)), (1, .int a0), (2, .int (st.1 17 a0.toNatClampNeg)), (3, .int (st.1 20 a0.toNatClampNeg))] dX7_reasonFor_13 rfl (by rw [hnl]; decide) [1, 2, 3, 0] rfl ?_
  refine z_aload_n hX 0 dX7_reasonFor_14 rfl rfl ?_
  refine z_iload_n hX 2 dX7_reasonFor_15 rfl rfl ?_
  refine z_iload_n hX 3 dX7_reasonFor_16 rfl rfl ?_
  obtain ⟨q3, e4, hf⟩ := zbind hf
  refine z_callV (stk := []) (stk' := [.int q3.1]) hX (c_X7_placeIn X.l st (st.1 17 a0.toNatClampNeg) (st.1 20 a0.toNatClampNeg) q3 e4) zb_X7_placeIn 0 dX7_reasonFor_17 zm_998 (by decide) shM_0 rfl rfl rfl rfl ⟨by decide, by decide⟩ ⟨rfl, rfl⟩ (Nat.le_of_ble_eq_true rfl) rfl ?_
  refine z_aload_n hX 0 dX7_reasonFor_20 rfl rfl ?_
  refine z_getR hX 0 21 18 dX7_reasonFor_21 (by decide) shM_0 rfl rfl zin_X7 (by decide) zm_801 ?_
  refine z_iload_n hX 1 dX7_reasonFor_24 rfl rfl ?_
  obtain ⟨i5, hf⟩ := zifd hf
  refine z_iald hX 18 dX7_reasonFor_25 (by decide) shM_18 i5 ?_
  refine z_icmp_ne hX 40 dX7_reasonFor_26 (by decide) (fun c6 => ?_) (fun c6 => ?_)
  · have hf := (if_neg c6).symm.trans hf
    refine z_iconst (v := 1) hX dX7_reasonFor_40 (by decide) ?_
    obtain rfl := Option.some.inj hf
    exact z_iret hX hQ dX7_reasonFor_41 rfl
  have hf := (if_pos c6).symm.trans hf
  refine z_aload_n hX 0 dX7_reasonFor_29 rfl rfl ?_
  refine z_iconst (v := 2) hX dX7_reasonFor_30 (by decide) ?_
  refine z_iload_n hX 2 dX7_reasonFor_31 rfl rfl ?_
  refine z_iadd hX dX7_reasonFor_32 ?_
  refine z_iload_n hX 3 dX7_reasonFor_33 rfl rfl ?_
  obtain ⟨q7, e8, hf⟩ := zbind hf
  refine z_callV (stk := []) (stk' := [.int q7.1]) hX (c_X7_hinders X.l q3.2 (2 + (st.1 17 a0.toNatClampNeg)) (st.1 20 a0.toNatClampNeg) q7 e8) zb_X7_hinders 0 dX7_reasonFor_34 zm_1034 (by decide) shM_0 rfl rfl rfl rfl ⟨by decide, by decide⟩ ⟨rfl, rfl⟩ (Nat.le_of_ble_eq_true rfl) rfl ?_
  refine z_if_eq hX 42 dX7_reasonFor_37 (by decide) (fun c9 => ?_) (fun c9 => ?_)
  · have hf := (if_pos c9).symm.trans hf
    refine z_aload_n hX 0 dX7_reasonFor_42 rfl rfl ?_
    refine z_getR hX 0 21 18 dX7_reasonFor_43 (by decide) shM_0 rfl rfl zin_X7 (by decide) zm_801 ?_
    refine z_iload_n hX 1 dX7_reasonFor_46 rfl rfl ?_
    obtain ⟨i10, hf⟩ := zifd hf
    refine z_iald hX 18 dX7_reasonFor_47 (by decide) shM_18 i10 ?_
    refine z_iload_n hX 3 dX7_reasonFor_48 rfl rfl ?_
    obtain ⟨q11, e12, hf⟩ := zbind hf
    refine z_callS (stk := []) (stk' := [.int q11.1]) hX (c_X7_depthOf X.l q7.2 (q7.2.1 18 a0.toNatClampNeg) (st.1 20 a0.toNatClampNeg) q11 e12) zb_X7_depthOf dX7_reasonFor_49 zm_975 rfl rfl rfl ⟨by decide, by decide⟩ ⟨rfl, rfl⟩ (Nat.le_of_ble_eq_true rfl) rfl ?_
    refine z_aload_n hX 0 dX7_reasonFor_52 rfl rfl ?_
    refine z_getR hX 0 6 5 dX7_reasonFor_53 (by decide) shM_0 rfl rfl zin_X7 (by decide) zm_786 ?_
    refine z_iload_n hX 2 dX7_reasonFor_56 rfl rfl ?_
    obtain ⟨i13, hf⟩ := zifd hf
    refine z_iald hX 5 dX7_reasonFor_57 (by decide) shM_5 i13 ?_
    refine z_icmp_lt hX 84 dX7_reasonFor_58 (by decide) (fun c14 => ?_) (fun c14 => ?_)
    · have hf := (if_pos c14).symm.trans hf
      refine z_iconst (v := 2) hX dX7_reasonFor_84 (by decide) ?_
      obtain rfl := Option.some.inj hf
      exact z_iret hX hQ dX7_reasonFor_85 rfl
    have hf := (if_neg c14).symm.trans hf
    refine z_aload_n hX 0 dX7_reasonFor_61 rfl rfl ?_
    refine z_getR hX 0 22 19 dX7_reasonFor_62 (by decide) shM_0 rfl rfl zin_X7 (by decide) zm_802 ?_
    refine z_iload_n hX 1 dX7_reasonFor_65 rfl rfl ?_
    obtain ⟨i15, hf⟩ := zifd hf
    refine z_iald hX 19 dX7_reasonFor_66 (by decide) shM_19 i15 ?_
    refine z_aload_n hX 0 dX7_reasonFor_67 rfl rfl ?_
    refine z_iload_n hX 1 dX7_reasonFor_68 rfl rfl ?_
    obtain ⟨q16, e17, hf⟩ := zbind hf
    refine z_callV (stk := [.int (q11.2.1 19 a0.toNatClampNeg)]) (stk' := [.int q16.1, .int (q11.2.1 19 a0.toNatClampNeg)]) hX (c_X7_endOf X.l q11.2 a0 q16 e17) zb_X7_endOf 0 dX7_reasonFor_69 zm_1002 (by decide) shM_0 rfl rfl rfl rfl ⟨by decide, by decide⟩ ⟨rfl, rfl⟩ (Nat.le_of_ble_eq_true rfl) rfl ?_
    obtain ⟨q18, e19, hf⟩ := zbind hf
    refine z_callS (stk := []) (stk' := [.int q18.1]) hX (c_X7_depthOf X.l q16.2 (q11.2.1 19 a0.toNatClampNeg) q16.1 q18 e19) zb_X7_depthOf dX7_reasonFor_72 zm_975 rfl rfl rfl ⟨by decide, by decide⟩ ⟨rfl, rfl⟩ (Nat.le_of_ble_eq_true rfl) rfl ?_
    refine z_aload_n hX 0 dX7_reasonFor_75 rfl rfl ?_
    refine z_getR hX 0 6 5 dX7_reasonFor_76 (by decide) shM_0 rfl rfl zin_X7 (by decide) zm_786 ?_
    refine z_iload_n hX 2 dX7_reasonFor_79 rfl rfl ?_
    obtain ⟨i20, hf⟩ := zifd hf
    refine z_iald hX 5 dX7_reasonFor_80 (by decide) shM_5 i20 ?_
    refine z_icmp_ge hX 86 dX7_reasonFor_81 (by decide) (fun c21 => ?_) (fun c21 => ?_)
    · have hf := (if_pos c21).symm.trans hf
      refine z_aload_n hX 0 dX7_reasonFor_86 rfl rfl ?_
      refine z_iconst (v := 0) hX dX7_reasonFor_87 (by decide) ?_
      refine z_iload_n hX 3 dX7_reasonFor_88 rfl rfl ?_
      obtain ⟨q22, e23, hf⟩ := zbind hf
      refine z_callV (stk := []) (stk' := [.int q22.1]) hX (c_X7_hinders X.l q18.2 0 (st.1 20 a0.toNatClampNeg) q22 e23) zb_X7_hinders 0 dX7_reasonFor_89 zm_1034 (by decide) shM_0 rfl rfl rfl rfl ⟨by decide, by decide⟩ ⟨rfl, rfl⟩ (Nat.le_of_ble_eq_true rfl) rfl ?_
      refine z_if_eq hX 97 dX7_reasonFor_92 (by decide) (fun c24 => ?_) (fun c24 => ?_)
      · have hf := (if_pos c24).symm.trans hf
        refine z_aload_n hX 0 dX7_reasonFor_97 rfl rfl ?_
        refine z_iconst (v := 1) hX dX7_reasonFor_98 (by decide) ?_
        refine z_iload_n hX 3 dX7_reasonFor_99 rfl rfl ?_
        obtain ⟨q25, e26, hf⟩ := zbind hf
        refine z_callV (stk := []) (stk' := [.int q25.1]) hX (c_X7_hinders X.l q22.2 1 (st.1 20 a0.toNatClampNeg) q25 e26) zb_X7_hinders 0 dX7_reasonFor_100 zm_1034 (by decide) shM_0 rfl rfl rfl rfl ⟨by decide, by decide⟩ ⟨rfl, rfl⟩ (Nat.le_of_ble_eq_true rfl) rfl ?_
        refine z_if_eq hX 115 dX7_reasonFor_103 (by decide) (fun c27 => ?_) (fun c27 => ?_)
        · have hf := (if_pos c27).symm.trans hf
          refine z_locals [0, 1, 2] [(0, .ref (X.ad 0)), (1, .int a0), (2, .int (st.1 17 a0.toNatClampNeg))] rfl ?_
          exact t_X7_reasonFor_115 X out hX hQ hnl q25.2 a0 (st.1 17 a0.toNatClampNeg) hf
        have hf := (if_neg c27).symm.trans hf
        refine z_iload_n hX 1 dX7_reasonFor_106 rfl rfl ?_
        refine z_iconst (v := 2) hX dX7_reasonFor_107 (by decide) ?_
        refine z_irem hX dX7_reasonFor_108 (by decide) ?_
        refine z_iconst (v := 1) hX dX7_reasonFor_109 (by decide) ?_
        refine z_icmp_ne hX 115 dX7_reasonFor_110 (by decide) (fun c28 => ?_) (fun c28 => ?_)
        · have hf := (if_neg c28).symm.trans hf
          refine z_locals [0, 1, 2] [(0, .ref (X.ad 0)), (1, .int a0), (2, .int (st.1 17 a0.toNatClampNeg))] rfl ?_
          exact t_X7_reasonFor_115 X out hX hQ hnl q25.2 a0 (st.1 17 a0.toNatClampNeg) hf
        have hf := (if_pos c28).symm.trans hf
        refine z_iconst (v := 4) hX dX7_reasonFor_113 (by decide) ?_
        obtain rfl := Option.some.inj hf
        exact z_iret hX hQ dX7_reasonFor_114 rfl
      have hf := (if_neg c24).symm.trans hf
      refine z_iconst (v := 3) hX dX7_reasonFor_95 (by decide) ?_
      obtain rfl := Option.some.inj hf
      exact z_iret hX hQ dX7_reasonFor_96 rfl
    have hf := (if_neg c21).symm.trans hf
    refine z_iconst (v := 2) hX dX7_reasonFor_84 (by decide) ?_
    obtain rfl := Option.some.inj hf
    exact z_iret hX hQ dX7_reasonFor_85 rfl
  have hf := (if_neg c9).symm.trans hf
  refine z_iconst (v := 1) hX dX7_reasonFor_40 (by decide) ?_
  obtain rfl := Option.some.inj hf
  exact z_iret hX hQ dX7_reasonFor_41 rfl
theorem zb_X7_reasonFor : zCal yX7_reasonFor cX7_reasonFor 4 (some .int) 1 := ⟨zm_1044, (zws_X7_reasonFor), zm_8, zm_1045, by decide, by decide, rfl⟩
theorem c_X7_reasonFor (l : Launch) (st : zSt) (a0 : Int32) (out : Int32 × zSt) (hf : f_X7_reasonFor st a0 = some out) : zMet l yX7_reasonFor cX7_reasonFor 4 (some .int) zr_X7_reasonFor 42 shM (fun ad => [.ref (ad 0), .int a0]) st (fun ad => some (.int out.1)) out.2 :=
  zmet_of (by decide +kernel) (fun _ => Nat.le_of_ble_eq_true rfl) (fun X _ hnl hX hQ => t_X7_reasonFor X out hX hQ hnl st a0 hf)
abbrev zr_X7_sideOf : Room := { frames := 0, cells := 0, slots := 0, locals := 0 }
def f_X7_sideOf (st : zSt) (a0 : Int32) (a1 : Int32) : Option (Int32 × zSt) := (if zin a0 24 then (if zin (st.1 17 a0.toNatClampNeg) 4 then (if ((st.1 2 (st.1 17 a0.toNatClampNeg).toNatClampNeg) - 1) ≤ (2 * a1) then (if (2 * a1) ≤ ((st.1 2 (st.1 17 a0.toNatClampNeg).toNatClampNeg) - 1) then some (0, st) else some (2, st)) else some (1, st)) else none) else none)
set_option maxHeartbeats 4000000 in
set_option maxRecDepth 100000 in
theorem t_X7_sideOf (X : zCx) (out : Int32 × zSt) (hX : zOk X RX7 cX7_sideOf zr_X7_sideOf) (hQ : zPost X 42 shM (some .int) (some (.int out.1)) out.2) (hnl : X.nL = 4) (st : zSt) (a0 : Int32) (a1 : Int32) (hf : f_X7_sideOf st a0 a1 = some out) : zG 42 shM X st 0 [(0, .ref (X.ad 0)), (1, .int a0), (2, .int a1)] [] := by
  unfold f_X7_sideOf at hf
  refine z_aload_n hX 0 dX7_sideOf_0 rfl rfl ?_
  refine z_getR hX 0 3 2 dX7_sideOf_1 (by decide) shM_0 rfl rfl zin_X7 (by decide) zm_783 ?_
  refine z_aload_n hX 0 dX7_sideOf_4 rfl rfl ?_
  refine z_getR hX 0 20 17 dX7_sideOf_5 (by decide) shM_0 rfl rfl zin_X7 (by decide) zm_800 ?_
  refine z_iload_n hX 1 dX7_sideOf_8 rfl rfl ?_
  obtain ⟨i1, hf⟩ := zifd hf
  refine z_iald hX 17 dX7_sideOf_9 (by decide) shM_17 i1 ?_
  obtain ⟨i2, hf⟩ := zifd hf
  refine z_iald hX 2 dX7_sideOf_10 (by decide) shM_2 i2 ?_
  refine z_istore_n hX [(0, .ref (X.ad 0)), (1, .int a0), (2, .int a1), (3, .int (st.1 2 (st.1 17 a0.toNatClampNeg).toNatClampNeg))] dX7_sideOf_11 rfl (by rw [hnl]; decide) [1, 2, 3, 0] rfl ?_
  refine z_iconst (v := 2) hX dX7_sideOf_12 (by decide) ?_
  refine z_iload_n hX 2 dX7_sideOf_13 rfl rfl ?_
  refine z_imul hX dX7_sideOf_14 ?_
  refine z_iload_n hX 3 dX7_sideOf_15 rfl rfl ?_
  refine z_iconst (v := 1) hX dX7_sideOf_16 (by decide) ?_
  refine z_isub hX dX7_sideOf_17 ?_
  refine z_icmp_ge hX 25 dX7_sideOf_18 (by decide) (fun c3 => ?_) (fun c3 => ?_)
  · have hf := (if_pos c3).symm.trans hf
    refine z_iconst (v := 2) hX dX7_sideOf_25 (by decide) ?_
    refine z_iload_n hX 2 dX7_sideOf_26 rfl rfl ?_
    refine z_imul hX dX7_sideOf_27 ?_
    refine z_iload_n hX 3 dX7_sideOf_28 rfl rfl ?_
    refine z_iconst (v := 1) hX dX7_sideOf_29 (by decide) ?_
    refine z_isub hX dX7_sideOf_30 ?_
    refine z_icmp_le hX 38 dX7_sideOf_31 (by decide) (fun c4 => ?_) (fun c4 => ?_)
    · have hf := (if_pos c4).symm.trans hf
      refine z_iconst (v := 0) hX dX7_sideOf_38 (by decide) ?_
      obtain rfl := Option.some.inj hf
      exact z_iret hX hQ dX7_sideOf_39 rfl
    have hf := (if_neg c4).symm.trans hf
    refine z_iconst (v := 2) hX dX7_sideOf_34 (by decide) ?_
    refine z_goto hX 39 dX7_sideOf_35 (by decide) ?_
    obtain rfl := Option.some.inj hf
    exact z_iret hX hQ dX7_sideOf_39 rfl
  have hf := (if_neg c3).symm.trans hf
  refine z_iconst (v := 1) hX dX7_sideOf_21 (by decide) ?_
  refine z_goto hX 39 dX7_sideOf_22 (by decide) ?_
  obtain rfl := Option.some.inj hf
  exact z_iret hX hQ dX7_sideOf_39 rfl
theorem zb_X7_sideOf : zCal yX7_sideOf cX7_sideOf 4 (some .int) 2 := ⟨zm_1068, (zws_X7_sideOf), zm_8, zm_1069, by decide, by decide, rfl⟩
theorem c_X7_sideOf (l : Launch) (st : zSt) (a0 : Int32) (a1 : Int32) (out : Int32 × zSt) (hf : f_X7_sideOf st a0 a1 = some out) : zMet l yX7_sideOf cX7_sideOf 4 (some .int) zr_X7_sideOf 42 shM (fun ad => [.ref (ad 0), .int a0, .int a1]) st (fun ad => some (.int out.1)) out.2 :=
  zmet_of (by decide +kernel) (fun _ => Nat.le_of_ble_eq_true rfl) (fun X _ hnl hX hQ => t_X7_sideOf X out hX hQ hnl st a0 a1 hf)
abbrev zr_X7_difference : Room := { frames := 1, cells := 0, slots := 0, locals := 23 }
def f_X7_difference_46  (st : zSt) (v5 : Int32) : Option (Int32 × zSt) := (if 0 ≤ v5 then some (v5, st) else some ((-v5), st))
def f_X7_difference (st : zSt) (a0 : Int32) (a1 : Int32) (a2 : Int32) : Option (Int32 × zSt) := ((f_X7_sideOf st a0 a1).bind fun q1 => (if zin a0 24 then (if zin a0 24 then (if q1.1 = 1 then f_X7_difference_46 q1.2 (((q1.2.1 25 a0.toNatClampNeg) - (q1.2.1 26 a0.toNatClampNeg)) + a2) else (if q1.1 = 2 then f_X7_difference_46 q1.2 (((q1.2.1 25 a0.toNatClampNeg) - (q1.2.1 26 a0.toNatClampNeg)) + (-a2)) else f_X7_difference_46 q1.2 (((q1.2.1 25 a0.toNatClampNeg) - (q1.2.1 26 a0.toNatClampNeg)) + 0))) else none) else none))
set_option maxHeartbeats 4000000 in
set_option maxRecDepth 100000 in
theorem t_X7_difference_46 (X : zCx) (out : Int32 × zSt) (hX : zOk X RX7 cX7_difference zr_X7_difference) (hQ : zPost X 42 shM (some .int) (some (.int out.1)) out.2) (hnl : X.nL = 6) (st : zSt) (v5 : Int32) (hf : f_X7_difference_46  st v5 = some out) : zG 42 shM X st 46 [(5, .int v5)] [] := by
  unfold f_X7_difference_46 at hf
  refine z_iload hX 0 dX7_difference_46 rfl ?_
  refine z_if_ge hX 57 dX7_difference_48 (by decide) (fun c7 => ?_) (fun c7 => ?_)
  · have hf := (if_pos c7).symm.trans hf
    refine z_iload hX 0 dX7_difference_57 rfl ?_
    obtain rfl := Option.some.inj hf
    exact z_iret hX hQ dX7_difference_59 rfl
  have hf := (if_neg c7).symm.trans hf
  refine z_iload hX 0 dX7_difference_51 rfl ?_
  refine z_ineg hX dX7_difference_53 ?_
  refine z_goto hX 59 dX7_difference_54 (by decide) ?_
  obtain rfl := Option.some.inj hf
  exact z_iret hX hQ dX7_difference_59 rfl
set_option maxHeartbeats 4000000 in
set_option maxRecDepth 100000 in
theorem t_X7_difference (X : zCx) (out : Int32 × zSt) (hX : zOk X RX7 cX7_difference zr_X7_difference) (hQ : zPost X 42 shM (some .int) (some (.int out.1)) out.2) (hnl : X.nL = 6) (st : zSt) (a0 : Int32) (a1 : Int32) (a2 : Int32) (hf : f_X7_difference st a0 a1 a2 = some out) : zG 42 shM X st 0 [(0, .ref (X.ad 0)), (1, .int a0), (2, .int a1), (3, .int a2)] [] := by
  unfold f_X7_difference at hf
  refine z_aload_n hX 0 dX7_difference_0 rfl rfl ?_
  refine z_iload_n hX 1 dX7_difference_1 rfl rfl ?_
  refine z_iload_n hX 2 dX7_difference_2 rfl rfl ?_
  obtain ⟨q1, e2, hf⟩ := zbind hf
  refine z_callV (stk := []) (stk' := [.int q1.1]) hX (c_X7_sideOf X.l st a0 a1 q1 e2) zb_X7_sideOf 0 dX7_difference_3 zm_1066 (by decide) shM_0 rfl rfl rfl rfl ⟨by decide, by decide⟩ ⟨rfl, rfl⟩ (Nat.le_of_ble_eq_true rfl) rfl ?_
  refine z_istore hX [(0, .ref (X.ad 0)), (1, .int a0), (2, .int a1), (3, .int a2), (4, .int q1.1)] dX7_difference_6 (by rw [hnl]; decide) [1, 2, 3, 4, 0] rfl ?_
  refine z_aload_n hX 0 dX7_difference_8 rfl rfl ?_
  refine z_getR hX 0 28 25 dX7_difference_9 (by decide) shM_0 rfl rfl zin_X7 (by decide) zm_808 ?_
  refine z_iload_n hX 1 dX7_difference_12 rfl rfl ?_
  obtain ⟨i3, hf⟩ := zifd hf
  refine z_iald hX 25 dX7_difference_13 (by decide) shM_25 i3 ?_
  refine z_aload_n hX 0 dX7_difference_14 rfl rfl ?_
  refine z_getR hX 0 29 26 dX7_difference_15 (by decide) shM_0 rfl rfl zin_X7 (by decide) zm_809 ?_
  refine z_iload_n hX 1 dX7_difference_18 rfl rfl ?_
  obtain ⟨i4, hf⟩ := zifd hf
  refine z_iald hX 26 dX7_difference_19 (by decide) shM_26 i4 ?_
  refine z_isub hX dX7_difference_20 ?_
  refine z_iload hX 4 dX7_difference_21 rfl ?_
  refine z_iconst (v := 1) hX dX7_difference_23 (by decide) ?_
  refine z_icmp_ne hX 31 dX7_difference_24 (by decide) (fun c5 => ?_) (fun c5 => ?_)
  · have hf := (if_neg c5).symm.trans hf
    refine z_iload hX 4 dX7_difference_31 rfl ?_
    refine z_iconst (v := 2) hX dX7_difference_33 (by decide) ?_
    refine z_icmp_ne hX 42 dX7_difference_34 (by decide) (fun c6 => ?_) (fun c6 => ?_)
    · have hf := (if_neg c6).symm.trans hf
      refine z_iconst (v := 0) hX dX7_difference_42 (by decide) ?_
      refine z_iadd hX dX7_difference_43 ?_
      refine z_istore hX [(0, .ref (X.ad 0)), (1, .int a0), (2, .int a1), (3, .int a2), (4, .int q1.1), (5, .int (((q1.2.1 25 a0.toNatClampNeg) - (q1.2.1 26 a0.toNatClampNeg)) + 0))] dX7_difference_44 (by rw [hnl]; decide) [1, 2, 3, 4, 5, 0] rfl ?_
      refine z_locals [5] [(5, .int (((q1.2.1 25 a0.toNatClampNeg) - (q1.2.1 26 a0.toNatClampNeg)) + 0))] rfl ?_
      exact t_X7_difference_46 X out hX hQ hnl q1.2 (((q1.2.1 25 a0.toNatClampNeg) - (q1.2.1 26 a0.toNatClampNeg)) + 0) hf
    have hf := (if_pos c6).symm.trans hf
    refine z_iload_n hX 3 dX7_difference_37 rfl rfl ?_
    refine z_ineg hX dX7_difference_38 ?_
    refine z_goto hX 43 dX7_difference_39 (by decide) ?_
    refine z_iadd hX dX7_difference_43 ?_
    refine z_istore hX [(0, .ref (X.ad 0)), (1, .int a0), (2, .int a1), (3, .int a2), (4, .int q1.1), (5, .int (((q1.2.1 25 a0.toNatClampNeg) - (q1.2.1 26 a0.toNatClampNeg)) + (-a2)))] dX7_difference_44 (by rw [hnl]; decide) [1, 2, 3, 4, 5, 0] rfl ?_
    refine z_locals [5] [(5, .int (((q1.2.1 25 a0.toNatClampNeg) - (q1.2.1 26 a0.toNatClampNeg)) + (-a2)))] rfl ?_
    exact t_X7_difference_46 X out hX hQ hnl q1.2 (((q1.2.1 25 a0.toNatClampNeg) - (q1.2.1 26 a0.toNatClampNeg)) + (-a2)) hf
  have hf := (if_pos c5).symm.trans hf
  refine z_iload_n hX 3 dX7_difference_27 rfl rfl ?_
  refine z_goto hX 43 dX7_difference_28 (by decide) ?_
  refine z_iadd hX dX7_difference_43 ?_
  refine z_istore hX [(0, .ref (X.ad 0)), (1, .int a0), (2, .int a1), (3, .int a2), (4, .int q1.1), (5, .int (((q1.2.1 25 a0.toNatClampNeg) - (q1.2.1 26 a0.toNatClampNeg)) + a2))] dX7_difference_44 (by rw [hnl]; decide) [1, 2, 3, 4, 5, 0] rfl ?_
  refine z_locals [5] [(5, .int (((q1.2.1 25 a0.toNatClampNeg) - (q1.2.1 26 a0.toNatClampNeg)) + a2))] rfl ?_
  exact t_X7_difference_46 X out hX hQ hnl q1.2 (((q1.2.1 25 a0.toNatClampNeg) - (q1.2.1 26 a0.toNatClampNeg)) + a2) hf
theorem zb_X7_difference : zCal yX7_difference cX7_difference 6 (some .int) 3 := ⟨zm_1064, (zws_X7_difference), zm_8, zm_1065, by decide, by decide, rfl⟩
theorem c_X7_difference (l : Launch) (st : zSt) (a0 : Int32) (a1 : Int32) (a2 : Int32) (out : Int32 × zSt) (hf : f_X7_difference st a0 a1 a2 = some out) : zMet l yX7_difference cX7_difference 6 (some .int) zr_X7_difference 42 shM (fun ad => [.ref (ad 0), .int a0, .int a1, .int a2]) st (fun ad => some (.int out.1)) out.2 :=
  zmet_of (by decide +kernel) (fun _ => Nat.le_of_ble_eq_true rfl) (fun X _ hnl hX hQ => t_X7_difference X out hX hQ hnl st a0 a1 a2 hf)
abbrev zr_X7_fits : Room := { frames := 0, cells := 0, slots := 0, locals := 0 }
def f_X7_fits_76  (st : zSt) (v2 : Int32) (v4 : Int32) : Option (Int32 × zSt) := (if zin v2 40 then (if (st.1 32 v2.toNatClampNeg) = 0 then some (1, st) else (if 2 ≤ (st.1 0 48) then some (0, st) else (if v4 = 0 then some (1, st) else some (0, st)))) else none)
def f_X7_fits_73  (st : zSt) (v2 : Int32) : Option (Int32 × zSt) := f_X7_fits_76 st v2 0
def f_X7_fits_69  (st : zSt) (v2 : Int32) : Option (Int32 × zSt) := f_X7_fits_76 st v2 1
def f_X7_fits_53  (st : zSt) (v2 : Int32) (v3 : Int32) : Option (Int32 × zSt) := (if 3 ≤ v3 then f_X7_fits_73 st v2 else (if zin (v3 + 1) 4 then (if (st.1 40 (v3 + 1).toNatClampNeg) ≤ 0 then f_X7_fits_73 st v2 else f_X7_fits_69 st v2) else none))
def f_X7_fits (st : zSt) (a0 : Int32) (a1 : Int32) (a2 : Int32) : Option (Int32 × zSt) := (if zin a2 4 then (if zin a1 40 then (if zin a0 24 then (if zin (st.1 17 a0.toNatClampNeg) 4 then (if ((st.1 39 a2.toNatClampNeg) + (st.1 30 a1.toNatClampNeg)) ≤ (st.1 3 (st.1 17 a0.toNatClampNeg).toNatClampNeg) then (if zin a2 4 then (if 0 < (st.1 40 a2.toNatClampNeg) then f_X7_fits_69 st a1 else (if a2 ≤ 0 then f_X7_fits_53 st a1 a2 else (if zin (a2 - 1) 4 then (if 0 < (st.1 40 (a2 - 1).toNatClampNeg) then f_X7_fits_69 st a1 else f_X7_fits_53 st a1 a2) else none))) else none) else some (0, st)) else none) else none) else none) else none)
set_option maxHeartbeats 4000000 in
set_option maxRecDepth 100000 in
theorem t_X7_fits_76 (X : zCx) (out : Int32 × zSt) (hX : zOk X RX7 cX7_fits zr_X7_fits) (hQ : zPost X 42 shM (some .boolean) (some (.int out.1)) out.2) (hnl : X.nL = 5) (st : zSt) (v2 : Int32) (v4 : Int32) (hf : f_X7_fits_76  st v2 v4 = some out) : zG 42 shM X st 76 [(0, .ref (X.ad 0)), (2, .int v2), (4, .int v4)] [] := by
  unfold f_X7_fits_76 at hf
  refine z_aload_n hX 0 dX7_fits_76 rfl rfl ?_
  refine z_getR hX 0 36 32 dX7_fits_77 (by decide) shM_0 rfl rfl zin_X7 (by decide) zm_816 ?_
  refine z_iload_n hX 1 dX7_fits_80 rfl rfl ?_
  obtain ⟨i14, hf⟩ := zifd hf
  refine z_iald hX 32 dX7_fits_81 (by decide) shM_32 i14 ?_
  refine z_if_eq hX 98 dX7_fits_82 (by decide) (fun c15 => ?_) (fun c15 => ?_)
  · have hf := (if_pos c15).symm.trans hf
    refine z_iconst (v := 1) hX dX7_fits_98 (by decide) ?_
    refine z_goto hX 103 dX7_fits_99 (by decide) ?_
    obtain rfl := Option.some.inj hf
    exact z_iret hX hQ dX7_fits_103 rfl
  have hf := (if_neg c15).symm.trans hf
  refine z_aload_n hX 0 dX7_fits_85 rfl rfl ?_
  refine z_getI hX 0 48 dX7_fits_86 (by decide) shM_0 rfl rfl zin_X7 (by decide) zm_828 ?_
  refine z_iconst (v := 2) hX dX7_fits_89 (by decide) ?_
  refine z_icmp_ge hX 102 dX7_fits_90 (by decide) (fun c16 => ?_) (fun c16 => ?_)
  · have hf := (if_pos c16).symm.trans hf
    refine z_iconst (v := 0) hX dX7_fits_102 (by decide) ?_
    obtain rfl := Option.some.inj hf
    exact z_iret hX hQ dX7_fits_103 rfl
  have hf := (if_neg c16).symm.trans hf
  refine z_iload hX 2 dX7_fits_93 rfl ?_
  refine z_if_ne hX 102 dX7_fits_95 (by decide) (fun c17 => ?_) (fun c17 => ?_)
  · have hf := (if_neg c17).symm.trans hf
    refine z_iconst (v := 0) hX dX7_fits_102 (by decide) ?_
    obtain rfl := Option.some.inj hf
    exact z_iret hX hQ dX7_fits_103 rfl
  have hf := (if_pos c17).symm.trans hf
  refine z_iconst (v := 1) hX dX7_fits_98 (by decide) ?_
  refine z_goto hX 103 dX7_fits_99 (by decide) ?_
  obtain rfl := Option.some.inj hf
  exact z_iret hX hQ dX7_fits_103 rfl
set_option maxHeartbeats 4000000 in
set_option maxRecDepth 100000 in
theorem t_X7_fits_73 (X : zCx) (out : Int32 × zSt) (hX : zOk X RX7 cX7_fits zr_X7_fits) (hQ : zPost X 42 shM (some .boolean) (some (.int out.1)) out.2) (hnl : X.nL = 5) (st : zSt) (v2 : Int32) (hf : f_X7_fits_73  st v2 = some out) : zG 42 shM X st 73 [(0, .ref (X.ad 0)), (2, .int v2)] [] := by
  unfold f_X7_fits_73 at hf
  refine z_iconst (v := 0) hX dX7_fits_73 (by decide) ?_
  refine z_istore hX [(0, .ref (X.ad 0)), (2, .int v2), (4, .int 0)] dX7_fits_74 (by rw [hnl]; decide) [1, 2, 0] rfl ?_
  exact t_X7_fits_76 X out hX hQ hnl st v2 0 hf
set_option maxHeartbeats 4000000 in
set_option maxRecDepth 100000 in
theorem t_X7_fits_69 (X : zCx) (out : Int32 × zSt) (hX : zOk X RX7 cX7_fits zr_X7_fits) (hQ : zPost X 42 shM (some .boolean) (some (.int out.1)) out.2) (hnl : X.nL = 5) (st : zSt) (v2 : Int32) (hf : f_X7_fits_69  st v2 = some out) : zG 42 shM X st 69 [(0, .ref (X.ad 0)), (2, .int v2)] [] := by
  unfold f_X7_fits_69 at hf
  refine z_iconst (v := 1) hX dX7_fits_69 (by decide) ?_
  refine z_goto hX 74 dX7_fits_70 (by decide) ?_
  refine z_istore hX [(0, .ref (X.ad 0)), (2, .int v2), (4, .int 1)] dX7_fits_74 (by rw [hnl]; decide) [1, 2, 0] rfl ?_
  exact t_X7_fits_76 X out hX hQ hnl st v2 1 hf
set_option maxHeartbeats 4000000 in
set_option maxRecDepth 100000 in
theorem t_X7_fits_53 (X : zCx) (out : Int32 × zSt) (hX : zOk X RX7 cX7_fits zr_X7_fits) (hQ : zPost X 42 shM (some .boolean) (some (.int out.1)) out.2) (hnl : X.nL = 5) (st : zSt) (v2 : Int32) (v3 : Int32) (hf : f_X7_fits_53  st v2 v3 = some out) : zG 42 shM X st 53 [(0, .ref (X.ad 0)), (2, .int v2), (3, .int v3)] [] := by
  unfold f_X7_fits_53 at hf
  refine z_iload_n hX 2 dX7_fits_53 rfl rfl ?_
  refine z_iconst (v := 3) hX dX7_fits_54 (by decide) ?_
  refine z_icmp_ge hX 73 dX7_fits_55 (by decide) (fun c11 => ?_) (fun c11 => ?_)
  · have hf := (if_pos c11).symm.trans hf
    refine z_locals [0, 1] [(0, .ref (X.ad 0)), (2, .int v2)] rfl ?_
    exact t_X7_fits_73 X out hX hQ hnl st v2 hf
  have hf := (if_neg c11).symm.trans hf
  refine z_aload_n hX 0 dX7_fits_58 rfl rfl ?_
  refine z_getR hX 0 44 40 dX7_fits_59 (by decide) shM_0 rfl rfl zin_X7 (by decide) zm_824 ?_
  refine z_iload_n hX 2 dX7_fits_62 rfl rfl ?_
  refine z_iconst (v := 1) hX dX7_fits_63 (by decide) ?_
  refine z_iadd hX dX7_fits_64 ?_
  obtain ⟨i12, hf⟩ := zifd hf
  refine z_iald hX 40 dX7_fits_65 (by decide) shM_40 i12 ?_
  refine z_if_le hX 73 dX7_fits_66 (by decide) (fun c13 => ?_) (fun c13 => ?_)
  · have hf := (if_pos c13).symm.trans hf
    refine z_locals [0, 1] [(0, .ref (X.ad 0)), (2, .int v2)] rfl ?_
    exact t_X7_fits_73 X out hX hQ hnl st v2 hf
  have hf := (if_neg c13).symm.trans hf
  refine z_locals [0, 1] [(0, .ref (X.ad 0)), (2, .int v2)] rfl ?_
  exact t_X7_fits_69 X out hX hQ hnl st v2 hf
set_option maxHeartbeats 4000000 in
set_option maxRecDepth 100000 in
theorem t_X7_fits (X : zCx) (out : Int32 × zSt) (hX : zOk X RX7 cX7_fits zr_X7_fits) (hQ : zPost X 42 shM (some .boolean) (some (.int out.1)) out.2) (hnl : X.nL = 5) (st : zSt) (a0 : Int32) (a1 : Int32) (a2 : Int32) (hf : f_X7_fits st a0 a1 a2 = some out) : zG 42 shM X st 0 [(0, .ref (X.ad 0)), (1, .int a0), (2, .int a1), (3, .int a2)] [] := by
  unfold f_X7_fits at hf
  refine z_aload_n hX 0 dX7_fits_0 rfl rfl ?_
  refine z_getR hX 0 43 39 dX7_fits_1 (by decide) shM_0 rfl rfl zin_X7 (by decide) zm_823 ?_
  refine z_iload_n hX 3 dX7_fits_4 rfl rfl ?_
  obtain ⟨i1, hf⟩ := zifd hf
  refine z_iald hX 39 dX7_fits_5 (by decide) shM_39 i1 ?_
  refine z_aload_n hX 0 dX7_fits_6 rfl rfl ?_
  refine z_getR hX 0 34 30 dX7_fits_7 (by decide) shM_0 rfl rfl zin_X7 (by decide) zm_814 ?_
  refine z_iload_n hX 2 dX7_fits_10 rfl rfl ?_
  obtain ⟨i2, hf⟩ := zifd hf
  refine z_iald hX 30 dX7_fits_11 (by decide) shM_30 i2 ?_
  refine z_iadd hX dX7_fits_12 ?_
  refine z_aload_n hX 0 dX7_fits_13 rfl rfl ?_
  refine z_getR hX 0 4 3 dX7_fits_14 (by decide) shM_0 rfl rfl zin_X7 (by decide) zm_784 ?_
  refine z_aload_n hX 0 dX7_fits_17 rfl rfl ?_
  refine z_getR hX 0 20 17 dX7_fits_18 (by decide) shM_0 rfl rfl zin_X7 (by decide) zm_800 ?_
  refine z_iload_n hX 1 dX7_fits_21 rfl rfl ?_
  obtain ⟨i3, hf⟩ := zifd hf
  refine z_iald hX 17 dX7_fits_22 (by decide) shM_17 i3 ?_
  obtain ⟨i4, hf⟩ := zifd hf
  refine z_iald hX 3 dX7_fits_23 (by decide) shM_3 i4 ?_
  refine z_icmp_le hX 29 dX7_fits_24 (by decide) (fun c5 => ?_) (fun c5 => ?_)
  · have hf := (if_pos c5).symm.trans hf
    refine z_aload_n hX 0 dX7_fits_29 rfl rfl ?_
    refine z_getR hX 0 44 40 dX7_fits_30 (by decide) shM_0 rfl rfl zin_X7 (by decide) zm_824 ?_
    refine z_iload_n hX 3 dX7_fits_33 rfl rfl ?_
    obtain ⟨i6, hf⟩ := zifd hf
    refine z_iald hX 40 dX7_fits_34 (by decide) shM_40 i6 ?_
    refine z_if_gt hX 69 dX7_fits_35 (by decide) (fun c7 => ?_) (fun c7 => ?_)
    · have hf := (if_pos c7).symm.trans hf
      refine z_locals [0, 2] [(0, .ref (X.ad 0)), (2, .int a1)] rfl ?_
      exact t_X7_fits_69 X out hX hQ hnl st a1 hf
    have hf := (if_neg c7).symm.trans hf
    refine z_iload_n hX 3 dX7_fits_38 rfl rfl ?_
    refine z_if_le hX 53 dX7_fits_39 (by decide) (fun c8 => ?_) (fun c8 => ?_)
    · have hf := (if_pos c8).symm.trans hf
      refine z_locals [0, 2, 3] [(0, .ref (X.ad 0)), (2, .int a1), (3, .int a2)] rfl ?_
      exact t_X7_fits_53 X out hX hQ hnl st a1 a2 hf
    have hf := (if_neg c8).symm.trans hf
    refine z_aload_n hX 0 dX7_fits_42 rfl rfl ?_
    refine z_getR hX 0 44 40 dX7_fits_43 (by decide) shM_0 rfl rfl zin_X7 (by decide) zm_824 ?_
    refine z_iload_n hX 3 dX7_fits_46 rfl rfl ?_
    refine z_iconst (v := 1) hX dX7_fits_47 (by decide) ?_
    refine z_isub hX dX7_fits_48 ?_
    obtain ⟨i9, hf⟩ := zifd hf
    refine z_iald hX 40 dX7_fits_49 (by decide) shM_40 i9 ?_
    refine z_if_gt hX 69 dX7_fits_50 (by decide) (fun c10 => ?_) (fun c10 => ?_)
    · have hf := (if_pos c10).symm.trans hf
      refine z_locals [0, 2] [(0, .ref (X.ad 0)), (2, .int a1)] rfl ?_
      exact t_X7_fits_69 X out hX hQ hnl st a1 hf
    have hf := (if_neg c10).symm.trans hf
    refine z_locals [0, 2, 3] [(0, .ref (X.ad 0)), (2, .int a1), (3, .int a2)] rfl ?_
    exact t_X7_fits_53 X out hX hQ hnl st a1 a2 hf
  have hf := (if_neg c5).symm.trans hf
  refine z_iconst (v := 0) hX dX7_fits_27 (by decide) ?_
  obtain rfl := Option.some.inj hf
  exact z_iret hX hQ dX7_fits_28 rfl
theorem zb_X7_fits : zCal yX7_fits cX7_fits 5 (some .boolean) 3 := ⟨zm_1072, (zws_X7_fits), zm_8, zm_1073, by decide, by decide, rfl⟩
theorem c_X7_fits (l : Launch) (st : zSt) (a0 : Int32) (a1 : Int32) (a2 : Int32) (out : Int32 × zSt) (hf : f_X7_fits st a0 a1 a2 = some out) : zMet l yX7_fits cX7_fits 5 (some .boolean) zr_X7_fits 42 shM (fun ad => [.ref (ad 0), .int a0, .int a1, .int a2]) st (fun ad => some (.int out.1)) out.2 :=
  zmet_of (by decide +kernel) (fun _ => Nat.le_of_ble_eq_true rfl) (fun X _ hnl hX hQ => t_X7_fits X out hX hQ hnl st a0 a1 a2 hf)
abbrev zr_X7_puts : Room := { frames := 1, cells := 0, slots := 0, locals := 23 }
def f_X7_puts_154  (st : zSt) (v2 : Int32) (v4 : Int32) : Option (Unit × zSt) := (if v4 ≤ 0 then (if zin v2 40 then (zlet (zwI st 37 v2.toNatClampNeg 0) fun s46 => some ((), s46)) else none) else (if zin v2 40 then (zlet (zwI st 37 v2.toNatClampNeg 1) fun s49 => some ((), s49)) else none))
def f_X7_puts_136  (st : zSt) (v2 : Int32) (v3 : Int32) (v4 : Int32) : Option (Unit × zSt) := (if v4 ≤ 0 then (if zin v2 40 then (zlet (zwI st 38 v2.toNatClampNeg 0) fun s39 => f_X7_puts_154 s39 v2 v4) else none) else (if zin v2 40 then (zlet (zwI st 38 v2.toNatClampNeg (v3 + 1)) fun s42 => f_X7_puts_154 s42 v2 v4) else none))
def f_X7_puts_108  (st : zSt) (v1 : Int32) (v2 : Int32) (v3 : Int32) (v4 : Int32) (v5 : Int32) : Option (Unit × zSt) := (if zin v1 24 then (if v5 = 2 then (if zin v2 40 then (if zin v1 24 then (zlet (zwI st 26 v1.toNatClampNeg ((st.1 26 v1.toNatClampNeg) + (v4 * (st.1 31 v2.toNatClampNeg)))) fun s35 => f_X7_puts_136 s35 v2 v3 v4) else none) else none) else (if zin v1 24 then (zlet (zwI st 26 v1.toNatClampNeg ((st.1 26 v1.toNatClampNeg) + 0)) fun s31 => f_X7_puts_136 s31 v2 v3 v4) else none)) else none)
def f_X7_puts (st : zSt) (a0 : Int32) (a1 : Int32) (a2 : Int32) (a3 : Int32) : Option (Unit × zSt) := ((f_X7_sideOf st a0 a2).bind fun q1 => (if zin a2 4 then (if zin a1 40 then (if zin a2 4 then (zlet (zwI q1.2 39 a2.toNatClampNeg ((q1.2.1 39 a2.toNatClampNeg) + (a3 * (q1.2.1 30 a1.toNatClampNeg)))) fun s6 => (if zin a2 4 then (if zin a1 40 then (if zin a2 4 then (zlet (zwI s6 40 a2.toNatClampNeg ((s6.1 40 a2.toNatClampNeg) + (a3 * (s6.1 32 a1.toNatClampNeg)))) fun s11 => (if zin a1 40 then (zlet (zwI s11 0 48 ((s11.1 0 48) + (a3 * (s11.1 32 a1.toNatClampNeg)))) fun s14 => (if zin a1 40 then (zlet (zwI s14 0 47 ((s14.1 0 47) + (a3 * (s14.1 31 a1.toNatClampNeg)))) fun s17 => (if zin a0 24 then (if q1.1 = 1 then (if zin a1 40 then (if zin a0 24 then (zlet (zwI s17 25 a0.toNatClampNeg ((s17.1 25 a0.toNatClampNeg) + (a3 * (s17.1 31 a1.toNatClampNeg)))) fun s26 => f_X7_puts_108 s26 a0 a1 a2 a3 q1.1) else none) else none) else (if zin a0 24 then (zlet (zwI s17 25 a0.toNatClampNeg ((s17.1 25 a0.toNatClampNeg) + 0)) fun s22 => f_X7_puts_108 s22 a0 a1 a2 a3 q1.1) else none)) else none)) else none)) else none)) else none) else none) else none)) else none) else none) else none))
set_option maxHeartbeats 4000000 in
set_option maxRecDepth 100000 in
theorem t_X7_puts_154 (X : zCx) (out : Unit × zSt) (hX : zOk X RX7 cX7_puts zr_X7_puts) (hQ : zPost X 42 shM none (none) out.2) (hnl : X.nL = 6) (st : zSt) (v2 : Int32) (v4 : Int32) (hf : f_X7_puts_154  st v2 v4 = some out) : zG 42 shM X st 154 [(0, .ref (X.ad 0)), (2, .int v2), (4, .int v4)] [] := by
  unfold f_X7_puts_154 at hf
  refine z_aload_n hX 0 dX7_puts_154 rfl rfl ?_
  refine z_getR hX 0 41 37 dX7_puts_155 (by decide) shM_0 rfl rfl zin_X7 (by decide) zm_821 ?_
  refine z_iload_n hX 1 dX7_puts_158 rfl rfl ?_
  refine z_iload hX 2 dX7_puts_159 rfl ?_
  refine z_if_le hX 168 dX7_puts_161 (by decide) (fun c44 => ?_) (fun c44 => ?_)
  · have hf := (if_pos c44).symm.trans hf
    refine z_iconst (v := 0) hX dX7_puts_168 (by decide) ?_
    obtain ⟨i45, hf⟩ := zifd hf
    refine z_iast hX 37 dX7_puts_169 (by decide) shM_37 i45 ?_
    obtain ⟨s46, h47, hf⟩ := zlet_ex hf
    refine z_name h47 ?_
    obtain rfl := Option.some.inj hf
    exact z_vret hX hQ dX7_puts_170
  have hf := (if_neg c44).symm.trans hf
  refine z_iconst (v := 1) hX dX7_puts_164 (by decide) ?_
  refine z_goto hX 169 dX7_puts_165 (by decide) ?_
  obtain ⟨i48, hf⟩ := zifd hf
  refine z_iast hX 37 dX7_puts_169 (by decide) shM_37 i48 ?_
  obtain ⟨s49, h50, hf⟩ := zlet_ex hf
  refine z_name h50 ?_
  obtain rfl := Option.some.inj hf
  exact z_vret hX hQ dX7_puts_170
set_option maxHeartbeats 4000000 in
set_option maxRecDepth 100000 in
theorem t_X7_puts_136 (X : zCx) (out : Unit × zSt) (hX : zOk X RX7 cX7_puts zr_X7_puts) (hQ : zPost X 42 shM none (none) out.2) (hnl : X.nL = 6) (st : zSt) (v2 : Int32) (v3 : Int32) (v4 : Int32) (hf : f_X7_puts_136  st v2 v3 v4 = some out) : zG 42 shM X st 136 [(0, .ref (X.ad 0)), (2, .int v2), (3, .int v3), (4, .int v4)] [] := by
  unfold f_X7_puts_136 at hf
  refine z_aload_n hX 0 dX7_puts_136 rfl rfl ?_
  refine z_getR hX 0 42 38 dX7_puts_137 (by decide) shM_0 rfl rfl zin_X7 (by decide) zm_822 ?_
  refine z_iload_n hX 1 dX7_puts_140 rfl rfl ?_
  refine z_iload hX 3 dX7_puts_141 rfl ?_
  refine z_if_le hX 152 dX7_puts_143 (by decide) (fun c37 => ?_) (fun c37 => ?_)
  · have hf := (if_pos c37).symm.trans hf
    refine z_iconst (v := 0) hX dX7_puts_152 (by decide) ?_
    obtain ⟨i38, hf⟩ := zifd hf
    refine z_iast hX 38 dX7_puts_153 (by decide) shM_38 i38 ?_
    obtain ⟨s39, h40, hf⟩ := zlet_ex hf
    refine z_name h40 ?_
    refine z_locals [0, 1, 3] [(0, .ref (X.ad 0)), (2, .int v2), (4, .int v4)] rfl ?_
    exact t_X7_puts_154 X out hX hQ hnl s39 v2 v4 hf
  have hf := (if_neg c37).symm.trans hf
  refine z_iload_n hX 2 dX7_puts_146 rfl rfl ?_
  refine z_iconst (v := 1) hX dX7_puts_147 (by decide) ?_
  refine z_iadd hX dX7_puts_148 ?_
  refine z_goto hX 153 dX7_puts_149 (by decide) ?_
  obtain ⟨i41, hf⟩ := zifd hf
  refine z_iast hX 38 dX7_puts_153 (by decide) shM_38 i41 ?_
  obtain ⟨s42, h43, hf⟩ := zlet_ex hf
  refine z_name h43 ?_
  refine z_locals [0, 1, 3] [(0, .ref (X.ad 0)), (2, .int v2), (4, .int v4)] rfl ?_
  exact t_X7_puts_154 X out hX hQ hnl s42 v2 v4 hf
set_option maxHeartbeats 4000000 in
set_option maxRecDepth 100000 in
theorem t_X7_puts_108 (X : zCx) (out : Unit × zSt) (hX : zOk X RX7 cX7_puts zr_X7_puts) (hQ : zPost X 42 shM none (none) out.2) (hnl : X.nL = 6) (st : zSt) (v1 : Int32) (v2 : Int32) (v3 : Int32) (v4 : Int32) (v5 : Int32) (hf : f_X7_puts_108  st v1 v2 v3 v4 v5 = some out) : zG 42 shM X st 108 [(0, .ref (X.ad 0)), (1, .int v1), (2, .int v2), (3, .int v3), (4, .int v4), (5, .int v5)] [] := by
  unfold f_X7_puts_108 at hf
  refine z_aload_n hX 0 dX7_puts_108 rfl rfl ?_
  refine z_getR hX 0 29 26 dX7_puts_109 (by decide) shM_0 rfl rfl zin_X7 (by decide) zm_809 ?_
  refine z_iload_n hX 1 dX7_puts_112 rfl rfl ?_
  refine z_dup2 hX dX7_puts_113 rfl rfl ?_
  obtain ⟨i28, hf⟩ := zifd hf
  refine z_iald hX 26 dX7_puts_114 (by decide) shM_26 i28 ?_
  refine z_iload hX 5 dX7_puts_115 rfl ?_
  refine z_iconst (v := 2) hX dX7_puts_117 (by decide) ?_
  refine z_icmp_ne hX 133 dX7_puts_118 (by decide) (fun c29 => ?_) (fun c29 => ?_)
  · have hf := (if_neg c29).symm.trans hf
    refine z_iconst (v := 0) hX dX7_puts_133 (by decide) ?_
    refine z_iadd hX dX7_puts_134 ?_
    obtain ⟨i30, hf⟩ := zifd hf
    refine z_iast hX 26 dX7_puts_135 (by decide) shM_26 i30 ?_
    obtain ⟨s31, h32, hf⟩ := zlet_ex hf
    refine z_name h32 ?_
    refine z_locals [0, 2, 3, 4] [(0, .ref (X.ad 0)), (2, .int v2), (3, .int v3), (4, .int v4)] rfl ?_
    exact t_X7_puts_136 X out hX hQ hnl s31 v2 v3 v4 hf
  have hf := (if_pos c29).symm.trans hf
  refine z_iload hX 4 dX7_puts_121 rfl ?_
  refine z_aload_n hX 0 dX7_puts_123 rfl rfl ?_
  refine z_getR hX 0 35 31 dX7_puts_124 (by decide) shM_0 rfl rfl zin_X7 (by decide) zm_815 ?_
  refine z_iload_n hX 2 dX7_puts_127 rfl rfl ?_
  obtain ⟨i33, hf⟩ := zifd hf
  refine z_iald hX 31 dX7_puts_128 (by decide) shM_31 i33 ?_
  refine z_imul hX dX7_puts_129 ?_
  refine z_goto hX 134 dX7_puts_130 (by decide) ?_
  refine z_iadd hX dX7_puts_134 ?_
  obtain ⟨i34, hf⟩ := zifd hf
  refine z_iast hX 26 dX7_puts_135 (by decide) shM_26 i34 ?_
  obtain ⟨s35, h36, hf⟩ := zlet_ex hf
  refine z_name h36 ?_
  refine z_locals [0, 2, 3, 4] [(0, .ref (X.ad 0)), (2, .int v2), (3, .int v3), (4, .int v4)] rfl ?_
  exact t_X7_puts_136 X out hX hQ hnl s35 v2 v3 v4 hf
set_option maxHeartbeats 4000000 in
set_option maxRecDepth 100000 in
theorem t_X7_puts (X : zCx) (out : Unit × zSt) (hX : zOk X RX7 cX7_puts zr_X7_puts) (hQ : zPost X 42 shM none (none) out.2) (hnl : X.nL = 6) (st : zSt) (a0 : Int32) (a1 : Int32) (a2 : Int32) (a3 : Int32) (hf : f_X7_puts st a0 a1 a2 a3 = some out) : zG 42 shM X st 0 [(0, .ref (X.ad 0)), (1, .int a0), (2, .int a1), (3, .int a2), (4, .int a3)] [] := by
  unfold f_X7_puts at hf
  refine z_aload_n hX 0 dX7_puts_0 rfl rfl ?_
  refine z_iload_n hX 1 dX7_puts_1 rfl rfl ?_
  refine z_iload_n hX 3 dX7_puts_2 rfl rfl ?_
  obtain ⟨q1, e2, hf⟩ := zbind hf
  refine z_callV (stk := []) (stk' := [.int q1.1]) hX (c_X7_sideOf X.l st a0 a2 q1 e2) zb_X7_sideOf 0 dX7_puts_3 zm_1066 (by decide) shM_0 rfl rfl rfl rfl ⟨by decide, by decide⟩ ⟨rfl, rfl⟩ (Nat.le_of_ble_eq_true rfl) rfl ?_
  refine z_istore hX [(0, .ref (X.ad 0)), (1, .int a0), (2, .int a1), (3, .int a2), (4, .int a3), (5, .int q1.1)] dX7_puts_6 (by rw [hnl]; decide) [1, 2, 3, 4, 5, 0] rfl ?_
  refine z_aload_n hX 0 dX7_puts_8 rfl rfl ?_
  refine z_getR hX 0 43 39 dX7_puts_9 (by decide) shM_0 rfl rfl zin_X7 (by decide) zm_823 ?_
  refine z_iload_n hX 3 dX7_puts_12 rfl rfl ?_
  refine z_dup2 hX dX7_puts_13 rfl rfl ?_
  obtain ⟨i3, hf⟩ := zifd hf
  refine z_iald hX 39 dX7_puts_14 (by decide) shM_39 i3 ?_
  refine z_iload hX 4 dX7_puts_15 rfl ?_
  refine z_aload_n hX 0 dX7_puts_17 rfl rfl ?_
  refine z_getR hX 0 34 30 dX7_puts_18 (by decide) shM_0 rfl rfl zin_X7 (by decide) zm_814 ?_
  refine z_iload_n hX 2 dX7_puts_21 rfl rfl ?_
  obtain ⟨i4, hf⟩ := zifd hf
  refine z_iald hX 30 dX7_puts_22 (by decide) shM_30 i4 ?_
  refine z_imul hX dX7_puts_23 ?_
  refine z_iadd hX dX7_puts_24 ?_
  obtain ⟨i5, hf⟩ := zifd hf
  refine z_iast hX 39 dX7_puts_25 (by decide) shM_39 i5 ?_
  obtain ⟨s6, h7, hf⟩ := zlet_ex hf
  refine z_name h7 ?_
  refine z_aload_n hX 0 dX7_puts_26 rfl rfl ?_
  refine z_getR hX 0 44 40 dX7_puts_27 (by decide) shM_0 rfl rfl zin_X7 (by decide) zm_824 ?_
  refine z_iload_n hX 3 dX7_puts_30 rfl rfl ?_
  refine z_dup2 hX dX7_puts_31 rfl rfl ?_
  obtain ⟨i8, hf⟩ := zifd hf
  refine z_iald hX 40 dX7_puts_32 (by decide) shM_40 i8 ?_
  refine z_iload hX 4 dX7_puts_33 rfl ?_
  refine z_aload_n hX 0 dX7_puts_35 rfl rfl ?_
  refine z_getR hX 0 36 32 dX7_puts_36 (by decide) shM_0 rfl rfl zin_X7 (by decide) zm_816 ?_
  refine z_iload_n hX 2 dX7_puts_39 rfl rfl ?_
  obtain ⟨i9, hf⟩ := zifd hf
  refine z_iald hX 32 dX7_puts_40 (by decide) shM_32 i9 ?_
  refine z_imul hX dX7_puts_41 ?_
  refine z_iadd hX dX7_puts_42 ?_
  obtain ⟨i10, hf⟩ := zifd hf
  refine z_iast hX 40 dX7_puts_43 (by decide) shM_40 i10 ?_
  obtain ⟨s11, h12, hf⟩ := zlet_ex hf
  refine z_name h12 ?_
  refine z_aload_n hX 0 dX7_puts_44 rfl rfl ?_
  refine z_dup hX dX7_puts_45 rfl ?_
  refine z_getI hX 0 48 dX7_puts_46 (by decide) shM_0 rfl rfl zin_X7 (by decide) zm_828 ?_
  refine z_iload hX 4 dX7_puts_49 rfl ?_
  refine z_aload_n hX 0 dX7_puts_51 rfl rfl ?_
  refine z_getR hX 0 36 32 dX7_puts_52 (by decide) shM_0 rfl rfl zin_X7 (by decide) zm_816 ?_
  refine z_iload_n hX 2 dX7_puts_55 rfl rfl ?_
  obtain ⟨i13, hf⟩ := zifd hf
  refine z_iald hX 32 dX7_puts_56 (by decide) shM_32 i13 ?_
  refine z_imul hX dX7_puts_57 ?_
  refine z_iadd hX dX7_puts_58 ?_
  refine z_putI hX 0 48 dX7_puts_59 (by decide) shM_0 rfl rfl zin_X7 tyX7_ok nmX7 (by decide) zm_828 rfl rfl ?_
  obtain ⟨s14, h15, hf⟩ := zlet_ex hf
  refine z_name h15 ?_
  refine z_aload_n hX 0 dX7_puts_62 rfl rfl ?_
  refine z_dup hX dX7_puts_63 rfl ?_
  refine z_getI hX 0 47 dX7_puts_64 (by decide) shM_0 rfl rfl zin_X7 (by decide) zm_827 ?_
  refine z_iload hX 4 dX7_puts_67 rfl ?_
  refine z_aload_n hX 0 dX7_puts_69 rfl rfl ?_
  refine z_getR hX 0 35 31 dX7_puts_70 (by decide) shM_0 rfl rfl zin_X7 (by decide) zm_815 ?_
  refine z_iload_n hX 2 dX7_puts_73 rfl rfl ?_
  obtain ⟨i16, hf⟩ := zifd hf
  refine z_iald hX 31 dX7_puts_74 (by decide) shM_31 i16 ?_
  refine z_imul hX dX7_puts_75 ?_
  refine z_iadd hX dX7_puts_76 ?_
  refine z_putI hX 0 47 dX7_puts_77 (by decide) shM_0 rfl rfl zin_X7 tyX7_ok nmX7 (by decide) zm_827 rfl rfl ?_
  obtain ⟨s17, h18, hf⟩ := zlet_ex hf
  refine z_name h18 ?_
  refine z_aload_n hX 0 dX7_puts_80 rfl rfl ?_
  refine z_getR hX 0 28 25 dX7_puts_81 (by decide) shM_0 rfl rfl zin_X7 (by decide) zm_808 ?_
  refine z_iload_n hX 1 dX7_puts_84 rfl rfl ?_
  refine z_dup2 hX dX7_puts_85 rfl rfl ?_
  obtain ⟨i19, hf⟩ := zifd hf
  refine z_iald hX 25 dX7_puts_86 (by decide) shM_25 i19 ?_
  refine z_iload hX 5 dX7_puts_87 rfl ?_
  refine z_iconst (v := 1) hX dX7_puts_89 (by decide) ?_
  refine z_icmp_ne hX 105 dX7_puts_90 (by decide) (fun c20 => ?_) (fun c20 => ?_)
  · have hf := (if_neg c20).symm.trans hf
    refine z_iconst (v := 0) hX dX7_puts_105 (by decide) ?_
    refine z_iadd hX dX7_puts_106 ?_
    obtain ⟨i21, hf⟩ := zifd hf
    refine z_iast hX 25 dX7_puts_107 (by decide) shM_25 i21 ?_
    obtain ⟨s22, h23, hf⟩ := zlet_ex hf
    refine z_name h23 ?_
    exact t_X7_puts_108 X out hX hQ hnl s22 a0 a1 a2 a3 q1.1 hf
  have hf := (if_pos c20).symm.trans hf
  refine z_iload hX 4 dX7_puts_93 rfl ?_
  refine z_aload_n hX 0 dX7_puts_95 rfl rfl ?_
  refine z_getR hX 0 35 31 dX7_puts_96 (by decide) shM_0 rfl rfl zin_X7 (by decide) zm_815 ?_
  refine z_iload_n hX 2 dX7_puts_99 rfl rfl ?_
  obtain ⟨i24, hf⟩ := zifd hf
  refine z_iald hX 31 dX7_puts_100 (by decide) shM_31 i24 ?_
  refine z_imul hX dX7_puts_101 ?_
  refine z_goto hX 106 dX7_puts_102 (by decide) ?_
  refine z_iadd hX dX7_puts_106 ?_
  obtain ⟨i25, hf⟩ := zifd hf
  refine z_iast hX 25 dX7_puts_107 (by decide) shM_25 i25 ?_
  obtain ⟨s26, h27, hf⟩ := zlet_ex hf
  refine z_name h27 ?_
  exact t_X7_puts_108 X out hX hQ hnl s26 a0 a1 a2 a3 q1.1 hf
theorem zb_X7_puts : zCal yX7_puts cX7_puts 6 none 4 := ⟨zm_1076, (zws_X7_puts), zm_8, zm_1077, by decide, by decide, rfl⟩
theorem c_X7_puts (l : Launch) (st : zSt) (a0 : Int32) (a1 : Int32) (a2 : Int32) (a3 : Int32) (out : Unit × zSt) (hf : f_X7_puts st a0 a1 a2 a3 = some out) : zMet l yX7_puts cX7_puts 6 none zr_X7_puts 42 shM (fun ad => [.ref (ad 0), .int a0, .int a1, .int a2, .int a3]) st (fun ad => none) out.2 :=
  zmet_of (by decide +kernel) (fun _ => Nat.le_of_ble_eq_true rfl) (fun X _ hnl hX hQ => t_X7_puts X out hX hQ hnl st a0 a1 a2 a3 hf)
abbrev zr_X7_takes : Room := { frames := 2, cells := 0, slots := 0, locals := 48 }
def f_X7_takes_78 (K22 : zSt → Int32 → Int32 → Int32 → Int32 → Option (Unit × zSt)) (st : zSt) (v1 : Int32) (v2 : Int32) (v3 : Int32) (v4 : Int32) (v5 : Int32) : Option (Unit × zSt) := (if v5 = 0 then K22 st v1 v2 v3 (v4 + 1) else ((f_X7_fits st v1 v2 v4).bind fun q30 => (if q30.1 = 0 then K22 q30.2 v1 v2 v3 (v4 + 1) else K22 q30.2 v1 v2 v4 (v4 + 1))))
def f_X7_takes_71 (K22 : zSt → Int32 → Int32 → Int32 → Int32 → Option (Unit × zSt)) (st : zSt) (v1 : Int32) (v2 : Int32) (v3 : Int32) (v4 : Int32) : Option (Unit × zSt) := f_X7_takes_78 K22 st v1 v2 v3 v4 1
def f_X7_takes_22  : Nat → zSt → Int32 → Int32 → Int32 → Int32 → Option (Unit × zSt)
  | 0, _, _, _, _, _ => none
  | n + 1, st, v1, v2, v3, v4 => (if zin v1 24 then (if zin (st.1 17 v1.toNatClampNeg) 4 then (if (st.1 2 (st.1 17 v1.toNatClampNeg).toNatClampNeg) ≤ v4 then (if v3 = (-1) then some ((), st) else (if zin v2 40 then (if zin v1 24 then (if zin (st.1 17 v1.toNatClampNeg) 4 then (if (st.1 4 (st.1 17 v1.toNatClampNeg).toNatClampNeg) < ((st.1 0 47) + (st.1 31 v2.toNatClampNeg)) then some ((), st) else ((f_X7_puts st v1 v2 v3 1).bind fun q14 => (if zin (q14.2.1 0 46) 40 then (zlet (zwI q14.2 41 (q14.2.1 0 46).toNatClampNeg v2) fun s17 => (zlet (zwI s17 0 46 ((s17.1 0 46) + 1)) fun s19 => some ((), s19))) else none))) else none) else none) else none)) else (if v3 = (-1) then f_X7_takes_71 (fun st v1 v2 v3 v4 => f_X7_takes_22 n st v1 v2 v3 v4) st v1 v2 v3 v4 else (if zin v2 40 then ((f_X7_difference st v1 v4 (st.1 31 v2.toNatClampNeg)).bind fun q23 => (if zin v2 40 then ((f_X7_difference q23.2 v1 v3 (q23.2.1 31 v2.toNatClampNeg)).bind fun q26 => (if q26.1 ≤ q23.1 then f_X7_takes_78 (fun st v1 v2 v3 v4 => f_X7_takes_22 n st v1 v2 v3 v4) q26.2 v1 v2 v3 v4 0 else f_X7_takes_71 (fun st v1 v2 v3 v4 => f_X7_takes_22 n st v1 v2 v3 v4) q26.2 v1 v2 v3 v4)) else none)) else none))) else none) else none)
def f_X7_takes (st : zSt) (a0 : Int32) (a1 : Int32) : Option (Unit × zSt) := (if zin a1 40 then (if (st.1 29 a1.toNatClampNeg) = 0 then (if zin a1 40 then (zlet (zwI st 37 a1.toNatClampNeg 1) fun s4 => some ((), s4)) else none) else f_X7_takes_22 64 st a0 a1 (-1) 0) else none)
set_option maxHeartbeats 4000000 in
set_option maxRecDepth 100000 in
theorem t_X7_takes_78 (X : zCx) (out : Unit × zSt) (hX : zOk X RX7 cX7_takes zr_X7_takes) (hQ : zPost X 42 shM none (none) out.2) (hnl : X.nL = 6) (K22 : zSt → Int32 → Int32 → Int32 → Int32 → Option (Unit × zSt)) (hK22 : ∀ (st : zSt) (v1 : Int32) (v2 : Int32) (v3 : Int32) (v4 : Int32), K22 st v1 v2 v3 v4 = some out → zG 42 shM X st 22 [(0, .ref (X.ad 0)), (1, .int v1), (2, .int v2), (3, .int v3), (4, .int v4)] []) (st : zSt) (v1 : Int32) (v2 : Int32) (v3 : Int32) (v4 : Int32) (v5 : Int32) (hf : f_X7_takes_78 K22 st v1 v2 v3 v4 v5 = some out) : zG 42 shM X st 78 [(0, .ref (X.ad 0)), (1, .int v1), (2, .int v2), (3, .int v3), (4, .int v4), (5, .int v5)] [] := by
  unfold f_X7_takes_78 at hf
  refine z_iload hX 5 dX7_takes_78 rfl ?_
  refine z_if_eq hX 99 dX7_takes_80 (by decide) (fun c29 => ?_) (fun c29 => ?_)
  · have hf := (if_pos c29).symm.trans hf
    refine z_iload_n hX 3 dX7_takes_99 rfl rfl ?_
    refine z_istore_n hX [(0, .ref (X.ad 0)), (1, .int v1), (2, .int v2), (3, .int v3), (4, .int v4), (5, .int v5)] dX7_takes_100 rfl (by rw [hnl]; decide) [1, 2, 3, 0, 4, 5] rfl ?_
    refine z_iinc (j := 4) (v := 1) hX [(0, .ref (X.ad 0)), (1, .int v1), (2, .int v2), (3, .int v3), (4, .int (v4 + 1)), (5, .int v5)] dX7_takes_101 rfl (by decide) (by rw [hnl]; decide) [1, 2, 3, 4, 0, 5] rfl ?_
    refine z_goto hX 22 dX7_takes_104 (by decide) ?_
    refine z_locals [0, 1, 2, 3, 4] [(0, .ref (X.ad 0)), (1, .int v1), (2, .int v2), (3, .int v3), (4, .int (v4 + 1))] rfl ?_
    exact hK22 st v1 v2 v3 (v4 + 1) hf
  have hf := (if_neg c29).symm.trans hf
  refine z_aload_n hX 0 dX7_takes_83 rfl rfl ?_
  refine z_iload_n hX 1 dX7_takes_84 rfl rfl ?_
  refine z_iload_n hX 2 dX7_takes_85 rfl rfl ?_
  refine z_iload hX 4 dX7_takes_86 rfl ?_
  obtain ⟨q30, e31, hf⟩ := zbind hf
  refine z_callV (stk := []) (stk' := [.int q30.1]) hX (c_X7_fits X.l st v1 v2 v4 q30 e31) zb_X7_fits 0 dX7_takes_88 zm_1070 (by decide) shM_0 rfl rfl rfl rfl ⟨by decide, by decide⟩ ⟨rfl, rfl⟩ (Nat.le_of_ble_eq_true rfl) rfl ?_
  refine z_if_eq hX 99 dX7_takes_91 (by decide) (fun c32 => ?_) (fun c32 => ?_)
  · have hf := (if_pos c32).symm.trans hf
    refine z_iload_n hX 3 dX7_takes_99 rfl rfl ?_
    refine z_istore_n hX [(0, .ref (X.ad 0)), (1, .int v1), (2, .int v2), (3, .int v3), (4, .int v4), (5, .int v5)] dX7_takes_100 rfl (by rw [hnl]; decide) [1, 2, 3, 0, 4, 5] rfl ?_
    refine z_iinc (j := 4) (v := 1) hX [(0, .ref (X.ad 0)), (1, .int v1), (2, .int v2), (3, .int v3), (4, .int (v4 + 1)), (5, .int v5)] dX7_takes_101 rfl (by decide) (by rw [hnl]; decide) [1, 2, 3, 4, 0, 5] rfl ?_
    refine z_goto hX 22 dX7_takes_104 (by decide) ?_
    refine z_locals [0, 1, 2, 3, 4] [(0, .ref (X.ad 0)), (1, .int v1), (2, .int v2), (3, .int v3), (4, .int (v4 + 1))] rfl ?_
    exact hK22 q30.2 v1 v2 v3 (v4 + 1) hf
  have hf := (if_neg c32).symm.trans hf
  refine z_iload hX 4 dX7_takes_94 rfl ?_
  refine z_goto hX 100 dX7_takes_96 (by decide) ?_
  refine z_istore_n hX [(0, .ref (X.ad 0)), (1, .int v1), (2, .int v2), (3, .int v4), (4, .int v4), (5, .int v5)] dX7_takes_100 rfl (by rw [hnl]; decide) [1, 2, 3, 0, 4, 5] rfl ?_
  refine z_iinc (j := 4) (v := 1) hX [(0, .ref (X.ad 0)), (1, .int v1), (2, .int v2), (3, .int v4), (4, .int (v4 + 1)), (5, .int v5)] dX7_takes_101 rfl (by decide) (by rw [hnl]; decide) [1, 2, 3, 4, 0, 5] rfl ?_
  refine z_goto hX 22 dX7_takes_104 (by decide) ?_
  refine z_locals [0, 1, 2, 3, 4] [(0, .ref (X.ad 0)), (1, .int v1), (2, .int v2), (3, .int v4), (4, .int (v4 + 1))] rfl ?_
  exact hK22 q30.2 v1 v2 v4 (v4 + 1) hf
set_option maxHeartbeats 4000000 in
set_option maxRecDepth 100000 in
theorem t_X7_takes_71 (X : zCx) (out : Unit × zSt) (hX : zOk X RX7 cX7_takes zr_X7_takes) (hQ : zPost X 42 shM none (none) out.2) (hnl : X.nL = 6) (K22 : zSt → Int32 → Int32 → Int32 → Int32 → Option (Unit × zSt)) (hK22 : ∀ (st : zSt) (v1 : Int32) (v2 : Int32) (v3 : Int32) (v4 : Int32), K22 st v1 v2 v3 v4 = some out → zG 42 shM X st 22 [(0, .ref (X.ad 0)), (1, .int v1), (2, .int v2), (3, .int v3), (4, .int v4)] []) (st : zSt) (v1 : Int32) (v2 : Int32) (v3 : Int32) (v4 : Int32) (hf : f_X7_takes_71 K22 st v1 v2 v3 v4 = some out) : zG 42 shM X st 71 [(0, .ref (X.ad 0)), (1, .int v1), (2, .int v2), (3, .int v3), (4, .int v4)] [] := by
  unfold f_X7_takes_71 at hf
  refine z_iconst (v := 1) hX dX7_takes_71 (by decide) ?_
  refine z_goto hX 76 dX7_takes_72 (by decide) ?_
  refine z_istore hX [(0, .ref (X.ad 0)), (1, .int v1), (2, .int v2), (3, .int v3), (4, .int v4), (5, .int 1)] dX7_takes_76 (by rw [hnl]; decide) [1, 2, 3, 4, 5, 0] rfl ?_
  exact t_X7_takes_78 X out hX hQ hnl K22 hK22 st v1 v2 v3 v4 1 hf
set_option maxHeartbeats 4000000 in
set_option maxRecDepth 100000 in
theorem t_X7_takes_22 (X : zCx) (out : Unit × zSt) (hX : zOk X RX7 cX7_takes zr_X7_takes) (hQ : zPost X 42 shM none (none) out.2) (hnl : X.nL = 6) : ∀ (n : Nat) (st : zSt) (v1 : Int32) (v2 : Int32) (v3 : Int32) (v4 : Int32), f_X7_takes_22  n st v1 v2 v3 v4 = some out → zG 42 shM X st 22 [(0, .ref (X.ad 0)), (1, .int v1), (2, .int v2), (3, .int v3), (4, .int v4)] [] := by
  intro n
  induction n with
  | zero => intro st v1 v2 v3 v4 hf; rw [f_X7_takes_22] at hf; exact (znone hf).elim
  | succ n ih =>
    intro st v1 v2 v3 v4 hf
    rw [f_X7_takes_22] at hf
    refine z_iload hX 4 dX7_takes_22 rfl ?_
    refine z_aload_n hX 0 dX7_takes_24 rfl rfl ?_
    refine z_getR hX 0 3 2 dX7_takes_25 (by decide) shM_0 rfl rfl zin_X7 (by decide) zm_783 ?_
    refine z_aload_n hX 0 dX7_takes_28 rfl rfl ?_
    refine z_getR hX 0 20 17 dX7_takes_29 (by decide) shM_0 rfl rfl zin_X7 (by decide) zm_800 ?_
    refine z_iload_n hX 1 dX7_takes_32 rfl rfl ?_
    obtain ⟨i6, hf⟩ := zifd hf
    refine z_iald hX 17 dX7_takes_33 (by decide) shM_17 i6 ?_
    obtain ⟨i7, hf⟩ := zifd hf
    refine z_iald hX 2 dX7_takes_34 (by decide) shM_2 i7 ?_
    refine z_icmp_ge hX 107 dX7_takes_35 (by decide) (fun c8 => ?_) (fun c8 => ?_)
    · have hf := (if_pos c8).symm.trans hf
      refine z_iload_n hX 3 dX7_takes_107 rfl rfl ?_
      refine z_iconst (v := (-1)) hX dX7_takes_108 (by decide) ?_
      refine z_icmp_eq hX 165 dX7_takes_109 (by decide) (fun c9 => ?_) (fun c9 => ?_)
      · have hf := (if_pos c9).symm.trans hf
        obtain rfl := Option.some.inj hf
        exact z_vret hX hQ dX7_takes_165
      have hf := (if_neg c9).symm.trans hf
      refine z_aload_n hX 0 dX7_takes_112 rfl rfl ?_
      refine z_getI hX 0 47 dX7_takes_113 (by decide) shM_0 rfl rfl zin_X7 (by decide) zm_827 ?_
      refine z_aload_n hX 0 dX7_takes_116 rfl rfl ?_
      refine z_getR hX 0 35 31 dX7_takes_117 (by decide) shM_0 rfl rfl zin_X7 (by decide) zm_815 ?_
      refine z_iload_n hX 2 dX7_takes_120 rfl rfl ?_
      obtain ⟨i10, hf⟩ := zifd hf
      refine z_iald hX 31 dX7_takes_121 (by decide) shM_31 i10 ?_
      refine z_iadd hX dX7_takes_122 ?_
      refine z_aload_n hX 0 dX7_takes_123 rfl rfl ?_
      refine z_getR hX 0 5 4 dX7_takes_124 (by decide) shM_0 rfl rfl zin_X7 (by decide) zm_785 ?_
      refine z_aload_n hX 0 dX7_takes_127 rfl rfl ?_
      refine z_getR hX 0 20 17 dX7_takes_128 (by decide) shM_0 rfl rfl zin_X7 (by decide) zm_800 ?_
      refine z_iload_n hX 1 dX7_takes_131 rfl rfl ?_
      obtain ⟨i11, hf⟩ := zifd hf
      refine z_iald hX 17 dX7_takes_132 (by decide) shM_17 i11 ?_
      obtain ⟨i12, hf⟩ := zifd hf
      refine z_iald hX 4 dX7_takes_133 (by decide) shM_4 i12 ?_
      refine z_icmp_gt hX 165 dX7_takes_134 (by decide) (fun c13 => ?_) (fun c13 => ?_)
      · have hf := (if_pos c13).symm.trans hf
        obtain rfl := Option.some.inj hf
        exact z_vret hX hQ dX7_takes_165
      have hf := (if_neg c13).symm.trans hf
      refine z_aload_n hX 0 dX7_takes_137 rfl rfl ?_
      refine z_iload_n hX 1 dX7_takes_138 rfl rfl ?_
      refine z_iload_n hX 2 dX7_takes_139 rfl rfl ?_
      refine z_iload_n hX 3 dX7_takes_140 rfl rfl ?_
      refine z_iconst (v := 1) hX dX7_takes_141 (by decide) ?_
      obtain ⟨q14, e15, hf⟩ := zbind hf
      refine z_callV (stk := []) (stk' := []) hX (c_X7_puts X.l st v1 v2 v3 1 q14 e15) zb_X7_puts 0 dX7_takes_142 zm_1074 (by decide) shM_0 rfl rfl rfl rfl ⟨by decide, by decide⟩ ⟨rfl, rfl⟩ (Nat.le_of_ble_eq_true rfl) rfl ?_
      refine z_aload_n hX 0 dX7_takes_145 rfl rfl ?_
      refine z_getR hX 0 45 41 dX7_takes_146 (by decide) shM_0 rfl rfl zin_X7 (by decide) zm_825 ?_
      refine z_aload_n hX 0 dX7_takes_149 rfl rfl ?_
      refine z_getI hX 0 46 dX7_takes_150 (by decide) shM_0 rfl rfl zin_X7 (by decide) zm_826 ?_
      refine z_iload_n hX 2 dX7_takes_153 rfl rfl ?_
      obtain ⟨i16, hf⟩ := zifd hf
      refine z_iast hX 41 dX7_takes_154 (by decide) shM_41 i16 ?_
      obtain ⟨s17, h18, hf⟩ := zlet_ex hf
      refine z_name h18 ?_
      refine z_aload_n hX 0 dX7_takes_155 rfl rfl ?_
      refine z_dup hX dX7_takes_156 rfl ?_
      refine z_getI hX 0 46 dX7_takes_157 (by decide) shM_0 rfl rfl zin_X7 (by decide) zm_826 ?_
      refine z_iconst (v := 1) hX dX7_takes_160 (by decide) ?_
      refine z_iadd hX dX7_takes_161 ?_
      refine z_putI hX 0 46 dX7_takes_162 (by decide) shM_0 rfl rfl zin_X7 tyX7_ok nmX7 (by decide) zm_826 rfl rfl ?_
      obtain ⟨s19, h20, hf⟩ := zlet_ex hf
      refine z_name h20 ?_
      obtain rfl := Option.some.inj hf
      exact z_vret hX hQ dX7_takes_165
    have hf := (if_neg c8).symm.trans hf
    refine z_iload_n hX 3 dX7_takes_38 rfl rfl ?_
    refine z_iconst (v := (-1)) hX dX7_takes_39 (by decide) ?_
    refine z_icmp_eq hX 71 dX7_takes_40 (by decide) (fun c21 => ?_) (fun c21 => ?_)
    · have hf := (if_pos c21).symm.trans hf
      exact t_X7_takes_71 X out hX hQ hnl (fun st v1 v2 v3 v4 => f_X7_takes_22 n st v1 v2 v3 v4) ih st v1 v2 v3 v4 hf
    have hf := (if_neg c21).symm.trans hf
    refine z_aload_n hX 0 dX7_takes_43 rfl rfl ?_
    refine z_iload_n hX 1 dX7_takes_44 rfl rfl ?_
    refine z_iload hX 4 dX7_takes_45 rfl ?_
    refine z_aload_n hX 0 dX7_takes_47 rfl rfl ?_
    refine z_getR hX 0 35 31 dX7_takes_48 (by decide) shM_0 rfl rfl zin_X7 (by decide) zm_815 ?_
    refine z_iload_n hX 2 dX7_takes_51 rfl rfl ?_
    obtain ⟨i22, hf⟩ := zifd hf
    refine z_iald hX 31 dX7_takes_52 (by decide) shM_31 i22 ?_
    obtain ⟨q23, e24, hf⟩ := zbind hf
    refine z_callV (stk := []) (stk' := [.int q23.1]) hX (c_X7_difference X.l st v1 v4 (st.1 31 v2.toNatClampNeg) q23 e24) zb_X7_difference 0 dX7_takes_53 zm_1062 (by decide) shM_0 rfl rfl rfl rfl ⟨by decide, by decide⟩ ⟨rfl, rfl⟩ (Nat.le_of_ble_eq_true rfl) rfl ?_
    refine z_aload_n hX 0 dX7_takes_56 rfl rfl ?_
    refine z_iload_n hX 1 dX7_takes_57 rfl rfl ?_
    refine z_iload_n hX 3 dX7_takes_58 rfl rfl ?_
    refine z_aload_n hX 0 dX7_takes_59 rfl rfl ?_
    refine z_getR hX 0 35 31 dX7_takes_60 (by decide) shM_0 rfl rfl zin_X7 (by decide) zm_815 ?_
    refine z_iload_n hX 2 dX7_takes_63 rfl rfl ?_
    obtain ⟨i25, hf⟩ := zifd hf
    refine z_iald hX 31 dX7_takes_64 (by decide) shM_31 i25 ?_
    obtain ⟨q26, e27, hf⟩ := zbind hf
    refine z_callV (stk := [.int q23.1]) (stk' := [.int q26.1, .int q23.1]) hX (c_X7_difference X.l q23.2 v1 v3 (q23.2.1 31 v2.toNatClampNeg) q26 e27) zb_X7_difference 0 dX7_takes_65 zm_1062 (by decide) shM_0 rfl rfl rfl rfl ⟨by decide, by decide⟩ ⟨rfl, rfl⟩ (Nat.le_of_ble_eq_true rfl) rfl ?_
    refine z_icmp_ge hX 75 dX7_takes_68 (by decide) (fun c28 => ?_) (fun c28 => ?_)
    · have hf := (if_pos c28).symm.trans hf
      refine z_iconst (v := 0) hX dX7_takes_75 (by decide) ?_
      refine z_istore hX [(0, .ref (X.ad 0)), (1, .int v1), (2, .int v2), (3, .int v3), (4, .int v4), (5, .int 0)] dX7_takes_76 (by rw [hnl]; decide) [1, 2, 3, 4, 5, 0] rfl ?_
      exact t_X7_takes_78 X out hX hQ hnl (fun st v1 v2 v3 v4 => f_X7_takes_22 n st v1 v2 v3 v4) ih q26.2 v1 v2 v3 v4 0 hf
    have hf := (if_neg c28).symm.trans hf
    exact t_X7_takes_71 X out hX hQ hnl (fun st v1 v2 v3 v4 => f_X7_takes_22 n st v1 v2 v3 v4) ih q26.2 v1 v2 v3 v4 hf
set_option maxHeartbeats 4000000 in
set_option maxRecDepth 100000 in
theorem t_X7_takes (X : zCx) (out : Unit × zSt) (hX : zOk X RX7 cX7_takes zr_X7_takes) (hQ : zPost X 42 shM none (none) out.2) (hnl : X.nL = 6) (st : zSt) (a0 : Int32) (a1 : Int32) (hf : f_X7_takes st a0 a1 = some out) : zG 42 shM X st 0 [(0, .ref (X.ad 0)), (1, .int a0), (2, .int a1)] [] := by
  unfold f_X7_takes at hf
  refine z_aload_n hX 0 dX7_takes_0 rfl rfl ?_
  refine z_getR hX 0 33 29 dX7_takes_1 (by decide) shM_0 rfl rfl zin_X7 (by decide) zm_813 ?_
  refine z_iload_n hX 2 dX7_takes_4 rfl rfl ?_
  obtain ⟨i1, hf⟩ := zifd hf
  refine z_iald hX 29 dX7_takes_5 (by decide) shM_29 i1 ?_
  refine z_if_ne hX 17 dX7_takes_6 (by decide) (fun c2 => ?_) (fun c2 => ?_)
  · have hf := (if_neg c2).symm.trans hf
    refine z_iconst (v := (-1)) hX dX7_takes_17 (by decide) ?_
    refine z_istore_n hX [(0, .ref (X.ad 0)), (1, .int a0), (2, .int a1), (3, .int (-1))] dX7_takes_18 rfl (by rw [hnl]; decide) [1, 2, 3, 0] rfl ?_
    refine z_iconst (v := 0) hX dX7_takes_19 (by decide) ?_
    refine z_istore hX [(0, .ref (X.ad 0)), (1, .int a0), (2, .int a1), (3, .int (-1)), (4, .int 0)] dX7_takes_20 (by rw [hnl]; decide) [1, 2, 3, 4, 0] rfl ?_
    exact t_X7_takes_22 X out hX hQ hnl 64 st a0 a1 (-1) 0 hf
  have hf := (if_pos c2).symm.trans hf
  refine z_aload_n hX 0 dX7_takes_9 rfl rfl ?_
  refine z_getR hX 0 41 37 dX7_takes_10 (by decide) shM_0 rfl rfl zin_X7 (by decide) zm_821 ?_
  refine z_iload_n hX 2 dX7_takes_13 rfl rfl ?_
  refine z_iconst (v := 1) hX dX7_takes_14 (by decide) ?_
  obtain ⟨i3, hf⟩ := zifd hf
  refine z_iast hX 37 dX7_takes_15 (by decide) shM_37 i3 ?_
  obtain ⟨s4, h5, hf⟩ := zlet_ex hf
  refine z_name h5 ?_
  obtain rfl := Option.some.inj hf
  exact z_vret hX hQ dX7_takes_16
theorem zb_X7_takes : zCal yX7_takes cX7_takes 6 none 2 := ⟨zm_1060, (zws_X7_takes), zm_8, zm_1061, by decide, by decide, rfl⟩
theorem c_X7_takes (l : Launch) (st : zSt) (a0 : Int32) (a1 : Int32) (out : Unit × zSt) (hf : f_X7_takes st a0 a1 = some out) : zMet l yX7_takes cX7_takes 6 none zr_X7_takes 42 shM (fun ad => [.ref (ad 0), .int a0, .int a1]) st (fun ad => none) out.2 :=
  zmet_of (by decide +kernel) (fun _ => Nat.le_of_ble_eq_true rfl) (fun X _ hnl hX hQ => t_X7_takes X out hX hQ hnl st a0 a1 hf)
abbrev zr_X7_putsOff : Room := { frames := 2, cells := 0, slots := 0, locals := 48 }
def f_X7_putsOff_94  : Nat → zSt → Int32 → Option (Unit × zSt)
  | 0, _, _ => none
  | n + 1, st, v4 => (if (st.1 0 46) ≤ v4 then some ((), st) else (if zin (v4 + 1) 40 then (if zin v4 40 then (zlet (zwI st 41 v4.toNatClampNeg (st.1 41 (v4 + 1).toNatClampNeg)) fun s19 => f_X7_putsOff_94 n s19 (v4 + 1)) else none) else none))
def f_X7_putsOff_28  : Nat → zSt → Int32 → Int32 → Int32 → Option (Unit × zSt)
  | 0, _, _, _, _ => none
  | n + 1, st, v1, v2, v3 => (if zin v3 40 then (if zin (st.1 41 v3.toNatClampNeg) 40 then ((f_X7_sideOf st v1 ((st.1 38 (st.1 41 v3.toNatClampNeg).toNatClampNeg) - 1)).bind fun q6 => (if q6.1 = v2 then (if zin v3 40 then (if zin v3 40 then (if zin (q6.2.1 41 v3.toNatClampNeg) 40 then ((f_X7_puts q6.2 v1 (q6.2.1 41 v3.toNatClampNeg) ((q6.2.1 38 (q6.2.1 41 v3.toNatClampNeg).toNatClampNeg) - 1) (-1)).bind fun q12 => (zlet (zwI q12.2 0 46 ((q12.2.1 0 46) - 1)) fun s14 => f_X7_putsOff_94 64 s14 v3)) else none) else none) else none) else f_X7_putsOff_28 n q6.2 v1 v2 (v3 + (-1)))) else none) else none)
def f_X7_putsOff_21  (st : zSt) (v1 : Int32) (v2 : Int32) : Option (Unit × zSt) := f_X7_putsOff_28 64 st v1 v2 ((st.1 0 46) - 1)
def f_X7_putsOff (st : zSt) (a0 : Int32) : Option (Unit × zSt) := (if zin a0 24 then (if zin a0 24 then (if (st.1 25 a0.toNatClampNeg) ≤ (st.1 26 a0.toNatClampNeg) then f_X7_putsOff_21 st a0 2 else f_X7_putsOff_21 st a0 1) else none) else none)
set_option maxHeartbeats 4000000 in
set_option maxRecDepth 100000 in
theorem t_X7_putsOff_94 (X : zCx) (out : Unit × zSt) (hX : zOk X RX7 cX7_putsOff zr_X7_putsOff) (hQ : zPost X 42 shM none (none) out.2) (hnl : X.nL = 5) : ∀ (n : Nat) (st : zSt) (v4 : Int32), f_X7_putsOff_94  n st v4 = some out → zG 42 shM X st 94 [(0, .ref (X.ad 0)), (4, .int v4)] [] := by
  intro n
  induction n with
  | zero => intro st v4 hf; rw [f_X7_putsOff_94] at hf; exact (znone hf).elim
  | succ n ih =>
    intro st v4 hf
    rw [f_X7_putsOff_94] at hf
    refine z_iload hX 1 dX7_putsOff_94 rfl ?_
    refine z_aload_n hX 0 dX7_putsOff_96 rfl rfl ?_
    refine z_getI hX 0 46 dX7_putsOff_97 (by decide) shM_0 rfl rfl zin_X7 (by decide) zm_826 ?_
    refine z_icmp_ge hX 125 dX7_putsOff_100 (by decide) (fun c16 => ?_) (fun c16 => ?_)
    · have hf := (if_pos c16).symm.trans hf
      obtain rfl := Option.some.inj hf
      exact z_vret hX hQ dX7_putsOff_125
    have hf := (if_neg c16).symm.trans hf
    refine z_aload_n hX 0 dX7_putsOff_103 rfl rfl ?_
    refine z_getR hX 0 45 41 dX7_putsOff_104 (by decide) shM_0 rfl rfl zin_X7 (by decide) zm_825 ?_
    refine z_iload hX 1 dX7_putsOff_107 rfl ?_
    refine z_aload_n hX 0 dX7_putsOff_109 rfl rfl ?_
    refine z_getR hX 0 45 41 dX7_putsOff_110 (by decide) shM_0 rfl rfl zin_X7 (by decide) zm_825 ?_
    refine z_iload hX 1 dX7_putsOff_113 rfl ?_
    refine z_iconst (v := 1) hX dX7_putsOff_115 (by decide) ?_
    refine z_iadd hX dX7_putsOff_116 ?_
    obtain ⟨i17, hf⟩ := zifd hf
    refine z_iald hX 41 dX7_putsOff_117 (by decide) shM_41 i17 ?_
    obtain ⟨i18, hf⟩ := zifd hf
    refine z_iast hX 41 dX7_putsOff_118 (by decide) shM_41 i18 ?_
    obtain ⟨s19, h20, hf⟩ := zlet_ex hf
    refine z_name h20 ?_
    refine z_iinc (j := 1) (v := 1) hX [(0, .ref (X.ad 0)), (4, .int (v4 + 1))] dX7_putsOff_119 rfl (by decide) (by rw [hnl]; decide) [1, 0] rfl ?_
    refine z_goto hX 94 dX7_putsOff_122 (by decide) ?_
    exact ih s19 (v4 + 1) hf
set_option maxHeartbeats 4000000 in
set_option maxRecDepth 100000 in
theorem t_X7_putsOff_28 (X : zCx) (out : Unit × zSt) (hX : zOk X RX7 cX7_putsOff zr_X7_putsOff) (hQ : zPost X 42 shM none (none) out.2) (hnl : X.nL = 5) : ∀ (n : Nat) (st : zSt) (v1 : Int32) (v2 : Int32) (v3 : Int32), f_X7_putsOff_28  n st v1 v2 v3 = some out → zG 42 shM X st 28 [(0, .ref (X.ad 0)), (1, .int v1), (2, .int v2), (3, .int v3)] [] := by
  intro n
  induction n with
  | zero => intro st v1 v2 v3 hf; rw [f_X7_putsOff_28] at hf; exact (znone hf).elim
  | succ n ih =>
    intro st v1 v2 v3 hf
    rw [f_X7_putsOff_28] at hf
    refine z_aload_n hX 0 dX7_putsOff_28 rfl rfl ?_
    refine z_iload_n hX 1 dX7_putsOff_29 rfl rfl ?_
    refine z_aload_n hX 0 dX7_putsOff_30 rfl rfl ?_
    refine z_getR hX 0 42 38 dX7_putsOff_31 (by decide) shM_0 rfl rfl zin_X7 (by decide) zm_822 ?_
    refine z_aload_n hX 0 dX7_putsOff_34 rfl rfl ?_
    refine z_getR hX 0 45 41 dX7_putsOff_35 (by decide) shM_0 rfl rfl zin_X7 (by decide) zm_825 ?_
    refine z_iload_n hX 3 dX7_putsOff_38 rfl rfl ?_
    obtain ⟨i4, hf⟩ := zifd hf
    refine z_iald hX 41 dX7_putsOff_39 (by decide) shM_41 i4 ?_
    obtain ⟨i5, hf⟩ := zifd hf
    refine z_iald hX 38 dX7_putsOff_40 (by decide) shM_38 i5 ?_
    refine z_iconst (v := 1) hX dX7_putsOff_41 (by decide) ?_
    refine z_isub hX dX7_putsOff_42 ?_
    obtain ⟨q6, e7, hf⟩ := zbind hf
    refine z_callV (stk := []) (stk' := [.int q6.1]) hX (c_X7_sideOf X.l st v1 ((st.1 38 (st.1 41 v3.toNatClampNeg).toNatClampNeg) - 1) q6 e7) zb_X7_sideOf 0 dX7_putsOff_43 zm_1066 (by decide) shM_0 rfl rfl rfl rfl ⟨by decide, by decide⟩ ⟨rfl, rfl⟩ (Nat.le_of_ble_eq_true rfl) rfl ?_
    refine z_iload_n hX 2 dX7_putsOff_46 rfl rfl ?_
    refine z_icmp_eq hX 56 dX7_putsOff_47 (by decide) (fun c8 => ?_) (fun c8 => ?_)
    · have hf := (if_pos c8).symm.trans hf
      refine z_aload_n hX 0 dX7_putsOff_56 rfl rfl ?_
      refine z_iload_n hX 1 dX7_putsOff_57 rfl rfl ?_
      refine z_aload_n hX 0 dX7_putsOff_58 rfl rfl ?_
      refine z_getR hX 0 45 41 dX7_putsOff_59 (by decide) shM_0 rfl rfl zin_X7 (by decide) zm_825 ?_
      refine z_iload_n hX 3 dX7_putsOff_62 rfl rfl ?_
      obtain ⟨i9, hf⟩ := zifd hf
      refine z_iald hX 41 dX7_putsOff_63 (by decide) shM_41 i9 ?_
      refine z_aload_n hX 0 dX7_putsOff_64 rfl rfl ?_
      refine z_getR hX 0 42 38 dX7_putsOff_65 (by decide) shM_0 rfl rfl zin_X7 (by decide) zm_822 ?_
      refine z_aload_n hX 0 dX7_putsOff_68 rfl rfl ?_
      refine z_getR hX 0 45 41 dX7_putsOff_69 (by decide) shM_0 rfl rfl zin_X7 (by decide) zm_825 ?_
      refine z_iload_n hX 3 dX7_putsOff_72 rfl rfl ?_
      obtain ⟨i10, hf⟩ := zifd hf
      refine z_iald hX 41 dX7_putsOff_73 (by decide) shM_41 i10 ?_
      obtain ⟨i11, hf⟩ := zifd hf
      refine z_iald hX 38 dX7_putsOff_74 (by decide) shM_38 i11 ?_
      refine z_iconst (v := 1) hX dX7_putsOff_75 (by decide) ?_
      refine z_isub hX dX7_putsOff_76 ?_
      refine z_iconst (v := (-1)) hX dX7_putsOff_77 (by decide) ?_
      obtain ⟨q12, e13, hf⟩ := zbind hf
      refine z_callV (stk := []) (stk' := []) hX (c_X7_puts X.l q6.2 v1 (q6.2.1 41 v3.toNatClampNeg) ((q6.2.1 38 (q6.2.1 41 v3.toNatClampNeg).toNatClampNeg) - 1) (-1) q12 e13) zb_X7_puts 0 dX7_putsOff_78 zm_1074 (by decide) shM_0 rfl rfl rfl rfl ⟨by decide, by decide⟩ ⟨rfl, rfl⟩ (Nat.le_of_ble_eq_true rfl) rfl ?_
      refine z_aload_n hX 0 dX7_putsOff_81 rfl rfl ?_
      refine z_dup hX dX7_putsOff_82 rfl ?_
      refine z_getI hX 0 46 dX7_putsOff_83 (by decide) shM_0 rfl rfl zin_X7 (by decide) zm_826 ?_
      refine z_iconst (v := 1) hX dX7_putsOff_86 (by decide) ?_
      refine z_isub hX dX7_putsOff_87 ?_
      refine z_putI hX 0 46 dX7_putsOff_88 (by decide) shM_0 rfl rfl zin_X7 tyX7_ok nmX7 (by decide) zm_826 rfl rfl ?_
      obtain ⟨s14, h15, hf⟩ := zlet_ex hf
      refine z_name h15 ?_
      refine z_iload_n hX 3 dX7_putsOff_91 rfl rfl ?_
      refine z_istore hX [(0, .ref (X.ad 0)), (1, .int v1), (2, .int v2), (3, .int v3), (4, .int v3)] dX7_putsOff_92 (by rw [hnl]; decide) [1, 2, 3, 4, 0] rfl ?_
      refine z_locals [0, 4] [(0, .ref (X.ad 0)), (4, .int v3)] rfl ?_
      exact t_X7_putsOff_94 X out hX hQ hnl 64 s14 v3 hf
    have hf := (if_neg c8).symm.trans hf
    refine z_iinc (j := 3) (v := (-1)) hX [(0, .ref (X.ad 0)), (1, .int v1), (2, .int v2), (3, .int (v3 + (-1)))] dX7_putsOff_50 rfl (by decide) (by rw [hnl]; decide) [1, 2, 3, 0] rfl ?_
    refine z_goto hX 28 dX7_putsOff_53 (by decide) ?_
    exact ih q6.2 v1 v2 (v3 + (-1)) hf
set_option maxHeartbeats 4000000 in
set_option maxRecDepth 100000 in
theorem t_X7_putsOff_21 (X : zCx) (out : Unit × zSt) (hX : zOk X RX7 cX7_putsOff zr_X7_putsOff) (hQ : zPost X 42 shM none (none) out.2) (hnl : X.nL = 5) (st : zSt) (v1 : Int32) (v2 : Int32) (hf : f_X7_putsOff_21  st v1 v2 = some out) : zG 42 shM X st 21 [(0, .ref (X.ad 0)), (1, .int v1), (2, .int v2)] [] := by
  unfold f_X7_putsOff_21 at hf
  refine z_aload_n hX 0 dX7_putsOff_21 rfl rfl ?_
  refine z_getI hX 0 46 dX7_putsOff_22 (by decide) shM_0 rfl rfl zin_X7 (by decide) zm_826 ?_
  refine z_iconst (v := 1) hX dX7_putsOff_25 (by decide) ?_
  refine z_isub hX dX7_putsOff_26 ?_
  refine z_istore_n hX [(0, .ref (X.ad 0)), (1, .int v1), (2, .int v2), (3, .int ((st.1 0 46) - 1))] dX7_putsOff_27 rfl (by rw [hnl]; decide) [1, 2, 3, 0] rfl ?_
  exact t_X7_putsOff_28 X out hX hQ hnl 64 st v1 v2 ((st.1 0 46) - 1) hf
set_option maxHeartbeats 4000000 in
set_option maxRecDepth 100000 in
theorem t_X7_putsOff (X : zCx) (out : Unit × zSt) (hX : zOk X RX7 cX7_putsOff zr_X7_putsOff) (hQ : zPost X 42 shM none (none) out.2) (hnl : X.nL = 5) (st : zSt) (a0 : Int32) (hf : f_X7_putsOff st a0 = some out) : zG 42 shM X st 0 [(0, .ref (X.ad 0)), (1, .int a0)] [] := by
  unfold f_X7_putsOff at hf
  refine z_aload_n hX 0 dX7_putsOff_0 rfl rfl ?_
  refine z_getR hX 0 28 25 dX7_putsOff_1 (by decide) shM_0 rfl rfl zin_X7 (by decide) zm_808 ?_
  refine z_iload_n hX 1 dX7_putsOff_4 rfl rfl ?_
  obtain ⟨i1, hf⟩ := zifd hf
  refine z_iald hX 25 dX7_putsOff_5 (by decide) shM_25 i1 ?_
  refine z_aload_n hX 0 dX7_putsOff_6 rfl rfl ?_
  refine z_getR hX 0 29 26 dX7_putsOff_7 (by decide) shM_0 rfl rfl zin_X7 (by decide) zm_809 ?_
  refine z_iload_n hX 1 dX7_putsOff_10 rfl rfl ?_
  obtain ⟨i2, hf⟩ := zifd hf
  refine z_iald hX 26 dX7_putsOff_11 (by decide) shM_26 i2 ?_
  refine z_icmp_le hX 19 dX7_putsOff_12 (by decide) (fun c3 => ?_) (fun c3 => ?_)
  · have hf := (if_pos c3).symm.trans hf
    refine z_iconst (v := 2) hX dX7_putsOff_19 (by decide) ?_
    refine z_istore_n hX [(0, .ref (X.ad 0)), (1, .int a0), (2, .int 2)] dX7_putsOff_20 rfl (by rw [hnl]; decide) [1, 2, 0] rfl ?_
    exact t_X7_putsOff_21 X out hX hQ hnl st a0 2 hf
  have hf := (if_neg c3).symm.trans hf
  refine z_iconst (v := 1) hX dX7_putsOff_15 (by decide) ?_
  refine z_goto hX 20 dX7_putsOff_16 (by decide) ?_
  refine z_istore_n hX [(0, .ref (X.ad 0)), (1, .int a0), (2, .int 1)] dX7_putsOff_20 rfl (by rw [hnl]; decide) [1, 2, 0] rfl ?_
  exact t_X7_putsOff_21 X out hX hQ hnl st a0 1 hf
theorem zb_X7_putsOff : zCal yX7_putsOff cX7_putsOff 5 none 1 := ⟨zm_1080, (zws_X7_putsOff), zm_8, zm_1081, by decide, by decide, rfl⟩
theorem c_X7_putsOff (l : Launch) (st : zSt) (a0 : Int32) (out : Unit × zSt) (hf : f_X7_putsOff st a0 = some out) : zMet l yX7_putsOff cX7_putsOff 5 none zr_X7_putsOff 42 shM (fun ad => [.ref (ad 0), .int a0]) st (fun ad => none) out.2 :=
  zmet_of (by decide +kernel) (fun _ => Nat.le_of_ble_eq_true rfl) (fun X _ hnl hX hQ => t_X7_putsOff X out hX hQ hnl st a0 hf)
abbrev zr_X7_sails : Room := { frames := 3, cells := 0, slots := 0, locals := 73 }
def f_X7_sails_109 (K102 : zSt → Int32 → Int32 → Option (Unit × zSt)) : Nat → zSt → Int32 → Int32 → Int32 → Option (Unit × zSt)
  | 0, _, _, _, _ => none
  | n + 1, st, v1, v2, v3 => (if (st.1 0 30) ≤ v3 then K102 st v1 (v2 + 1) else (if zin v3 40 then (if (st.1 28 v3.toNatClampNeg) = (v1 + 1) then (if zin v3 40 then (if (st.1 33 v3.toNatClampNeg) = (1 - v2) then ((f_X7_takes st v1 v3).bind fun q44 => f_X7_sails_109 K102 n q44.2 v1 v2 (v3 + 1)) else f_X7_sails_109 K102 n st v1 v2 (v3 + 1)) else none) else f_X7_sails_109 K102 n st v1 v2 (v3 + 1)) else none))
def f_X7_sails_159  : Nat → zSt → Int32 → Option (Unit × zSt)
  | 0, _, _ => none
  | n + 1, st, v1 => ((f_X7_difference st v1 0 0).bind fun q34 => (if q34.1 ≤ 20 then some ((), q34.2) else ((f_X7_putsOff q34.2 v1).bind fun q37 => f_X7_sails_159 n q37.2 v1)))
def f_X7_sails_102  : Nat → zSt → Int32 → Int32 → Option (Unit × zSt)
  | 0, _, _, _ => none
  | n + 1, st, v1, v2 => (if 2 ≤ v2 then f_X7_sails_159 64 st v1 else f_X7_sails_109 (fun st v1 v2 => f_X7_sails_102 n st v1 v2) 64 st v1 v2 0)
def f_X7_sails_60  : Nat → zSt → Int32 → Int32 → Option (Unit × zSt)
  | 0, _, _, _ => none
  | n + 1, st, v1, v2 => (if 4 ≤ v2 then (zlet (zwI st 0 46 0) fun s21 => (zlet (zwI s21 0 47 0) fun s23 => (zlet (zwI s23 0 48 0) fun s25 => f_X7_sails_102 64 s25 v1 0))) else (if zin v2 4 then (zlet (zwI st 39 v2.toNatClampNeg 0) fun s28 => (if zin v2 4 then (zlet (zwI s28 40 v2.toNatClampNeg 0) fun s31 => f_X7_sails_60 n s31 v1 (v2 + 1)) else none)) else none))
def f_X7_sails (st : zSt) (a0 : Int32) : Option (Unit × zSt) := (if zin a0 24 then (zlet (zwI st 22 a0.toNatClampNeg 2) fun s2 => (if zin a0 24 then (if zin (s2.1 17 a0.toNatClampNeg) 4 then ((f_X7_burns s2 a0).bind fun q6 => (if zin (s2.1 17 a0.toNatClampNeg) 4 then (zlet (zwI q6.2 7 (s2.1 17 a0.toNatClampNeg).toNatClampNeg ((s2.1 7 (s2.1 17 a0.toNatClampNeg).toNatClampNeg) - q6.1)) fun s9 => ((f_X7_crewFor s9 a0).bind fun q11 => (if zin a0 24 then (if zin ((501 * q11.1) + ((q11.2.1 20 a0.toNatClampNeg) / 24)) 3006 then ((f_X7_hoursOf q11.2 a0).bind fun q15 => (if zin ((501 * q11.1) + ((q11.2.1 20 a0.toNatClampNeg) / 24)) 3006 then (zlet (zwI q15.2 11 ((501 * q11.1) + ((q11.2.1 20 a0.toNatClampNeg) / 24)).toNatClampNeg ((q11.2.1 11 ((501 * q11.1) + ((q11.2.1 20 a0.toNatClampNeg) / 24)).toNatClampNeg) + q15.1)) fun s18 => f_X7_sails_60 64 s18 a0 0) else none)) else none) else none))) else none)) else none) else none)) else none)
set_option maxHeartbeats 4000000 in
set_option maxRecDepth 100000 in
theorem t_X7_sails_109 (X : zCx) (out : Unit × zSt) (hX : zOk X RX7 cX7_sails zr_X7_sails) (hQ : zPost X 42 shM none (none) out.2) (hnl : X.nL = 4) (K102 : zSt → Int32 → Int32 → Option (Unit × zSt)) (hK102 : ∀ (st : zSt) (v1 : Int32) (v2 : Int32), K102 st v1 v2 = some out → zG 42 shM X st 102 [(0, .ref (X.ad 0)), (1, .int v1), (2, .int v2)] []) : ∀ (n : Nat) (st : zSt) (v1 : Int32) (v2 : Int32) (v3 : Int32), f_X7_sails_109 K102 n st v1 v2 v3 = some out → zG 42 shM X st 109 [(0, .ref (X.ad 0)), (1, .int v1), (2, .int v2), (3, .int v3)] [] := by
  intro n
  induction n with
  | zero => intro st v1 v2 v3 hf; rw [f_X7_sails_109] at hf; exact (znone hf).elim
  | succ n ih =>
    intro st v1 v2 v3 hf
    rw [f_X7_sails_109] at hf
    refine z_iload_n hX 3 dX7_sails_109 rfl rfl ?_
    refine z_aload_n hX 0 dX7_sails_110 rfl rfl ?_
    refine z_getI hX 0 30 dX7_sails_111 (by decide) shM_0 rfl rfl zin_X7 (by decide) zm_810 ?_
    refine z_icmp_ge hX 153 dX7_sails_114 (by decide) (fun c39 => ?_) (fun c39 => ?_)
    · have hf := (if_pos c39).symm.trans hf
      refine z_iinc (j := 2) (v := 1) hX [(0, .ref (X.ad 0)), (1, .int v1), (2, .int (v2 + 1)), (3, .int v3)] dX7_sails_153 rfl (by decide) (by rw [hnl]; decide) [1, 2, 0, 3] rfl ?_
      refine z_goto hX 102 dX7_sails_156 (by decide) ?_
      refine z_locals [0, 1, 2] [(0, .ref (X.ad 0)), (1, .int v1), (2, .int (v2 + 1))] rfl ?_
      exact hK102 st v1 (v2 + 1) hf
    have hf := (if_neg c39).symm.trans hf
    refine z_aload_n hX 0 dX7_sails_117 rfl rfl ?_
    refine z_getR hX 0 32 28 dX7_sails_118 (by decide) shM_0 rfl rfl zin_X7 (by decide) zm_812 ?_
    refine z_iload_n hX 3 dX7_sails_121 rfl rfl ?_
    obtain ⟨i40, hf⟩ := zifd hf
    refine z_iald hX 28 dX7_sails_122 (by decide) shM_28 i40 ?_
    refine z_iload_n hX 1 dX7_sails_123 rfl rfl ?_
    refine z_iconst (v := 1) hX dX7_sails_124 (by decide) ?_
    refine z_iadd hX dX7_sails_125 ?_
    refine z_icmp_ne hX 147 dX7_sails_126 (by decide) (fun c41 => ?_) (fun c41 => ?_)
    · have hf := (if_neg c41).symm.trans hf
      refine z_iinc (j := 3) (v := 1) hX [(0, .ref (X.ad 0)), (1, .int v1), (2, .int v2), (3, .int (v3 + 1))] dX7_sails_147 rfl (by decide) (by rw [hnl]; decide) [1, 2, 3, 0] rfl ?_
      refine z_goto hX 109 dX7_sails_150 (by decide) ?_
      exact ih st v1 v2 (v3 + 1) hf
    have hf := (if_pos c41).symm.trans hf
    refine z_aload_n hX 0 dX7_sails_129 rfl rfl ?_
    refine z_getR hX 0 37 33 dX7_sails_130 (by decide) shM_0 rfl rfl zin_X7 (by decide) zm_817 ?_
    refine z_iload_n hX 3 dX7_sails_133 rfl rfl ?_
    obtain ⟨i42, hf⟩ := zifd hf
    refine z_iald hX 33 dX7_sails_134 (by decide) shM_33 i42 ?_
    refine z_iconst (v := 1) hX dX7_sails_135 (by decide) ?_
    refine z_iload_n hX 2 dX7_sails_136 rfl rfl ?_
    refine z_isub hX dX7_sails_137 ?_
    refine z_icmp_ne hX 147 dX7_sails_138 (by decide) (fun c43 => ?_) (fun c43 => ?_)
    · have hf := (if_neg c43).symm.trans hf
      refine z_iinc (j := 3) (v := 1) hX [(0, .ref (X.ad 0)), (1, .int v1), (2, .int v2), (3, .int (v3 + 1))] dX7_sails_147 rfl (by decide) (by rw [hnl]; decide) [1, 2, 3, 0] rfl ?_
      refine z_goto hX 109 dX7_sails_150 (by decide) ?_
      exact ih st v1 v2 (v3 + 1) hf
    have hf := (if_pos c43).symm.trans hf
    refine z_aload_n hX 0 dX7_sails_141 rfl rfl ?_
    refine z_iload_n hX 1 dX7_sails_142 rfl rfl ?_
    refine z_iload_n hX 3 dX7_sails_143 rfl rfl ?_
    obtain ⟨q44, e45, hf⟩ := zbind hf
    refine z_callV (stk := []) (stk' := []) hX (c_X7_takes X.l st v1 v3 q44 e45) zb_X7_takes 0 dX7_sails_144 zm_1058 (by decide) shM_0 rfl rfl rfl rfl ⟨by decide, by decide⟩ ⟨rfl, rfl⟩ (Nat.le_of_ble_eq_true rfl) rfl ?_
    refine z_iinc (j := 3) (v := 1) hX [(0, .ref (X.ad 0)), (1, .int v1), (2, .int v2), (3, .int (v3 + 1))] dX7_sails_147 rfl (by decide) (by rw [hnl]; decide) [1, 2, 3, 0] rfl ?_
    refine z_goto hX 109 dX7_sails_150 (by decide) ?_
    exact ih q44.2 v1 v2 (v3 + 1) hf
set_option maxHeartbeats 4000000 in
set_option maxRecDepth 100000 in
theorem t_X7_sails_159 (X : zCx) (out : Unit × zSt) (hX : zOk X RX7 cX7_sails zr_X7_sails) (hQ : zPost X 42 shM none (none) out.2) (hnl : X.nL = 4) : ∀ (n : Nat) (st : zSt) (v1 : Int32), f_X7_sails_159  n st v1 = some out → zG 42 shM X st 159 [(0, .ref (X.ad 0)), (1, .int v1)] [] := by
  intro n
  induction n with
  | zero => intro st v1 hf; rw [f_X7_sails_159] at hf; exact (znone hf).elim
  | succ n ih =>
    intro st v1 hf
    rw [f_X7_sails_159] at hf
    refine z_aload_n hX 0 dX7_sails_159 rfl rfl ?_
    refine z_iload_n hX 1 dX7_sails_160 rfl rfl ?_
    refine z_iconst (v := 0) hX dX7_sails_161 (by decide) ?_
    refine z_iconst (v := 0) hX dX7_sails_162 (by decide) ?_
    obtain ⟨q34, e35, hf⟩ := zbind hf
    refine z_callV (stk := []) (stk' := [.int q34.1]) hX (c_X7_difference X.l st v1 0 0 q34 e35) zb_X7_difference 0 dX7_sails_163 zm_1062 (by decide) shM_0 rfl rfl rfl rfl ⟨by decide, by decide⟩ ⟨rfl, rfl⟩ (Nat.le_of_ble_eq_true rfl) rfl ?_
    refine z_bipush (v := 20) hX dX7_sails_166 (by decide) ?_
    refine z_icmp_le hX 179 dX7_sails_168 (by decide) (fun c36 => ?_) (fun c36 => ?_)
    · have hf := (if_pos c36).symm.trans hf
      obtain rfl := Option.some.inj hf
      exact z_vret hX hQ dX7_sails_179
    have hf := (if_neg c36).symm.trans hf
    refine z_aload_n hX 0 dX7_sails_171 rfl rfl ?_
    refine z_iload_n hX 1 dX7_sails_172 rfl rfl ?_
    obtain ⟨q37, e38, hf⟩ := zbind hf
    refine z_callV (stk := []) (stk' := []) hX (c_X7_putsOff X.l q34.2 v1 q37 e38) zb_X7_putsOff 0 dX7_sails_173 zm_1078 (by decide) shM_0 rfl rfl rfl rfl ⟨by decide, by decide⟩ ⟨rfl, rfl⟩ (Nat.le_of_ble_eq_true rfl) rfl ?_
    refine z_goto hX 159 dX7_sails_176 (by decide) ?_
    exact ih q37.2 v1 hf
set_option maxHeartbeats 4000000 in
set_option maxRecDepth 100000 in
theorem t_X7_sails_102 (X : zCx) (out : Unit × zSt) (hX : zOk X RX7 cX7_sails zr_X7_sails) (hQ : zPost X 42 shM none (none) out.2) (hnl : X.nL = 4) : ∀ (n : Nat) (st : zSt) (v1 : Int32) (v2 : Int32), f_X7_sails_102  n st v1 v2 = some out → zG 42 shM X st 102 [(0, .ref (X.ad 0)), (1, .int v1), (2, .int v2)] [] := by
  intro n
  induction n with
  | zero => intro st v1 v2 hf; rw [f_X7_sails_102] at hf; exact (znone hf).elim
  | succ n ih =>
    intro st v1 v2 hf
    rw [f_X7_sails_102] at hf
    refine z_iload_n hX 2 dX7_sails_102 rfl rfl ?_
    refine z_iconst (v := 2) hX dX7_sails_103 (by decide) ?_
    refine z_icmp_ge hX 159 dX7_sails_104 (by decide) (fun c33 => ?_) (fun c33 => ?_)
    · have hf := (if_pos c33).symm.trans hf
      refine z_locals [0, 1] [(0, .ref (X.ad 0)), (1, .int v1)] rfl ?_
      exact t_X7_sails_159 X out hX hQ hnl 64 st v1 hf
    have hf := (if_neg c33).symm.trans hf
    refine z_iconst (v := 0) hX dX7_sails_107 (by decide) ?_
    refine z_istore_n hX [(0, .ref (X.ad 0)), (1, .int v1), (2, .int v2), (3, .int 0)] dX7_sails_108 rfl (by rw [hnl]; decide) [1, 2, 3, 0] rfl ?_
    exact t_X7_sails_109 X out hX hQ hnl (fun st v1 v2 => f_X7_sails_102 n st v1 v2) ih 64 st v1 v2 0 hf
set_option maxHeartbeats 4000000 in
set_option maxRecDepth 100000 in
theorem t_X7_sails_60 (X : zCx) (out : Unit × zSt) (hX : zOk X RX7 cX7_sails zr_X7_sails) (hQ : zPost X 42 shM none (none) out.2) (hnl : X.nL = 4) : ∀ (n : Nat) (st : zSt) (v1 : Int32) (v2 : Int32), f_X7_sails_60  n st v1 v2 = some out → zG 42 shM X st 60 [(0, .ref (X.ad 0)), (1, .int v1), (2, .int v2)] [] := by
  intro n
  induction n with
  | zero => intro st v1 v2 hf; rw [f_X7_sails_60] at hf; exact (znone hf).elim
  | succ n ih =>
    intro st v1 v2 hf
    rw [f_X7_sails_60] at hf
    refine z_iload_n hX 2 dX7_sails_60 rfl rfl ?_
    refine z_iconst (v := 4) hX dX7_sails_61 (by decide) ?_
    refine z_icmp_ge hX 85 dX7_sails_62 (by decide) (fun c20 => ?_) (fun c20 => ?_)
    · have hf := (if_pos c20).symm.trans hf
      refine z_aload_n hX 0 dX7_sails_85 rfl rfl ?_
      refine z_iconst (v := 0) hX dX7_sails_86 (by decide) ?_
      refine z_putI hX 0 46 dX7_sails_87 (by decide) shM_0 rfl rfl zin_X7 tyX7_ok nmX7 (by decide) zm_826 rfl rfl ?_
      obtain ⟨s21, h22, hf⟩ := zlet_ex hf
      refine z_name h22 ?_
      refine z_aload_n hX 0 dX7_sails_90 rfl rfl ?_
      refine z_iconst (v := 0) hX dX7_sails_91 (by decide) ?_
      refine z_putI hX 0 47 dX7_sails_92 (by decide) shM_0 rfl rfl zin_X7 tyX7_ok nmX7 (by decide) zm_827 rfl rfl ?_
      obtain ⟨s23, h24, hf⟩ := zlet_ex hf
      refine z_name h24 ?_
      refine z_aload_n hX 0 dX7_sails_95 rfl rfl ?_
      refine z_iconst (v := 0) hX dX7_sails_96 (by decide) ?_
      refine z_putI hX 0 48 dX7_sails_97 (by decide) shM_0 rfl rfl zin_X7 tyX7_ok nmX7 (by decide) zm_828 rfl rfl ?_
      obtain ⟨s25, h26, hf⟩ := zlet_ex hf
      refine z_name h26 ?_
      refine z_iconst (v := 0) hX dX7_sails_100 (by decide) ?_
      refine z_istore_n hX [(0, .ref (X.ad 0)), (1, .int v1), (2, .int 0)] dX7_sails_101 rfl (by rw [hnl]; decide) [1, 2, 0] rfl ?_
      exact t_X7_sails_102 X out hX hQ hnl 64 s25 v1 0 hf
    have hf := (if_neg c20).symm.trans hf
    refine z_aload_n hX 0 dX7_sails_65 rfl rfl ?_
    refine z_getR hX 0 43 39 dX7_sails_66 (by decide) shM_0 rfl rfl zin_X7 (by decide) zm_823 ?_
    refine z_iload_n hX 2 dX7_sails_69 rfl rfl ?_
    refine z_iconst (v := 0) hX dX7_sails_70 (by decide) ?_
    obtain ⟨i27, hf⟩ := zifd hf
    refine z_iast hX 39 dX7_sails_71 (by decide) shM_39 i27 ?_
    obtain ⟨s28, h29, hf⟩ := zlet_ex hf
    refine z_name h29 ?_
    refine z_aload_n hX 0 dX7_sails_72 rfl rfl ?_
    refine z_getR hX 0 44 40 dX7_sails_73 (by decide) shM_0 rfl rfl zin_X7 (by decide) zm_824 ?_
    refine z_iload_n hX 2 dX7_sails_76 rfl rfl ?_
    refine z_iconst (v := 0) hX dX7_sails_77 (by decide) ?_
    obtain ⟨i30, hf⟩ := zifd hf
    refine z_iast hX 40 dX7_sails_78 (by decide) shM_40 i30 ?_
    obtain ⟨s31, h32, hf⟩ := zlet_ex hf
    refine z_name h32 ?_
    refine z_iinc (j := 2) (v := 1) hX [(0, .ref (X.ad 0)), (1, .int v1), (2, .int (v2 + 1))] dX7_sails_79 rfl (by decide) (by rw [hnl]; decide) [1, 2, 0] rfl ?_
    refine z_goto hX 60 dX7_sails_82 (by decide) ?_
    exact ih s31 v1 (v2 + 1) hf
set_option maxHeartbeats 4000000 in
set_option maxRecDepth 100000 in
theorem t_X7_sails (X : zCx) (out : Unit × zSt) (hX : zOk X RX7 cX7_sails zr_X7_sails) (hQ : zPost X 42 shM none (none) out.2) (hnl : X.nL = 4) (st : zSt) (a0 : Int32) (hf : f_X7_sails st a0 = some out) : zG 42 shM X st 0 [(0, .ref (X.ad 0)), (1, .int a0)] [] := by
  unfold f_X7_sails at hf
  refine z_aload_n hX 0 dX7_sails_0 rfl rfl ?_
  refine z_getR hX 0 25 22 dX7_sails_1 (by decide) shM_0 rfl rfl zin_X7 (by decide) zm_805 ?_
  refine z_iload_n hX 1 dX7_sails_4 rfl rfl ?_
  refine z_iconst (v := 2) hX dX7_sails_5 (by decide) ?_
  obtain ⟨i1, hf⟩ := zifd hf
  refine z_iast hX 22 dX7_sails_6 (by decide) shM_22 i1 ?_
  obtain ⟨s2, h3, hf⟩ := zlet_ex hf
  refine z_name h3 ?_
  refine z_aload_n hX 0 dX7_sails_7 rfl rfl ?_
  refine z_getR hX 0 8 7 dX7_sails_8 (by decide) shM_0 rfl rfl zin_X7 (by decide) zm_788 ?_
  refine z_aload_n hX 0 dX7_sails_11 rfl rfl ?_
  refine z_getR hX 0 20 17 dX7_sails_12 (by decide) shM_0 rfl rfl zin_X7 (by decide) zm_800 ?_
  refine z_iload_n hX 1 dX7_sails_15 rfl rfl ?_
  obtain ⟨i4, hf⟩ := zifd hf
  refine z_iald hX 17 dX7_sails_16 (by decide) shM_17 i4 ?_
  refine z_dup2 hX dX7_sails_17 rfl rfl ?_
  obtain ⟨i5, hf⟩ := zifd hf
  refine z_iald hX 7 dX7_sails_18 (by decide) shM_7 i5 ?_
  refine z_aload_n hX 0 dX7_sails_19 rfl rfl ?_
  refine z_iload_n hX 1 dX7_sails_20 rfl rfl ?_
  obtain ⟨q6, e7, hf⟩ := zbind hf
  refine z_callV (stk := [.int (s2.1 7 (s2.1 17 a0.toNatClampNeg).toNatClampNeg), .int (s2.1 17 a0.toNatClampNeg), .ref (X.ad 7)]) (stk' := [.int q6.1, .int (s2.1 7 (s2.1 17 a0.toNatClampNeg).toNatClampNeg), .int (s2.1 17 a0.toNatClampNeg), .ref (X.ad 7)]) hX (c_X7_burns X.l s2 a0 q6 e7) zb_X7_burns 0 dX7_sails_21 zm_1050 (by decide) shM_0 rfl rfl rfl rfl ⟨by decide, by decide⟩ ⟨rfl, rfl⟩ (Nat.le_of_ble_eq_true rfl) rfl ?_
  refine z_isub hX dX7_sails_24 ?_
  obtain ⟨i8, hf⟩ := zifd hf
  refine z_iast hX 7 dX7_sails_25 (by decide) shM_7 i8 ?_
  obtain ⟨s9, h10, hf⟩ := zlet_ex hf
  refine z_name h10 ?_
  refine z_aload_n hX 0 dX7_sails_26 rfl rfl ?_
  refine z_getR hX 0 13 11 dX7_sails_27 (by decide) shM_0 rfl rfl zin_X7 (by decide) zm_793 ?_
  refine z_sipush (v := 501) hX dX7_sails_30 (by decide) ?_
  refine z_aload_n hX 0 dX7_sails_33 rfl rfl ?_
  refine z_iload_n hX 1 dX7_sails_34 rfl rfl ?_
  obtain ⟨q11, e12, hf⟩ := zbind hf
  refine z_callV (stk := [.int 501, .ref (X.ad 11)]) (stk' := [.int q11.1, .int 501, .ref (X.ad 11)]) hX (c_X7_crewFor X.l s9 a0 q11 e12) zb_X7_crewFor 0 dX7_sails_35 zm_1046 (by decide) shM_0 rfl rfl rfl rfl ⟨by decide, by decide⟩ ⟨rfl, rfl⟩ (Nat.le_of_ble_eq_true rfl) rfl ?_
  refine z_imul hX dX7_sails_38 ?_
  refine z_aload_n hX 0 dX7_sails_39 rfl rfl ?_
  refine z_getR hX 0 23 20 dX7_sails_40 (by decide) shM_0 rfl rfl zin_X7 (by decide) zm_803 ?_
  refine z_iload_n hX 1 dX7_sails_43 rfl rfl ?_
  obtain ⟨i13, hf⟩ := zifd hf
  refine z_iald hX 20 dX7_sails_44 (by decide) shM_20 i13 ?_
  refine z_bipush (v := 24) hX dX7_sails_45 (by decide) ?_
  refine z_idiv hX dX7_sails_47 (by decide) ?_
  refine z_iadd hX dX7_sails_48 ?_
  refine z_dup2 hX dX7_sails_49 rfl rfl ?_
  obtain ⟨i14, hf⟩ := zifd hf
  refine z_iald hX 11 dX7_sails_50 (by decide) shM_11 i14 ?_
  refine z_aload_n hX 0 dX7_sails_51 rfl rfl ?_
  refine z_iload_n hX 1 dX7_sails_52 rfl rfl ?_
  obtain ⟨q15, e16, hf⟩ := zbind hf
  refine z_callV (stk := [.int (q11.2.1 11 ((501 * q11.1) + ((q11.2.1 20 a0.toNatClampNeg) / 24)).toNatClampNeg), .int ((501 * q11.1) + ((q11.2.1 20 a0.toNatClampNeg) / 24)), .ref (X.ad 11)]) (stk' := [.int q15.1, .int (q11.2.1 11 ((501 * q11.1) + ((q11.2.1 20 a0.toNatClampNeg) / 24)).toNatClampNeg), .int ((501 * q11.1) + ((q11.2.1 20 a0.toNatClampNeg) / 24)), .ref (X.ad 11)]) hX (c_X7_hoursOf X.l q11.2 a0 q15 e16) zb_X7_hoursOf 0 dX7_sails_53 zm_1006 (by decide) shM_0 rfl rfl rfl rfl ⟨by decide, by decide⟩ ⟨rfl, rfl⟩ (Nat.le_of_ble_eq_true rfl) rfl ?_
  refine z_iadd hX dX7_sails_56 ?_
  obtain ⟨i17, hf⟩ := zifd hf
  refine z_iast hX 11 dX7_sails_57 (by decide) shM_11 i17 ?_
  obtain ⟨s18, h19, hf⟩ := zlet_ex hf
  refine z_name h19 ?_
  refine z_iconst (v := 0) hX dX7_sails_58 (by decide) ?_
  refine z_istore_n hX [(0, .ref (X.ad 0)), (1, .int a0), (2, .int 0)] dX7_sails_59 rfl (by rw [hnl]; decide) [1, 2, 0] rfl ?_
  exact t_X7_sails_60 X out hX hQ hnl 64 s18 a0 0 hf
theorem zb_X7_sails : zCal yX7_sails cX7_sails 4 none 1 := ⟨zm_1056, (zws_X7_sails), zm_8, zm_1057, by decide, by decide, rfl⟩
theorem c_X7_sails (l : Launch) (st : zSt) (a0 : Int32) (out : Unit × zSt) (hf : f_X7_sails st a0 = some out) : zMet l yX7_sails cX7_sails 4 none zr_X7_sails 42 shM (fun ad => [.ref (ad 0), .int a0]) st (fun ad => none) out.2 :=
  zmet_of (by decide +kernel) (fun _ => Nat.le_of_ble_eq_true rfl) (fun X _ hnl hX hQ => t_X7_sails X out hX hQ hnl st a0 hf)
abbrev zr_X7_pass : Room := { frames := 4, cells := 0, slots := 0, locals := 96 }
def f_X7_pass_118 (K46 : zSt → Int32 → Int32 → Option (Int32 × zSt)) (K53 : zSt → Int32 → Int32 → Int32 → Option (Int32 × zSt)) (st : zSt) (v1 : Int32) (v2 : Int32) (v3 : Int32) : Option (Int32 × zSt) := ((f_X7_empties st v3).bind fun q31 => K53 q31.2 v1 v2 (v3 + 1))
def f_X7_pass_53 (K46 : zSt → Int32 → Int32 → Option (Int32 × zSt)) : Nat → zSt → Int32 → Int32 → Int32 → Option (Int32 × zSt)
  | 0, _, _, _, _ => none
  | n + 1, st, v1, v2, v3 => (if (st.1 0 19) ≤ v3 then (zlet (zwI st 0 0 ((st.1 0 0) + 1)) fun s14 => K46 s14 v1 (v2 + 1)) else (if zin v3 24 then (if (st.1 22 v3.toNatClampNeg) = 0 then (if zin v3 24 then (if (st.1 20 v3.toNatClampNeg) = (st.1 0 0) then ((f_X7_reasonFor st v3).bind fun q20 => (if zin v3 24 then (zlet (zwI q20.2 23 v3.toNatClampNeg q20.1) fun s23 => (if q20.1 ≤ 0 then ((f_X7_sails s23 v3).bind fun q26 => f_X7_pass_118 K46 (fun st v1 v2 v3 => f_X7_pass_53 K46 n st v1 v2 v3) q26.2 v1 v2 v3) else (if zin v3 24 then (zlet (zwI s23 22 v3.toNatClampNeg 1) fun s29 => f_X7_pass_118 K46 (fun st v1 v2 v3 => f_X7_pass_53 K46 n st v1 v2 v3) s29 v1 v2 v3) else none))) else none)) else f_X7_pass_53 K46 n st v1 v2 (v3 + 1)) else none) else f_X7_pass_53 K46 n st v1 v2 (v3 + 1)) else none))
def f_X7_pass_46  : Nat → zSt → Int32 → Int32 → Option (Int32 × zSt)
  | 0, _, _, _ => none
  | n + 1, st, v1, v2 => (if v1 ≤ v2 then some ((st.1 0 0), st) else f_X7_pass_53 (fun st v1 v2 => f_X7_pass_46 n st v1 v2) 64 st v1 v2 0)
def f_X7_pass_35  (st : zSt) (v1 : Int32) : Option (Int32 × zSt) := (if (st.1 0 52) ≤ 0 then f_X7_pass_46 64 st v1 0 else some (0, st))
def f_X7_pass (st : zSt) (a0 : Int32) : Option (Int32 × zSt) := ((f_X7_in st a0 1 48).bind fun q1 => (if q1.1 = 0 then (zlet (zwI q1.2 0 52 1) fun s9 => f_X7_pass_35 s9 a0) else (if ((q1.2.1 0 0) + a0) ≤ 9000 then (zlet (zwI q1.2 0 52 0) fun s5 => f_X7_pass_35 s5 a0) else (zlet (zwI q1.2 0 52 2) fun s7 => f_X7_pass_35 s7 a0))))
set_option maxHeartbeats 4000000 in
set_option maxRecDepth 100000 in
theorem t_X7_pass_118 (X : zCx) (out : Int32 × zSt) (hX : zOk X RX7 cX7_pass zr_X7_pass) (hQ : zPost X 42 shM (some .int) (some (.int out.1)) out.2) (hnl : X.nL = 5) (K46 : zSt → Int32 → Int32 → Option (Int32 × zSt)) (hK46 : ∀ (st : zSt) (v1 : Int32) (v2 : Int32), K46 st v1 v2 = some out → zG 42 shM X st 46 [(0, .ref (X.ad 0)), (1, .int v1), (2, .int v2)] []) (K53 : zSt → Int32 → Int32 → Int32 → Option (Int32 × zSt)) (hK53 : ∀ (st : zSt) (v1 : Int32) (v2 : Int32) (v3 : Int32), K53 st v1 v2 v3 = some out → zG 42 shM X st 53 [(0, .ref (X.ad 0)), (1, .int v1), (2, .int v2), (3, .int v3)] []) (st : zSt) (v1 : Int32) (v2 : Int32) (v3 : Int32) (hf : f_X7_pass_118 K46 K53 st v1 v2 v3 = some out) : zG 42 shM X st 118 [(0, .ref (X.ad 0)), (1, .int v1), (2, .int v2), (3, .int v3)] [] := by
  unfold f_X7_pass_118 at hf
  refine z_aload_n hX 0 dX7_pass_118 rfl rfl ?_
  refine z_iload_n hX 3 dX7_pass_119 rfl rfl ?_
  obtain ⟨q31, e32, hf⟩ := zbind hf
  refine z_callV (stk := []) (stk' := [.int q31.1]) hX (c_X7_empties X.l st v3 q31 e32) zb_X7_empties 0 dX7_pass_120 zm_1022 (by decide) shM_0 rfl rfl rfl rfl ⟨by decide, by decide⟩ ⟨rfl, rfl⟩ (Nat.le_of_ble_eq_true rfl) rfl ?_
  refine z_pop hX dX7_pass_123 rfl ?_
  refine z_iinc (j := 3) (v := 1) hX [(0, .ref (X.ad 0)), (1, .int v1), (2, .int v2), (3, .int (v3 + 1))] dX7_pass_124 rfl (by decide) (by rw [hnl]; decide) [1, 2, 3, 0] rfl ?_
  refine z_goto hX 53 dX7_pass_127 (by decide) ?_
  exact hK53 q31.2 v1 v2 (v3 + 1) hf
set_option maxHeartbeats 4000000 in
set_option maxRecDepth 100000 in
theorem t_X7_pass_53 (X : zCx) (out : Int32 × zSt) (hX : zOk X RX7 cX7_pass zr_X7_pass) (hQ : zPost X 42 shM (some .int) (some (.int out.1)) out.2) (hnl : X.nL = 5) (K46 : zSt → Int32 → Int32 → Option (Int32 × zSt)) (hK46 : ∀ (st : zSt) (v1 : Int32) (v2 : Int32), K46 st v1 v2 = some out → zG 42 shM X st 46 [(0, .ref (X.ad 0)), (1, .int v1), (2, .int v2)] []) : ∀ (n : Nat) (st : zSt) (v1 : Int32) (v2 : Int32) (v3 : Int32), f_X7_pass_53 K46 n st v1 v2 v3 = some out → zG 42 shM X st 53 [(0, .ref (X.ad 0)), (1, .int v1), (2, .int v2), (3, .int v3)] [] := by
  intro n
  induction n with
  | zero => intro st v1 v2 v3 hf; rw [f_X7_pass_53] at hf; exact (znone hf).elim
  | succ n ih =>
    intro st v1 v2 v3 hf
    rw [f_X7_pass_53] at hf
    refine z_iload_n hX 3 dX7_pass_53 rfl rfl ?_
    refine z_aload_n hX 0 dX7_pass_54 rfl rfl ?_
    refine z_getI hX 0 19 dX7_pass_55 (by decide) shM_0 rfl rfl zin_X7 (by decide) zm_799 ?_
    refine z_icmp_ge hX 130 dX7_pass_58 (by decide) (fun c13 => ?_) (fun c13 => ?_)
    · have hf := (if_pos c13).symm.trans hf
      refine z_aload_n hX 0 dX7_pass_130 rfl rfl ?_
      refine z_dup hX dX7_pass_131 rfl ?_
      refine z_getI hX 0 0 dX7_pass_132 (by decide) shM_0 rfl rfl zin_X7 (by decide) zm_780 ?_
      refine z_iconst (v := 1) hX dX7_pass_135 (by decide) ?_
      refine z_iadd hX dX7_pass_136 ?_
      refine z_putI hX 0 0 dX7_pass_137 (by decide) shM_0 rfl rfl zin_X7 tyX7_ok nmX7 (by decide) zm_780 rfl rfl ?_
      obtain ⟨s14, h15, hf⟩ := zlet_ex hf
      refine z_name h15 ?_
      refine z_iinc (j := 2) (v := 1) hX [(0, .ref (X.ad 0)), (1, .int v1), (2, .int (v2 + 1)), (3, .int v3)] dX7_pass_140 rfl (by decide) (by rw [hnl]; decide) [1, 2, 0, 3] rfl ?_
      refine z_goto hX 46 dX7_pass_143 (by decide) ?_
      refine z_locals [0, 1, 2] [(0, .ref (X.ad 0)), (1, .int v1), (2, .int (v2 + 1))] rfl ?_
      exact hK46 s14 v1 (v2 + 1) hf
    have hf := (if_neg c13).symm.trans hf
    refine z_aload_n hX 0 dX7_pass_61 rfl rfl ?_
    refine z_getR hX 0 25 22 dX7_pass_62 (by decide) shM_0 rfl rfl zin_X7 (by decide) zm_805 ?_
    refine z_iload_n hX 3 dX7_pass_65 rfl rfl ?_
    obtain ⟨i16, hf⟩ := zifd hf
    refine z_iald hX 22 dX7_pass_66 (by decide) shM_22 i16 ?_
    refine z_if_ne hX 124 dX7_pass_67 (by decide) (fun c17 => ?_) (fun c17 => ?_)
    · have hf := (if_neg c17).symm.trans hf
      refine z_iinc (j := 3) (v := 1) hX [(0, .ref (X.ad 0)), (1, .int v1), (2, .int v2), (3, .int (v3 + 1))] dX7_pass_124 rfl (by decide) (by rw [hnl]; decide) [1, 2, 3, 0] rfl ?_
      refine z_goto hX 53 dX7_pass_127 (by decide) ?_
      exact ih st v1 v2 (v3 + 1) hf
    have hf := (if_pos c17).symm.trans hf
    refine z_aload_n hX 0 dX7_pass_70 rfl rfl ?_
    refine z_getR hX 0 23 20 dX7_pass_71 (by decide) shM_0 rfl rfl zin_X7 (by decide) zm_803 ?_
    refine z_iload_n hX 3 dX7_pass_74 rfl rfl ?_
    obtain ⟨i18, hf⟩ := zifd hf
    refine z_iald hX 20 dX7_pass_75 (by decide) shM_20 i18 ?_
    refine z_aload_n hX 0 dX7_pass_76 rfl rfl ?_
    refine z_getI hX 0 0 dX7_pass_77 (by decide) shM_0 rfl rfl zin_X7 (by decide) zm_780 ?_
    refine z_icmp_ne hX 124 dX7_pass_80 (by decide) (fun c19 => ?_) (fun c19 => ?_)
    · have hf := (if_neg c19).symm.trans hf
      refine z_iinc (j := 3) (v := 1) hX [(0, .ref (X.ad 0)), (1, .int v1), (2, .int v2), (3, .int (v3 + 1))] dX7_pass_124 rfl (by decide) (by rw [hnl]; decide) [1, 2, 3, 0] rfl ?_
      refine z_goto hX 53 dX7_pass_127 (by decide) ?_
      exact ih st v1 v2 (v3 + 1) hf
    have hf := (if_pos c19).symm.trans hf
    refine z_aload_n hX 0 dX7_pass_83 rfl rfl ?_
    refine z_iload_n hX 3 dX7_pass_84 rfl rfl ?_
    obtain ⟨q20, e21, hf⟩ := zbind hf
    refine z_callV (stk := []) (stk' := [.int q20.1]) hX (c_X7_reasonFor X.l st v3 q20 e21) zb_X7_reasonFor 0 dX7_pass_85 zm_1042 (by decide) shM_0 rfl rfl rfl rfl ⟨by decide, by decide⟩ ⟨rfl, rfl⟩ (Nat.le_of_ble_eq_true rfl) rfl ?_
    refine z_istore hX [(0, .ref (X.ad 0)), (1, .int v1), (2, .int v2), (3, .int v3), (4, .int q20.1)] dX7_pass_88 (by rw [hnl]; decide) [1, 2, 3, 4, 0] rfl ?_
    refine z_aload_n hX 0 dX7_pass_90 rfl rfl ?_
    refine z_getR hX 0 26 23 dX7_pass_91 (by decide) shM_0 rfl rfl zin_X7 (by decide) zm_806 ?_
    refine z_iload_n hX 3 dX7_pass_94 rfl rfl ?_
    refine z_iload hX 4 dX7_pass_95 rfl ?_
    obtain ⟨i22, hf⟩ := zifd hf
    refine z_iast hX 23 dX7_pass_97 (by decide) shM_23 i22 ?_
    obtain ⟨s23, h24, hf⟩ := zlet_ex hf
    refine z_name h24 ?_
    refine z_iload hX 4 dX7_pass_98 rfl ?_
    refine z_if_le hX 113 dX7_pass_100 (by decide) (fun c25 => ?_) (fun c25 => ?_)
    · have hf := (if_pos c25).symm.trans hf
      refine z_aload_n hX 0 dX7_pass_113 rfl rfl ?_
      refine z_iload_n hX 3 dX7_pass_114 rfl rfl ?_
      obtain ⟨q26, e27, hf⟩ := zbind hf
      refine z_callV (stk := []) (stk' := []) hX (c_X7_sails X.l s23 v3 q26 e27) zb_X7_sails 0 dX7_pass_115 zm_1054 (by decide) shM_0 rfl rfl rfl rfl ⟨by decide, by decide⟩ ⟨rfl, rfl⟩ (Nat.le_of_ble_eq_true rfl) rfl ?_
      refine z_locals [0, 1, 2, 3] [(0, .ref (X.ad 0)), (1, .int v1), (2, .int v2), (3, .int v3)] rfl ?_
      exact t_X7_pass_118 X out hX hQ hnl K46 hK46 (fun st v1 v2 v3 => f_X7_pass_53 K46 n st v1 v2 v3) ih q26.2 v1 v2 v3 hf
    have hf := (if_neg c25).symm.trans hf
    refine z_aload_n hX 0 dX7_pass_103 rfl rfl ?_
    refine z_getR hX 0 25 22 dX7_pass_104 (by decide) shM_0 rfl rfl zin_X7 (by decide) zm_805 ?_
    refine z_iload_n hX 3 dX7_pass_107 rfl rfl ?_
    refine z_iconst (v := 1) hX dX7_pass_108 (by decide) ?_
    obtain ⟨i28, hf⟩ := zifd hf
    refine z_iast hX 22 dX7_pass_109 (by decide) shM_22 i28 ?_
    obtain ⟨s29, h30, hf⟩ := zlet_ex hf
    refine z_name h30 ?_
    refine z_goto hX 118 dX7_pass_110 (by decide) ?_
    refine z_locals [0, 1, 2, 3] [(0, .ref (X.ad 0)), (1, .int v1), (2, .int v2), (3, .int v3)] rfl ?_
    exact t_X7_pass_118 X out hX hQ hnl K46 hK46 (fun st v1 v2 v3 => f_X7_pass_53 K46 n st v1 v2 v3) ih s29 v1 v2 v3 hf
set_option maxHeartbeats 4000000 in
set_option maxRecDepth 100000 in
theorem t_X7_pass_46 (X : zCx) (out : Int32 × zSt) (hX : zOk X RX7 cX7_pass zr_X7_pass) (hQ : zPost X 42 shM (some .int) (some (.int out.1)) out.2) (hnl : X.nL = 5) : ∀ (n : Nat) (st : zSt) (v1 : Int32) (v2 : Int32), f_X7_pass_46  n st v1 v2 = some out → zG 42 shM X st 46 [(0, .ref (X.ad 0)), (1, .int v1), (2, .int v2)] [] := by
  intro n
  induction n with
  | zero => intro st v1 v2 hf; rw [f_X7_pass_46] at hf; exact (znone hf).elim
  | succ n ih =>
    intro st v1 v2 hf
    rw [f_X7_pass_46] at hf
    refine z_iload_n hX 2 dX7_pass_46 rfl rfl ?_
    refine z_iload_n hX 1 dX7_pass_47 rfl rfl ?_
    refine z_icmp_ge hX 146 dX7_pass_48 (by decide) (fun c12 => ?_) (fun c12 => ?_)
    · have hf := (if_pos c12).symm.trans hf
      refine z_aload_n hX 0 dX7_pass_146 rfl rfl ?_
      refine z_getI hX 0 0 dX7_pass_147 (by decide) shM_0 rfl rfl zin_X7 (by decide) zm_780 ?_
      obtain rfl := Option.some.inj hf
      exact z_iret hX hQ dX7_pass_150 rfl
    have hf := (if_neg c12).symm.trans hf
    refine z_iconst (v := 0) hX dX7_pass_51 (by decide) ?_
    refine z_istore_n hX [(0, .ref (X.ad 0)), (1, .int v1), (2, .int v2), (3, .int 0)] dX7_pass_52 rfl (by rw [hnl]; decide) [1, 2, 3, 0] rfl ?_
    exact t_X7_pass_53 X out hX hQ hnl (fun st v1 v2 => f_X7_pass_46 n st v1 v2) ih 64 st v1 v2 0 hf
set_option maxHeartbeats 4000000 in
set_option maxRecDepth 100000 in
theorem t_X7_pass_35 (X : zCx) (out : Int32 × zSt) (hX : zOk X RX7 cX7_pass zr_X7_pass) (hQ : zPost X 42 shM (some .int) (some (.int out.1)) out.2) (hnl : X.nL = 5) (st : zSt) (v1 : Int32) (hf : f_X7_pass_35  st v1 = some out) : zG 42 shM X st 35 [(0, .ref (X.ad 0)), (1, .int v1)] [] := by
  unfold f_X7_pass_35 at hf
  refine z_aload_n hX 0 dX7_pass_35 rfl rfl ?_
  refine z_getI hX 0 52 dX7_pass_36 (by decide) shM_0 rfl rfl zin_X7 (by decide) zm_832 ?_
  refine z_if_le hX 44 dX7_pass_39 (by decide) (fun c11 => ?_) (fun c11 => ?_)
  · have hf := (if_pos c11).symm.trans hf
    refine z_iconst (v := 0) hX dX7_pass_44 (by decide) ?_
    refine z_istore_n hX [(0, .ref (X.ad 0)), (1, .int v1), (2, .int 0)] dX7_pass_45 rfl (by rw [hnl]; decide) [1, 2, 0] rfl ?_
    exact t_X7_pass_46 X out hX hQ hnl 64 st v1 0 hf
  have hf := (if_neg c11).symm.trans hf
  refine z_iconst (v := 0) hX dX7_pass_42 (by decide) ?_
  obtain rfl := Option.some.inj hf
  exact z_iret hX hQ dX7_pass_43 rfl
set_option maxHeartbeats 4000000 in
set_option maxRecDepth 100000 in
theorem t_X7_pass (X : zCx) (out : Int32 × zSt) (hX : zOk X RX7 cX7_pass zr_X7_pass) (hQ : zPost X 42 shM (some .int) (some (.int out.1)) out.2) (hnl : X.nL = 5) (st : zSt) (a0 : Int32) (hf : f_X7_pass st a0 = some out) : zG 42 shM X st 0 [(0, .ref (X.ad 0)), (1, .int a0)] [] := by
  unfold f_X7_pass at hf
  refine z_aload_n hX 0 dX7_pass_0 rfl rfl ?_
  refine z_iload_n hX 1 dX7_pass_1 rfl rfl ?_
  refine z_iconst (v := 1) hX dX7_pass_2 (by decide) ?_
  refine z_bipush (v := 48) hX dX7_pass_3 (by decide) ?_
  obtain ⟨q1, e2, hf⟩ := zbind hf
  refine z_callS (stk := [.ref (X.ad 0)]) (stk' := [.int q1.1, .ref (X.ad 0)]) hX (c_X7_in X.l st a0 1 48 q1 e2) zb_X7_in dX7_pass_5 zm_951 rfl rfl rfl ⟨by decide, by decide⟩ ⟨rfl, rfl⟩ (Nat.le_of_ble_eq_true rfl) rfl ?_
  refine z_if_ne hX 15 dX7_pass_8 (by decide) (fun c3 => ?_) (fun c3 => ?_)
  · have hf := (if_neg c3).symm.trans hf
    refine z_aload_n hX 0 dX7_pass_15 rfl rfl ?_
    refine z_getI hX 0 0 dX7_pass_16 (by decide) shM_0 rfl rfl zin_X7 (by decide) zm_780 ?_
    refine z_iload_n hX 1 dX7_pass_19 rfl rfl ?_
    refine z_iadd hX dX7_pass_20 ?_
    refine z_sipush (v := 9000) hX dX7_pass_21 (by decide) ?_
    refine z_icmp_le hX 31 dX7_pass_24 (by decide) (fun c4 => ?_) (fun c4 => ?_)
    · have hf := (if_pos c4).symm.trans hf
      refine z_iconst (v := 0) hX dX7_pass_31 (by decide) ?_
      refine z_putI hX 0 52 dX7_pass_32 (by decide) shM_0 rfl rfl zin_X7 tyX7_ok nmX7 (by decide) zm_832 rfl rfl ?_
      obtain ⟨s5, h6, hf⟩ := zlet_ex hf
      refine z_name h6 ?_
      exact t_X7_pass_35 X out hX hQ hnl s5 a0 hf
    have hf := (if_neg c4).symm.trans hf
    refine z_iconst (v := 2) hX dX7_pass_27 (by decide) ?_
    refine z_goto hX 32 dX7_pass_28 (by decide) ?_
    refine z_putI hX 0 52 dX7_pass_32 (by decide) shM_0 rfl rfl zin_X7 tyX7_ok nmX7 (by decide) zm_832 rfl rfl ?_
    obtain ⟨s7, h8, hf⟩ := zlet_ex hf
    refine z_name h8 ?_
    exact t_X7_pass_35 X out hX hQ hnl s7 a0 hf
  have hf := (if_pos c3).symm.trans hf
  refine z_iconst (v := 1) hX dX7_pass_11 (by decide) ?_
  refine z_goto hX 32 dX7_pass_12 (by decide) ?_
  refine z_putI hX 0 52 dX7_pass_32 (by decide) shM_0 rfl rfl zin_X7 tyX7_ok nmX7 (by decide) zm_832 rfl rfl ?_
  obtain ⟨s9, h10, hf⟩ := zlet_ex hf
  refine z_name h10 ?_
  exact t_X7_pass_35 X out hX hQ hnl s9 a0 hf
theorem zb_X7_pass : zCal yX7_pass cX7_pass 5 (some .int) 1 := ⟨zm_1039, (zwl_in zm_1040 rfl), zm_8, zm_1041, by decide, by decide, rfl⟩
theorem c_X7_pass (l : Launch) (st : zSt) (a0 : Int32) (out : Int32 × zSt) (hf : f_X7_pass st a0 = some out) : zMet l yX7_pass cX7_pass 5 (some .int) zr_X7_pass 42 shM (fun ad => [.ref (ad 0), .int a0]) st (fun ad => some (.int out.1)) out.2 :=
  zmet_of (by decide +kernel) (fun _ => Nat.le_of_ble_eq_true rfl) (fun X _ hnl hX hQ => t_X7_pass X out hX hQ hnl st a0 hf)
