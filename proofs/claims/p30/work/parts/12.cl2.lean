/-! methods, walked by program: f_.. what they do to the numbered world, t_.. the walk, c_.. the contract -/
abbrev zr_X2_leanOf : Room := { frames := 0, cells := 0, slots := 0, locals := 0 }
def f_X2_leanOf (st : zSt) (a0 : Int32) (a1 : Int32) : Option (Int32 × zSt) := (if ((st.1 11 2) - 1) ≤ (2 * a0) then (if (2 * a0) ≤ ((st.1 11 2) - 1) then some (0, st) else some ((-a1), st)) else some (a1, st))
set_option maxHeartbeats 4000000 in
set_option maxRecDepth 100000 in
theorem t_X2_leanOf (X : zCx) (out : Int32 × zSt) (hX : zOk X RX2 cX2_leanOf zr_X2_leanOf) (hQ : zPost X 98 shC (some .int) (some (.int out.1)) out.2) (hnl : X.nL = 3) (st : zSt) (a0 : Int32) (a1 : Int32) (hf : f_X2_leanOf st a0 a1 = some out) : zG 98 shC X st 0 [(0, .ref (X.ad 11)), (1, .int a0), (2, .int a1)] [] := by
  unfold f_X2_leanOf at hf
  refine z_iconst (v := 2) hX dX2_leanOf_0 (by decide) ?_
  refine z_iload_n hX 1 dX2_leanOf_1 rfl rfl ?_
  refine z_imul hX dX2_leanOf_2 ?_
  refine z_aload_n hX 0 dX2_leanOf_3 rfl rfl ?_
  refine z_getI hX 11 2 dX2_leanOf_4 (by decide) shC_11 rfl rfl zin_X2 (by decide) zm_55 ?_
  refine z_iconst (v := 1) hX dX2_leanOf_7 (by decide) ?_
  refine z_isub hX dX2_leanOf_8 ?_
  refine z_icmp_ge hX 14 dX2_leanOf_9 (by decide) (fun c1 => ?_) (fun c1 => ?_)
  · have hf := (if_pos c1).symm.trans hf
    refine z_iconst (v := 2) hX dX2_leanOf_14 (by decide) ?_
    refine z_iload_n hX 1 dX2_leanOf_15 rfl rfl ?_
    refine z_imul hX dX2_leanOf_16 ?_
    refine z_aload_n hX 0 dX2_leanOf_17 rfl rfl ?_
    refine z_getI hX 11 2 dX2_leanOf_18 (by decide) shC_11 rfl rfl zin_X2 (by decide) zm_55 ?_
    refine z_iconst (v := 1) hX dX2_leanOf_21 (by decide) ?_
    refine z_isub hX dX2_leanOf_22 ?_
    refine z_icmp_le hX 31 dX2_leanOf_23 (by decide) (fun c2 => ?_) (fun c2 => ?_)
    · have hf := (if_pos c2).symm.trans hf
      refine z_iconst (v := 0) hX dX2_leanOf_31 (by decide) ?_
      obtain rfl := Option.some.inj hf
      exact z_iret hX hQ dX2_leanOf_32 rfl
    have hf := (if_neg c2).symm.trans hf
    refine z_iload_n hX 2 dX2_leanOf_26 rfl rfl ?_
    refine z_ineg hX dX2_leanOf_27 ?_
    refine z_goto hX 32 dX2_leanOf_28 (by decide) ?_
    obtain rfl := Option.some.inj hf
    exact z_iret hX hQ dX2_leanOf_32 rfl
  have hf := (if_neg c1).symm.trans hf
  refine z_iload_n hX 2 dX2_leanOf_12 rfl rfl ?_
  obtain rfl := Option.some.inj hf
  exact z_iret hX hQ dX2_leanOf_13 rfl
theorem zb_X2_leanOf : zCal yX2_leanOf cX2_leanOf 3 (some .int) 2 := ⟨zm_517, (zws_X2_leanOf), zm_3, zm_518, by decide, by decide, rfl⟩
theorem c_X2_leanOf (l : Launch) (st : zSt) (a0 : Int32) (a1 : Int32) (out : Int32 × zSt) (hf : f_X2_leanOf st a0 a1 = some out) : zMet l yX2_leanOf cX2_leanOf 3 (some .int) zr_X2_leanOf 98 shC (fun ad => [.ref (ad 11), .int a0, .int a1]) st (fun ad => some (.int out.1)) out.2 :=
  zmet_of (by decide +kernel) (fun _ => Nat.le_of_ble_eq_true rfl) (fun X _ hnl hX hQ => t_X2_leanOf X out hX hQ hnl st a0 a1 hf)
abbrev zr_X2_clear : Room := { frames := 0, cells := 0, slots := 0, locals := 0 }
def f_X2_clear_46  : Nat → zSt → Int32 → Option (Unit × zSt)
  | 0, _, _ => none
  | n + 1, st, v2 => (if 4 ≤ v2 then some ((), st) else (if zin v2 4 then (zlet (zwI st 12 v2.toNatClampNeg 0) fun s17 => (if zin v2 4 then (zlet (zwI s17 13 v2.toNatClampNeg 0) fun s20 => f_X2_clear_46 n s20 (v2 + 1)) else none)) else none))
def f_X2_clear (st : zSt) (a0 : Nat) : Option (Unit × zSt) := (zlet (zwI st 11 2 (st.1 a0 1)) fun s1 => (zlet (zwI s1 11 3 (s1.1 a0 2)) fun s3 => (zlet (zwI s3 11 4 (s3.1 a0 3)) fun s5 => (zlet (zwI s5 11 5 0) fun s7 => (zlet (zwI s7 11 6 0) fun s9 => (zlet (zwI s9 11 7 0) fun s11 => (zlet (zwI s11 11 8 0) fun s13 => f_X2_clear_46 64 s13 0)))))))
set_option maxHeartbeats 4000000 in
set_option maxRecDepth 100000 in
theorem t_X2_clear_46 (X : zCx) (out : Unit × zSt) (hX : zOk X RX2 cX2_clear zr_X2_clear) (hQ : zPost X 98 shC none (none) out.2) (hnl : X.nL = 3) : ∀ (n : Nat) (st : zSt) (v2 : Int32), f_X2_clear_46  n st v2 = some out → zG 98 shC X st 46 [(0, .ref (X.ad 11)), (2, .int v2)] [] := by
  intro n
  induction n with
  | zero => intro st v2 hf; rw [f_X2_clear_46] at hf; exact (znone hf).elim
  | succ n ih =>
    intro st v2 hf
    rw [f_X2_clear_46] at hf
    refine z_iload_n hX 1 dX2_clear_46 rfl rfl ?_
    refine z_iconst (v := 4) hX dX2_clear_47 (by decide) ?_
    refine z_icmp_ge hX 71 dX2_clear_48 (by decide) (fun c15 => ?_) (fun c15 => ?_)
    · have hf := (if_pos c15).symm.trans hf
      obtain rfl := Option.some.inj hf
      exact z_vret hX hQ dX2_clear_71
    have hf := (if_neg c15).symm.trans hf
    refine z_aload_n hX 0 dX2_clear_51 rfl rfl ?_
    refine z_getR hX 11 0 12 dX2_clear_52 (by decide) shC_11 rfl rfl zin_X2 (by decide) zm_53 ?_
    refine z_iload_n hX 1 dX2_clear_55 rfl rfl ?_
    refine z_iconst (v := 0) hX dX2_clear_56 (by decide) ?_
    obtain ⟨i16, hf⟩ := zifd hf
    refine z_iast hX 12 dX2_clear_57 (by decide) shC_12 i16 ?_
    obtain ⟨s17, h18, hf⟩ := zlet_ex hf
    refine z_name h18 ?_
    refine z_aload_n hX 0 dX2_clear_58 rfl rfl ?_
    refine z_getR hX 11 1 13 dX2_clear_59 (by decide) shC_11 rfl rfl zin_X2 (by decide) zm_54 ?_
    refine z_iload_n hX 1 dX2_clear_62 rfl rfl ?_
    refine z_iconst (v := 0) hX dX2_clear_63 (by decide) ?_
    obtain ⟨i19, hf⟩ := zifd hf
    refine z_zast hX 13 dX2_clear_64 (by decide) shC_13 i19 rfl ?_
    obtain ⟨s20, h21, hf⟩ := zlet_ex hf
    refine z_name h21 ?_
    refine z_iinc (j := 1) (v := 1) hX [(0, .ref (X.ad 11)), (2, .int (v2 + 1))] dX2_clear_65 rfl (by decide) (by rw [hnl]; decide) [1, 0] rfl ?_
    refine z_goto hX 46 dX2_clear_68 (by decide) ?_
    exact ih s20 (v2 + 1) hf
set_option maxHeartbeats 4000000 in
set_option maxRecDepth 100000 in
theorem t_X2_clear (X : zCx) (out : Unit × zSt) (hX : zOk X RX2 cX2_clear zr_X2_clear) (hQ : zPost X 98 shC none (none) out.2) (hnl : X.nL = 3) (st : zSt) (a0 : Nat) (ha0 : zkShip a0) (hf : f_X2_clear st a0 = some out) : zG 98 shC X st 0 [(0, .ref (X.ad 11)), (1, .ref (X.ad a0))] [] := by
  unfold f_X2_clear at hf
  refine z_aload_n hX 0 dX2_clear_0 rfl rfl ?_
  refine z_aload_n hX 1 dX2_clear_1 rfl rfl ?_
  refine z_getIN hX a0 1 dX2_clear_2 (zlt_Ship ha0) (zsh_Ship ha0) rfl rfl zin_X4 (by decide) zm_93 ?_
  refine z_putI hX 11 2 dX2_clear_5 (by decide) shC_11 rfl rfl zin_X2 tyX2_ok nmX2 (by decide) zm_55 rfl rfl ?_
  obtain ⟨s1, h2, hf⟩ := zlet_ex hf
  refine z_name h2 ?_
  refine z_aload_n hX 0 dX2_clear_8 rfl rfl ?_
  refine z_aload_n hX 1 dX2_clear_9 rfl rfl ?_
  refine z_getIN hX a0 2 dX2_clear_10 (zlt_Ship ha0) (zsh_Ship ha0) rfl rfl zin_X4 (by decide) zm_96 ?_
  refine z_putI hX 11 3 dX2_clear_13 (by decide) shC_11 rfl rfl zin_X2 tyX2_ok nmX2 (by decide) zm_56 rfl rfl ?_
  obtain ⟨s3, h4, hf⟩ := zlet_ex hf
  refine z_name h4 ?_
  refine z_aload_n hX 0 dX2_clear_16 rfl rfl ?_
  refine z_aload_n hX 1 dX2_clear_17 rfl rfl ?_
  refine z_getIN hX a0 3 dX2_clear_18 (zlt_Ship ha0) (zsh_Ship ha0) rfl rfl zin_X4 (by decide) zm_99 ?_
  refine z_putI hX 11 4 dX2_clear_21 (by decide) shC_11 rfl rfl zin_X2 tyX2_ok nmX2 (by decide) zm_57 rfl rfl ?_
  obtain ⟨s5, h6, hf⟩ := zlet_ex hf
  refine z_name h6 ?_
  refine z_aload_n hX 0 dX2_clear_24 rfl rfl ?_
  refine z_iconst (v := 0) hX dX2_clear_25 (by decide) ?_
  refine z_putI hX 11 5 dX2_clear_26 (by decide) shC_11 rfl rfl zin_X2 tyX2_ok nmX2 (by decide) zm_58 rfl rfl ?_
  obtain ⟨s7, h8, hf⟩ := zlet_ex hf
  refine z_name h8 ?_
  refine z_aload_n hX 0 dX2_clear_29 rfl rfl ?_
  refine z_iconst (v := 0) hX dX2_clear_30 (by decide) ?_
  refine z_putI hX 11 6 dX2_clear_31 (by decide) shC_11 rfl rfl zin_X2 tyX2_ok nmX2 (by decide) zm_59 rfl rfl ?_
  obtain ⟨s9, h10, hf⟩ := zlet_ex hf
  refine z_name h10 ?_
  refine z_aload_n hX 0 dX2_clear_34 rfl rfl ?_
  refine z_iconst (v := 0) hX dX2_clear_35 (by decide) ?_
  refine z_putI hX 11 7 dX2_clear_36 (by decide) shC_11 rfl rfl zin_X2 tyX2_ok nmX2 (by decide) zm_60 rfl rfl ?_
  obtain ⟨s11, h12, hf⟩ := zlet_ex hf
  refine z_name h12 ?_
  refine z_aload_n hX 0 dX2_clear_39 rfl rfl ?_
  refine z_iconst (v := 0) hX dX2_clear_40 (by decide) ?_
  refine z_putI hX 11 8 dX2_clear_41 (by decide) shC_11 rfl rfl zin_X2 tyX2_ok nmX2 (by decide) zm_61 rfl rfl ?_
  obtain ⟨s13, h14, hf⟩ := zlet_ex hf
  refine z_name h14 ?_
  refine z_iconst (v := 0) hX dX2_clear_44 (by decide) ?_
  refine z_istore_n hX [(0, .ref (X.ad 11)), (1, .ref (X.ad a0)), (2, .int 0)] dX2_clear_45 rfl (by rw [hnl]; decide) [1, 2, 0] rfl ?_
  refine z_locals [0, 2] [(0, .ref (X.ad 11)), (2, .int 0)] rfl ?_
  exact t_X2_clear_46 X out hX hQ hnl 64 s13 0 hf
theorem zb_X2_clear : zCal yX2_clear cX2_clear 3 none 1 := ⟨zm_497, (zws_X2_clear), zm_3, zm_498, by decide, by decide, rfl⟩
theorem c_X2_clear (l : Launch) (st : zSt) (a0 : Nat) (ha0 : zkShip a0) (out : Unit × zSt) (hf : f_X2_clear st a0 = some out) : zMet l yX2_clear cX2_clear 3 none zr_X2_clear 98 shC (fun ad => [.ref (ad 11), .ref (ad a0)]) st (fun ad => none) out.2 :=
  zmet_of (by decide +kernel) (fun _ => Nat.le_of_ble_eq_true rfl) (fun X _ hnl hX hQ => t_X2_clear X out hX hQ hnl st a0 ha0 hf)
abbrev zr_X2_isNearDangerous : Room := { frames := 1, cells := 0, slots := 0, locals := 21 }
def f_X2_isNearDangerous_8  : Nat → zSt → Int32 → Int32 → Option (Int32 × zSt)
  | 0, _, _, _ => none
  | n + 1, st, v1, v2 => (if (v1 + 1) < v2 then some (0, st) else (if 4 ≤ v2 then some (0, st) else (if zin v2 4 then (if (st.1 13 v2.toNatClampNeg) = 0 then f_X2_isNearDangerous_8 n st v1 (v2 + 1) else some (1, st)) else none)))
def f_X2_isNearDangerous (st : zSt) (a0 : Int32) : Option (Int32 × zSt) := f_X2_isNearDangerous_8 64 st a0 (zmax (a0 - 1) 0)
set_option maxHeartbeats 4000000 in
set_option maxRecDepth 100000 in
theorem t_X2_isNearDangerous_8 (X : zCx) (out : Int32 × zSt) (hX : zOk X RX2 cX2_isNearDangerous zr_X2_isNearDangerous) (hQ : zPost X 98 shC (some .boolean) (some (.int out.1)) out.2) (hnl : X.nL = 3) : ∀ (n : Nat) (st : zSt) (v1 : Int32) (v2 : Int32), f_X2_isNearDangerous_8  n st v1 v2 = some out → zG 98 shC X st 8 [(0, .ref (X.ad 11)), (1, .int v1), (2, .int v2)] [] := by
  intro n
  induction n with
  | zero => intro st v1 v2 hf; rw [f_X2_isNearDangerous_8] at hf; exact (znone hf).elim
  | succ n ih =>
    intro st v1 v2 hf
    rw [f_X2_isNearDangerous_8] at hf
    refine z_iload_n hX 2 dX2_isNearDangerous_8 rfl rfl ?_
    refine z_iload_n hX 1 dX2_isNearDangerous_9 rfl rfl ?_
    refine z_iconst (v := 1) hX dX2_isNearDangerous_10 (by decide) ?_
    refine z_iadd hX dX2_isNearDangerous_11 ?_
    refine z_icmp_gt hX 37 dX2_isNearDangerous_12 (by decide) (fun c1 => ?_) (fun c1 => ?_)
    · have hf := (if_pos c1).symm.trans hf
      refine z_iconst (v := 0) hX dX2_isNearDangerous_37 (by decide) ?_
      obtain rfl := Option.some.inj hf
      exact z_iret hX hQ dX2_isNearDangerous_38 rfl
    have hf := (if_neg c1).symm.trans hf
    refine z_iload_n hX 2 dX2_isNearDangerous_15 rfl rfl ?_
    refine z_iconst (v := 4) hX dX2_isNearDangerous_16 (by decide) ?_
    refine z_icmp_ge hX 37 dX2_isNearDangerous_17 (by decide) (fun c2 => ?_) (fun c2 => ?_)
    · have hf := (if_pos c2).symm.trans hf
      refine z_iconst (v := 0) hX dX2_isNearDangerous_37 (by decide) ?_
      obtain rfl := Option.some.inj hf
      exact z_iret hX hQ dX2_isNearDangerous_38 rfl
    have hf := (if_neg c2).symm.trans hf
    refine z_aload_n hX 0 dX2_isNearDangerous_20 rfl rfl ?_
    refine z_getR hX 11 1 13 dX2_isNearDangerous_21 (by decide) shC_11 rfl rfl zin_X2 (by decide) zm_54 ?_
    refine z_iload_n hX 2 dX2_isNearDangerous_24 rfl rfl ?_
    obtain ⟨i3, hf⟩ := zifd hf
    refine z_zald hX 13 dX2_isNearDangerous_25 (by decide) shC_13 i3 ?_
    refine z_if_eq hX 31 dX2_isNearDangerous_26 (by decide) (fun c4 => ?_) (fun c4 => ?_)
    · have hf := (if_pos c4).symm.trans hf
      refine z_iinc (j := 2) (v := 1) hX [(0, .ref (X.ad 11)), (1, .int v1), (2, .int (v2 + 1))] dX2_isNearDangerous_31 rfl (by decide) (by rw [hnl]; decide) [1, 2, 0] rfl ?_
      refine z_goto hX 8 dX2_isNearDangerous_34 (by decide) ?_
      exact ih st v1 (v2 + 1) hf
    have hf := (if_neg c4).symm.trans hf
    refine z_iconst (v := 1) hX dX2_isNearDangerous_29 (by decide) ?_
    obtain rfl := Option.some.inj hf
    exact z_iret hX hQ dX2_isNearDangerous_30 rfl
set_option maxHeartbeats 4000000 in
set_option maxRecDepth 100000 in
theorem t_X2_isNearDangerous (X : zCx) (out : Int32 × zSt) (hX : zOk X RX2 cX2_isNearDangerous zr_X2_isNearDangerous) (hQ : zPost X 98 shC (some .boolean) (some (.int out.1)) out.2) (hnl : X.nL = 3) (st : zSt) (a0 : Int32) (hf : f_X2_isNearDangerous st a0 = some out) : zG 98 shC X st 0 [(0, .ref (X.ad 11)), (1, .int a0)] [] := by
  unfold f_X2_isNearDangerous at hf
  refine z_iload_n hX 1 dX2_isNearDangerous_0 rfl rfl ?_
  refine z_iconst (v := 1) hX dX2_isNearDangerous_1 (by decide) ?_
  refine z_isub hX dX2_isNearDangerous_2 ?_
  refine z_iconst (v := 0) hX dX2_isNearDangerous_3 (by decide) ?_
  refine z_mmax hX dX2_isNearDangerous_4 zm_524 zm_525 zm_14 zm_526 ⟨by decide, Nat.le_of_ble_eq_true rfl⟩ ?_
  refine z_istore_n hX [(0, .ref (X.ad 11)), (1, .int a0), (2, .int (zmax (a0 - 1) 0))] dX2_isNearDangerous_7 rfl (by rw [hnl]; decide) [1, 2, 0] rfl ?_
  exact t_X2_isNearDangerous_8 X out hX hQ hnl 64 st a0 (zmax (a0 - 1) 0) hf
theorem zb_X2_isNearDangerous : zCal yX2_isNearDangerous cX2_isNearDangerous 3 (some .boolean) 1 := ⟨zm_522, (zws_X2_isNearDangerous), zm_3, zm_523, by decide, by decide, rfl⟩
theorem c_X2_isNearDangerous (l : Launch) (st : zSt) (a0 : Int32) (out : Int32 × zSt) (hf : f_X2_isNearDangerous st a0 = some out) : zMet l yX2_isNearDangerous cX2_isNearDangerous 3 (some .boolean) zr_X2_isNearDangerous 98 shC (fun ad => [.ref (ad 11), .int a0]) st (fun ad => some (.int out.1)) out.2 :=
  zmet_of (by decide +kernel) (fun _ => Nat.le_of_ble_eq_true rfl) (fun X _ hnl hX hQ => t_X2_isNearDangerous X out hX hQ hnl st a0 hf)
abbrev zr_X2_bestLane : Room := { frames := 2, cells := 0, slots := 0, locals := 43 }
def f_X2_bestLane_145 (K40 : zSt → Nat → Int32 → Int32 → Int32 → Option (Int32 × zSt)) (st : zSt) (r1 : Nat) (v4 : Int32) (v5 : Int32) : Option (Int32 × zSt) := K40 st r1 v4 v5 (v4 + 1)
def f_X2_bestLane_124 (K40 : zSt → Nat → Int32 → Int32 → Int32 → Option (Int32 × zSt)) (st : zSt) (r1 : Nat) (v2 : Int32) (v3 : Int32) (v4 : Int32) (v5 : Int32) (v6 : Int32) (v7 : Int32) : Option (Int32 × zSt) := (if v6 = 0 then K40 st r1 v2 v3 (v4 + 1) else (if v7 = 0 then K40 st r1 v2 v3 (v4 + 1) else (if v2 = (-1) then f_X2_bestLane_145 K40 st r1 v4 v5 else (if v3 ≤ v5 then K40 st r1 v2 v3 (v4 + 1) else f_X2_bestLane_145 K40 st r1 v4 v5))))
def f_X2_bestLane_117 (K40 : zSt → Nat → Int32 → Int32 → Int32 → Option (Int32 × zSt)) (st : zSt) (r1 : Nat) (v2 : Int32) (v3 : Int32) (v4 : Int32) (v5 : Int32) (v6 : Int32) : Option (Int32 × zSt) := f_X2_bestLane_124 K40 st r1 v2 v3 v4 v5 v6 1
def f_X2_bestLane_101 (K40 : zSt → Nat → Int32 → Int32 → Int32 → Option (Int32 × zSt)) (st : zSt) (r1 : Nat) (v2 : Int32) (v3 : Int32) (v4 : Int32) (v5 : Int32) (v6 : Int32) : Option (Int32 × zSt) := (if (st.1 r1 9) = 0 then f_X2_bestLane_117 K40 st r1 v2 v3 v4 v5 v6 else ((f_X2_isNearDangerous st v4).bind fun q11 => (if q11.1 = 0 then f_X2_bestLane_117 K40 q11.2 r1 v2 v3 v4 v5 v6 else f_X2_bestLane_124 K40 q11.2 r1 v2 v3 v4 v5 v6 0)))
def f_X2_bestLane_40  : Nat → zSt → Nat → Int32 → Int32 → Int32 → Option (Int32 × zSt)
  | 0, _, _, _, _, _ => none
  | n + 1, st, r1, v2, v3, v4 => (if (st.1 11 2) ≤ v4 then some (v2, st) else (if 4 ≤ v4 then some (v2, st) else ((f_X2_leanOf st v4 (st.1 r1 3)).bind fun q6 => (if zin v4 4 then (if (q6.2.1 11 3) < ((q6.2.1 12 v4.toNatClampNeg) + (q6.2.1 r1 2)) then f_X2_bestLane_101 (fun st r1 v2 v3 v4 => f_X2_bestLane_40 n st r1 v2 v3 v4) q6.2 r1 v2 v3 v4 (zabs ((st.1 11 8) + q6.1)) 0 else f_X2_bestLane_101 (fun st r1 v2 v3 v4 => f_X2_bestLane_40 n st r1 v2 v3 v4) q6.2 r1 v2 v3 v4 (zabs ((st.1 11 8) + q6.1)) 1) else none))))
def f_X2_bestLane (st : zSt) (a0 : Nat) : Option (Int32 × zSt) := (if (st.1 11 4) < ((st.1 11 5) + (st.1 a0 3)) then some ((-1), st) else (if (st.1 a0 9) = 0 then f_X2_bestLane_40 64 st a0 (-1) 0 0 else (if (st.1 11 6) < 2 then f_X2_bestLane_40 64 st a0 (-1) 0 0 else some ((-1), st))))
set_option maxHeartbeats 4000000 in
set_option maxRecDepth 100000 in
theorem t_X2_bestLane_145 (X : zCx) (out : Int32 × zSt) (hX : zOk X RX2 cX2_bestLane zr_X2_bestLane) (hQ : zPost X 98 shC (some .int) (some (.int out.1)) out.2) (hnl : X.nL = 8) (K40 : zSt → Nat → Int32 → Int32 → Int32 → Option (Int32 × zSt)) (hK40 : ∀ (st : zSt) (r1 : Nat) (v2 : Int32) (v3 : Int32) (v4 : Int32) (hr1 : zkBooking r1), K40 st r1 v2 v3 v4 = some out → zG 98 shC X st 40 [(0, .ref (X.ad 11)), (1, .ref (X.ad r1)), (2, .int v2), (3, .int v3), (4, .int v4)] []) (st : zSt) (r1 : Nat) (v4 : Int32) (v5 : Int32) (hr1 : zkBooking r1) (hf : f_X2_bestLane_145 K40 st r1 v4 v5 = some out) : zG 98 shC X st 145 [(0, .ref (X.ad 11)), (1, .ref (X.ad r1)), (4, .int v4), (5, .int v5)] [] := by
  unfold f_X2_bestLane_145 at hf
  refine z_iload hX 2 dX2_bestLane_145 rfl ?_
  refine z_istore_n hX [(0, .ref (X.ad 11)), (1, .ref (X.ad r1)), (2, .int v4), (4, .int v4), (5, .int v5)] dX2_bestLane_147 rfl (by rw [hnl]; decide) [1, 2, 0, 3, 4] rfl ?_
  refine z_iload hX 4 dX2_bestLane_148 rfl ?_
  refine z_istore_n hX [(0, .ref (X.ad 11)), (1, .ref (X.ad r1)), (2, .int v4), (3, .int v5), (4, .int v4), (5, .int v5)] dX2_bestLane_150 rfl (by rw [hnl]; decide) [1, 2, 3, 0, 4, 5] rfl ?_
  refine z_iinc (j := 4) (v := 1) hX [(0, .ref (X.ad 11)), (1, .ref (X.ad r1)), (2, .int v4), (3, .int v5), (4, .int (v4 + 1)), (5, .int v5)] dX2_bestLane_151 rfl (by decide) (by rw [hnl]; decide) [1, 2, 3, 4, 0, 5] rfl ?_
  refine z_goto hX 40 dX2_bestLane_154 (by decide) ?_
  refine z_locals [0, 1, 2, 3, 4] [(0, .ref (X.ad 11)), (1, .ref (X.ad r1)), (2, .int v4), (3, .int v5), (4, .int (v4 + 1))] rfl ?_
  exact hK40 st r1 v4 v5 (v4 + 1) hr1 hf
set_option maxHeartbeats 4000000 in
set_option maxRecDepth 100000 in
theorem t_X2_bestLane_124 (X : zCx) (out : Int32 × zSt) (hX : zOk X RX2 cX2_bestLane zr_X2_bestLane) (hQ : zPost X 98 shC (some .int) (some (.int out.1)) out.2) (hnl : X.nL = 8) (K40 : zSt → Nat → Int32 → Int32 → Int32 → Option (Int32 × zSt)) (hK40 : ∀ (st : zSt) (r1 : Nat) (v2 : Int32) (v3 : Int32) (v4 : Int32) (hr1 : zkBooking r1), K40 st r1 v2 v3 v4 = some out → zG 98 shC X st 40 [(0, .ref (X.ad 11)), (1, .ref (X.ad r1)), (2, .int v2), (3, .int v3), (4, .int v4)] []) (st : zSt) (r1 : Nat) (v2 : Int32) (v3 : Int32) (v4 : Int32) (v5 : Int32) (v6 : Int32) (v7 : Int32) (hr1 : zkBooking r1) (hf : f_X2_bestLane_124 K40 st r1 v2 v3 v4 v5 v6 v7 = some out) : zG 98 shC X st 124 [(0, .ref (X.ad 11)), (1, .ref (X.ad r1)), (2, .int v2), (3, .int v3), (4, .int v4), (5, .int v5), (6, .int v6), (7, .int v7)] [] := by
  unfold f_X2_bestLane_124 at hf
  refine z_iload hX 6 dX2_bestLane_124 rfl ?_
  refine z_if_eq hX 151 dX2_bestLane_126 (by decide) (fun c14 => ?_) (fun c14 => ?_)
  · have hf := (if_pos c14).symm.trans hf
    refine z_iinc (j := 4) (v := 1) hX [(0, .ref (X.ad 11)), (1, .ref (X.ad r1)), (2, .int v2), (3, .int v3), (4, .int (v4 + 1)), (5, .int v5), (6, .int v6), (7, .int v7)] dX2_bestLane_151 rfl (by decide) (by rw [hnl]; decide) [1, 2, 3, 4, 0, 5, 6, 7] rfl ?_
    refine z_goto hX 40 dX2_bestLane_154 (by decide) ?_
    refine z_locals [0, 1, 2, 3, 4] [(0, .ref (X.ad 11)), (1, .ref (X.ad r1)), (2, .int v2), (3, .int v3), (4, .int (v4 + 1))] rfl ?_
    exact hK40 st r1 v2 v3 (v4 + 1) hr1 hf
  have hf := (if_neg c14).symm.trans hf
  refine z_iload hX 7 dX2_bestLane_129 rfl ?_
  refine z_if_eq hX 151 dX2_bestLane_131 (by decide) (fun c15 => ?_) (fun c15 => ?_)
  · have hf := (if_pos c15).symm.trans hf
    refine z_iinc (j := 4) (v := 1) hX [(0, .ref (X.ad 11)), (1, .ref (X.ad r1)), (2, .int v2), (3, .int v3), (4, .int (v4 + 1)), (5, .int v5), (6, .int v6), (7, .int v7)] dX2_bestLane_151 rfl (by decide) (by rw [hnl]; decide) [1, 2, 3, 4, 0, 5, 6, 7] rfl ?_
    refine z_goto hX 40 dX2_bestLane_154 (by decide) ?_
    refine z_locals [0, 1, 2, 3, 4] [(0, .ref (X.ad 11)), (1, .ref (X.ad r1)), (2, .int v2), (3, .int v3), (4, .int (v4 + 1))] rfl ?_
    exact hK40 st r1 v2 v3 (v4 + 1) hr1 hf
  have hf := (if_neg c15).symm.trans hf
  refine z_iload_n hX 2 dX2_bestLane_134 rfl rfl ?_
  refine z_iconst (v := (-1)) hX dX2_bestLane_135 (by decide) ?_
  refine z_icmp_eq hX 145 dX2_bestLane_136 (by decide) (fun c16 => ?_) (fun c16 => ?_)
  · have hf := (if_pos c16).symm.trans hf
    refine z_locals [0, 1, 4, 5] [(0, .ref (X.ad 11)), (1, .ref (X.ad r1)), (4, .int v4), (5, .int v5)] rfl ?_
    exact t_X2_bestLane_145 X out hX hQ hnl K40 hK40 st r1 v4 v5 hr1 hf
  have hf := (if_neg c16).symm.trans hf
  refine z_iload hX 5 dX2_bestLane_139 rfl ?_
  refine z_iload_n hX 3 dX2_bestLane_141 rfl rfl ?_
  refine z_icmp_ge hX 151 dX2_bestLane_142 (by decide) (fun c17 => ?_) (fun c17 => ?_)
  · have hf := (if_pos c17).symm.trans hf
    refine z_iinc (j := 4) (v := 1) hX [(0, .ref (X.ad 11)), (1, .ref (X.ad r1)), (2, .int v2), (3, .int v3), (4, .int (v4 + 1)), (5, .int v5), (6, .int v6), (7, .int v7)] dX2_bestLane_151 rfl (by decide) (by rw [hnl]; decide) [1, 2, 3, 4, 0, 5, 6, 7] rfl ?_
    refine z_goto hX 40 dX2_bestLane_154 (by decide) ?_
    refine z_locals [0, 1, 2, 3, 4] [(0, .ref (X.ad 11)), (1, .ref (X.ad r1)), (2, .int v2), (3, .int v3), (4, .int (v4 + 1))] rfl ?_
    exact hK40 st r1 v2 v3 (v4 + 1) hr1 hf
  have hf := (if_neg c17).symm.trans hf
  refine z_locals [0, 1, 4, 5] [(0, .ref (X.ad 11)), (1, .ref (X.ad r1)), (4, .int v4), (5, .int v5)] rfl ?_
  exact t_X2_bestLane_145 X out hX hQ hnl K40 hK40 st r1 v4 v5 hr1 hf
set_option maxHeartbeats 4000000 in
set_option maxRecDepth 100000 in
theorem t_X2_bestLane_117 (X : zCx) (out : Int32 × zSt) (hX : zOk X RX2 cX2_bestLane zr_X2_bestLane) (hQ : zPost X 98 shC (some .int) (some (.int out.1)) out.2) (hnl : X.nL = 8) (K40 : zSt → Nat → Int32 → Int32 → Int32 → Option (Int32 × zSt)) (hK40 : ∀ (st : zSt) (r1 : Nat) (v2 : Int32) (v3 : Int32) (v4 : Int32) (hr1 : zkBooking r1), K40 st r1 v2 v3 v4 = some out → zG 98 shC X st 40 [(0, .ref (X.ad 11)), (1, .ref (X.ad r1)), (2, .int v2), (3, .int v3), (4, .int v4)] []) (st : zSt) (r1 : Nat) (v2 : Int32) (v3 : Int32) (v4 : Int32) (v5 : Int32) (v6 : Int32) (hr1 : zkBooking r1) (hf : f_X2_bestLane_117 K40 st r1 v2 v3 v4 v5 v6 = some out) : zG 98 shC X st 117 [(0, .ref (X.ad 11)), (1, .ref (X.ad r1)), (2, .int v2), (3, .int v3), (4, .int v4), (5, .int v5), (6, .int v6)] [] := by
  unfold f_X2_bestLane_117 at hf
  refine z_iconst (v := 1) hX dX2_bestLane_117 (by decide) ?_
  refine z_goto hX 122 dX2_bestLane_118 (by decide) ?_
  refine z_istore hX [(0, .ref (X.ad 11)), (1, .ref (X.ad r1)), (2, .int v2), (3, .int v3), (4, .int v4), (5, .int v5), (6, .int v6), (7, .int 1)] dX2_bestLane_122 (by rw [hnl]; decide) [1, 2, 3, 4, 5, 6, 7, 0] rfl ?_
  exact t_X2_bestLane_124 X out hX hQ hnl K40 hK40 st r1 v2 v3 v4 v5 v6 1 hr1 hf
set_option maxHeartbeats 4000000 in
set_option maxRecDepth 100000 in
theorem t_X2_bestLane_101 (X : zCx) (out : Int32 × zSt) (hX : zOk X RX2 cX2_bestLane zr_X2_bestLane) (hQ : zPost X 98 shC (some .int) (some (.int out.1)) out.2) (hnl : X.nL = 8) (K40 : zSt → Nat → Int32 → Int32 → Int32 → Option (Int32 × zSt)) (hK40 : ∀ (st : zSt) (r1 : Nat) (v2 : Int32) (v3 : Int32) (v4 : Int32) (hr1 : zkBooking r1), K40 st r1 v2 v3 v4 = some out → zG 98 shC X st 40 [(0, .ref (X.ad 11)), (1, .ref (X.ad r1)), (2, .int v2), (3, .int v3), (4, .int v4)] []) (st : zSt) (r1 : Nat) (v2 : Int32) (v3 : Int32) (v4 : Int32) (v5 : Int32) (v6 : Int32) (hr1 : zkBooking r1) (hf : f_X2_bestLane_101 K40 st r1 v2 v3 v4 v5 v6 = some out) : zG 98 shC X st 101 [(0, .ref (X.ad 11)), (1, .ref (X.ad r1)), (2, .int v2), (3, .int v3), (4, .int v4), (5, .int v5), (6, .int v6)] [] := by
  unfold f_X2_bestLane_101 at hf
  refine z_aload_n hX 1 dX2_bestLane_101 rfl rfl ?_
  refine z_getIN hX r1 9 dX2_bestLane_102 (zlt_Booking hr1) (zsh_Booking hr1) rfl rfl zin_X0 (by decide) zm_221 ?_
  refine z_if_eq hX 117 dX2_bestLane_105 (by decide) (fun c10 => ?_) (fun c10 => ?_)
  · have hf := (if_pos c10).symm.trans hf
    exact t_X2_bestLane_117 X out hX hQ hnl K40 hK40 st r1 v2 v3 v4 v5 v6 hr1 hf
  have hf := (if_neg c10).symm.trans hf
  refine z_aload_n hX 0 dX2_bestLane_108 rfl rfl ?_
  refine z_iload hX 4 dX2_bestLane_109 rfl ?_
  obtain ⟨q11, e12, hf⟩ := zbind hf
  refine z_callV (stk := []) (stk' := [.int q11.1]) hX (c_X2_isNearDangerous X.l st v4 q11 e12) zb_X2_isNearDangerous 11 dX2_bestLane_111 zm_520 (by decide) shC_11 rfl rfl rfl rfl ⟨by decide, by decide⟩ ⟨rfl, rfl⟩ (Nat.le_of_ble_eq_true rfl) rfl ?_
  refine z_if_ne hX 121 dX2_bestLane_114 (by decide) (fun c13 => ?_) (fun c13 => ?_)
  · have hf := (if_neg c13).symm.trans hf
    refine z_iconst (v := 0) hX dX2_bestLane_121 (by decide) ?_
    refine z_istore hX [(0, .ref (X.ad 11)), (1, .ref (X.ad r1)), (2, .int v2), (3, .int v3), (4, .int v4), (5, .int v5), (6, .int v6), (7, .int 0)] dX2_bestLane_122 (by rw [hnl]; decide) [1, 2, 3, 4, 5, 6, 7, 0] rfl ?_
    exact t_X2_bestLane_124 X out hX hQ hnl K40 hK40 q11.2 r1 v2 v3 v4 v5 v6 0 hr1 hf
  have hf := (if_pos c13).symm.trans hf
  exact t_X2_bestLane_117 X out hX hQ hnl K40 hK40 q11.2 r1 v2 v3 v4 v5 v6 hr1 hf
set_option maxHeartbeats 4000000 in
set_option maxRecDepth 100000 in
theorem t_X2_bestLane_40 (X : zCx) (out : Int32 × zSt) (hX : zOk X RX2 cX2_bestLane zr_X2_bestLane) (hQ : zPost X 98 shC (some .int) (some (.int out.1)) out.2) (hnl : X.nL = 8) : ∀ (n : Nat) (st : zSt) (r1 : Nat) (v2 : Int32) (v3 : Int32) (v4 : Int32) (hr1 : zkBooking r1), f_X2_bestLane_40  n st r1 v2 v3 v4 = some out → zG 98 shC X st 40 [(0, .ref (X.ad 11)), (1, .ref (X.ad r1)), (2, .int v2), (3, .int v3), (4, .int v4)] [] := by
  intro n
  induction n with
  | zero => intro st r1 v2 v3 v4 hr1 hf; rw [f_X2_bestLane_40] at hf; exact (znone hf).elim
  | succ n ih =>
    intro st r1 v2 v3 v4 hr1 hf
    rw [f_X2_bestLane_40] at hf
    refine z_iload hX 4 dX2_bestLane_40 rfl ?_
    refine z_aload_n hX 0 dX2_bestLane_42 rfl rfl ?_
    refine z_getI hX 11 2 dX2_bestLane_43 (by decide) shC_11 rfl rfl zin_X2 (by decide) zm_55 ?_
    refine z_icmp_ge hX 157 dX2_bestLane_46 (by decide) (fun c4 => ?_) (fun c4 => ?_)
    · have hf := (if_pos c4).symm.trans hf
      refine z_iload_n hX 2 dX2_bestLane_157 rfl rfl ?_
      obtain rfl := Option.some.inj hf
      exact z_iret hX hQ dX2_bestLane_158 rfl
    have hf := (if_neg c4).symm.trans hf
    refine z_iload hX 4 dX2_bestLane_49 rfl ?_
    refine z_iconst (v := 4) hX dX2_bestLane_51 (by decide) ?_
    refine z_icmp_ge hX 157 dX2_bestLane_52 (by decide) (fun c5 => ?_) (fun c5 => ?_)
    · have hf := (if_pos c5).symm.trans hf
      refine z_iload_n hX 2 dX2_bestLane_157 rfl rfl ?_
      obtain rfl := Option.some.inj hf
      exact z_iret hX hQ dX2_bestLane_158 rfl
    have hf := (if_neg c5).symm.trans hf
    refine z_aload_n hX 0 dX2_bestLane_55 rfl rfl ?_
    refine z_getI hX 11 8 dX2_bestLane_56 (by decide) shC_11 rfl rfl zin_X2 (by decide) zm_61 ?_
    refine z_aload_n hX 0 dX2_bestLane_59 rfl rfl ?_
    refine z_iload hX 4 dX2_bestLane_60 rfl ?_
    refine z_aload_n hX 1 dX2_bestLane_62 rfl rfl ?_
    refine z_getIN hX r1 3 dX2_bestLane_63 (zlt_Booking hr1) (zsh_Booking hr1) rfl rfl zin_X0 (by decide) zm_206 ?_
    obtain ⟨q6, e7, hf⟩ := zbind hf
    refine z_callV (stk := [.int (st.1 11 8)]) (stk' := [.int q6.1, .int (st.1 11 8)]) hX (c_X2_leanOf X.l st v4 (st.1 r1 3) q6 e7) zb_X2_leanOf 11 dX2_bestLane_66 zm_515 (by decide) shC_11 rfl rfl rfl rfl ⟨by decide, by decide⟩ ⟨rfl, rfl⟩ (Nat.le_of_ble_eq_true rfl) rfl ?_
    refine z_iadd hX dX2_bestLane_69 ?_
    refine z_mabs hX dX2_bestLane_70 zm_519 zm_476 zm_14 zm_477 ⟨by decide, Nat.le_of_ble_eq_true rfl⟩ ?_
    refine z_istore hX [(0, .ref (X.ad 11)), (1, .ref (X.ad r1)), (2, .int v2), (3, .int v3), (4, .int v4), (5, .int (zabs ((st.1 11 8) + q6.1)))] dX2_bestLane_73 (by rw [hnl]; decide) [1, 2, 3, 4, 5, 0] rfl ?_
    refine z_aload_n hX 0 dX2_bestLane_75 rfl rfl ?_
    refine z_getR hX 11 0 12 dX2_bestLane_76 (by decide) shC_11 rfl rfl zin_X2 (by decide) zm_53 ?_
    refine z_iload hX 4 dX2_bestLane_79 rfl ?_
    obtain ⟨i8, hf⟩ := zifd hf
    refine z_iald hX 12 dX2_bestLane_81 (by decide) shC_12 i8 ?_
    refine z_aload_n hX 1 dX2_bestLane_82 rfl rfl ?_
    refine z_getIN hX r1 2 dX2_bestLane_83 (zlt_Booking hr1) (zsh_Booking hr1) rfl rfl zin_X0 (by decide) zm_203 ?_
    refine z_iadd hX dX2_bestLane_86 ?_
    refine z_aload_n hX 0 dX2_bestLane_87 rfl rfl ?_
    refine z_getI hX 11 3 dX2_bestLane_88 (by decide) shC_11 rfl rfl zin_X2 (by decide) zm_56 ?_
    refine z_icmp_gt hX 98 dX2_bestLane_91 (by decide) (fun c9 => ?_) (fun c9 => ?_)
    · have hf := (if_pos c9).symm.trans hf
      refine z_iconst (v := 0) hX dX2_bestLane_98 (by decide) ?_
      refine z_istore hX [(0, .ref (X.ad 11)), (1, .ref (X.ad r1)), (2, .int v2), (3, .int v3), (4, .int v4), (5, .int (zabs ((st.1 11 8) + q6.1))), (6, .int 0)] dX2_bestLane_99 (by rw [hnl]; decide) [1, 2, 3, 4, 5, 6, 0] rfl ?_
      exact t_X2_bestLane_101 X out hX hQ hnl (fun st r1 v2 v3 v4 => f_X2_bestLane_40 n st r1 v2 v3 v4) ih q6.2 r1 v2 v3 v4 (zabs ((st.1 11 8) + q6.1)) 0 hr1 hf
    have hf := (if_neg c9).symm.trans hf
    refine z_iconst (v := 1) hX dX2_bestLane_94 (by decide) ?_
    refine z_goto hX 99 dX2_bestLane_95 (by decide) ?_
    refine z_istore hX [(0, .ref (X.ad 11)), (1, .ref (X.ad r1)), (2, .int v2), (3, .int v3), (4, .int v4), (5, .int (zabs ((st.1 11 8) + q6.1))), (6, .int 1)] dX2_bestLane_99 (by rw [hnl]; decide) [1, 2, 3, 4, 5, 6, 0] rfl ?_
    exact t_X2_bestLane_101 X out hX hQ hnl (fun st r1 v2 v3 v4 => f_X2_bestLane_40 n st r1 v2 v3 v4) ih q6.2 r1 v2 v3 v4 (zabs ((st.1 11 8) + q6.1)) 1 hr1 hf
set_option maxHeartbeats 4000000 in
set_option maxRecDepth 100000 in
theorem t_X2_bestLane (X : zCx) (out : Int32 × zSt) (hX : zOk X RX2 cX2_bestLane zr_X2_bestLane) (hQ : zPost X 98 shC (some .int) (some (.int out.1)) out.2) (hnl : X.nL = 8) (st : zSt) (a0 : Nat) (ha0 : zkBooking a0) (hf : f_X2_bestLane st a0 = some out) : zG 98 shC X st 0 [(0, .ref (X.ad 11)), (1, .ref (X.ad a0))] [] := by
  unfold f_X2_bestLane at hf
  refine z_iconst (v := (-1)) hX dX2_bestLane_0 (by decide) ?_
  refine z_istore_n hX [(0, .ref (X.ad 11)), (1, .ref (X.ad a0)), (2, .int (-1))] dX2_bestLane_1 rfl (by rw [hnl]; decide) [1, 2, 0] rfl ?_
  refine z_iconst (v := 0) hX dX2_bestLane_2 (by decide) ?_
  refine z_istore_n hX [(0, .ref (X.ad 11)), (1, .ref (X.ad a0)), (2, .int (-1)), (3, .int 0)] dX2_bestLane_3 rfl (by rw [hnl]; decide) [1, 2, 3, 0] rfl ?_
  refine z_aload_n hX 0 dX2_bestLane_4 rfl rfl ?_
  refine z_getI hX 11 5 dX2_bestLane_5 (by decide) shC_11 rfl rfl zin_X2 (by decide) zm_58 ?_
  refine z_aload_n hX 1 dX2_bestLane_8 rfl rfl ?_
  refine z_getIN hX a0 3 dX2_bestLane_9 (zlt_Booking ha0) (zsh_Booking ha0) rfl rfl zin_X0 (by decide) zm_206 ?_
  refine z_iadd hX dX2_bestLane_12 ?_
  refine z_aload_n hX 0 dX2_bestLane_13 rfl rfl ?_
  refine z_getI hX 11 4 dX2_bestLane_14 (by decide) shC_11 rfl rfl zin_X2 (by decide) zm_57 ?_
  refine z_icmp_gt hX 35 dX2_bestLane_17 (by decide) (fun c1 => ?_) (fun c1 => ?_)
  · have hf := (if_pos c1).symm.trans hf
    refine z_iconst (v := (-1)) hX dX2_bestLane_35 (by decide) ?_
    obtain rfl := Option.some.inj hf
    exact z_iret hX hQ dX2_bestLane_36 rfl
  have hf := (if_neg c1).symm.trans hf
  refine z_aload_n hX 1 dX2_bestLane_20 rfl rfl ?_
  refine z_getIN hX a0 9 dX2_bestLane_21 (zlt_Booking ha0) (zsh_Booking ha0) rfl rfl zin_X0 (by decide) zm_221 ?_
  refine z_if_eq hX 37 dX2_bestLane_24 (by decide) (fun c2 => ?_) (fun c2 => ?_)
  · have hf := (if_pos c2).symm.trans hf
    refine z_iconst (v := 0) hX dX2_bestLane_37 (by decide) ?_
    refine z_istore hX [(0, .ref (X.ad 11)), (1, .ref (X.ad a0)), (2, .int (-1)), (3, .int 0), (4, .int 0)] dX2_bestLane_38 (by rw [hnl]; decide) [1, 2, 3, 4, 0] rfl ?_
    exact t_X2_bestLane_40 X out hX hQ hnl 64 st a0 (-1) 0 0 ha0 hf
  have hf := (if_neg c2).symm.trans hf
  refine z_aload_n hX 0 dX2_bestLane_27 rfl rfl ?_
  refine z_getI hX 11 6 dX2_bestLane_28 (by decide) shC_11 rfl rfl zin_X2 (by decide) zm_59 ?_
  refine z_iconst (v := 2) hX dX2_bestLane_31 (by decide) ?_
  refine z_icmp_lt hX 37 dX2_bestLane_32 (by decide) (fun c3 => ?_) (fun c3 => ?_)
  · have hf := (if_pos c3).symm.trans hf
    refine z_iconst (v := 0) hX dX2_bestLane_37 (by decide) ?_
    refine z_istore hX [(0, .ref (X.ad 11)), (1, .ref (X.ad a0)), (2, .int (-1)), (3, .int 0), (4, .int 0)] dX2_bestLane_38 (by rw [hnl]; decide) [1, 2, 3, 4, 0] rfl ?_
    exact t_X2_bestLane_40 X out hX hQ hnl 64 st a0 (-1) 0 0 ha0 hf
  have hf := (if_neg c3).symm.trans hf
  refine z_iconst (v := (-1)) hX dX2_bestLane_35 (by decide) ?_
  obtain rfl := Option.some.inj hf
  exact z_iret hX hQ dX2_bestLane_36 rfl
theorem zb_X2_bestLane : zCal yX2_bestLane cX2_bestLane 8 (some .int) 1 := ⟨zm_513, (zws_X2_bestLane), zm_3, zm_514, by decide, by decide, rfl⟩
theorem c_X2_bestLane (l : Launch) (st : zSt) (a0 : Nat) (ha0 : zkBooking a0) (out : Int32 × zSt) (hf : f_X2_bestLane st a0 = some out) : zMet l yX2_bestLane cX2_bestLane 8 (some .int) zr_X2_bestLane 98 shC (fun ad => [.ref (ad 11), .ref (ad a0)]) st (fun ad => some (.int out.1)) out.2 :=
  zmet_of (by decide +kernel) (fun _ => Nat.le_of_ble_eq_true rfl) (fun X _ hnl hX hQ => t_X2_bestLane X out hX hQ hnl st a0 ha0 hf)
abbrev zr_X2_put : Room := { frames := 1, cells := 0, slots := 0, locals := 22 }
def f_X2_put (st : zSt) (a0 : Nat) (a1 : Int32) : Option (Unit × zSt) := (if a1 < 0 then some ((), st) else (if a1 < 4 then (zlet (zwI st a0 11 1) fun s3 => (zlet (zwI s3 a0 4 a1) fun s5 => (zlet (zwI s5 a0 5 (s5.1 11 7)) fun s7 => (zlet (zwI s7 11 7 ((s7.1 11 7) + 1)) fun s9 => (if zin a1 4 then (if zin a1 4 then (zlet (zwI s9 12 a1.toNatClampNeg ((s9.1 12 a1.toNatClampNeg) + (s9.1 a0 2))) fun s13 => (zlet (zwI s13 11 5 ((s13.1 11 5) + (s13.1 a0 3))) fun s15 => ((f_X2_leanOf s15 a1 (s15.1 a0 3)).bind fun q17 => (zlet (zwI q17.2 11 8 ((s15.1 11 8) + q17.1)) fun s19 => (if (s19.1 a0 9) = 0 then some ((), s19) else (if zin a1 4 then (zlet (zwI s19 13 a1.toNatClampNeg 1) fun s23 => (zlet (zwI s23 11 6 ((s23.1 11 6) + 1)) fun s25 => some ((), s25))) else none)))))) else none) else none))))) else some ((), st)))
set_option maxHeartbeats 4000000 in
set_option maxRecDepth 100000 in
theorem t_X2_put (X : zCx) (out : Unit × zSt) (hX : zOk X RX2 cX2_put zr_X2_put) (hQ : zPost X 98 shC none (none) out.2) (hnl : X.nL = 3) (st : zSt) (a0 : Nat) (a1 : Int32) (ha0 : zkBooking a0) (hf : f_X2_put st a0 a1 = some out) : zG 98 shC X st 0 [(0, .ref (X.ad 11)), (1, .ref (X.ad a0)), (2, .int a1)] [] := by
  unfold f_X2_put at hf
  refine z_iload_n hX 2 dX2_put_0 rfl rfl ?_
  refine z_if_lt hX 9 dX2_put_1 (by decide) (fun c1 => ?_) (fun c1 => ?_)
  · have hf := (if_pos c1).symm.trans hf
    obtain rfl := Option.some.inj hf
    exact z_vret hX hQ dX2_put_9
  have hf := (if_neg c1).symm.trans hf
  refine z_iload_n hX 2 dX2_put_4 rfl rfl ?_
  refine z_iconst (v := 4) hX dX2_put_5 (by decide) ?_
  refine z_icmp_lt hX 10 dX2_put_6 (by decide) (fun c2 => ?_) (fun c2 => ?_)
  · have hf := (if_pos c2).symm.trans hf
    refine z_aload_n hX 1 dX2_put_10 rfl rfl ?_
    refine z_iconst (v := 1) hX dX2_put_11 (by decide) ?_
    refine z_putZN hX a0 11 dX2_put_12 (zlt_Booking ha0) (zsh_Booking ha0) rfl rfl zin_X0 tyX0_ok nmX0 (by decide) zm_226 rfl rfl (Or.inr rfl) ?_
    obtain ⟨s3, h4, hf⟩ := zlet_ex hf
    refine z_name h4 ?_
    refine z_aload_n hX 1 dX2_put_15 rfl rfl ?_
    refine z_iload_n hX 2 dX2_put_16 rfl rfl ?_
    refine z_putIN hX a0 4 dX2_put_17 (zlt_Booking ha0) (zsh_Booking ha0) rfl rfl zin_X0 tyX0_ok nmX0 (by decide) zm_209 rfl rfl ?_
    obtain ⟨s5, h6, hf⟩ := zlet_ex hf
    refine z_name h6 ?_
    refine z_aload_n hX 1 dX2_put_20 rfl rfl ?_
    refine z_aload_n hX 0 dX2_put_21 rfl rfl ?_
    refine z_getI hX 11 7 dX2_put_22 (by decide) shC_11 rfl rfl zin_X2 (by decide) zm_60 ?_
    refine z_putIN hX a0 5 dX2_put_25 (zlt_Booking ha0) (zsh_Booking ha0) rfl rfl zin_X0 tyX0_ok nmX0 (by decide) zm_212 rfl rfl ?_
    obtain ⟨s7, h8, hf⟩ := zlet_ex hf
    refine z_name h8 ?_
    refine z_aload_n hX 0 dX2_put_28 rfl rfl ?_
    refine z_dup hX dX2_put_29 rfl ?_
    refine z_getI hX 11 7 dX2_put_30 (by decide) shC_11 rfl rfl zin_X2 (by decide) zm_60 ?_
    refine z_iconst (v := 1) hX dX2_put_33 (by decide) ?_
    refine z_iadd hX dX2_put_34 ?_
    refine z_putI hX 11 7 dX2_put_35 (by decide) shC_11 rfl rfl zin_X2 tyX2_ok nmX2 (by decide) zm_60 rfl rfl ?_
    obtain ⟨s9, h10, hf⟩ := zlet_ex hf
    refine z_name h10 ?_
    refine z_aload_n hX 0 dX2_put_38 rfl rfl ?_
    refine z_getR hX 11 0 12 dX2_put_39 (by decide) shC_11 rfl rfl zin_X2 (by decide) zm_53 ?_
    refine z_iload_n hX 2 dX2_put_42 rfl rfl ?_
    refine z_dup2 hX dX2_put_43 rfl rfl ?_
    obtain ⟨i11, hf⟩ := zifd hf
    refine z_iald hX 12 dX2_put_44 (by decide) shC_12 i11 ?_
    refine z_aload_n hX 1 dX2_put_45 rfl rfl ?_
    refine z_getIN hX a0 2 dX2_put_46 (zlt_Booking ha0) (zsh_Booking ha0) rfl rfl zin_X0 (by decide) zm_203 ?_
    refine z_iadd hX dX2_put_49 ?_
    obtain ⟨i12, hf⟩ := zifd hf
    refine z_iast hX 12 dX2_put_50 (by decide) shC_12 i12 ?_
    obtain ⟨s13, h14, hf⟩ := zlet_ex hf
    refine z_name h14 ?_
    refine z_aload_n hX 0 dX2_put_51 rfl rfl ?_
    refine z_dup hX dX2_put_52 rfl ?_
    refine z_getI hX 11 5 dX2_put_53 (by decide) shC_11 rfl rfl zin_X2 (by decide) zm_58 ?_
    refine z_aload_n hX 1 dX2_put_56 rfl rfl ?_
    refine z_getIN hX a0 3 dX2_put_57 (zlt_Booking ha0) (zsh_Booking ha0) rfl rfl zin_X0 (by decide) zm_206 ?_
    refine z_iadd hX dX2_put_60 ?_
    refine z_putI hX 11 5 dX2_put_61 (by decide) shC_11 rfl rfl zin_X2 tyX2_ok nmX2 (by decide) zm_58 rfl rfl ?_
    obtain ⟨s15, h16, hf⟩ := zlet_ex hf
    refine z_name h16 ?_
    refine z_aload_n hX 0 dX2_put_64 rfl rfl ?_
    refine z_dup hX dX2_put_65 rfl ?_
    refine z_getI hX 11 8 dX2_put_66 (by decide) shC_11 rfl rfl zin_X2 (by decide) zm_61 ?_
    refine z_aload_n hX 0 dX2_put_69 rfl rfl ?_
    refine z_iload_n hX 2 dX2_put_70 rfl rfl ?_
    refine z_aload_n hX 1 dX2_put_71 rfl rfl ?_
    refine z_getIN hX a0 3 dX2_put_72 (zlt_Booking ha0) (zsh_Booking ha0) rfl rfl zin_X0 (by decide) zm_206 ?_
    obtain ⟨q17, e18, hf⟩ := zbind hf
    refine z_callV (stk := [.int (s15.1 11 8), .ref (X.ad 11)]) (stk' := [.int q17.1, .int (s15.1 11 8), .ref (X.ad 11)]) hX (c_X2_leanOf X.l s15 a1 (s15.1 a0 3) q17 e18) zb_X2_leanOf 11 dX2_put_75 zm_515 (by decide) shC_11 rfl rfl rfl rfl ⟨by decide, by decide⟩ ⟨rfl, rfl⟩ (Nat.le_of_ble_eq_true rfl) rfl ?_
    refine z_iadd hX dX2_put_78 ?_
    refine z_putI hX 11 8 dX2_put_79 (by decide) shC_11 rfl rfl zin_X2 tyX2_ok nmX2 (by decide) zm_61 rfl rfl ?_
    obtain ⟨s19, h20, hf⟩ := zlet_ex hf
    refine z_name h20 ?_
    refine z_aload_n hX 1 dX2_put_82 rfl rfl ?_
    refine z_getIN hX a0 9 dX2_put_83 (zlt_Booking ha0) (zsh_Booking ha0) rfl rfl zin_X0 (by decide) zm_221 ?_
    refine z_if_eq hX 106 dX2_put_86 (by decide) (fun c21 => ?_) (fun c21 => ?_)
    · have hf := (if_pos c21).symm.trans hf
      obtain rfl := Option.some.inj hf
      exact z_vret hX hQ dX2_put_106
    have hf := (if_neg c21).symm.trans hf
    refine z_aload_n hX 0 dX2_put_89 rfl rfl ?_
    refine z_getR hX 11 1 13 dX2_put_90 (by decide) shC_11 rfl rfl zin_X2 (by decide) zm_54 ?_
    refine z_iload_n hX 2 dX2_put_93 rfl rfl ?_
    refine z_iconst (v := 1) hX dX2_put_94 (by decide) ?_
    obtain ⟨i22, hf⟩ := zifd hf
    refine z_zast hX 13 dX2_put_95 (by decide) shC_13 i22 rfl ?_
    obtain ⟨s23, h24, hf⟩ := zlet_ex hf
    refine z_name h24 ?_
    refine z_aload_n hX 0 dX2_put_96 rfl rfl ?_
    refine z_dup hX dX2_put_97 rfl ?_
    refine z_getI hX 11 6 dX2_put_98 (by decide) shC_11 rfl rfl zin_X2 (by decide) zm_59 ?_
    refine z_iconst (v := 1) hX dX2_put_101 (by decide) ?_
    refine z_iadd hX dX2_put_102 ?_
    refine z_putI hX 11 6 dX2_put_103 (by decide) shC_11 rfl rfl zin_X2 tyX2_ok nmX2 (by decide) zm_59 rfl rfl ?_
    obtain ⟨s25, h26, hf⟩ := zlet_ex hf
    refine z_name h26 ?_
    obtain rfl := Option.some.inj hf
    exact z_vret hX hQ dX2_put_106
  have hf := (if_neg c2).symm.trans hf
  obtain rfl := Option.some.inj hf
  exact z_vret hX hQ dX2_put_9
theorem zb_X2_put : zCal yX2_put cX2_put 3 none 2 := ⟨zm_529, (zws_X2_put), zm_3, zm_530, by decide, by decide, rfl⟩
theorem c_X2_put (l : Launch) (st : zSt) (a0 : Nat) (a1 : Int32) (ha0 : zkBooking a0) (out : Unit × zSt) (hf : f_X2_put st a0 a1 = some out) : zMet l yX2_put cX2_put 3 none zr_X2_put 98 shC (fun ad => [.ref (ad 11), .ref (ad a0), .int a1]) st (fun ad => none) out.2 :=
  zmet_of (by decide +kernel) (fun _ => Nat.le_of_ble_eq_true rfl) (fun X _ hnl hX hQ => t_X2_put X out hX hQ hnl st a0 a1 ha0 hf)
abbrev zr_X2_take : Room := { frames := 3, cells := 0, slots := 0, locals := 70 }
def f_X2_take (st : zSt) (a0 : Nat) : Option (Unit × zSt) := (if (st.1 a0 1) = 0 then (zlet (zwI st a0 11 1) fun s8 => some ((), s8)) else ((f_X2_bestLane st a0).bind fun q2 => (if q2.1 < 0 then some ((), q2.2) else (if 4 ≤ q2.1 then some ((), q2.2) else ((f_X2_put q2.2 a0 q2.1).bind fun q6 => some ((), q6.2))))))
set_option maxHeartbeats 4000000 in
set_option maxRecDepth 100000 in
theorem t_X2_take (X : zCx) (out : Unit × zSt) (hX : zOk X RX2 cX2_take zr_X2_take) (hQ : zPost X 98 shC none (none) out.2) (hnl : X.nL = 3) (st : zSt) (a0 : Nat) (ha0 : zkBooking a0) (hf : f_X2_take st a0 = some out) : zG 98 shC X st 0 [(0, .ref (X.ad 11)), (1, .ref (X.ad a0))] [] := by
  unfold f_X2_take at hf
  refine z_aload_n hX 1 dX2_take_0 rfl rfl ?_
  refine z_getIN hX a0 1 dX2_take_1 (zlt_Booking ha0) (zsh_Booking ha0) rfl rfl zin_X0 (by decide) zm_200 ?_
  refine z_if_ne hX 13 dX2_take_4 (by decide) (fun c1 => ?_) (fun c1 => ?_)
  · have hf := (if_neg c1).symm.trans hf
    refine z_aload_n hX 0 dX2_take_13 rfl rfl ?_
    refine z_aload_n hX 1 dX2_take_14 rfl rfl ?_
    obtain ⟨q2, e3, hf⟩ := zbind hf
    refine z_callV (stk := []) (stk' := [.int q2.1]) hX (c_X2_bestLane X.l st a0 ha0 q2 e3) zb_X2_bestLane 11 dX2_take_15 zm_511 (by decide) shC_11 rfl rfl rfl rfl ⟨by decide, by decide⟩ ⟨rfl, rfl⟩ (Nat.le_of_ble_eq_true rfl) rfl ?_
    refine z_istore_n hX [(0, .ref (X.ad 11)), (1, .ref (X.ad a0)), (2, .int q2.1)] dX2_take_18 rfl (by rw [hnl]; decide) [1, 2, 0] rfl ?_
    refine z_iload_n hX 2 dX2_take_19 rfl rfl ?_
    refine z_if_lt hX 34 dX2_take_20 (by decide) (fun c4 => ?_) (fun c4 => ?_)
    · have hf := (if_pos c4).symm.trans hf
      obtain rfl := Option.some.inj hf
      exact z_vret hX hQ dX2_take_34
    have hf := (if_neg c4).symm.trans hf
    refine z_iload_n hX 2 dX2_take_23 rfl rfl ?_
    refine z_iconst (v := 4) hX dX2_take_24 (by decide) ?_
    refine z_icmp_ge hX 34 dX2_take_25 (by decide) (fun c5 => ?_) (fun c5 => ?_)
    · have hf := (if_pos c5).symm.trans hf
      obtain rfl := Option.some.inj hf
      exact z_vret hX hQ dX2_take_34
    have hf := (if_neg c5).symm.trans hf
    refine z_aload_n hX 0 dX2_take_28 rfl rfl ?_
    refine z_aload_n hX 1 dX2_take_29 rfl rfl ?_
    refine z_iload_n hX 2 dX2_take_30 rfl rfl ?_
    obtain ⟨q6, e7, hf⟩ := zbind hf
    refine z_callV (stk := []) (stk' := []) hX (c_X2_put X.l q2.2 a0 q2.1 ha0 q6 e7) zb_X2_put 11 dX2_take_31 zm_527 (by decide) shC_11 rfl rfl rfl rfl ⟨by decide, by decide⟩ ⟨rfl, rfl⟩ (Nat.le_of_ble_eq_true rfl) rfl ?_
    obtain rfl := Option.some.inj hf
    exact z_vret hX hQ dX2_take_34
  have hf := (if_pos c1).symm.trans hf
  refine z_aload_n hX 1 dX2_take_7 rfl rfl ?_
  refine z_iconst (v := 1) hX dX2_take_8 (by decide) ?_
  refine z_putZN hX a0 11 dX2_take_9 (zlt_Booking ha0) (zsh_Booking ha0) rfl rfl zin_X0 tyX0_ok nmX0 (by decide) zm_226 rfl rfl (Or.inr rfl) ?_
  obtain ⟨s8, h9, hf⟩ := zlet_ex hf
  refine z_name h9 ?_
  obtain rfl := Option.some.inj hf
  exact z_vret hX hQ dX2_take_12
theorem zb_X2_take : zCal yX2_take cX2_take 3 none 1 := ⟨zm_509, (zws_X2_take), zm_3, zm_510, by decide, by decide, rfl⟩
theorem c_X2_take (l : Launch) (st : zSt) (a0 : Nat) (ha0 : zkBooking a0) (out : Unit × zSt) (hf : f_X2_take st a0 = some out) : zMet l yX2_take cX2_take 3 none zr_X2_take 98 shC (fun ad => [.ref (ad 11), .ref (ad a0)]) st (fun ad => none) out.2 :=
  zmet_of (by decide +kernel) (fun _ => Nat.le_of_ble_eq_true rfl) (fun X _ hnl hX hQ => t_X2_take X out hX hQ hnl st a0 ha0 hf)
abbrev zr_X2_putOff : Room := { frames := 1, cells := 0, slots := 0, locals := 22 }
def f_X2_putOff (st : zSt) (a0 : Nat) : Option (Unit × zSt) := ((f_X2_leanOf st (st.1 a0 4) (st.1 a0 3)).bind fun q1 => (zlet (zwI q1.2 11 8 ((st.1 11 8) - q1.1)) fun s3 => (zlet (zwI s3 a0 11 0) fun s5 => (zlet (zwI s5 a0 4 (-1)) fun s7 => some ((), s7)))))
set_option maxHeartbeats 4000000 in
set_option maxRecDepth 100000 in
theorem t_X2_putOff (X : zCx) (out : Unit × zSt) (hX : zOk X RX2 cX2_putOff zr_X2_putOff) (hQ : zPost X 98 shC none (none) out.2) (hnl : X.nL = 2) (st : zSt) (a0 : Nat) (ha0 : zkBooking a0) (hf : f_X2_putOff st a0 = some out) : zG 98 shC X st 0 [(0, .ref (X.ad 11)), (1, .ref (X.ad a0))] [] := by
  unfold f_X2_putOff at hf
  refine z_aload_n hX 0 dX2_putOff_0 rfl rfl ?_
  refine z_dup hX dX2_putOff_1 rfl ?_
  refine z_getI hX 11 8 dX2_putOff_2 (by decide) shC_11 rfl rfl zin_X2 (by decide) zm_61 ?_
  refine z_aload_n hX 0 dX2_putOff_5 rfl rfl ?_
  refine z_aload_n hX 1 dX2_putOff_6 rfl rfl ?_
  refine z_getIN hX a0 4 dX2_putOff_7 (zlt_Booking ha0) (zsh_Booking ha0) rfl rfl zin_X0 (by decide) zm_209 ?_
  refine z_aload_n hX 1 dX2_putOff_10 rfl rfl ?_
  refine z_getIN hX a0 3 dX2_putOff_11 (zlt_Booking ha0) (zsh_Booking ha0) rfl rfl zin_X0 (by decide) zm_206 ?_
  obtain ⟨q1, e2, hf⟩ := zbind hf
  refine z_callV (stk := [.int (st.1 11 8), .ref (X.ad 11)]) (stk' := [.int q1.1, .int (st.1 11 8), .ref (X.ad 11)]) hX (c_X2_leanOf X.l st (st.1 a0 4) (st.1 a0 3) q1 e2) zb_X2_leanOf 11 dX2_putOff_14 zm_515 (by decide) shC_11 rfl rfl rfl rfl ⟨by decide, by decide⟩ ⟨rfl, rfl⟩ (Nat.le_of_ble_eq_true rfl) rfl ?_
  refine z_isub hX dX2_putOff_17 ?_
  refine z_putI hX 11 8 dX2_putOff_18 (by decide) shC_11 rfl rfl zin_X2 tyX2_ok nmX2 (by decide) zm_61 rfl rfl ?_
  obtain ⟨s3, h4, hf⟩ := zlet_ex hf
  refine z_name h4 ?_
  refine z_aload_n hX 1 dX2_putOff_21 rfl rfl ?_
  refine z_iconst (v := 0) hX dX2_putOff_22 (by decide) ?_
  refine z_putZN hX a0 11 dX2_putOff_23 (zlt_Booking ha0) (zsh_Booking ha0) rfl rfl zin_X0 tyX0_ok nmX0 (by decide) zm_226 rfl rfl (Or.inl rfl) ?_
  obtain ⟨s5, h6, hf⟩ := zlet_ex hf
  refine z_name h6 ?_
  refine z_aload_n hX 1 dX2_putOff_26 rfl rfl ?_
  refine z_iconst (v := (-1)) hX dX2_putOff_27 (by decide) ?_
  refine z_putIN hX a0 4 dX2_putOff_28 (zlt_Booking ha0) (zsh_Booking ha0) rfl rfl zin_X0 tyX0_ok nmX0 (by decide) zm_209 rfl rfl ?_
  obtain ⟨s7, h8, hf⟩ := zlet_ex hf
  refine z_name h8 ?_
  obtain rfl := Option.some.inj hf
  exact z_vret hX hQ dX2_putOff_31
theorem zb_X2_putOff : zCal yX2_putOff cX2_putOff 2 none 1 := ⟨zm_545, (zws_X2_putOff), zm_3, zm_546, by decide, by decide, rfl⟩
theorem c_X2_putOff (l : Launch) (st : zSt) (a0 : Nat) (ha0 : zkBooking a0) (out : Unit × zSt) (hf : f_X2_putOff st a0 = some out) : zMet l yX2_putOff cX2_putOff 2 none zr_X2_putOff 98 shC (fun ad => [.ref (ad 11), .ref (ad a0)]) st (fun ad => none) out.2 :=
  zmet_of (by decide +kernel) (fun _ => Nat.le_of_ble_eq_true rfl) (fun X _ hnl hX hQ => t_X2_putOff X out hX hQ hnl st a0 ha0 hf)
abbrev zr_X2_isOnHeavierSide : Room := { frames := 1, cells := 0, slots := 0, locals := 22 }
def f_X2_isOnHeavierSide_36  (st : zSt) (v2 : Int32) : Option (Int32 × zSt) := (if 0 ≤ v2 then some (0, st) else (if 0 ≤ (st.1 11 8) then some (0, st) else some (1, st)))
def f_X2_isOnHeavierSide_25  (st : zSt) (v2 : Int32) : Option (Int32 × zSt) := (if v2 ≤ 0 then f_X2_isOnHeavierSide_36 st v2 else (if 0 < (st.1 11 8) then some (1, st) else f_X2_isOnHeavierSide_36 st v2))
def f_X2_isOnHeavierSide (st : zSt) (a0 : Nat) : Option (Int32 × zSt) := (if (st.1 a0 4) = (-1) then f_X2_isOnHeavierSide_25 st 0 else ((f_X2_leanOf st (st.1 a0 4) (st.1 a0 3)).bind fun q2 => f_X2_isOnHeavierSide_25 q2.2 q2.1))
set_option maxHeartbeats 4000000 in
set_option maxRecDepth 100000 in
theorem t_X2_isOnHeavierSide_36 (X : zCx) (out : Int32 × zSt) (hX : zOk X RX2 cX2_isOnHeavierSide zr_X2_isOnHeavierSide) (hQ : zPost X 98 shC (some .boolean) (some (.int out.1)) out.2) (hnl : X.nL = 3) (st : zSt) (v2 : Int32) (hf : f_X2_isOnHeavierSide_36  st v2 = some out) : zG 98 shC X st 36 [(0, .ref (X.ad 11)), (2, .int v2)] [] := by
  unfold f_X2_isOnHeavierSide_36 at hf
  refine z_iload_n hX 1 dX2_isOnHeavierSide_36 rfl rfl ?_
  refine z_if_ge hX 51 dX2_isOnHeavierSide_37 (by decide) (fun c6 => ?_) (fun c6 => ?_)
  · have hf := (if_pos c6).symm.trans hf
    refine z_iconst (v := 0) hX dX2_isOnHeavierSide_51 (by decide) ?_
    obtain rfl := Option.some.inj hf
    exact z_iret hX hQ dX2_isOnHeavierSide_52 rfl
  have hf := (if_neg c6).symm.trans hf
  refine z_aload_n hX 0 dX2_isOnHeavierSide_40 rfl rfl ?_
  refine z_getI hX 11 8 dX2_isOnHeavierSide_41 (by decide) shC_11 rfl rfl zin_X2 (by decide) zm_61 ?_
  refine z_if_ge hX 51 dX2_isOnHeavierSide_44 (by decide) (fun c7 => ?_) (fun c7 => ?_)
  · have hf := (if_pos c7).symm.trans hf
    refine z_iconst (v := 0) hX dX2_isOnHeavierSide_51 (by decide) ?_
    obtain rfl := Option.some.inj hf
    exact z_iret hX hQ dX2_isOnHeavierSide_52 rfl
  have hf := (if_neg c7).symm.trans hf
  refine z_iconst (v := 1) hX dX2_isOnHeavierSide_47 (by decide) ?_
  refine z_goto hX 52 dX2_isOnHeavierSide_48 (by decide) ?_
  obtain rfl := Option.some.inj hf
  exact z_iret hX hQ dX2_isOnHeavierSide_52 rfl
set_option maxHeartbeats 4000000 in
set_option maxRecDepth 100000 in
theorem t_X2_isOnHeavierSide_25 (X : zCx) (out : Int32 × zSt) (hX : zOk X RX2 cX2_isOnHeavierSide zr_X2_isOnHeavierSide) (hQ : zPost X 98 shC (some .boolean) (some (.int out.1)) out.2) (hnl : X.nL = 3) (st : zSt) (v2 : Int32) (hf : f_X2_isOnHeavierSide_25  st v2 = some out) : zG 98 shC X st 25 [(0, .ref (X.ad 11)), (2, .int v2)] [] := by
  unfold f_X2_isOnHeavierSide_25 at hf
  refine z_iload_n hX 1 dX2_isOnHeavierSide_25 rfl rfl ?_
  refine z_if_le hX 36 dX2_isOnHeavierSide_26 (by decide) (fun c4 => ?_) (fun c4 => ?_)
  · have hf := (if_pos c4).symm.trans hf
    exact t_X2_isOnHeavierSide_36 X out hX hQ hnl st v2 hf
  have hf := (if_neg c4).symm.trans hf
  refine z_aload_n hX 0 dX2_isOnHeavierSide_29 rfl rfl ?_
  refine z_getI hX 11 8 dX2_isOnHeavierSide_30 (by decide) shC_11 rfl rfl zin_X2 (by decide) zm_61 ?_
  refine z_if_gt hX 47 dX2_isOnHeavierSide_33 (by decide) (fun c5 => ?_) (fun c5 => ?_)
  · have hf := (if_pos c5).symm.trans hf
    refine z_iconst (v := 1) hX dX2_isOnHeavierSide_47 (by decide) ?_
    refine z_goto hX 52 dX2_isOnHeavierSide_48 (by decide) ?_
    obtain rfl := Option.some.inj hf
    exact z_iret hX hQ dX2_isOnHeavierSide_52 rfl
  have hf := (if_neg c5).symm.trans hf
  exact t_X2_isOnHeavierSide_36 X out hX hQ hnl st v2 hf
set_option maxHeartbeats 4000000 in
set_option maxRecDepth 100000 in
theorem t_X2_isOnHeavierSide (X : zCx) (out : Int32 × zSt) (hX : zOk X RX2 cX2_isOnHeavierSide zr_X2_isOnHeavierSide) (hQ : zPost X 98 shC (some .boolean) (some (.int out.1)) out.2) (hnl : X.nL = 3) (st : zSt) (a0 : Nat) (ha0 : zkBooking a0) (hf : f_X2_isOnHeavierSide st a0 = some out) : zG 98 shC X st 0 [(0, .ref (X.ad 11)), (1, .ref (X.ad a0))] [] := by
  unfold f_X2_isOnHeavierSide at hf
  refine z_aload_n hX 1 dX2_isOnHeavierSide_0 rfl rfl ?_
  refine z_getIN hX a0 4 dX2_isOnHeavierSide_1 (zlt_Booking ha0) (zsh_Booking ha0) rfl rfl zin_X0 (by decide) zm_209 ?_
  refine z_iconst (v := (-1)) hX dX2_isOnHeavierSide_4 (by decide) ?_
  refine z_icmp_ne hX 12 dX2_isOnHeavierSide_5 (by decide) (fun c1 => ?_) (fun c1 => ?_)
  · have hf := (if_neg c1).symm.trans hf
    refine z_aload_n hX 0 dX2_isOnHeavierSide_12 rfl rfl ?_
    refine z_aload_n hX 1 dX2_isOnHeavierSide_13 rfl rfl ?_
    refine z_getIN hX a0 4 dX2_isOnHeavierSide_14 (zlt_Booking ha0) (zsh_Booking ha0) rfl rfl zin_X0 (by decide) zm_209 ?_
    refine z_aload_n hX 1 dX2_isOnHeavierSide_17 rfl rfl ?_
    refine z_getIN hX a0 3 dX2_isOnHeavierSide_18 (zlt_Booking ha0) (zsh_Booking ha0) rfl rfl zin_X0 (by decide) zm_206 ?_
    obtain ⟨q2, e3, hf⟩ := zbind hf
    refine z_callV (stk := []) (stk' := [.int q2.1]) hX (c_X2_leanOf X.l st (st.1 a0 4) (st.1 a0 3) q2 e3) zb_X2_leanOf 11 dX2_isOnHeavierSide_21 zm_515 (by decide) shC_11 rfl rfl rfl rfl ⟨by decide, by decide⟩ ⟨rfl, rfl⟩ (Nat.le_of_ble_eq_true rfl) rfl ?_
    refine z_istore_n hX [(0, .ref (X.ad 11)), (1, .ref (X.ad a0)), (2, .int q2.1)] dX2_isOnHeavierSide_24 rfl (by rw [hnl]; decide) [1, 2, 0] rfl ?_
    refine z_locals [0, 2] [(0, .ref (X.ad 11)), (2, .int q2.1)] rfl ?_
    exact t_X2_isOnHeavierSide_25 X out hX hQ hnl q2.2 q2.1 hf
  have hf := (if_pos c1).symm.trans hf
  refine z_iconst (v := 0) hX dX2_isOnHeavierSide_8 (by decide) ?_
  refine z_goto hX 24 dX2_isOnHeavierSide_9 (by decide) ?_
  refine z_istore_n hX [(0, .ref (X.ad 11)), (1, .ref (X.ad a0)), (2, .int 0)] dX2_isOnHeavierSide_24 rfl (by rw [hnl]; decide) [1, 2, 0] rfl ?_
  refine z_locals [0, 2] [(0, .ref (X.ad 11)), (2, .int 0)] rfl ?_
  exact t_X2_isOnHeavierSide_25 X out hX hQ hnl st 0 hf
theorem zb_X2_isOnHeavierSide : zCal yX2_isOnHeavierSide cX2_isOnHeavierSide 3 (some .boolean) 1 := ⟨zm_541, (zws_X2_isOnHeavierSide), zm_3, zm_542, by decide, by decide, rfl⟩
theorem c_X2_isOnHeavierSide (l : Launch) (st : zSt) (a0 : Nat) (ha0 : zkBooking a0) (out : Int32 × zSt) (hf : f_X2_isOnHeavierSide st a0 = some out) : zMet l yX2_isOnHeavierSide cX2_isOnHeavierSide 3 (some .boolean) zr_X2_isOnHeavierSide 98 shC (fun ad => [.ref (ad 11), .ref (ad a0)]) st (fun ad => some (.int out.1)) out.2 :=
  zmet_of (by decide +kernel) (fun _ => Nat.le_of_ble_eq_true rfl) (fun X _ hnl hX hQ => t_X2_isOnHeavierSide X out hX hQ hnl st a0 ha0 hf)
abbrev zr_X6_takeThose : Room := { frames := 4, cells := 0, slots := 0, locals := 92 }
def f_X6_takeThose_2  : Nat → zSt → Int32 → Int32 → Int32 → Option (Unit × zSt)
  | 0, _, _, _, _ => none
  | n + 1, st, v1, v2, v3 => (if (st.1 0 14) ≤ v3 then some ((), st) else ((f_X6_knownBooking st v3).bind fun q2 => (if (q2.2.1 q2.1 0) = v1 then (if (q2.2.1 q2.1 10) = v2 then ((f_X2_take q2.2 q2.1).bind fun q6 => f_X6_takeThose_2 n q6.2 v1 v2 (v3 + 1)) else f_X6_takeThose_2 n q2.2 v1 v2 (v3 + 1)) else f_X6_takeThose_2 n q2.2 v1 v2 (v3 + 1))))
def f_X6_takeThose (st : zSt) (a0 : Int32) (a1 : Int32) : Option (Unit × zSt) := f_X6_takeThose_2 64 st a0 a1 0
set_option maxHeartbeats 4000000 in
set_option maxRecDepth 100000 in
theorem t_X6_takeThose_2 (X : zCx) (out : Unit × zSt) (hX : zOk X RX6 cX6_takeThose zr_X6_takeThose) (hQ : zPost X 98 shC none (none) out.2) (hnl : X.nL = 5) : ∀ (n : Nat) (st : zSt) (v1 : Int32) (v2 : Int32) (v3 : Int32), f_X6_takeThose_2  n st v1 v2 v3 = some out → zG 98 shC X st 2 [(0, .ref (X.ad 0)), (1, .int v1), (2, .int v2), (3, .int v3)] [] := by
  intro n
  induction n with
  | zero => intro st v1 v2 v3 hf; rw [f_X6_takeThose_2] at hf; exact (znone hf).elim
  | succ n ih =>
    intro st v1 v2 v3 hf
    rw [f_X6_takeThose_2] at hf
    refine z_iload_n hX 3 dX6_takeThose_2 rfl rfl ?_
    refine z_aload_n hX 0 dX6_takeThose_3 rfl rfl ?_
    refine z_getI hX 0 14 dX6_takeThose_4 (by decide) shC_0 rfl rfl zin_X6 (by decide) zm_267 ?_
    refine z_icmp_ge hX 50 dX6_takeThose_7 (by decide) (fun c1 => ?_) (fun c1 => ?_)
    · have hf := (if_pos c1).symm.trans hf
      obtain rfl := Option.some.inj hf
      exact z_vret hX hQ dX6_takeThose_50
    have hf := (if_neg c1).symm.trans hf
    refine z_aload_n hX 0 dX6_takeThose_10 rfl rfl ?_
    refine z_iload_n hX 3 dX6_takeThose_11 rfl rfl ?_
    obtain ⟨q2, e3, hf⟩ := zbind hf
    refine z_callV (stk := []) (stk' := [.ref (X.ad q2.1)]) hX (c_X6_knownBooking X.l st v3 q2 e3) zb_X6_knownBooking 0 dX6_takeThose_12 zm_503 (by decide) shC_0 rfl rfl rfl rfl ⟨by decide, by decide⟩ ⟨rfl, rfl⟩ (Nat.le_of_ble_eq_true rfl) rfl ?_
    refine z_astore hX [(0, .ref (X.ad 0)), (1, .int v1), (2, .int v2), (3, .int v3), (4, .ref (X.ad q2.1))] dX6_takeThose_15 (by rw [hnl]; decide) [1, 2, 3, 4, 0] rfl ?_
    refine z_aload hX 4 dX6_takeThose_17 rfl ?_
    refine z_getIN hX q2.1 0 dX6_takeThose_19 (zlt_Booking (rr_X6_knownBooking e3)) (zsh_Booking (rr_X6_knownBooking e3)) rfl rfl zin_X0 (by decide) zm_198 ?_
    refine z_iload_n hX 1 dX6_takeThose_22 rfl rfl ?_
    refine z_icmp_ne hX 44 dX6_takeThose_23 (by decide) (fun c4 => ?_) (fun c4 => ?_)
    · have hf := (if_neg c4).symm.trans hf
      refine z_iinc (j := 3) (v := 1) hX [(0, .ref (X.ad 0)), (1, .int v1), (2, .int v2), (3, .int (v3 + 1)), (4, .ref (X.ad q2.1))] dX6_takeThose_44 rfl (by decide) (by rw [hnl]; decide) [1, 2, 3, 0, 4] rfl ?_
      refine z_goto hX 2 dX6_takeThose_47 (by decide) ?_
      refine z_locals [0, 1, 2, 3] [(0, .ref (X.ad 0)), (1, .int v1), (2, .int v2), (3, .int (v3 + 1))] rfl ?_
      exact ih q2.2 v1 v2 (v3 + 1) hf
    have hf := (if_pos c4).symm.trans hf
    refine z_aload hX 4 dX6_takeThose_26 rfl ?_
    refine z_getIN hX q2.1 10 dX6_takeThose_28 (zlt_Booking (rr_X6_knownBooking e3)) (zsh_Booking (rr_X6_knownBooking e3)) rfl rfl zin_X0 (by decide) zm_224 ?_
    refine z_iload_n hX 2 dX6_takeThose_31 rfl rfl ?_
    refine z_icmp_ne hX 44 dX6_takeThose_32 (by decide) (fun c5 => ?_) (fun c5 => ?_)
    · have hf := (if_neg c5).symm.trans hf
      refine z_iinc (j := 3) (v := 1) hX [(0, .ref (X.ad 0)), (1, .int v1), (2, .int v2), (3, .int (v3 + 1)), (4, .ref (X.ad q2.1))] dX6_takeThose_44 rfl (by decide) (by rw [hnl]; decide) [1, 2, 3, 0, 4] rfl ?_
      refine z_goto hX 2 dX6_takeThose_47 (by decide) ?_
      refine z_locals [0, 1, 2, 3] [(0, .ref (X.ad 0)), (1, .int v1), (2, .int v2), (3, .int (v3 + 1))] rfl ?_
      exact ih q2.2 v1 v2 (v3 + 1) hf
    have hf := (if_pos c5).symm.trans hf
    refine z_aload_n hX 0 dX6_takeThose_35 rfl rfl ?_
    refine z_getR hX 0 10 11 dX6_takeThose_36 (by decide) shC_0 rfl rfl zin_X6 (by decide) zm_263 ?_
    refine z_aload hX 4 dX6_takeThose_39 rfl ?_
    obtain ⟨q6, e7, hf⟩ := zbind hf
    refine z_callVN (stk := []) (stk' := []) hX (c_X2_take X.l q2.2 q2.1 (rr_X6_knownBooking e3) q6 e7) zb_X2_take 11 dX6_takeThose_41 zm_507 (by decide) shC_11 rfl rfl rfl rfl ⟨by decide, by decide⟩ ⟨rfl, rfl⟩ (Nat.le_of_ble_eq_true rfl) rfl ?_
    refine z_iinc (j := 3) (v := 1) hX [(0, .ref (X.ad 0)), (1, .int v1), (2, .int v2), (3, .int (v3 + 1)), (4, .ref (X.ad q2.1))] dX6_takeThose_44 rfl (by decide) (by rw [hnl]; decide) [1, 2, 3, 0, 4] rfl ?_
    refine z_goto hX 2 dX6_takeThose_47 (by decide) ?_
    refine z_locals [0, 1, 2, 3] [(0, .ref (X.ad 0)), (1, .int v1), (2, .int v2), (3, .int (v3 + 1))] rfl ?_
    exact ih q6.2 v1 v2 (v3 + 1) hf
set_option maxHeartbeats 4000000 in
set_option maxRecDepth 100000 in
theorem t_X6_takeThose (X : zCx) (out : Unit × zSt) (hX : zOk X RX6 cX6_takeThose zr_X6_takeThose) (hQ : zPost X 98 shC none (none) out.2) (hnl : X.nL = 5) (st : zSt) (a0 : Int32) (a1 : Int32) (hf : f_X6_takeThose st a0 a1 = some out) : zG 98 shC X st 0 [(0, .ref (X.ad 0)), (1, .int a0), (2, .int a1)] [] := by
  unfold f_X6_takeThose at hf
  refine z_iconst (v := 0) hX dX6_takeThose_0 (by decide) ?_
  refine z_istore_n hX [(0, .ref (X.ad 0)), (1, .int a0), (2, .int a1), (3, .int 0)] dX6_takeThose_1 rfl (by rw [hnl]; decide) [1, 2, 3, 0] rfl ?_
  exact t_X6_takeThose_2 X out hX hQ hnl 64 st a0 a1 0 hf
theorem zb_X6_takeThose : zCal yX6_takeThose cX6_takeThose 5 none 2 := ⟨zm_501, (zws_X6_takeThose), zm_1, zm_502, by decide, by decide, rfl⟩
theorem c_X6_takeThose (l : Launch) (st : zSt) (a0 : Int32) (a1 : Int32) (out : Unit × zSt) (hf : f_X6_takeThose st a0 a1 = some out) : zMet l yX6_takeThose cX6_takeThose 5 none zr_X6_takeThose 98 shC (fun ad => [.ref (ad 0), .int a0, .int a1]) st (fun ad => none) out.2 :=
  zmet_of (by decide +kernel) (fun _ => Nat.le_of_ble_eq_true rfl) (fun X _ hnl hX hQ => t_X6_takeThose X out hX hQ hnl st a0 a1 hf)
abbrev zr_X6_putOffLast : Room := { frames := 2, cells := 0, slots := 0, locals := 44 }
def f_X6_putOffLast_7  : Nat → zSt → Int32 → Int32 → Int32 → Int32 → Option (Unit × zSt)
  | 0, _, _, _, _, _ => none
  | n + 1, st, v1, v2, v3, v4 => (if (st.1 0 14) ≤ v4 then (if v2 = (-1) then some ((), st) else ((f_X6_knownBooking st v2).bind fun q3 => ((f_X2_putOff q3.2 q3.1).bind fun q5 => some ((), q5.2)))) else ((f_X6_knownBooking st v4).bind fun q7 => (if (q7.2.1 q7.1 0) = v1 then ((f_X2_isOnHeavierSide q7.2 q7.1).bind fun q10 => (if q10.1 = 0 then f_X6_putOffLast_7 n q10.2 v1 v2 v3 (v4 + 1) else (if (q10.2.1 q7.1 5) ≤ v3 then f_X6_putOffLast_7 n q10.2 v1 v2 v3 (v4 + 1) else f_X6_putOffLast_7 n q10.2 v1 v4 (q10.2.1 q7.1 5) (v4 + 1)))) else f_X6_putOffLast_7 n q7.2 v1 v2 v3 (v4 + 1))))
def f_X6_putOffLast (st : zSt) (a0 : Int32) : Option (Unit × zSt) := f_X6_putOffLast_7 64 st a0 (-1) (-1) 0
set_option maxHeartbeats 4000000 in
set_option maxRecDepth 100000 in
theorem t_X6_putOffLast_7 (X : zCx) (out : Unit × zSt) (hX : zOk X RX6 cX6_putOffLast zr_X6_putOffLast) (hQ : zPost X 98 shC none (none) out.2) (hnl : X.nL = 6) : ∀ (n : Nat) (st : zSt) (v1 : Int32) (v2 : Int32) (v3 : Int32) (v4 : Int32), f_X6_putOffLast_7  n st v1 v2 v3 v4 = some out → zG 98 shC X st 7 [(0, .ref (X.ad 0)), (1, .int v1), (2, .int v2), (3, .int v3), (4, .int v4)] [] := by
  intro n
  induction n with
  | zero => intro st v1 v2 v3 v4 hf; rw [f_X6_putOffLast_7] at hf; exact (znone hf).elim
  | succ n ih =>
    intro st v1 v2 v3 v4 hf
    rw [f_X6_putOffLast_7] at hf
    refine z_iload hX 4 dX6_putOffLast_7 rfl ?_
    refine z_aload_n hX 0 dX6_putOffLast_9 rfl rfl ?_
    refine z_getI hX 0 14 dX6_putOffLast_10 (by decide) shC_0 rfl rfl zin_X6 (by decide) zm_267 ?_
    refine z_icmp_ge hX 69 dX6_putOffLast_13 (by decide) (fun c1 => ?_) (fun c1 => ?_)
    · have hf := (if_pos c1).symm.trans hf
      refine z_iload_n hX 2 dX6_putOffLast_69 rfl rfl ?_
      refine z_iconst (v := (-1)) hX dX6_putOffLast_70 (by decide) ?_
      refine z_icmp_eq hX 86 dX6_putOffLast_71 (by decide) (fun c2 => ?_) (fun c2 => ?_)
      · have hf := (if_pos c2).symm.trans hf
        obtain rfl := Option.some.inj hf
        exact z_vret hX hQ dX6_putOffLast_86
      have hf := (if_neg c2).symm.trans hf
      refine z_aload_n hX 0 dX6_putOffLast_74 rfl rfl ?_
      refine z_getR hX 0 10 11 dX6_putOffLast_75 (by decide) shC_0 rfl rfl zin_X6 (by decide) zm_263 ?_
      refine z_aload_n hX 0 dX6_putOffLast_78 rfl rfl ?_
      refine z_iload_n hX 2 dX6_putOffLast_79 rfl rfl ?_
      obtain ⟨q3, e4, hf⟩ := zbind hf
      refine z_callV (stk := [.ref (X.ad 11)]) (stk' := [.ref (X.ad q3.1), .ref (X.ad 11)]) hX (c_X6_knownBooking X.l st v2 q3 e4) zb_X6_knownBooking 0 dX6_putOffLast_80 zm_503 (by decide) shC_0 rfl rfl rfl rfl ⟨by decide, by decide⟩ ⟨rfl, rfl⟩ (Nat.le_of_ble_eq_true rfl) rfl ?_
      obtain ⟨q5, e6, hf⟩ := zbind hf
      refine z_callVN (stk := []) (stk' := []) hX (c_X2_putOff X.l q3.2 q3.1 (rr_X6_knownBooking e4) q5 e6) zb_X2_putOff 11 dX6_putOffLast_83 zm_543 (by decide) shC_11 rfl rfl rfl rfl ⟨by decide, by decide⟩ ⟨rfl, rfl⟩ (Nat.le_of_ble_eq_true rfl) rfl ?_
      obtain rfl := Option.some.inj hf
      exact z_vret hX hQ dX6_putOffLast_86
    have hf := (if_neg c1).symm.trans hf
    refine z_aload_n hX 0 dX6_putOffLast_16 rfl rfl ?_
    refine z_iload hX 4 dX6_putOffLast_17 rfl ?_
    obtain ⟨q7, e8, hf⟩ := zbind hf
    refine z_callV (stk := []) (stk' := [.ref (X.ad q7.1)]) hX (c_X6_knownBooking X.l st v4 q7 e8) zb_X6_knownBooking 0 dX6_putOffLast_19 zm_503 (by decide) shC_0 rfl rfl rfl rfl ⟨by decide, by decide⟩ ⟨rfl, rfl⟩ (Nat.le_of_ble_eq_true rfl) rfl ?_
    refine z_astore hX [(0, .ref (X.ad 0)), (1, .int v1), (2, .int v2), (3, .int v3), (4, .int v4), (5, .ref (X.ad q7.1))] dX6_putOffLast_22 (by rw [hnl]; decide) [1, 2, 3, 4, 5, 0] rfl ?_
    refine z_aload hX 5 dX6_putOffLast_24 rfl ?_
    refine z_getIN hX q7.1 0 dX6_putOffLast_26 (zlt_Booking (rr_X6_knownBooking e8)) (zsh_Booking (rr_X6_knownBooking e8)) rfl rfl zin_X0 (by decide) zm_198 ?_
    refine z_iload_n hX 1 dX6_putOffLast_29 rfl rfl ?_
    refine z_icmp_ne hX 63 dX6_putOffLast_30 (by decide) (fun c9 => ?_) (fun c9 => ?_)
    · have hf := (if_neg c9).symm.trans hf
      refine z_iinc (j := 4) (v := 1) hX [(0, .ref (X.ad 0)), (1, .int v1), (2, .int v2), (3, .int v3), (4, .int (v4 + 1)), (5, .ref (X.ad q7.1))] dX6_putOffLast_63 rfl (by decide) (by rw [hnl]; decide) [1, 2, 3, 4, 0, 5] rfl ?_
      refine z_goto hX 7 dX6_putOffLast_66 (by decide) ?_
      refine z_locals [0, 1, 2, 3, 4] [(0, .ref (X.ad 0)), (1, .int v1), (2, .int v2), (3, .int v3), (4, .int (v4 + 1))] rfl ?_
      exact ih q7.2 v1 v2 v3 (v4 + 1) hf
    have hf := (if_pos c9).symm.trans hf
    refine z_aload_n hX 0 dX6_putOffLast_33 rfl rfl ?_
    refine z_getR hX 0 10 11 dX6_putOffLast_34 (by decide) shC_0 rfl rfl zin_X6 (by decide) zm_263 ?_
    refine z_aload hX 5 dX6_putOffLast_37 rfl ?_
    obtain ⟨q10, e11, hf⟩ := zbind hf
    refine z_callVN (stk := []) (stk' := [.int q10.1]) hX (c_X2_isOnHeavierSide X.l q7.2 q7.1 (rr_X6_knownBooking e8) q10 e11) zb_X2_isOnHeavierSide 11 dX6_putOffLast_39 zm_539 (by decide) shC_11 rfl rfl rfl rfl ⟨by decide, by decide⟩ ⟨rfl, rfl⟩ (Nat.le_of_ble_eq_true rfl) rfl ?_
    refine z_if_eq hX 63 dX6_putOffLast_42 (by decide) (fun c12 => ?_) (fun c12 => ?_)
    · have hf := (if_pos c12).symm.trans hf
      refine z_iinc (j := 4) (v := 1) hX [(0, .ref (X.ad 0)), (1, .int v1), (2, .int v2), (3, .int v3), (4, .int (v4 + 1)), (5, .ref (X.ad q7.1))] dX6_putOffLast_63 rfl (by decide) (by rw [hnl]; decide) [1, 2, 3, 4, 0, 5] rfl ?_
      refine z_goto hX 7 dX6_putOffLast_66 (by decide) ?_
      refine z_locals [0, 1, 2, 3, 4] [(0, .ref (X.ad 0)), (1, .int v1), (2, .int v2), (3, .int v3), (4, .int (v4 + 1))] rfl ?_
      exact ih q10.2 v1 v2 v3 (v4 + 1) hf
    have hf := (if_neg c12).symm.trans hf
    refine z_aload hX 5 dX6_putOffLast_45 rfl ?_
    refine z_getIN hX q7.1 5 dX6_putOffLast_47 (zlt_Booking (rr_X6_knownBooking e8)) (zsh_Booking (rr_X6_knownBooking e8)) rfl rfl zin_X0 (by decide) zm_213 ?_
    refine z_iload_n hX 3 dX6_putOffLast_50 rfl rfl ?_
    refine z_icmp_le hX 63 dX6_putOffLast_51 (by decide) (fun c13 => ?_) (fun c13 => ?_)
    · have hf := (if_pos c13).symm.trans hf
      refine z_iinc (j := 4) (v := 1) hX [(0, .ref (X.ad 0)), (1, .int v1), (2, .int v2), (3, .int v3), (4, .int (v4 + 1)), (5, .ref (X.ad q7.1))] dX6_putOffLast_63 rfl (by decide) (by rw [hnl]; decide) [1, 2, 3, 4, 0, 5] rfl ?_
      refine z_goto hX 7 dX6_putOffLast_66 (by decide) ?_
      refine z_locals [0, 1, 2, 3, 4] [(0, .ref (X.ad 0)), (1, .int v1), (2, .int v2), (3, .int v3), (4, .int (v4 + 1))] rfl ?_
      exact ih q10.2 v1 v2 v3 (v4 + 1) hf
    have hf := (if_neg c13).symm.trans hf
    refine z_iload hX 4 dX6_putOffLast_54 rfl ?_
    refine z_istore_n hX [(0, .ref (X.ad 0)), (1, .int v1), (2, .int v4), (3, .int v3), (4, .int v4), (5, .ref (X.ad q7.1))] dX6_putOffLast_56 rfl (by rw [hnl]; decide) [1, 2, 0, 3, 4, 5] rfl ?_
    refine z_aload hX 5 dX6_putOffLast_57 rfl ?_
    refine z_getIN hX q7.1 5 dX6_putOffLast_59 (zlt_Booking (rr_X6_knownBooking e8)) (zsh_Booking (rr_X6_knownBooking e8)) rfl rfl zin_X0 (by decide) zm_213 ?_
    refine z_istore_n hX [(0, .ref (X.ad 0)), (1, .int v1), (2, .int v4), (3, .int (q10.2.1 q7.1 5)), (4, .int v4), (5, .ref (X.ad q7.1))] dX6_putOffLast_62 rfl (by rw [hnl]; decide) [1, 2, 3, 0, 4, 5] rfl ?_
    refine z_iinc (j := 4) (v := 1) hX [(0, .ref (X.ad 0)), (1, .int v1), (2, .int v4), (3, .int (q10.2.1 q7.1 5)), (4, .int (v4 + 1)), (5, .ref (X.ad q7.1))] dX6_putOffLast_63 rfl (by decide) (by rw [hnl]; decide) [1, 2, 3, 4, 0, 5] rfl ?_
    refine z_goto hX 7 dX6_putOffLast_66 (by decide) ?_
    refine z_locals [0, 1, 2, 3, 4] [(0, .ref (X.ad 0)), (1, .int v1), (2, .int v4), (3, .int (q10.2.1 q7.1 5)), (4, .int (v4 + 1))] rfl ?_
    exact ih q10.2 v1 v4 (q10.2.1 q7.1 5) (v4 + 1) hf
set_option maxHeartbeats 4000000 in
set_option maxRecDepth 100000 in
theorem t_X6_putOffLast (X : zCx) (out : Unit × zSt) (hX : zOk X RX6 cX6_putOffLast zr_X6_putOffLast) (hQ : zPost X 98 shC none (none) out.2) (hnl : X.nL = 6) (st : zSt) (a0 : Int32) (hf : f_X6_putOffLast st a0 = some out) : zG 98 shC X st 0 [(0, .ref (X.ad 0)), (1, .int a0)] [] := by
  unfold f_X6_putOffLast at hf
  refine z_iconst (v := (-1)) hX dX6_putOffLast_0 (by decide) ?_
  refine z_istore_n hX [(0, .ref (X.ad 0)), (1, .int a0), (2, .int (-1))] dX6_putOffLast_1 rfl (by rw [hnl]; decide) [1, 2, 0] rfl ?_
  refine z_iconst (v := (-1)) hX dX6_putOffLast_2 (by decide) ?_
  refine z_istore_n hX [(0, .ref (X.ad 0)), (1, .int a0), (2, .int (-1)), (3, .int (-1))] dX6_putOffLast_3 rfl (by rw [hnl]; decide) [1, 2, 3, 0] rfl ?_
  refine z_iconst (v := 0) hX dX6_putOffLast_4 (by decide) ?_
  refine z_istore hX [(0, .ref (X.ad 0)), (1, .int a0), (2, .int (-1)), (3, .int (-1)), (4, .int 0)] dX6_putOffLast_5 (by rw [hnl]; decide) [1, 2, 3, 4, 0] rfl ?_
  exact t_X6_putOffLast_7 X out hX hQ hnl 64 st a0 (-1) (-1) 0 hf
theorem zb_X6_putOffLast : zCal yX6_putOffLast cX6_putOffLast 6 none 1 := ⟨zm_537, (zws_X6_putOffLast), zm_1, zm_538, by decide, by decide, rfl⟩
theorem c_X6_putOffLast (l : Launch) (st : zSt) (a0 : Int32) (out : Unit × zSt) (hf : f_X6_putOffLast st a0 = some out) : zMet l yX6_putOffLast cX6_putOffLast 6 none zr_X6_putOffLast 98 shC (fun ad => [.ref (ad 0), .int a0]) st (fun ad => none) out.2 :=
  zmet_of (by decide +kernel) (fun _ => Nat.le_of_ble_eq_true rfl) (fun X _ hnl hX hQ => t_X6_putOffLast X out hX hQ hnl st a0 hf)
abbrev zr_X6_evenOut : Room := { frames := 3, cells := 0, slots := 0, locals := 69 }
def f_X6_evenOut_2  : Nat → zSt → Int32 → Int32 → Option (Unit × zSt)
  | 0, _, _, _ => none
  | n + 1, st, v1, v2 => (if (st.1 0 14) ≤ v2 then some ((), st) else (if (zabs (st.1 11 8)) ≤ 20 then some ((), st) else ((f_X6_putOffLast st v1).bind fun q3 => f_X6_evenOut_2 n q3.2 v1 (v2 + 1))))
def f_X6_evenOut (st : zSt) (a0 : Int32) : Option (Unit × zSt) := f_X6_evenOut_2 64 st a0 0
set_option maxHeartbeats 4000000 in
set_option maxRecDepth 100000 in
theorem t_X6_evenOut_2 (X : zCx) (out : Unit × zSt) (hX : zOk X RX6 cX6_evenOut zr_X6_evenOut) (hQ : zPost X 98 shC none (none) out.2) (hnl : X.nL = 3) : ∀ (n : Nat) (st : zSt) (v1 : Int32) (v2 : Int32), f_X6_evenOut_2  n st v1 v2 = some out → zG 98 shC X st 2 [(0, .ref (X.ad 0)), (1, .int v1), (2, .int v2)] [] := by
  intro n
  induction n with
  | zero => intro st v1 v2 hf; rw [f_X6_evenOut_2] at hf; exact (znone hf).elim
  | succ n ih =>
    intro st v1 v2 hf
    rw [f_X6_evenOut_2] at hf
    refine z_iload_n hX 2 dX6_evenOut_2 rfl rfl ?_
    refine z_aload_n hX 0 dX6_evenOut_3 rfl rfl ?_
    refine z_getI hX 0 14 dX6_evenOut_4 (by decide) shC_0 rfl rfl zin_X6 (by decide) zm_267 ?_
    refine z_icmp_ge hX 36 dX6_evenOut_7 (by decide) (fun c1 => ?_) (fun c1 => ?_)
    · have hf := (if_pos c1).symm.trans hf
      obtain rfl := Option.some.inj hf
      exact z_vret hX hQ dX6_evenOut_36
    have hf := (if_neg c1).symm.trans hf
    refine z_aload_n hX 0 dX6_evenOut_10 rfl rfl ?_
    refine z_getR hX 0 10 11 dX6_evenOut_11 (by decide) shC_0 rfl rfl zin_X6 (by decide) zm_263 ?_
    refine z_getIN hX 11 8 dX6_evenOut_14 (by decide) shC_11 rfl rfl zin_X2 (by decide) zm_62 ?_
    refine z_mabs hX dX6_evenOut_17 zm_475 zm_476 zm_14 zm_477 ⟨by decide, Nat.le_of_ble_eq_true rfl⟩ ?_
    refine z_bipush (v := 20) hX dX6_evenOut_20 (by decide) ?_
    refine z_icmp_le hX 36 dX6_evenOut_22 (by decide) (fun c2 => ?_) (fun c2 => ?_)
    · have hf := (if_pos c2).symm.trans hf
      obtain rfl := Option.some.inj hf
      exact z_vret hX hQ dX6_evenOut_36
    have hf := (if_neg c2).symm.trans hf
    refine z_aload_n hX 0 dX6_evenOut_25 rfl rfl ?_
    refine z_iload_n hX 1 dX6_evenOut_26 rfl rfl ?_
    obtain ⟨q3, e4, hf⟩ := zbind hf
    refine z_callV (stk := []) (stk' := []) hX (c_X6_putOffLast X.l st v1 q3 e4) zb_X6_putOffLast 0 dX6_evenOut_27 zm_535 (by decide) shC_0 rfl rfl rfl rfl ⟨by decide, by decide⟩ ⟨rfl, rfl⟩ (Nat.le_of_ble_eq_true rfl) rfl ?_
    refine z_iinc (j := 2) (v := 1) hX [(0, .ref (X.ad 0)), (1, .int v1), (2, .int (v2 + 1))] dX6_evenOut_30 rfl (by decide) (by rw [hnl]; decide) [1, 2, 0] rfl ?_
    refine z_goto hX 2 dX6_evenOut_33 (by decide) ?_
    exact ih q3.2 v1 (v2 + 1) hf
set_option maxHeartbeats 4000000 in
set_option maxRecDepth 100000 in
theorem t_X6_evenOut (X : zCx) (out : Unit × zSt) (hX : zOk X RX6 cX6_evenOut zr_X6_evenOut) (hQ : zPost X 98 shC none (none) out.2) (hnl : X.nL = 3) (st : zSt) (a0 : Int32) (hf : f_X6_evenOut st a0 = some out) : zG 98 shC X st 0 [(0, .ref (X.ad 0)), (1, .int a0)] [] := by
  unfold f_X6_evenOut at hf
  refine z_iconst (v := 0) hX dX6_evenOut_0 (by decide) ?_
  refine z_istore_n hX [(0, .ref (X.ad 0)), (1, .int a0), (2, .int 0)] dX6_evenOut_1 rfl (by rw [hnl]; decide) [1, 2, 0] rfl ?_
  exact t_X6_evenOut_2 X out hX hQ hnl 64 st a0 0 hf
theorem zb_X6_evenOut : zCal yX6_evenOut cX6_evenOut 3 none 1 := ⟨zm_533, (zws_X6_evenOut), zm_1, zm_534, by decide, by decide, rfl⟩
theorem c_X6_evenOut (l : Launch) (st : zSt) (a0 : Int32) (out : Unit × zSt) (hf : f_X6_evenOut st a0 = some out) : zMet l yX6_evenOut cX6_evenOut 3 none zr_X6_evenOut 98 shC (fun ad => [.ref (ad 0), .int a0]) st (fun ad => none) out.2 :=
  zmet_of (by decide +kernel) (fun _ => Nat.le_of_ble_eq_true rfl) (fun X _ hnl hX hQ => t_X6_evenOut X out hX hQ hnl st a0 hf)
abbrev zr_X6_setSail : Room := { frames := 5, cells := 0, slots := 0, locals := 116 }
def f_X6_setSail (st : zSt) (a0 : Int32) : Option (Unit × zSt) := ((f_X6_knownSailing st a0).bind fun q1 => ((f_X6_knownShip q1.2 (q1.2.1 q1.1 0)).bind fun q3 => ((f_X6_crewFor q3.2 q1.1).bind fun q5 => (zlet (zwI q5.2 q1.1 8 q5.1) fun s7 => (zlet (zwI s7 q1.1 6 2) fun s9 => ((f_X4_burns s9 q3.1 ((s9.1 q1.1 4) - (s9.1 q1.1 3))).bind fun q11 => (zlet (zwI q11.2 q3.1 6 ((s9.1 q3.1 6) - q11.1)) fun s13 => ((f_X2_clear s13 q3.1).bind fun q15 => ((f_X6_takeThose q15.2 a0 1).bind fun q17 => ((f_X6_takeThose q17.2 a0 0).bind fun q19 => ((f_X6_evenOut q19.2 a0).bind fun q21 => (zlet (zwI q21.2 q1.1 9 (q21.2.1 11 8)) fun s23 => ((f_X6_sendOver s23 a0).bind fun q25 => some ((), q25.2))))))))))))))
set_option maxHeartbeats 4000000 in
set_option maxRecDepth 100000 in
theorem t_X6_setSail (X : zCx) (out : Unit × zSt) (hX : zOk X RX6 cX6_setSail zr_X6_setSail) (hQ : zPost X 98 shC none (none) out.2) (hnl : X.nL = 4) (st : zSt) (a0 : Int32) (hf : f_X6_setSail st a0 = some out) : zG 98 shC X st 0 [(0, .ref (X.ad 0)), (1, .int a0)] [] := by
  unfold f_X6_setSail at hf
  refine z_aload_n hX 0 dX6_setSail_0 rfl rfl ?_
  refine z_iload_n hX 1 dX6_setSail_1 rfl rfl ?_
  obtain ⟨q1, e2, hf⟩ := zbind hf
  refine z_callV (stk := []) (stk' := [.ref (X.ad q1.1)]) hX (c_X6_knownSailing X.l st a0 q1 e2) zb_X6_knownSailing 0 dX6_setSail_2 zm_456 (by decide) shC_0 rfl rfl rfl rfl ⟨by decide, by decide⟩ ⟨rfl, rfl⟩ (Nat.le_of_ble_eq_true rfl) rfl ?_
  refine z_astore_n hX [(0, .ref (X.ad 0)), (1, .int a0), (2, .ref (X.ad q1.1))] dX6_setSail_5 rfl (by rw [hnl]; decide) [1, 2, 0] rfl ?_
  refine z_aload_n hX 0 dX6_setSail_6 rfl rfl ?_
  refine z_aload_n hX 2 dX6_setSail_7 rfl rfl ?_
  refine z_getIN hX q1.1 0 dX6_setSail_8 (zlt_Sailing (rr_X6_knownSailing e2)) (zsh_Sailing (rr_X6_knownSailing e2)) rfl rfl zin_X3 (by decide) zm_148 ?_
  obtain ⟨q3, e4, hf⟩ := zbind hf
  refine z_callV (stk := []) (stk' := [.ref (X.ad q3.1)]) hX (c_X6_knownShip X.l q1.2 (q1.2.1 q1.1 0) q3 e4) zb_X6_knownShip 0 dX6_setSail_11 zm_412 (by decide) shC_0 rfl rfl rfl rfl ⟨by decide, by decide⟩ ⟨rfl, rfl⟩ (Nat.le_of_ble_eq_true rfl) rfl ?_
  refine z_astore_n hX [(0, .ref (X.ad 0)), (1, .int a0), (2, .ref (X.ad q1.1)), (3, .ref (X.ad q3.1))] dX6_setSail_14 rfl (by rw [hnl]; decide) [1, 2, 3, 0] rfl ?_
  refine z_aload_n hX 2 dX6_setSail_15 rfl rfl ?_
  refine z_aload_n hX 0 dX6_setSail_16 rfl rfl ?_
  refine z_aload_n hX 2 dX6_setSail_17 rfl rfl ?_
  obtain ⟨q5, e6, hf⟩ := zbind hf
  refine z_callV (stk := [.ref (X.ad q1.1)]) (stk' := [.int q5.1, .ref (X.ad q1.1)]) hX (c_X6_crewFor X.l q3.2 q1.1 (rr_X6_knownSailing e2) q5 e6) zb_X6_crewFor 0 dX6_setSail_18 zm_478 (by decide) shC_0 rfl rfl rfl rfl ⟨by decide, by decide⟩ ⟨rfl, rfl⟩ (Nat.le_of_ble_eq_true rfl) rfl ?_
  refine z_putIN hX q1.1 8 dX6_setSail_21 (zlt_Sailing (rr_X6_knownSailing e2)) (zsh_Sailing (rr_X6_knownSailing e2)) rfl rfl zin_X3 tyX3_ok nmX3 (by decide) zm_164 rfl rfl ?_
  obtain ⟨s7, h8, hf⟩ := zlet_ex hf
  refine z_name h8 ?_
  refine z_aload_n hX 2 dX6_setSail_24 rfl rfl ?_
  refine z_iconst (v := 2) hX dX6_setSail_25 (by decide) ?_
  refine z_putIN hX q1.1 6 dX6_setSail_26 (zlt_Sailing (rr_X6_knownSailing e2)) (zsh_Sailing (rr_X6_knownSailing e2)) rfl rfl zin_X3 tyX3_ok nmX3 (by decide) zm_160 rfl rfl ?_
  obtain ⟨s9, h10, hf⟩ := zlet_ex hf
  refine z_name h10 ?_
  refine z_aload_n hX 3 dX6_setSail_29 rfl rfl ?_
  refine z_dup hX dX6_setSail_30 rfl ?_
  refine z_getIN hX q3.1 6 dX6_setSail_31 (zlt_Ship (rr_X6_knownShip e4)) (zsh_Ship (rr_X6_knownShip e4)) rfl rfl zin_X4 (by decide) zm_106 ?_
  refine z_aload_n hX 3 dX6_setSail_34 rfl rfl ?_
  refine z_aload_n hX 2 dX6_setSail_35 rfl rfl ?_
  refine z_getIN hX q1.1 4 dX6_setSail_36 (zlt_Sailing (rr_X6_knownSailing e2)) (zsh_Sailing (rr_X6_knownSailing e2)) rfl rfl zin_X3 (by decide) zm_156 ?_
  refine z_aload_n hX 2 dX6_setSail_39 rfl rfl ?_
  refine z_getIN hX q1.1 3 dX6_setSail_40 (zlt_Sailing (rr_X6_knownSailing e2)) (zsh_Sailing (rr_X6_knownSailing e2)) rfl rfl zin_X3 (by decide) zm_154 ?_
  refine z_isub hX dX6_setSail_43 ?_
  obtain ⟨q11, e12, hf⟩ := zbind hf
  refine z_callVN (stk := [.int (s9.1 q3.1 6), .ref (X.ad q3.1)]) (stk' := [.int q11.1, .int (s9.1 q3.1 6), .ref (X.ad q3.1)]) hX (c_X4_burns X.l s9 q3.1 ((s9.1 q1.1 4) - (s9.1 q1.1 3)) (rr_X6_knownShip e4) q11 e12) zb_X4_burns q3.1 dX6_setSail_44 zm_486 (zlt_Ship (rr_X6_knownShip e4)) (zsh_Ship (rr_X6_knownShip e4)) rfl rfl rfl rfl ⟨by decide, by decide⟩ ⟨rfl, rfl⟩ (Nat.le_of_ble_eq_true rfl) rfl ?_
  refine z_isub hX dX6_setSail_47 ?_
  refine z_putIN hX q3.1 6 dX6_setSail_48 (zlt_Ship (rr_X6_knownShip e4)) (zsh_Ship (rr_X6_knownShip e4)) rfl rfl zin_X4 tyX4_ok nmX4 (by decide) zm_106 rfl rfl ?_
  obtain ⟨s13, h14, hf⟩ := zlet_ex hf
  refine z_name h14 ?_
  refine z_aload_n hX 0 dX6_setSail_51 rfl rfl ?_
  refine z_getR hX 0 10 11 dX6_setSail_52 (by decide) shC_0 rfl rfl zin_X6 (by decide) zm_263 ?_
  refine z_aload_n hX 3 dX6_setSail_55 rfl rfl ?_
  obtain ⟨q15, e16, hf⟩ := zbind hf
  refine z_callVN (stk := []) (stk' := []) hX (c_X2_clear X.l s13 q3.1 (rr_X6_knownShip e4) q15 e16) zb_X2_clear 11 dX6_setSail_56 zm_495 (by decide) shC_11 rfl rfl rfl rfl ⟨by decide, by decide⟩ ⟨rfl, rfl⟩ (Nat.le_of_ble_eq_true rfl) rfl ?_
  refine z_aload_n hX 0 dX6_setSail_59 rfl rfl ?_
  refine z_iload_n hX 1 dX6_setSail_60 rfl rfl ?_
  refine z_iconst (v := 1) hX dX6_setSail_61 (by decide) ?_
  obtain ⟨q17, e18, hf⟩ := zbind hf
  refine z_callV (stk := []) (stk' := []) hX (c_X6_takeThose X.l q15.2 a0 1 q17 e18) zb_X6_takeThose 0 dX6_setSail_62 zm_499 (by decide) shC_0 rfl rfl rfl rfl ⟨by decide, by decide⟩ ⟨rfl, rfl⟩ (Nat.le_of_ble_eq_true rfl) rfl ?_
  refine z_aload_n hX 0 dX6_setSail_65 rfl rfl ?_
  refine z_iload_n hX 1 dX6_setSail_66 rfl rfl ?_
  refine z_iconst (v := 0) hX dX6_setSail_67 (by decide) ?_
  obtain ⟨q19, e20, hf⟩ := zbind hf
  refine z_callV (stk := []) (stk' := []) hX (c_X6_takeThose X.l q17.2 a0 0 q19 e20) zb_X6_takeThose 0 dX6_setSail_68 zm_499 (by decide) shC_0 rfl rfl rfl rfl ⟨by decide, by decide⟩ ⟨rfl, rfl⟩ (Nat.le_of_ble_eq_true rfl) rfl ?_
  refine z_aload_n hX 0 dX6_setSail_71 rfl rfl ?_
  refine z_iload_n hX 1 dX6_setSail_72 rfl rfl ?_
  obtain ⟨q21, e22, hf⟩ := zbind hf
  refine z_callV (stk := []) (stk' := []) hX (c_X6_evenOut X.l q19.2 a0 q21 e22) zb_X6_evenOut 0 dX6_setSail_73 zm_531 (by decide) shC_0 rfl rfl rfl rfl ⟨by decide, by decide⟩ ⟨rfl, rfl⟩ (Nat.le_of_ble_eq_true rfl) rfl ?_
  refine z_aload_n hX 2 dX6_setSail_76 rfl rfl ?_
  refine z_aload_n hX 0 dX6_setSail_77 rfl rfl ?_
  refine z_getR hX 0 10 11 dX6_setSail_78 (by decide) shC_0 rfl rfl zin_X6 (by decide) zm_263 ?_
  refine z_getIN hX 11 8 dX6_setSail_81 (by decide) shC_11 rfl rfl zin_X2 (by decide) zm_62 ?_
  refine z_putIN hX q1.1 9 dX6_setSail_84 (zlt_Sailing (rr_X6_knownSailing e2)) (zsh_Sailing (rr_X6_knownSailing e2)) rfl rfl zin_X3 tyX3_ok nmX3 (by decide) zm_166 rfl rfl ?_
  obtain ⟨s23, h24, hf⟩ := zlet_ex hf
  refine z_name h24 ?_
  refine z_aload_n hX 0 dX6_setSail_87 rfl rfl ?_
  refine z_iload_n hX 1 dX6_setSail_88 rfl rfl ?_
  obtain ⟨q25, e26, hf⟩ := zbind hf
  refine z_callV (stk := []) (stk' := [.int q25.1]) hX (c_X6_sendOver X.l s23 a0 q25 e26) zb_X6_sendOver 0 dX6_setSail_89 zm_547 (by decide) shC_0 rfl rfl rfl rfl ⟨by decide, by decide⟩ ⟨rfl, rfl⟩ (Nat.le_of_ble_eq_true rfl) rfl ?_
  refine z_pop hX dX6_setSail_92 rfl ?_
  obtain rfl := Option.some.inj hf
  exact z_vret hX hQ dX6_setSail_93
theorem zb_X6_setSail : zCal yX6_setSail cX6_setSail 4 none 1 := ⟨zm_493, (zws_X6_setSail), zm_1, zm_494, by decide, by decide, rfl⟩
theorem c_X6_setSail (l : Launch) (st : zSt) (a0 : Int32) (out : Unit × zSt) (hf : f_X6_setSail st a0 = some out) : zMet l yX6_setSail cX6_setSail 4 none zr_X6_setSail 98 shC (fun ad => [.ref (ad 0), .int a0]) st (fun ad => none) out.2 :=
  zmet_of (by decide +kernel) (fun _ => Nat.le_of_ble_eq_true rfl) (fun X _ hnl hX hQ => t_X6_setSail X out hX hQ hnl st a0 hf)
abbrev zr_X6_lookAt : Room := { frames := 6, cells := 0, slots := 0, locals := 139 }
def f_X6_lookAt (st : zSt) (a0 : Int32) : Option (Unit × zSt) := ((f_X6_knownSailing st a0).bind fun q1 => (if (q1.2.1 q1.1 6) = 0 then (if (q1.2.1 q1.1 3) = (q1.2.1 0 15) then ((f_X6_reasonAgainst q1.2 a0).bind fun q5 => (if q5.1 = 0 then ((f_X6_setSail q5.2 a0).bind fun q10 => some ((), q10.2)) else ((f_X6_callOff q5.2 a0 q5.1).bind fun q8 => some ((), q8.2)))) else some ((), q1.2)) else some ((), q1.2)))
set_option maxHeartbeats 4000000 in
set_option maxRecDepth 100000 in
theorem t_X6_lookAt (X : zCx) (out : Unit × zSt) (hX : zOk X RX6 cX6_lookAt zr_X6_lookAt) (hQ : zPost X 98 shC none (none) out.2) (hnl : X.nL = 4) (st : zSt) (a0 : Int32) (hf : f_X6_lookAt st a0 = some out) : zG 98 shC X st 0 [(0, .ref (X.ad 0)), (1, .int a0)] [] := by
  unfold f_X6_lookAt at hf
  refine z_aload_n hX 0 dX6_lookAt_0 rfl rfl ?_
  refine z_iload_n hX 1 dX6_lookAt_1 rfl rfl ?_
  obtain ⟨q1, e2, hf⟩ := zbind hf
  refine z_callV (stk := []) (stk' := [.ref (X.ad q1.1)]) hX (c_X6_knownSailing X.l st a0 q1 e2) zb_X6_knownSailing 0 dX6_lookAt_2 zm_456 (by decide) shC_0 rfl rfl rfl rfl ⟨by decide, by decide⟩ ⟨rfl, rfl⟩ (Nat.le_of_ble_eq_true rfl) rfl ?_
  refine z_astore_n hX [(0, .ref (X.ad 0)), (1, .int a0), (2, .ref (X.ad q1.1))] dX6_lookAt_5 rfl (by rw [hnl]; decide) [1, 2, 0] rfl ?_
  refine z_aload_n hX 2 dX6_lookAt_6 rfl rfl ?_
  refine z_getIN hX q1.1 6 dX6_lookAt_7 (zlt_Sailing (rr_X6_knownSailing e2)) (zsh_Sailing (rr_X6_knownSailing e2)) rfl rfl zin_X3 (by decide) zm_160 ?_
  refine z_if_ne hX 24 dX6_lookAt_10 (by decide) (fun c3 => ?_) (fun c3 => ?_)
  · have hf := (if_neg c3).symm.trans hf
    obtain rfl := Option.some.inj hf
    exact z_vret hX hQ dX6_lookAt_24
  have hf := (if_pos c3).symm.trans hf
  refine z_aload_n hX 2 dX6_lookAt_13 rfl rfl ?_
  refine z_getIN hX q1.1 3 dX6_lookAt_14 (zlt_Sailing (rr_X6_knownSailing e2)) (zsh_Sailing (rr_X6_knownSailing e2)) rfl rfl zin_X3 (by decide) zm_154 ?_
  refine z_aload_n hX 0 dX6_lookAt_17 rfl rfl ?_
  refine z_getI hX 0 15 dX6_lookAt_18 (by decide) shC_0 rfl rfl zin_X6 (by decide) zm_268 ?_
  refine z_icmp_eq hX 25 dX6_lookAt_21 (by decide) (fun c4 => ?_) (fun c4 => ?_)
  · have hf := (if_pos c4).symm.trans hf
    refine z_aload_n hX 0 dX6_lookAt_25 rfl rfl ?_
    refine z_iload_n hX 1 dX6_lookAt_26 rfl rfl ?_
    obtain ⟨q5, e6, hf⟩ := zbind hf
    refine z_callV (stk := []) (stk' := [.int q5.1]) hX (c_X6_reasonAgainst X.l q1.2 a0 q5 e6) zb_X6_reasonAgainst 0 dX6_lookAt_27 zm_460 (by decide) shC_0 rfl rfl rfl rfl ⟨by decide, by decide⟩ ⟨rfl, rfl⟩ (Nat.le_of_ble_eq_true rfl) rfl ?_
    refine z_istore_n hX [(0, .ref (X.ad 0)), (1, .int a0), (2, .ref (X.ad q1.1)), (3, .int q5.1)] dX6_lookAt_30 rfl (by rw [hnl]; decide) [1, 2, 3, 0] rfl ?_
    refine z_iload_n hX 3 dX6_lookAt_31 rfl rfl ?_
    refine z_if_ne hX 43 dX6_lookAt_32 (by decide) (fun c7 => ?_) (fun c7 => ?_)
    · have hf := (if_neg c7).symm.trans hf
      refine z_aload_n hX 0 dX6_lookAt_43 rfl rfl ?_
      refine z_iload_n hX 1 dX6_lookAt_44 rfl rfl ?_
      refine z_iload_n hX 3 dX6_lookAt_45 rfl rfl ?_
      obtain ⟨q8, e9, hf⟩ := zbind hf
      refine z_callV (stk := []) (stk' := [.int q8.1]) hX (c_X6_callOff X.l q5.2 a0 q5.1 q8 e9) zb_X6_callOff 0 dX6_lookAt_46 zm_563 (by decide) shC_0 rfl rfl rfl rfl ⟨by decide, by decide⟩ ⟨rfl, rfl⟩ (Nat.le_of_ble_eq_true rfl) rfl ?_
      refine z_pop hX dX6_lookAt_49 rfl ?_
      obtain rfl := Option.some.inj hf
      exact z_vret hX hQ dX6_lookAt_50
    have hf := (if_pos c7).symm.trans hf
    refine z_aload_n hX 0 dX6_lookAt_35 rfl rfl ?_
    refine z_iload_n hX 1 dX6_lookAt_36 rfl rfl ?_
    obtain ⟨q10, e11, hf⟩ := zbind hf
    refine z_callV (stk := []) (stk' := []) hX (c_X6_setSail X.l q5.2 a0 q10 e11) zb_X6_setSail 0 dX6_lookAt_37 zm_491 (by decide) shC_0 rfl rfl rfl rfl ⟨by decide, by decide⟩ ⟨rfl, rfl⟩ (Nat.le_of_ble_eq_true rfl) rfl ?_
    refine z_goto hX 50 dX6_lookAt_40 (by decide) ?_
    obtain rfl := Option.some.inj hf
    exact z_vret hX hQ dX6_lookAt_50
  have hf := (if_neg c4).symm.trans hf
  obtain rfl := Option.some.inj hf
  exact z_vret hX hQ dX6_lookAt_24
theorem zb_X6_lookAt : zCal yX6_lookAt cX6_lookAt 4 none 1 := ⟨zm_454, (zws_X6_lookAt), zm_1, zm_455, by decide, by decide, rfl⟩
theorem c_X6_lookAt (l : Launch) (st : zSt) (a0 : Int32) (out : Unit × zSt) (hf : f_X6_lookAt st a0 = some out) : zMet l yX6_lookAt cX6_lookAt 4 none zr_X6_lookAt 98 shC (fun ad => [.ref (ad 0), .int a0]) st (fun ad => none) out.2 :=
  zmet_of (by decide +kernel) (fun _ => Nat.le_of_ble_eq_true rfl) (fun X _ hnl hX hQ => t_X6_lookAt X out hX hQ hnl st a0 hf)
