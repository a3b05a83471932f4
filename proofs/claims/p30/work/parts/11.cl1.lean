/-! methods, walked by program: f_.. what they do to the numbered world, t_.. the walk, c_.. the contract -/
abbrev zr_J9_floorMod_7cf53 : Room := { frames := 0, cells := 0, slots := 0, locals := 0 }
def f_J9_floorMod_7cf53 (st : zSt) (a0 : Int32) (a1 : Int32) : Option (Int32 × zSt) := (if ¬ a1 = 0 then (if 0 ≤ (a0 ^^^ a1) then some ((a0 - a0 / a1 * a1), st) else (if (a0 - a0 / a1 * a1) = 0 then some ((a0 - a0 / a1 * a1), st) else some (((a0 - a0 / a1 * a1) + a1), st))) else none)
set_option maxHeartbeats 4000000 in
set_option maxRecDepth 100000 in
theorem t_J9_floorMod_7cf53 (X : zCx) (out : Int32 × zSt) (hX : zOk X RJ9 cJ9_floorMod_7cf53 zr_J9_floorMod_7cf53) (hQ : zPost X 98 shC (some .int) (some (.int out.1)) out.2) (hnl : X.nL = 3) (st : zSt) (a0 : Int32) (a1 : Int32) (hf : f_J9_floorMod_7cf53 st a0 a1 = some out) : zG 98 shC X st 0 [(0, .int a0), (1, .int a1)] [] := by
  unfold f_J9_floorMod_7cf53 at hf
  refine z_iload_n hX 0 dJ9_floorMod_7cf53_0 rfl rfl ?_
  refine z_iload_n hX 1 dJ9_floorMod_7cf53_1 rfl rfl ?_
  obtain ⟨i1, hf⟩ := zifd hf
  refine z_irem hX dJ9_floorMod_7cf53_2 i1 ?_
  refine z_istore_n hX [(0, .int a0), (1, .int a1), (2, .int (a0 - a0 / a1 * a1))] dJ9_floorMod_7cf53_3 rfl (by rw [hnl]; decide) [1, 2, 0] rfl ?_
  refine z_iload_n hX 0 dJ9_floorMod_7cf53_4 rfl rfl ?_
  refine z_iload_n hX 1 dJ9_floorMod_7cf53_5 rfl rfl ?_
  refine z_ixor hX dJ9_floorMod_7cf53_6 ?_
  refine z_if_ge hX 18 dJ9_floorMod_7cf53_7 (by decide) (fun c2 => ?_) (fun c2 => ?_)
  · have hf := (if_pos c2).symm.trans hf
    refine z_iload_n hX 2 dJ9_floorMod_7cf53_18 rfl rfl ?_
    obtain rfl := Option.some.inj hf
    exact z_iret hX hQ dJ9_floorMod_7cf53_19 rfl
  have hf := (if_neg c2).symm.trans hf
  refine z_iload_n hX 2 dJ9_floorMod_7cf53_10 rfl rfl ?_
  refine z_if_eq hX 18 dJ9_floorMod_7cf53_11 (by decide) (fun c3 => ?_) (fun c3 => ?_)
  · have hf := (if_pos c3).symm.trans hf
    refine z_iload_n hX 2 dJ9_floorMod_7cf53_18 rfl rfl ?_
    obtain rfl := Option.some.inj hf
    exact z_iret hX hQ dJ9_floorMod_7cf53_19 rfl
  have hf := (if_neg c3).symm.trans hf
  refine z_iload_n hX 2 dJ9_floorMod_7cf53_14 rfl rfl ?_
  refine z_iload_n hX 1 dJ9_floorMod_7cf53_15 rfl rfl ?_
  refine z_iadd hX dJ9_floorMod_7cf53_16 ?_
  obtain rfl := Option.some.inj hf
  exact z_iret hX hQ dJ9_floorMod_7cf53_17 rfl
theorem zb_J9_floorMod_7cf53 : zCalS yJ9_floorMod_7cf53 cJ9_floorMod_7cf53 3 (some .int) 2 := ⟨zm_679, zm_14, zm_680, by decide, by decide, rfl⟩
theorem c_J9_floorMod_7cf53 (l : Launch) (st : zSt) (a0 : Int32) (a1 : Int32) (out : Int32 × zSt) (hf : f_J9_floorMod_7cf53 st a0 a1 = some out) : zMet l yJ9_floorMod_7cf53 cJ9_floorMod_7cf53 3 (some .int) zr_J9_floorMod_7cf53 98 shC (fun ad => [.int a0, .int a1]) st (fun ad => some (.int out.1)) out.2 :=
  zmet_of (by decide +kernel) (fun _ => Nat.le_of_ble_eq_true rfl) (fun X _ hnl hX hQ => t_J9_floorMod_7cf53 X out hX hQ hnl st a0 a1 hf)
abbrev zr_X5_tell : Room := { frames := 0, cells := 0, slots := 0, locals := 0 }
def f_X5_tell (st : zSt) (r0 : Nat) (a0 : Int32) (a1 : Int32) : Option (Unit × zSt) := (zlet (zwI st r0 0 a0) fun s1 => (zlet (zwI s1 r0 1 a1) fun s3 => some ((), s3)))
set_option maxHeartbeats 4000000 in
set_option maxRecDepth 100000 in
theorem t_X5_tell (X : zCx) (out : Unit × zSt) (hX : zOk X RX5 cX5_tell zr_X5_tell) (hQ : zPost X 98 shC none (none) out.2) (hnl : X.nL = 3) (st : zSt) (r0 : Nat) (a0 : Int32) (a1 : Int32) (hr0 : zkSpan r0) (hf : f_X5_tell st r0 a0 a1 = some out) : zG 98 shC X st 0 [(0, .ref (X.ad r0)), (1, .int a0), (2, .int a1)] [] := by
  unfold f_X5_tell at hf
  refine z_aload_n hX 0 dX5_tell_0 rfl rfl ?_
  refine z_iload_n hX 1 dX5_tell_1 rfl rfl ?_
  refine z_putI hX r0 0 dX5_tell_2 (zlt_Span hr0) (zsh_Span hr0) rfl rfl zin_X5 tyX5_ok nmX5 (by decide) zm_38 rfl rfl ?_
  obtain ⟨s1, h2, hf⟩ := zlet_ex hf
  refine z_name h2 ?_
  refine z_aload_n hX 0 dX5_tell_5 rfl rfl ?_
  refine z_iload_n hX 2 dX5_tell_6 rfl rfl ?_
  refine z_putI hX r0 1 dX5_tell_7 (zlt_Span hr0) (zsh_Span hr0) rfl rfl zin_X5 tyX5_ok nmX5 (by decide) zm_39 rfl rfl ?_
  obtain ⟨s3, h4, hf⟩ := zlet_ex hf
  refine z_name h4 ?_
  obtain rfl := Option.some.inj hf
  exact z_vret hX hQ dX5_tell_10
theorem zb_X5_tell : zCal yX5_tell cX5_tell 3 none 2 := ⟨zm_430, (zws_X5_tell), zm_2, zm_431, by decide, by decide, rfl⟩
theorem c_X5_tell (l : Launch) (st : zSt) (r0 : Nat) (a0 : Int32) (a1 : Int32) (hr0 : zkSpan r0) (out : Unit × zSt) (hf : f_X5_tell st r0 a0 a1 = some out) : zMet l yX5_tell cX5_tell 3 none zr_X5_tell 98 shC (fun ad => [.ref (ad r0), .int a0, .int a1]) st (fun ad => none) out.2 :=
  zmet_of (by decide +kernel) (fun _ => Nat.le_of_ble_eq_true rfl) (fun X _ hnl hX hQ => t_X5_tell X out hX hQ hnl st r0 a0 a1 hr0 hf)
abbrev zr_X5_has : Room := { frames := 0, cells := 0, slots := 0, locals := 0 }
def f_X5_has (st : zSt) (r0 : Nat) (a0 : Int32) : Option (Int32 × zSt) := (if a0 < (st.1 r0 0) then some (0, st) else (if (st.1 r0 1) < a0 then some (0, st) else some (1, st)))
set_option maxHeartbeats 4000000 in
set_option maxRecDepth 100000 in
theorem t_X5_has (X : zCx) (out : Int32 × zSt) (hX : zOk X RX5 cX5_has zr_X5_has) (hQ : zPost X 98 shC (some .boolean) (some (.int out.1)) out.2) (hnl : X.nL = 2) (st : zSt) (r0 : Nat) (a0 : Int32) (hr0 : zkSpan r0) (hf : f_X5_has st r0 a0 = some out) : zG 98 shC X st 0 [(0, .ref (X.ad r0)), (1, .int a0)] [] := by
  unfold f_X5_has at hf
  refine z_aload_n hX 0 dX5_has_0 rfl rfl ?_
  refine z_getI hX r0 0 dX5_has_1 (zlt_Span hr0) (zsh_Span hr0) rfl rfl zin_X5 (by decide) zm_38 ?_
  refine z_iload_n hX 1 dX5_has_4 rfl rfl ?_
  refine z_icmp_gt hX 20 dX5_has_5 (by decide) (fun c1 => ?_) (fun c1 => ?_)
  · have hf := (if_pos c1).symm.trans hf
    refine z_iconst (v := 0) hX dX5_has_20 (by decide) ?_
    obtain rfl := Option.some.inj hf
    exact z_iret hX hQ dX5_has_21 rfl
  have hf := (if_neg c1).symm.trans hf
  refine z_iload_n hX 1 dX5_has_8 rfl rfl ?_
  refine z_aload_n hX 0 dX5_has_9 rfl rfl ?_
  refine z_getI hX r0 1 dX5_has_10 (zlt_Span hr0) (zsh_Span hr0) rfl rfl zin_X5 (by decide) zm_39 ?_
  refine z_icmp_gt hX 20 dX5_has_13 (by decide) (fun c2 => ?_) (fun c2 => ?_)
  · have hf := (if_pos c2).symm.trans hf
    refine z_iconst (v := 0) hX dX5_has_20 (by decide) ?_
    obtain rfl := Option.some.inj hf
    exact z_iret hX hQ dX5_has_21 rfl
  have hf := (if_neg c2).symm.trans hf
  refine z_iconst (v := 1) hX dX5_has_16 (by decide) ?_
  refine z_goto hX 21 dX5_has_17 (by decide) ?_
  obtain rfl := Option.some.inj hf
  exact z_iret hX hQ dX5_has_21 rfl
theorem zb_X5_has : zCal yX5_has cX5_has 2 (some .boolean) 1 := ⟨zm_470, (zws_X5_has), zm_2, zm_471, by decide, by decide, rfl⟩
theorem c_X5_has (l : Launch) (st : zSt) (r0 : Nat) (a0 : Int32) (hr0 : zkSpan r0) (out : Int32 × zSt) (hf : f_X5_has st r0 a0 = some out) : zMet l yX5_has cX5_has 2 (some .boolean) zr_X5_has 98 shC (fun ad => [.ref (ad r0), .int a0]) st (fun ad => some (.int out.1)) out.2 :=
  zmet_of (by decide +kernel) (fun _ => Nat.le_of_ble_eq_true rfl) (fun X _ hnl hX hQ => t_X5_has X out hX hQ hnl st r0 a0 hr0 hf)
abbrev zr_X4_hoursFor : Room := { frames := 0, cells := 0, slots := 0, locals := 0 }
def f_X4_hoursFor (st : zSt) (r0 : Nat) (a0 : Int32) : Option (Int32 × zSt) := (if 1 ≤ (st.1 r0 5) then (if ¬ (st.1 r0 5) = 0 then some ((((a0 + (st.1 r0 5)) - 1) / (st.1 r0 5)), st) else none) else some (0, st))
set_option maxHeartbeats 4000000 in
set_option maxRecDepth 100000 in
theorem t_X4_hoursFor (X : zCx) (out : Int32 × zSt) (hX : zOk X RX4 cX4_hoursFor zr_X4_hoursFor) (hQ : zPost X 98 shC (some .int) (some (.int out.1)) out.2) (hnl : X.nL = 2) (st : zSt) (r0 : Nat) (a0 : Int32) (hr0 : zkShip r0) (hf : f_X4_hoursFor st r0 a0 = some out) : zG 98 shC X st 0 [(0, .ref (X.ad r0)), (1, .int a0)] [] := by
  unfold f_X4_hoursFor at hf
  refine z_aload_n hX 0 dX4_hoursFor_0 rfl rfl ?_
  refine z_getI hX r0 5 dX4_hoursFor_1 (zlt_Ship hr0) (zsh_Ship hr0) rfl rfl zin_X4 (by decide) zm_103 ?_
  refine z_iconst (v := 1) hX dX4_hoursFor_4 (by decide) ?_
  refine z_icmp_ge hX 12 dX4_hoursFor_5 (by decide) (fun c1 => ?_) (fun c1 => ?_)
  · have hf := (if_pos c1).symm.trans hf
    refine z_iload_n hX 1 dX4_hoursFor_12 rfl rfl ?_
    refine z_aload_n hX 0 dX4_hoursFor_13 rfl rfl ?_
    refine z_getI hX r0 5 dX4_hoursFor_14 (zlt_Ship hr0) (zsh_Ship hr0) rfl rfl zin_X4 (by decide) zm_103 ?_
    refine z_iadd hX dX4_hoursFor_17 ?_
    refine z_iconst (v := 1) hX dX4_hoursFor_18 (by decide) ?_
    refine z_isub hX dX4_hoursFor_19 ?_
    refine z_aload_n hX 0 dX4_hoursFor_20 rfl rfl ?_
    refine z_getI hX r0 5 dX4_hoursFor_21 (zlt_Ship hr0) (zsh_Ship hr0) rfl rfl zin_X4 (by decide) zm_103 ?_
    obtain ⟨i2, hf⟩ := zifd hf
    refine z_idiv hX dX4_hoursFor_24 i2 ?_
    obtain rfl := Option.some.inj hf
    exact z_iret hX hQ dX4_hoursFor_25 rfl
  have hf := (if_neg c1).symm.trans hf
  refine z_iconst (v := 0) hX dX4_hoursFor_8 (by decide) ?_
  refine z_goto hX 25 dX4_hoursFor_9 (by decide) ?_
  obtain rfl := Option.some.inj hf
  exact z_iret hX hQ dX4_hoursFor_25 rfl
theorem zb_X4_hoursFor : zCal yX4_hoursFor cX4_hoursFor 2 (some .int) 1 := ⟨zm_618, (zws_X4_hoursFor), zm_4, zm_619, by decide, by decide, rfl⟩
theorem c_X4_hoursFor (l : Launch) (st : zSt) (r0 : Nat) (a0 : Int32) (hr0 : zkShip r0) (out : Int32 × zSt) (hf : f_X4_hoursFor st r0 a0 = some out) : zMet l yX4_hoursFor cX4_hoursFor 2 (some .int) zr_X4_hoursFor 98 shC (fun ad => [.ref (ad r0), .int a0]) st (fun ad => some (.int out.1)) out.2 :=
  zmet_of (by decide +kernel) (fun _ => Nat.le_of_ble_eq_true rfl) (fun X _ hnl hX hQ => t_X4_hoursFor X out hX hQ hnl st r0 a0 hr0 hf)
abbrev zr_X4_burns : Room := { frames := 0, cells := 0, slots := 0, locals := 0 }
def f_X4_burns (st : zSt) (r0 : Nat) (a0 : Int32) : Option (Int32 × zSt) := (if zn32 (FP.fmul (FP.i2f a0) (FP.i2f (st.1 r0 5))) then (if zn32 (FP.fmul (FP.fmul (FP.i2f a0) (FP.i2f (st.1 r0 5))) (FP.i2f (st.1 r0 5))) then (if zn32 (FP.fdiv (FP.fmul (FP.fmul (FP.i2f a0) (FP.i2f (st.1 r0 5))) (FP.i2f (st.1 r0 5))) (1120403456 : UInt32)) then some ((FP.f2i (FP.fdiv (FP.fmul (FP.fmul (FP.i2f a0) (FP.i2f (st.1 r0 5))) (FP.i2f (st.1 r0 5))) (1120403456 : UInt32))), st) else none) else none) else none)
set_option maxHeartbeats 4000000 in
set_option maxRecDepth 100000 in
theorem t_X4_burns (X : zCx) (out : Int32 × zSt) (hX : zOk X RX4 cX4_burns zr_X4_burns) (hQ : zPost X 98 shC (some .int) (some (.int out.1)) out.2) (hnl : X.nL = 2) (st : zSt) (r0 : Nat) (a0 : Int32) (hr0 : zkShip r0) (hf : f_X4_burns st r0 a0 = some out) : zG 98 shC X st 0 [(0, .ref (X.ad r0)), (1, .int a0)] [] := by
  unfold f_X4_burns at hf
  refine z_iload_n hX 1 dX4_burns_0 rfl rfl ?_
  refine z_i2f hX dX4_burns_1 ?_
  refine z_aload_n hX 0 dX4_burns_2 rfl rfl ?_
  refine z_getI hX r0 5 dX4_burns_3 (zlt_Ship hr0) (zsh_Ship hr0) rfl rfl zin_X4 (by decide) zm_103 ?_
  refine z_i2f hX dX4_burns_6 ?_
  obtain ⟨i1, hf⟩ := zifd hf
  refine z_fmul hX dX4_burns_7 i1 ?_
  refine z_aload_n hX 0 dX4_burns_8 rfl rfl ?_
  refine z_getI hX r0 5 dX4_burns_9 (zlt_Ship hr0) (zsh_Ship hr0) rfl rfl zin_X4 (by decide) zm_103 ?_
  refine z_i2f hX dX4_burns_12 ?_
  obtain ⟨i2, hf⟩ := zifd hf
  refine z_fmul hX dX4_burns_13 i2 ?_
  refine z_ldcf (v := 1120403456) hX dX4_burns_14 zm_490 ?_
  obtain ⟨i3, hf⟩ := zifd hf
  refine z_fdiv hX dX4_burns_16 i3 ?_
  refine z_f2i hX dX4_burns_17 ?_
  obtain rfl := Option.some.inj hf
  exact z_iret hX hQ dX4_burns_18 rfl
theorem zb_X4_burns : zCal yX4_burns cX4_burns 2 (some .int) 1 := ⟨zm_488, (zws_X4_burns), zm_4, zm_489, by decide, by decide, rfl⟩
theorem c_X4_burns (l : Launch) (st : zSt) (r0 : Nat) (a0 : Int32) (hr0 : zkShip r0) (out : Int32 × zSt) (hf : f_X4_burns st r0 a0 = some out) : zMet l yX4_burns cX4_burns 2 (some .int) zr_X4_burns 98 shC (fun ad => [.ref (ad r0), .int a0]) st (fun ad => some (.int out.1)) out.2 :=
  zmet_of (by decide +kernel) (fun _ => Nat.le_of_ble_eq_true rfl) (fun X _ hnl hX hQ => t_X4_burns X out hX hQ hnl st r0 a0 hr0 hf)
abbrev zr_X6_isWithin : Room := { frames := 0, cells := 0, slots := 0, locals := 0 }
def f_X6_isWithin (st : zSt) (a0 : Int32) (a1 : Int32) (a2 : Int32) : Option (Int32 × zSt) := (if a0 < a1 then some (0, st) else (if a2 < a0 then some (0, st) else some (1, st)))
set_option maxHeartbeats 4000000 in
set_option maxRecDepth 100000 in
theorem t_X6_isWithin (X : zCx) (out : Int32 × zSt) (hX : zOk X RX6 cX6_isWithin zr_X6_isWithin) (hQ : zPost X 98 shC (some .boolean) (some (.int out.1)) out.2) (hnl : X.nL = 3) (st : zSt) (a0 : Int32) (a1 : Int32) (a2 : Int32) (hf : f_X6_isWithin st a0 a1 a2 = some out) : zG 98 shC X st 0 [(0, .int a0), (1, .int a1), (2, .int a2)] [] := by
  unfold f_X6_isWithin at hf
  refine z_iload_n hX 1 dX6_isWithin_0 rfl rfl ?_
  refine z_iload_n hX 0 dX6_isWithin_1 rfl rfl ?_
  refine z_icmp_gt hX 14 dX6_isWithin_2 (by decide) (fun c1 => ?_) (fun c1 => ?_)
  · have hf := (if_pos c1).symm.trans hf
    refine z_iconst (v := 0) hX dX6_isWithin_14 (by decide) ?_
    obtain rfl := Option.some.inj hf
    exact z_iret hX hQ dX6_isWithin_15 rfl
  have hf := (if_neg c1).symm.trans hf
  refine z_iload_n hX 0 dX6_isWithin_5 rfl rfl ?_
  refine z_iload_n hX 2 dX6_isWithin_6 rfl rfl ?_
  refine z_icmp_gt hX 14 dX6_isWithin_7 (by decide) (fun c2 => ?_) (fun c2 => ?_)
  · have hf := (if_pos c2).symm.trans hf
    refine z_iconst (v := 0) hX dX6_isWithin_14 (by decide) ?_
    obtain rfl := Option.some.inj hf
    exact z_iret hX hQ dX6_isWithin_15 rfl
  have hf := (if_neg c2).symm.trans hf
  refine z_iconst (v := 1) hX dX6_isWithin_10 (by decide) ?_
  refine z_goto hX 15 dX6_isWithin_11 (by decide) ?_
  obtain rfl := Option.some.inj hf
  exact z_iret hX hQ dX6_isWithin_15 rfl
theorem zb_X6_isWithin : zCalS yX6_isWithin cX6_isWithin 3 (some .boolean) 3 := ⟨zm_374, zm_1, zm_375, by decide, by decide, rfl⟩
theorem c_X6_isWithin (l : Launch) (st : zSt) (a0 : Int32) (a1 : Int32) (a2 : Int32) (out : Int32 × zSt) (hf : f_X6_isWithin st a0 a1 a2 = some out) : zMet l yX6_isWithin cX6_isWithin 3 (some .boolean) zr_X6_isWithin 98 shC (fun ad => [.int a0, .int a1, .int a2]) st (fun ad => some (.int out.1)) out.2 :=
  zmet_of (by decide +kernel) (fun _ => Nat.le_of_ble_eq_true rfl) (fun X _ hnl hX hQ => t_X6_isWithin X out hX hQ hnl st a0 a1 a2 hf)
theorem rb_X6_isWithin {st : zSt} {a0 a1 a2 : Int32} {out : Int32 × zSt} (h : f_X6_isWithin st a0 a1 a2 = some out) : out.1 = 0 ∨ out.1 = 1 := by
  unfold f_X6_isWithin at h
  by_cases c1 : a0 < a1
  · rw [if_pos c1] at h
    obtain rfl := Option.some.inj h
    exact Or.inl rfl
  · rw [if_neg c1] at h
    by_cases c2 : a2 < a0
    · rw [if_pos c2] at h
      obtain rfl := Option.some.inj h
      exact Or.inl rfl
    · rw [if_neg c2] at h
      obtain rfl := Option.some.inj h
      exact Or.inr rfl
abbrev zr_X6_demandIndex : Room := { frames := 0, cells := 0, slots := 0, locals := 0 }
def f_X6_demandIndex (st : zSt) (a0 : Int32) (a1 : Int32) : Option (Unit × zSt) := (if a0 < 0 then none else (if a0 < a1 then some ((), st) else none))
set_option maxHeartbeats 4000000 in
set_option maxRecDepth 100000 in
theorem t_X6_demandIndex (X : zCx) (out : Unit × zSt) (hX : zOk X RX6 cX6_demandIndex zr_X6_demandIndex) (hQ : zPost X 98 shC none (none) out.2) (hnl : X.nL = 2) (st : zSt) (a0 : Int32) (a1 : Int32) (hf : f_X6_demandIndex st a0 a1 = some out) : zG 98 shC X st 0 [(0, .int a0), (1, .int a1)] [] := by
  unfold f_X6_demandIndex at hf
  refine z_iload_n hX 0 dX6_demandIndex_0 rfl rfl ?_
  refine z_if_lt hX 9 dX6_demandIndex_1 (by decide) (fun c1 => ?_) (fun c1 => ?_)
  · have hf := (if_pos c1).symm.trans hf
    exact (znone hf).elim
  have hf := (if_neg c1).symm.trans hf
  refine z_iload_n hX 0 dX6_demandIndex_4 rfl rfl ?_
  refine z_iload_n hX 1 dX6_demandIndex_5 rfl rfl ?_
  refine z_icmp_lt hX 17 dX6_demandIndex_6 (by decide) (fun c2 => ?_) (fun c2 => ?_)
  · have hf := (if_pos c2).symm.trans hf
    obtain rfl := Option.some.inj hf
    exact z_vret hX hQ dX6_demandIndex_17
  have hf := (if_neg c2).symm.trans hf
  exact (znone hf).elim
theorem zb_X6_demandIndex : zCalS yX6_demandIndex cX6_demandIndex 2 none 2 := ⟨zm_307, zm_1, zm_308, by decide, by decide, rfl⟩
theorem c_X6_demandIndex (l : Launch) (st : zSt) (a0 : Int32) (a1 : Int32) (out : Unit × zSt) (hf : f_X6_demandIndex st a0 a1 = some out) : zMet l yX6_demandIndex cX6_demandIndex 2 none zr_X6_demandIndex 98 shC (fun ad => [.int a0, .int a1]) st (fun ad => none) out.2 :=
  zmet_of (by decide +kernel) (fun _ => Nat.le_of_ble_eq_true rfl) (fun X _ hnl hX hQ => t_X6_demandIndex X out hX hQ hnl st a0 a1 hf)
abbrev zr_X6_demandArgument : Room := { frames := 0, cells := 0, slots := 0, locals := 0 }
def f_X6_demandArgument (st : zSt) (a0 : Int32) : Option (Unit × zSt) := (if a0 = 0 then none else some ((), st))
set_option maxHeartbeats 4000000 in
set_option maxRecDepth 100000 in
theorem t_X6_demandArgument (X : zCx) (out : Unit × zSt) (hX : zOk X RX6 cX6_demandArgument zr_X6_demandArgument) (hQ : zPost X 98 shC none (none) out.2) (hnl : X.nL = 1) (st : zSt) (a0 : Int32) (hf : f_X6_demandArgument st a0 = some out) : zG 98 shC X st 0 [(0, .int a0)] [] := by
  unfold f_X6_demandArgument at hf
  refine z_iload_n hX 0 dX6_demandArgument_0 rfl rfl ?_
  refine z_if_ne hX 12 dX6_demandArgument_1 (by decide) (fun c1 => ?_) (fun c1 => ?_)
  · have hf := (if_neg c1).symm.trans hf
    obtain rfl := Option.some.inj hf
    exact z_vret hX hQ dX6_demandArgument_12
  have hf := (if_pos c1).symm.trans hf
  exact (znone hf).elim
theorem zb_X6_demandArgument : zCalS yX6_demandArgument cX6_demandArgument 1 none 1 := ⟨zm_377, zm_1, zm_378, by decide, by decide, rfl⟩
theorem c_X6_demandArgument (l : Launch) (st : zSt) (a0 : Int32) (out : Unit × zSt) (hf : f_X6_demandArgument st a0 = some out) : zMet l yX6_demandArgument cX6_demandArgument 1 none zr_X6_demandArgument 98 shC (fun ad => [.int a0]) st (fun ad => none) out.2 :=
  zmet_of (by decide +kernel) (fun _ => Nat.le_of_ble_eq_true rfl) (fun X _ hnl hX hQ => t_X6_demandArgument X out hX hQ hnl st a0 hf)
abbrev zr_X6_demandState : Room := { frames := 0, cells := 0, slots := 0, locals := 0 }
def f_X6_demandState (st : zSt) (a0 : Int32) : Option (Unit × zSt) := (if a0 = 0 then none else some ((), st))
set_option maxHeartbeats 4000000 in
set_option maxRecDepth 100000 in
theorem t_X6_demandState (X : zCx) (out : Unit × zSt) (hX : zOk X RX6 cX6_demandState zr_X6_demandState) (hQ : zPost X 98 shC none (none) out.2) (hnl : X.nL = 1) (st : zSt) (a0 : Int32) (hf : f_X6_demandState st a0 = some out) : zG 98 shC X st 0 [(0, .int a0)] [] := by
  unfold f_X6_demandState at hf
  refine z_iload_n hX 0 dX6_demandState_0 rfl rfl ?_
  refine z_if_ne hX 12 dX6_demandState_1 (by decide) (fun c1 => ?_) (fun c1 => ?_)
  · have hf := (if_neg c1).symm.trans hf
    obtain rfl := Option.some.inj hf
    exact z_vret hX hQ dX6_demandState_12
  have hf := (if_pos c1).symm.trans hf
  exact (znone hf).elim
theorem zb_X6_demandState : zCalS yX6_demandState cX6_demandState 1 none 1 := ⟨zm_395, zm_1, zm_396, by decide, by decide, rfl⟩
theorem c_X6_demandState (l : Launch) (st : zSt) (a0 : Int32) (out : Unit × zSt) (hf : f_X6_demandState st a0 = some out) : zMet l yX6_demandState cX6_demandState 1 none zr_X6_demandState 98 shC (fun ad => [.int a0]) st (fun ad => none) out.2 :=
  zmet_of (by decide +kernel) (fun _ => Nat.le_of_ble_eq_true rfl) (fun X _ hnl hX hQ => t_X6_demandState X out hX hQ hnl st a0 hf)
abbrev zr_X6_knownShip : Room := { frames := 1, cells := 0, slots := 0, locals := 21 }
def f_X6_knownShip (st : zSt) (a0 : Int32) : Option (Nat × zSt) := ((f_X6_demandIndex st a0 (st.1 0 11)).bind fun q1 => (if zin a0 4 then some ((14 + a0.toNatClampNeg), q1.2) else none))
set_option maxHeartbeats 4000000 in
set_option maxRecDepth 100000 in
theorem t_X6_knownShip (X : zCx) (out : Nat × zSt) (hX : zOk X RX6 cX6_knownShip zr_X6_knownShip) (hQ : zPost X 98 shC (some (.object "ArchipelagoFerries$Ship")) (some (.ref (X.ad out.1))) out.2) (hnl : X.nL = 2) (st : zSt) (a0 : Int32) (hf : f_X6_knownShip st a0 = some out) : zG 98 shC X st 0 [(0, .ref (X.ad 0)), (1, .int a0)] [] := by
  unfold f_X6_knownShip at hf
  refine z_iload_n hX 1 dX6_knownShip_0 rfl rfl ?_
  refine z_aload_n hX 0 dX6_knownShip_1 rfl rfl ?_
  refine z_getI hX 0 11 dX6_knownShip_2 (by decide) shC_0 rfl rfl zin_X6 (by decide) zm_264 ?_
  obtain ⟨q1, e2, hf⟩ := zbind hf
  refine z_callS (stk := []) (stk' := []) hX (c_X6_demandIndex X.l st a0 (st.1 0 11) q1 e2) zb_X6_demandIndex dX6_knownShip_5 zm_306 rfl rfl rfl ⟨by decide, by decide⟩ ⟨rfl, rfl⟩ (Nat.le_of_ble_eq_true rfl) rfl ?_
  refine z_aload_n hX 0 dX6_knownShip_8 rfl rfl ?_
  refine z_getR hX 0 0 1 dX6_knownShip_9 (by decide) shC_0 rfl rfl zin_X6 (by decide) zm_253 ?_
  refine z_iload_n hX 1 dX6_knownShip_12 rfl rfl ?_
  obtain ⟨i3, hf⟩ := zifd hf
  refine z_aald hX 1 dX6_knownShip_13 (by decide) shC_1 rfl i3 ?_
  obtain rfl := Option.some.inj hf
  exact z_aret hX hQ dX6_knownShip_14
theorem zb_X6_knownShip : zCal yX6_knownShip cX6_knownShip 2 (some (.object "ArchipelagoFerries$Ship")) 1 := ⟨zm_414, (zws_X6_knownShip), zm_1, zm_415, by decide, by decide, rfl⟩
theorem c_X6_knownShip (l : Launch) (st : zSt) (a0 : Int32) (out : Nat × zSt) (hf : f_X6_knownShip st a0 = some out) : zMet l yX6_knownShip cX6_knownShip 2 (some (.object "ArchipelagoFerries$Ship")) zr_X6_knownShip 98 shC (fun ad => [.ref (ad 0), .int a0]) st (fun ad => some (.ref (ad out.1))) out.2 :=
  zmet_of (by decide +kernel) (fun _ => Nat.le_of_ble_eq_true rfl) (fun X _ hnl hX hQ => t_X6_knownShip X out hX hQ hnl st a0 hf)
theorem rr_X6_knownShip {st : zSt} {a0 : Int32} {out : Nat × zSt} (h : f_X6_knownShip st a0 = some out) : zkShip out.1 := by
  unfold f_X6_knownShip at h
  obtain ⟨_, _, h⟩ := zbind h
  obtain ⟨i, h⟩ := zifd h
  obtain rfl := Option.some.inj h
  exact zkShip_at i
abbrev zr_X6_knownCrew : Room := { frames := 1, cells := 0, slots := 0, locals := 21 }
def f_X6_knownCrew (st : zSt) (a0 : Int32) : Option (Nat × zSt) := ((f_X6_demandIndex st a0 (st.1 0 12)).bind fun q1 => (if zin a0 6 then some ((22 + a0.toNatClampNeg), q1.2) else none))
set_option maxHeartbeats 4000000 in
set_option maxRecDepth 100000 in
theorem t_X6_knownCrew (X : zCx) (out : Nat × zSt) (hX : zOk X RX6 cX6_knownCrew zr_X6_knownCrew) (hQ : zPost X 98 shC (some (.object "ArchipelagoFerries$Crew")) (some (.ref (X.ad out.1))) out.2) (hnl : X.nL = 2) (st : zSt) (a0 : Int32) (hf : f_X6_knownCrew st a0 = some out) : zG 98 shC X st 0 [(0, .ref (X.ad 0)), (1, .int a0)] [] := by
  unfold f_X6_knownCrew at hf
  refine z_iload_n hX 1 dX6_knownCrew_0 rfl rfl ?_
  refine z_aload_n hX 0 dX6_knownCrew_1 rfl rfl ?_
  refine z_getI hX 0 12 dX6_knownCrew_2 (by decide) shC_0 rfl rfl zin_X6 (by decide) zm_265 ?_
  obtain ⟨q1, e2, hf⟩ := zbind hf
  refine z_callS (stk := []) (stk' := []) hX (c_X6_demandIndex X.l st a0 (st.1 0 12) q1 e2) zb_X6_demandIndex dX6_knownCrew_5 zm_306 rfl rfl rfl ⟨by decide, by decide⟩ ⟨rfl, rfl⟩ (Nat.le_of_ble_eq_true rfl) rfl ?_
  refine z_aload_n hX 0 dX6_knownCrew_8 rfl rfl ?_
  refine z_getR hX 0 1 2 dX6_knownCrew_9 (by decide) shC_0 rfl rfl zin_X6 (by decide) zm_254 ?_
  refine z_iload_n hX 1 dX6_knownCrew_12 rfl rfl ?_
  obtain ⟨i3, hf⟩ := zifd hf
  refine z_aald hX 2 dX6_knownCrew_13 (by decide) shC_2 rfl i3 ?_
  obtain rfl := Option.some.inj hf
  exact z_aret hX hQ dX6_knownCrew_14
theorem zb_X6_knownCrew : zCal yX6_knownCrew cX6_knownCrew 2 (some (.object "ArchipelagoFerries$Crew")) 1 := ⟨zm_426, (zws_X6_knownCrew), zm_1, zm_427, by decide, by decide, rfl⟩
theorem c_X6_knownCrew (l : Launch) (st : zSt) (a0 : Int32) (out : Nat × zSt) (hf : f_X6_knownCrew st a0 = some out) : zMet l yX6_knownCrew cX6_knownCrew 2 (some (.object "ArchipelagoFerries$Crew")) zr_X6_knownCrew 98 shC (fun ad => [.ref (ad 0), .int a0]) st (fun ad => some (.ref (ad out.1))) out.2 :=
  zmet_of (by decide +kernel) (fun _ => Nat.le_of_ble_eq_true rfl) (fun X _ hnl hX hQ => t_X6_knownCrew X out hX hQ hnl st a0 hf)
theorem rr_X6_knownCrew {st : zSt} {a0 : Int32} {out : Nat × zSt} (h : f_X6_knownCrew st a0 = some out) : zkCrew out.1 := by
  unfold f_X6_knownCrew at h
  obtain ⟨_, _, h⟩ := zbind h
  obtain ⟨i, h⟩ := zifd h
  obtain rfl := Option.some.inj h
  exact zkCrew_at i
abbrev zr_X6_knownSailing : Room := { frames := 1, cells := 0, slots := 0, locals := 21 }
def f_X6_knownSailing (st : zSt) (a0 : Int32) : Option (Nat × zSt) := ((f_X6_demandIndex st a0 (st.1 0 13)).bind fun q1 => (if zin a0 24 then some ((34 + a0.toNatClampNeg), q1.2) else none))
set_option maxHeartbeats 4000000 in
set_option maxRecDepth 100000 in
theorem t_X6_knownSailing (X : zCx) (out : Nat × zSt) (hX : zOk X RX6 cX6_knownSailing zr_X6_knownSailing) (hQ : zPost X 98 shC (some (.object "ArchipelagoFerries$Sailing")) (some (.ref (X.ad out.1))) out.2) (hnl : X.nL = 2) (st : zSt) (a0 : Int32) (hf : f_X6_knownSailing st a0 = some out) : zG 98 shC X st 0 [(0, .ref (X.ad 0)), (1, .int a0)] [] := by
  unfold f_X6_knownSailing at hf
  refine z_iload_n hX 1 dX6_knownSailing_0 rfl rfl ?_
  refine z_aload_n hX 0 dX6_knownSailing_1 rfl rfl ?_
  refine z_getI hX 0 13 dX6_knownSailing_2 (by decide) shC_0 rfl rfl zin_X6 (by decide) zm_266 ?_
  obtain ⟨q1, e2, hf⟩ := zbind hf
  refine z_callS (stk := []) (stk' := []) hX (c_X6_demandIndex X.l st a0 (st.1 0 13) q1 e2) zb_X6_demandIndex dX6_knownSailing_5 zm_306 rfl rfl rfl ⟨by decide, by decide⟩ ⟨rfl, rfl⟩ (Nat.le_of_ble_eq_true rfl) rfl ?_
  refine z_aload_n hX 0 dX6_knownSailing_8 rfl rfl ?_
  refine z_getR hX 0 2 3 dX6_knownSailing_9 (by decide) shC_0 rfl rfl zin_X6 (by decide) zm_255 ?_
  refine z_iload_n hX 1 dX6_knownSailing_12 rfl rfl ?_
  obtain ⟨i3, hf⟩ := zifd hf
  refine z_aald hX 3 dX6_knownSailing_13 (by decide) shC_3 rfl i3 ?_
  obtain rfl := Option.some.inj hf
  exact z_aret hX hQ dX6_knownSailing_14
theorem zb_X6_knownSailing : zCal yX6_knownSailing cX6_knownSailing 2 (some (.object "ArchipelagoFerries$Sailing")) 1 := ⟨zm_458, (zws_X6_knownSailing), zm_1, zm_459, by decide, by decide, rfl⟩
theorem c_X6_knownSailing (l : Launch) (st : zSt) (a0 : Int32) (out : Nat × zSt) (hf : f_X6_knownSailing st a0 = some out) : zMet l yX6_knownSailing cX6_knownSailing 2 (some (.object "ArchipelagoFerries$Sailing")) zr_X6_knownSailing 98 shC (fun ad => [.ref (ad 0), .int a0]) st (fun ad => some (.ref (ad out.1))) out.2 :=
  zmet_of (by decide +kernel) (fun _ => Nat.le_of_ble_eq_true rfl) (fun X _ hnl hX hQ => t_X6_knownSailing X out hX hQ hnl st a0 hf)
theorem rr_X6_knownSailing {st : zSt} {a0 : Int32} {out : Nat × zSt} (h : f_X6_knownSailing st a0 = some out) : zkSailing out.1 := by
  unfold f_X6_knownSailing at h
  obtain ⟨_, _, h⟩ := zbind h
  obtain ⟨i, h⟩ := zifd h
  obtain rfl := Option.some.inj h
  exact zkSailing_at i
abbrev zr_X6_knownBooking : Room := { frames := 1, cells := 0, slots := 0, locals := 21 }
def f_X6_knownBooking (st : zSt) (a0 : Int32) : Option (Nat × zSt) := ((f_X6_demandIndex st a0 (st.1 0 14)).bind fun q1 => (if zin a0 40 then some ((58 + a0.toNatClampNeg), q1.2) else none))
set_option maxHeartbeats 4000000 in
set_option maxRecDepth 100000 in
theorem t_X6_knownBooking (X : zCx) (out : Nat × zSt) (hX : zOk X RX6 cX6_knownBooking zr_X6_knownBooking) (hQ : zPost X 98 shC (some (.object "ArchipelagoFerries$Booking")) (some (.ref (X.ad out.1))) out.2) (hnl : X.nL = 2) (st : zSt) (a0 : Int32) (hf : f_X6_knownBooking st a0 = some out) : zG 98 shC X st 0 [(0, .ref (X.ad 0)), (1, .int a0)] [] := by
  unfold f_X6_knownBooking at hf
  refine z_iload_n hX 1 dX6_knownBooking_0 rfl rfl ?_
  refine z_aload_n hX 0 dX6_knownBooking_1 rfl rfl ?_
  refine z_getI hX 0 14 dX6_knownBooking_2 (by decide) shC_0 rfl rfl zin_X6 (by decide) zm_267 ?_
  obtain ⟨q1, e2, hf⟩ := zbind hf
  refine z_callS (stk := []) (stk' := []) hX (c_X6_demandIndex X.l st a0 (st.1 0 14) q1 e2) zb_X6_demandIndex dX6_knownBooking_5 zm_306 rfl rfl rfl ⟨by decide, by decide⟩ ⟨rfl, rfl⟩ (Nat.le_of_ble_eq_true rfl) rfl ?_
  refine z_aload_n hX 0 dX6_knownBooking_8 rfl rfl ?_
  refine z_getR hX 0 3 4 dX6_knownBooking_9 (by decide) shC_0 rfl rfl zin_X6 (by decide) zm_256 ?_
  refine z_iload_n hX 1 dX6_knownBooking_12 rfl rfl ?_
  obtain ⟨i3, hf⟩ := zifd hf
  refine z_aald hX 4 dX6_knownBooking_13 (by decide) shC_4 rfl i3 ?_
  obtain rfl := Option.some.inj hf
  exact z_aret hX hQ dX6_knownBooking_14
theorem zb_X6_knownBooking : zCal yX6_knownBooking cX6_knownBooking 2 (some (.object "ArchipelagoFerries$Booking")) 1 := ⟨zm_505, (zws_X6_knownBooking), zm_1, zm_506, by decide, by decide, rfl⟩
theorem c_X6_knownBooking (l : Launch) (st : zSt) (a0 : Int32) (out : Nat × zSt) (hf : f_X6_knownBooking st a0 = some out) : zMet l yX6_knownBooking cX6_knownBooking 2 (some (.object "ArchipelagoFerries$Booking")) zr_X6_knownBooking 98 shC (fun ad => [.ref (ad 0), .int a0]) st (fun ad => some (.ref (ad out.1))) out.2 :=
  zmet_of (by decide +kernel) (fun _ => Nat.le_of_ble_eq_true rfl) (fun X _ hnl hX hQ => t_X6_knownBooking X out hX hQ hnl st a0 hf)
theorem rr_X6_knownBooking {st : zSt} {a0 : Int32} {out : Nat × zSt} (h : f_X6_knownBooking st a0 = some out) : zkBooking out.1 := by
  unfold f_X6_knownBooking at h
  obtain ⟨_, _, h⟩ := zbind h
  obtain ⟨i, h⟩ := zifd h
  obtain rfl := Option.some.inj h
  exact zkBooking_at i
abbrev zr_X6_isBookable : Room := { frames := 1, cells := 0, slots := 0, locals := 22 }
def f_X6_isBookable (st : zSt) (a0 : Int32) (a1 : Int32) (a2 : Int32) (a3 : Int32) : Option (Int32 × zSt) := (if a0 = 0 then (if a1 = 0 then (if a2 = 0 then (if a3 = 0 then some (1, st) else some (0, st)) else some (0, st)) else some (0, st)) else ((f_X6_isWithin st a0 1 3).bind fun q2 => (if q2.1 = 0 then some (0, q2.2) else ((f_X6_isWithin q2.2 a1 1 40).bind fun q5 => (if q5.1 = 0 then some (0, q5.2) else ((f_X6_isWithin q5.2 a2 1 200).bind fun q8 => (if q8.1 = 0 then some (0, q8.2) else some (1, q8.2))))))))
set_option maxHeartbeats 4000000 in
set_option maxRecDepth 100000 in
theorem t_X6_isBookable (X : zCx) (out : Int32 × zSt) (hX : zOk X RX6 cX6_isBookable zr_X6_isBookable) (hQ : zPost X 98 shC (some .boolean) (some (.int out.1)) out.2) (hnl : X.nL = 4) (st : zSt) (a0 : Int32) (a1 : Int32) (a2 : Int32) (a3 : Int32) (hf : f_X6_isBookable st a0 a1 a2 a3 = some out) : zG 98 shC X st 0 [(0, .int a0), (1, .int a1), (2, .int a2), (3, .int a3)] [] := by
  unfold f_X6_isBookable at hf
  refine z_iload_n hX 0 dX6_isBookable_0 rfl rfl ?_
  refine z_if_ne hX 22 dX6_isBookable_1 (by decide) (fun c1 => ?_) (fun c1 => ?_)
  · have hf := (if_neg c1).symm.trans hf
    refine z_iload_n hX 0 dX6_isBookable_22 rfl rfl ?_
    refine z_iconst (v := 1) hX dX6_isBookable_23 (by decide) ?_
    refine z_iconst (v := 3) hX dX6_isBookable_24 (by decide) ?_
    obtain ⟨q2, e3, hf⟩ := zbind hf
    refine z_callS (stk := []) (stk' := [.int q2.1]) hX (c_X6_isWithin X.l st a0 1 3 q2 e3) zb_X6_isWithin dX6_isBookable_25 zm_373 rfl rfl rfl ⟨by decide, by decide⟩ ⟨rfl, rfl⟩ (Nat.le_of_ble_eq_true rfl) rfl ?_
    refine z_if_eq hX 56 dX6_isBookable_28 (by decide) (fun c4 => ?_) (fun c4 => ?_)
    · have hf := (if_pos c4).symm.trans hf
      refine z_iconst (v := 0) hX dX6_isBookable_56 (by decide) ?_
      obtain rfl := Option.some.inj hf
      exact z_iret hX hQ dX6_isBookable_57 rfl
    have hf := (if_neg c4).symm.trans hf
    refine z_iload_n hX 1 dX6_isBookable_31 rfl rfl ?_
    refine z_iconst (v := 1) hX dX6_isBookable_32 (by decide) ?_
    refine z_bipush (v := 40) hX dX6_isBookable_33 (by decide) ?_
    obtain ⟨q5, e6, hf⟩ := zbind hf
    refine z_callS (stk := []) (stk' := [.int q5.1]) hX (c_X6_isWithin X.l q2.2 a1 1 40 q5 e6) zb_X6_isWithin dX6_isBookable_35 zm_373 rfl rfl rfl ⟨by decide, by decide⟩ ⟨rfl, rfl⟩ (Nat.le_of_ble_eq_true rfl) rfl ?_
    refine z_if_eq hX 56 dX6_isBookable_38 (by decide) (fun c7 => ?_) (fun c7 => ?_)
    · have hf := (if_pos c7).symm.trans hf
      refine z_iconst (v := 0) hX dX6_isBookable_56 (by decide) ?_
      obtain rfl := Option.some.inj hf
      exact z_iret hX hQ dX6_isBookable_57 rfl
    have hf := (if_neg c7).symm.trans hf
    refine z_iload_n hX 2 dX6_isBookable_41 rfl rfl ?_
    refine z_iconst (v := 1) hX dX6_isBookable_42 (by decide) ?_
    refine z_sipush (v := 200) hX dX6_isBookable_43 (by decide) ?_
    obtain ⟨q8, e9, hf⟩ := zbind hf
    refine z_callS (stk := []) (stk' := [.int q8.1]) hX (c_X6_isWithin X.l q5.2 a2 1 200 q8 e9) zb_X6_isWithin dX6_isBookable_46 zm_373 rfl rfl rfl ⟨by decide, by decide⟩ ⟨rfl, rfl⟩ (Nat.le_of_ble_eq_true rfl) rfl ?_
    refine z_if_eq hX 56 dX6_isBookable_49 (by decide) (fun c10 => ?_) (fun c10 => ?_)
    · have hf := (if_pos c10).symm.trans hf
      refine z_iconst (v := 0) hX dX6_isBookable_56 (by decide) ?_
      obtain rfl := Option.some.inj hf
      exact z_iret hX hQ dX6_isBookable_57 rfl
    have hf := (if_neg c10).symm.trans hf
    refine z_iconst (v := 1) hX dX6_isBookable_52 (by decide) ?_
    refine z_goto hX 57 dX6_isBookable_53 (by decide) ?_
    obtain rfl := Option.some.inj hf
    exact z_iret hX hQ dX6_isBookable_57 rfl
  have hf := (if_pos c1).symm.trans hf
  refine z_iload_n hX 1 dX6_isBookable_4 rfl rfl ?_
  refine z_if_ne hX 20 dX6_isBookable_5 (by decide) (fun c11 => ?_) (fun c11 => ?_)
  · have hf := (if_neg c11).symm.trans hf
    refine z_iconst (v := 0) hX dX6_isBookable_20 (by decide) ?_
    obtain rfl := Option.some.inj hf
    exact z_iret hX hQ dX6_isBookable_21 rfl
  have hf := (if_pos c11).symm.trans hf
  refine z_iload_n hX 2 dX6_isBookable_8 rfl rfl ?_
  refine z_if_ne hX 20 dX6_isBookable_9 (by decide) (fun c12 => ?_) (fun c12 => ?_)
  · have hf := (if_neg c12).symm.trans hf
    refine z_iconst (v := 0) hX dX6_isBookable_20 (by decide) ?_
    obtain rfl := Option.some.inj hf
    exact z_iret hX hQ dX6_isBookable_21 rfl
  have hf := (if_pos c12).symm.trans hf
  refine z_iload_n hX 3 dX6_isBookable_12 rfl rfl ?_
  refine z_if_ne hX 20 dX6_isBookable_13 (by decide) (fun c13 => ?_) (fun c13 => ?_)
  · have hf := (if_neg c13).symm.trans hf
    refine z_iconst (v := 0) hX dX6_isBookable_20 (by decide) ?_
    obtain rfl := Option.some.inj hf
    exact z_iret hX hQ dX6_isBookable_21 rfl
  have hf := (if_pos c13).symm.trans hf
  refine z_iconst (v := 1) hX dX6_isBookable_16 (by decide) ?_
  refine z_goto hX 21 dX6_isBookable_17 (by decide) ?_
  obtain rfl := Option.some.inj hf
  exact z_iret hX hQ dX6_isBookable_21 rfl
theorem zb_X6_isBookable : zCalS yX6_isBookable cX6_isBookable 4 (some .boolean) 4 := ⟨zm_643, zm_1, zm_644, by decide, by decide, rfl⟩
theorem c_X6_isBookable (l : Launch) (st : zSt) (a0 : Int32) (a1 : Int32) (a2 : Int32) (a3 : Int32) (out : Int32 × zSt) (hf : f_X6_isBookable st a0 a1 a2 a3 = some out) : zMet l yX6_isBookable cX6_isBookable 4 (some .boolean) zr_X6_isBookable 98 shC (fun ad => [.int a0, .int a1, .int a2, .int a3]) st (fun ad => some (.int out.1)) out.2 :=
  zmet_of (by decide +kernel) (fun _ => Nat.le_of_ble_eq_true rfl) (fun X _ hnl hX hQ => t_X6_isBookable X out hX hQ hnl st a0 a1 a2 a3 hf)
abbrev zr_X6_spanFor : Room := { frames := 2, cells := 0, slots := 0, locals := 42 }
def f_X6_spanFor_23  (st : zSt) (v1 : Int32) : Option (Nat × zSt) := (if v1 = 0 then some (9, st) else some (10, st))
def f_X6_spanFor (st : zSt) (a0 : Int32) (a1 : Int32) : Option (Nat × zSt) := (if a0 = 2 then ((f_X6_knownShip st a1).bind fun q4 => some ((q4.1 + 4), q4.2)) else (if a0 = 0 then f_X6_spanFor_23 st a0 else (if a0 = 1 then f_X6_spanFor_23 st a0 else none)))
set_option maxHeartbeats 4000000 in
set_option maxRecDepth 100000 in
theorem t_X6_spanFor_23 (X : zCx) (out : Nat × zSt) (hX : zOk X RX6 cX6_spanFor zr_X6_spanFor) (hQ : zPost X 98 shC (some (.object "ArchipelagoFerries$Span")) (some (.ref (X.ad out.1))) out.2) (hnl : X.nL = 3) (st : zSt) (v1 : Int32) (hf : f_X6_spanFor_23  st v1 = some out) : zG 98 shC X st 23 [(0, .ref (X.ad 0)), (1, .int v1)] [] := by
  unfold f_X6_spanFor_23 at hf
  refine z_iconst (v := 1) hX dX6_spanFor_23 (by decide) ?_
  refine z_goto hX 28 dX6_spanFor_24 (by decide) ?_
  refine z_callS (stk := []) (stk' := []) hX (c_X6_demandArgument X.l st 1 ((), st) rfl) zb_X6_demandArgument dX6_spanFor_28 zm_376 rfl rfl rfl ⟨by decide, by decide⟩ ⟨rfl, rfl⟩ (Nat.le_of_ble_eq_true rfl) rfl ?_
  refine z_iload_n hX 1 dX6_spanFor_31 rfl rfl ?_
  refine z_if_ne hX 42 dX6_spanFor_32 (by decide) (fun c8 => ?_) (fun c8 => ?_)
  · have hf := (if_neg c8).symm.trans hf
    refine z_aload_n hX 0 dX6_spanFor_42 rfl rfl ?_
    refine z_getR hX 0 9 10 dX6_spanFor_43 (by decide) shC_0 rfl rfl zin_X6 (by decide) zm_262 ?_
    obtain rfl := Option.some.inj hf
    exact z_aret hX hQ dX6_spanFor_46
  have hf := (if_pos c8).symm.trans hf
  refine z_aload_n hX 0 dX6_spanFor_35 rfl rfl ?_
  refine z_getR hX 0 8 9 dX6_spanFor_36 (by decide) shC_0 rfl rfl zin_X6 (by decide) zm_261 ?_
  refine z_goto hX 46 dX6_spanFor_39 (by decide) ?_
  obtain rfl := Option.some.inj hf
  exact z_aret hX hQ dX6_spanFor_46
set_option maxHeartbeats 4000000 in
set_option maxRecDepth 100000 in
theorem t_X6_spanFor (X : zCx) (out : Nat × zSt) (hX : zOk X RX6 cX6_spanFor zr_X6_spanFor) (hQ : zPost X 98 shC (some (.object "ArchipelagoFerries$Span")) (some (.ref (X.ad out.1))) out.2) (hnl : X.nL = 3) (st : zSt) (a0 : Int32) (a1 : Int32) (hf : f_X6_spanFor st a0 a1 = some out) : zG 98 shC X st 0 [(0, .ref (X.ad 0)), (1, .int a0), (2, .int a1)] [] := by
  unfold f_X6_spanFor at hf
  refine z_iload_n hX 1 dX6_spanFor_0 rfl rfl ?_
  refine z_iconst (v := 2) hX dX6_spanFor_1 (by decide) ?_
  refine z_icmp_ne hX 14 dX6_spanFor_2 (by decide) (fun c1 => ?_) (fun c1 => ?_)
  · have hf := (if_neg c1).symm.trans hf
    refine z_iload_n hX 1 dX6_spanFor_14 rfl rfl ?_
    refine z_if_eq hX 23 dX6_spanFor_15 (by decide) (fun c2 => ?_) (fun c2 => ?_)
    · have hf := (if_pos c2).symm.trans hf
      refine z_locals [0, 1] [(0, .ref (X.ad 0)), (1, .int a0)] rfl ?_
      exact t_X6_spanFor_23 X out hX hQ hnl st a0 hf
    have hf := (if_neg c2).symm.trans hf
    refine z_iload_n hX 1 dX6_spanFor_18 rfl rfl ?_
    refine z_iconst (v := 1) hX dX6_spanFor_19 (by decide) ?_
    refine z_icmp_ne hX 27 dX6_spanFor_20 (by decide) (fun c3 => ?_) (fun c3 => ?_)
    · have hf := (if_neg c3).symm.trans hf
      refine z_iconst (v := 0) hX dX6_spanFor_27 (by decide) ?_
      exact (znone hf).elim
    have hf := (if_pos c3).symm.trans hf
    refine z_locals [0, 1] [(0, .ref (X.ad 0)), (1, .int a0)] rfl ?_
    exact t_X6_spanFor_23 X out hX hQ hnl st a0 hf
  have hf := (if_pos c1).symm.trans hf
  refine z_aload_n hX 0 dX6_spanFor_5 rfl rfl ?_
  refine z_iload_n hX 2 dX6_spanFor_6 rfl rfl ?_
  obtain ⟨q4, e5, hf⟩ := zbind hf
  refine z_callV (stk := []) (stk' := [.ref (X.ad q4.1)]) hX (c_X6_knownShip X.l st a1 q4 e5) zb_X6_knownShip 0 dX6_spanFor_7 zm_412 (by decide) shC_0 rfl rfl rfl rfl ⟨by decide, by decide⟩ ⟨rfl, rfl⟩ (Nat.le_of_ble_eq_true rfl) rfl ?_
  refine z_getRN hX q4.1 7 (q4.1 + 4) dX6_spanFor_10 (zlt_Ship (rr_X6_knownShip e5)) (zsh_Ship (rr_X6_knownShip e5)) rfl rfl zin_X4 (by decide) zm_108 ?_
  obtain rfl := Option.some.inj hf
  exact z_aret hX hQ dX6_spanFor_13
theorem zb_X6_spanFor : zCal yX6_spanFor cX6_spanFor 3 (some (.object "ArchipelagoFerries$Span")) 2 := ⟨zm_438, (zws_X6_spanFor), zm_1, zm_439, by decide, by decide, rfl⟩
theorem c_X6_spanFor (l : Launch) (st : zSt) (a0 : Int32) (a1 : Int32) (out : Nat × zSt) (hf : f_X6_spanFor st a0 a1 = some out) : zMet l yX6_spanFor cX6_spanFor 3 (some (.object "ArchipelagoFerries$Span")) zr_X6_spanFor 98 shC (fun ad => [.ref (ad 0), .int a0, .int a1]) st (fun ad => some (.ref (ad out.1))) out.2 :=
  zmet_of (by decide +kernel) (fun _ => Nat.le_of_ble_eq_true rfl) (fun X _ hnl hX hQ => t_X6_spanFor X out hX hQ hnl st a0 a1 hf)
theorem rr_X6_spanFor {st : zSt} {a0 a1 : Int32} {out : Nat × zSt} (h : f_X6_spanFor st a0 a1 = some out) : zkSpan out.1 := by
  have g : ∀ v : Int32, f_X6_spanFor_23 st v = some out → zkSpan out.1 := by
    intro v h
    unfold f_X6_spanFor_23 at h
    by_cases c : v = 0
    · rw [if_pos c] at h
      obtain rfl := Option.some.inj h
      exact zkSpan_9
    · rw [if_neg c] at h
      obtain rfl := Option.some.inj h
      exact zkSpan_10
  unfold f_X6_spanFor at h
  by_cases c1 : a0 = 2
  · rw [if_pos c1] at h
    obtain ⟨q, e, h⟩ := zbind h
    obtain rfl := Option.some.inj h
    exact zsp_out (rr_X6_knownShip e)
  · rw [if_neg c1] at h
    by_cases c2 : a0 = 0
    · rw [if_pos c2] at h
      exact g _ h
    · rw [if_neg c2] at h
      by_cases c3 : a0 = 1
      · rw [if_pos c3] at h
        exact g _ h
      · rw [if_neg c3] at h
        exact (znone h).elim
abbrev zr_X6_depthAt : Room := { frames := 1, cells := 0, slots := 0, locals := 21 }
def f_X6_depthAt (st : zSt) (a0 : Int32) (a1 : Int32) : Option (Int32 × zSt) := some ((3 + (zabs (((a1 + (2 * a0)) - (a1 + (2 * a0)) / 12 * 12) - 6))), st)
set_option maxHeartbeats 4000000 in
set_option maxRecDepth 100000 in
theorem t_X6_depthAt (X : zCx) (out : Int32 × zSt) (hX : zOk X RX6 cX6_depthAt zr_X6_depthAt) (hQ : zPost X 98 shC (some .int) (some (.int out.1)) out.2) (hnl : X.nL = 2) (st : zSt) (a0 : Int32) (a1 : Int32) (hf : f_X6_depthAt st a0 a1 = some out) : zG 98 shC X st 0 [(0, .int a0), (1, .int a1)] [] := by
  unfold f_X6_depthAt at hf
  refine z_iconst (v := 3) hX dX6_depthAt_0 (by decide) ?_
  refine z_iload_n hX 1 dX6_depthAt_1 rfl rfl ?_
  refine z_iconst (v := 2) hX dX6_depthAt_2 (by decide) ?_
  refine z_iload_n hX 0 dX6_depthAt_3 rfl rfl ?_
  refine z_imul hX dX6_depthAt_4 ?_
  refine z_iadd hX dX6_depthAt_5 ?_
  refine z_bipush (v := 12) hX dX6_depthAt_6 (by decide) ?_
  refine z_irem hX dX6_depthAt_8 (by decide) ?_
  refine z_bipush (v := 6) hX dX6_depthAt_9 (by decide) ?_
  refine z_isub hX dX6_depthAt_11 ?_
  refine z_mabs hX dX6_depthAt_12 zm_475 zm_476 zm_14 zm_477 ⟨by decide, Nat.le_of_ble_eq_true rfl⟩ ?_
  refine z_iadd hX dX6_depthAt_15 ?_
  obtain rfl := Option.some.inj hf
  exact z_iret hX hQ dX6_depthAt_16 rfl
theorem zb_X6_depthAt : zCalS yX6_depthAt cX6_depthAt 2 (some .int) 2 := ⟨zm_473, zm_1, zm_474, by decide, by decide, rfl⟩
theorem c_X6_depthAt (l : Launch) (st : zSt) (a0 : Int32) (a1 : Int32) (out : Int32 × zSt) (hf : f_X6_depthAt st a0 a1 = some out) : zMet l yX6_depthAt cX6_depthAt 2 (some .int) zr_X6_depthAt 98 shC (fun ad => [.int a0, .int a1]) st (fun ad => some (.int out.1)) out.2 :=
  zmet_of (by decide +kernel) (fun _ => Nat.le_of_ble_eq_true rfl) (fun X _ hnl hX hQ => t_X6_depthAt X out hX hQ hnl st a0 a1 hf)
abbrev zr_X6_lastSailing : Room := { frames := 2, cells := 0, slots := 0, locals := 42 }
def f_X6_lastSailing_4  : Nat → zSt → Int32 → Int32 → Int32 → Option (Int32 × zSt)
  | 0, _, _, _, _ => none
  | n + 1, st, v1, v2, v3 => (if (st.1 0 13) ≤ v3 then some (v2, st) else ((f_X6_knownSailing st v3).bind fun q2 => (if (q2.2.1 q2.1 0) = v1 then (if (q2.2.1 q2.1 6) = 1 then f_X6_lastSailing_4 n q2.2 v1 v2 (v3 + 1) else f_X6_lastSailing_4 n q2.2 v1 v3 (v3 + 1)) else f_X6_lastSailing_4 n q2.2 v1 v2 (v3 + 1))))
def f_X6_lastSailing (st : zSt) (a0 : Int32) : Option (Int32 × zSt) := f_X6_lastSailing_4 64 st a0 (-1) 0
set_option maxHeartbeats 4000000 in
set_option maxRecDepth 100000 in
theorem t_X6_lastSailing_4 (X : zCx) (out : Int32 × zSt) (hX : zOk X RX6 cX6_lastSailing zr_X6_lastSailing) (hQ : zPost X 98 shC (some .int) (some (.int out.1)) out.2) (hnl : X.nL = 5) : ∀ (n : Nat) (st : zSt) (v1 : Int32) (v2 : Int32) (v3 : Int32), f_X6_lastSailing_4  n st v1 v2 v3 = some out → zG 98 shC X st 4 [(0, .ref (X.ad 0)), (1, .int v1), (2, .int v2), (3, .int v3)] [] := by
  intro n
  induction n with
  | zero => intro st v1 v2 v3 hf; rw [f_X6_lastSailing_4] at hf; exact (znone hf).elim
  | succ n ih =>
    intro st v1 v2 v3 hf
    rw [f_X6_lastSailing_4] at hf
    refine z_iload_n hX 3 dX6_lastSailing_4 rfl rfl ?_
    refine z_aload_n hX 0 dX6_lastSailing_5 rfl rfl ?_
    refine z_getI hX 0 13 dX6_lastSailing_6 (by decide) shC_0 rfl rfl zin_X6 (by decide) zm_266 ?_
    refine z_icmp_ge hX 45 dX6_lastSailing_9 (by decide) (fun c1 => ?_) (fun c1 => ?_)
    · have hf := (if_pos c1).symm.trans hf
      refine z_iload_n hX 2 dX6_lastSailing_45 rfl rfl ?_
      obtain rfl := Option.some.inj hf
      exact z_iret hX hQ dX6_lastSailing_46 rfl
    have hf := (if_neg c1).symm.trans hf
    refine z_aload_n hX 0 dX6_lastSailing_12 rfl rfl ?_
    refine z_iload_n hX 3 dX6_lastSailing_13 rfl rfl ?_
    obtain ⟨q2, e3, hf⟩ := zbind hf
    refine z_callV (stk := []) (stk' := [.ref (X.ad q2.1)]) hX (c_X6_knownSailing X.l st v3 q2 e3) zb_X6_knownSailing 0 dX6_lastSailing_14 zm_456 (by decide) shC_0 rfl rfl rfl rfl ⟨by decide, by decide⟩ ⟨rfl, rfl⟩ (Nat.le_of_ble_eq_true rfl) rfl ?_
    refine z_astore hX [(0, .ref (X.ad 0)), (1, .int v1), (2, .int v2), (3, .int v3), (4, .ref (X.ad q2.1))] dX6_lastSailing_17 (by rw [hnl]; decide) [1, 2, 3, 4, 0] rfl ?_
    refine z_aload hX 4 dX6_lastSailing_19 rfl ?_
    refine z_getIN hX q2.1 0 dX6_lastSailing_21 (zlt_Sailing (rr_X6_knownSailing e3)) (zsh_Sailing (rr_X6_knownSailing e3)) rfl rfl zin_X3 (by decide) zm_148 ?_
    refine z_iload_n hX 1 dX6_lastSailing_24 rfl rfl ?_
    refine z_icmp_ne hX 39 dX6_lastSailing_25 (by decide) (fun c4 => ?_) (fun c4 => ?_)
    · have hf := (if_neg c4).symm.trans hf
      refine z_iinc (j := 3) (v := 1) hX [(0, .ref (X.ad 0)), (1, .int v1), (2, .int v2), (3, .int (v3 + 1)), (4, .ref (X.ad q2.1))] dX6_lastSailing_39 rfl (by decide) (by rw [hnl]; decide) [1, 2, 3, 0, 4] rfl ?_
      refine z_goto hX 4 dX6_lastSailing_42 (by decide) ?_
      refine z_locals [0, 1, 2, 3] [(0, .ref (X.ad 0)), (1, .int v1), (2, .int v2), (3, .int (v3 + 1))] rfl ?_
      exact ih q2.2 v1 v2 (v3 + 1) hf
    have hf := (if_pos c4).symm.trans hf
    refine z_aload hX 4 dX6_lastSailing_28 rfl ?_
    refine z_getIN hX q2.1 6 dX6_lastSailing_30 (zlt_Sailing (rr_X6_knownSailing e3)) (zsh_Sailing (rr_X6_knownSailing e3)) rfl rfl zin_X3 (by decide) zm_160 ?_
    refine z_iconst (v := 1) hX dX6_lastSailing_33 (by decide) ?_
    refine z_icmp_eq hX 39 dX6_lastSailing_34 (by decide) (fun c5 => ?_) (fun c5 => ?_)
    · have hf := (if_pos c5).symm.trans hf
      refine z_iinc (j := 3) (v := 1) hX [(0, .ref (X.ad 0)), (1, .int v1), (2, .int v2), (3, .int (v3 + 1)), (4, .ref (X.ad q2.1))] dX6_lastSailing_39 rfl (by decide) (by rw [hnl]; decide) [1, 2, 3, 0, 4] rfl ?_
      refine z_goto hX 4 dX6_lastSailing_42 (by decide) ?_
      refine z_locals [0, 1, 2, 3] [(0, .ref (X.ad 0)), (1, .int v1), (2, .int v2), (3, .int (v3 + 1))] rfl ?_
      exact ih q2.2 v1 v2 (v3 + 1) hf
    have hf := (if_neg c5).symm.trans hf
    refine z_iload_n hX 3 dX6_lastSailing_37 rfl rfl ?_
    refine z_istore_n hX [(0, .ref (X.ad 0)), (1, .int v1), (2, .int v3), (3, .int v3), (4, .ref (X.ad q2.1))] dX6_lastSailing_38 rfl (by rw [hnl]; decide) [1, 2, 0, 3, 4] rfl ?_
    refine z_iinc (j := 3) (v := 1) hX [(0, .ref (X.ad 0)), (1, .int v1), (2, .int v3), (3, .int (v3 + 1)), (4, .ref (X.ad q2.1))] dX6_lastSailing_39 rfl (by decide) (by rw [hnl]; decide) [1, 2, 3, 0, 4] rfl ?_
    refine z_goto hX 4 dX6_lastSailing_42 (by decide) ?_
    refine z_locals [0, 1, 2, 3] [(0, .ref (X.ad 0)), (1, .int v1), (2, .int v3), (3, .int (v3 + 1))] rfl ?_
    exact ih q2.2 v1 v3 (v3 + 1) hf
set_option maxHeartbeats 4000000 in
set_option maxRecDepth 100000 in
theorem t_X6_lastSailing (X : zCx) (out : Int32 × zSt) (hX : zOk X RX6 cX6_lastSailing zr_X6_lastSailing) (hQ : zPost X 98 shC (some .int) (some (.int out.1)) out.2) (hnl : X.nL = 5) (st : zSt) (a0 : Int32) (hf : f_X6_lastSailing st a0 = some out) : zG 98 shC X st 0 [(0, .ref (X.ad 0)), (1, .int a0)] [] := by
  unfold f_X6_lastSailing at hf
  refine z_iconst (v := (-1)) hX dX6_lastSailing_0 (by decide) ?_
  refine z_istore_n hX [(0, .ref (X.ad 0)), (1, .int a0), (2, .int (-1))] dX6_lastSailing_1 rfl (by rw [hnl]; decide) [1, 2, 0] rfl ?_
  refine z_iconst (v := 0) hX dX6_lastSailing_2 (by decide) ?_
  refine z_istore_n hX [(0, .ref (X.ad 0)), (1, .int a0), (2, .int (-1)), (3, .int 0)] dX6_lastSailing_3 rfl (by rw [hnl]; decide) [1, 2, 3, 0] rfl ?_
  exact t_X6_lastSailing_4 X out hX hQ hnl 64 st a0 (-1) 0 hf
theorem zb_X6_lastSailing : zCal yX6_lastSailing cX6_lastSailing 5 (some .int) 1 := ⟨zm_610, (zws_X6_lastSailing), zm_1, zm_611, by decide, by decide, rfl⟩
theorem c_X6_lastSailing (l : Launch) (st : zSt) (a0 : Int32) (out : Int32 × zSt) (hf : f_X6_lastSailing st a0 = some out) : zMet l yX6_lastSailing cX6_lastSailing 5 (some .int) zr_X6_lastSailing 98 shC (fun ad => [.ref (ad 0), .int a0]) st (fun ad => some (.int out.1)) out.2 :=
  zmet_of (by decide +kernel) (fun _ => Nat.le_of_ble_eq_true rfl) (fun X _ hnl hX hQ => t_X6_lastSailing X out hX hQ hnl st a0 hf)
abbrev zr_X6_whereWas : Room := { frames := 2, cells := 0, slots := 0, locals := 42 }
def f_X6_whereWas_12  : Nat → zSt → Int32 → Int32 → Int32 → Int32 → Option (Int32 × zSt)
  | 0, _, _, _, _, _ => none
  | n + 1, st, v1, v2, v3, v4 => (if (st.1 0 13) ≤ v4 then some (v3, st) else ((f_X6_knownSailing st v4).bind fun q4 => (if (q4.2.1 q4.1 0) = v1 then (if (q4.2.1 q4.1 6) = 2 then (if v2 < (q4.2.1 q4.1 3) then f_X6_whereWas_12 n q4.2 v1 v2 v3 (v4 + 1) else (if (q4.2.1 q4.1 4) ≤ v2 then f_X6_whereWas_12 n q4.2 v1 v2 (q4.2.1 q4.1 2) (v4 + 1) else f_X6_whereWas_12 n q4.2 v1 v2 (-1) (v4 + 1))) else f_X6_whereWas_12 n q4.2 v1 v2 v3 (v4 + 1)) else f_X6_whereWas_12 n q4.2 v1 v2 v3 (v4 + 1))))
def f_X6_whereWas (st : zSt) (a0 : Int32) (a1 : Int32) : Option (Int32 × zSt) := ((f_X6_knownShip st a0).bind fun q1 => f_X6_whereWas_12 64 q1.2 a0 a1 (q1.2.1 q1.1 0) 0)
set_option maxHeartbeats 4000000 in
set_option maxRecDepth 100000 in
theorem t_X6_whereWas_12 (X : zCx) (out : Int32 × zSt) (hX : zOk X RX6 cX6_whereWas zr_X6_whereWas) (hQ : zPost X 98 shC (some .int) (some (.int out.1)) out.2) (hnl : X.nL = 6) : ∀ (n : Nat) (st : zSt) (v1 : Int32) (v2 : Int32) (v3 : Int32) (v4 : Int32), f_X6_whereWas_12  n st v1 v2 v3 v4 = some out → zG 98 shC X st 12 [(0, .ref (X.ad 0)), (1, .int v1), (2, .int v2), (3, .int v3), (4, .int v4)] [] := by
  intro n
  induction n with
  | zero => intro st v1 v2 v3 v4 hf; rw [f_X6_whereWas_12] at hf; exact (znone hf).elim
  | succ n ih =>
    intro st v1 v2 v3 v4 hf
    rw [f_X6_whereWas_12] at hf
    refine z_iload hX 4 dX6_whereWas_12 rfl ?_
    refine z_aload_n hX 0 dX6_whereWas_14 rfl rfl ?_
    refine z_getI hX 0 13 dX6_whereWas_15 (by decide) shC_0 rfl rfl zin_X6 (by decide) zm_266 ?_
    refine z_icmp_ge hX 81 dX6_whereWas_18 (by decide) (fun c3 => ?_) (fun c3 => ?_)
    · have hf := (if_pos c3).symm.trans hf
      refine z_iload_n hX 3 dX6_whereWas_81 rfl rfl ?_
      obtain rfl := Option.some.inj hf
      exact z_iret hX hQ dX6_whereWas_82 rfl
    have hf := (if_neg c3).symm.trans hf
    refine z_aload_n hX 0 dX6_whereWas_21 rfl rfl ?_
    refine z_iload hX 4 dX6_whereWas_22 rfl ?_
    obtain ⟨q4, e5, hf⟩ := zbind hf
    refine z_callV (stk := []) (stk' := [.ref (X.ad q4.1)]) hX (c_X6_knownSailing X.l st v4 q4 e5) zb_X6_knownSailing 0 dX6_whereWas_24 zm_456 (by decide) shC_0 rfl rfl rfl rfl ⟨by decide, by decide⟩ ⟨rfl, rfl⟩ (Nat.le_of_ble_eq_true rfl) rfl ?_
    refine z_astore hX [(0, .ref (X.ad 0)), (1, .int v1), (2, .int v2), (3, .int v3), (4, .int v4), (5, .ref (X.ad q4.1))] dX6_whereWas_27 (by rw [hnl]; decide) [1, 2, 3, 4, 5, 0] rfl ?_
    refine z_aload hX 5 dX6_whereWas_29 rfl ?_
    refine z_getIN hX q4.1 0 dX6_whereWas_31 (zlt_Sailing (rr_X6_knownSailing e5)) (zsh_Sailing (rr_X6_knownSailing e5)) rfl rfl zin_X3 (by decide) zm_148 ?_
    refine z_iload_n hX 1 dX6_whereWas_34 rfl rfl ?_
    refine z_icmp_ne hX 75 dX6_whereWas_35 (by decide) (fun c6 => ?_) (fun c6 => ?_)
    · have hf := (if_neg c6).symm.trans hf
      refine z_iinc (j := 4) (v := 1) hX [(0, .ref (X.ad 0)), (1, .int v1), (2, .int v2), (3, .int v3), (4, .int (v4 + 1)), (5, .ref (X.ad q4.1))] dX6_whereWas_75 rfl (by decide) (by rw [hnl]; decide) [1, 2, 3, 4, 0, 5] rfl ?_
      refine z_goto hX 12 dX6_whereWas_78 (by decide) ?_
      refine z_locals [0, 1, 2, 3, 4] [(0, .ref (X.ad 0)), (1, .int v1), (2, .int v2), (3, .int v3), (4, .int (v4 + 1))] rfl ?_
      exact ih q4.2 v1 v2 v3 (v4 + 1) hf
    have hf := (if_pos c6).symm.trans hf
    refine z_aload hX 5 dX6_whereWas_38 rfl ?_
    refine z_getIN hX q4.1 6 dX6_whereWas_40 (zlt_Sailing (rr_X6_knownSailing e5)) (zsh_Sailing (rr_X6_knownSailing e5)) rfl rfl zin_X3 (by decide) zm_160 ?_
    refine z_iconst (v := 2) hX dX6_whereWas_43 (by decide) ?_
    refine z_icmp_ne hX 75 dX6_whereWas_44 (by decide) (fun c7 => ?_) (fun c7 => ?_)
    · have hf := (if_neg c7).symm.trans hf
      refine z_iinc (j := 4) (v := 1) hX [(0, .ref (X.ad 0)), (1, .int v1), (2, .int v2), (3, .int v3), (4, .int (v4 + 1)), (5, .ref (X.ad q4.1))] dX6_whereWas_75 rfl (by decide) (by rw [hnl]; decide) [1, 2, 3, 4, 0, 5] rfl ?_
      refine z_goto hX 12 dX6_whereWas_78 (by decide) ?_
      refine z_locals [0, 1, 2, 3, 4] [(0, .ref (X.ad 0)), (1, .int v1), (2, .int v2), (3, .int v3), (4, .int (v4 + 1))] rfl ?_
      exact ih q4.2 v1 v2 v3 (v4 + 1) hf
    have hf := (if_pos c7).symm.trans hf
    refine z_aload hX 5 dX6_whereWas_47 rfl ?_
    refine z_getIN hX q4.1 3 dX6_whereWas_49 (zlt_Sailing (rr_X6_knownSailing e5)) (zsh_Sailing (rr_X6_knownSailing e5)) rfl rfl zin_X3 (by decide) zm_154 ?_
    refine z_iload_n hX 2 dX6_whereWas_52 rfl rfl ?_
    refine z_icmp_gt hX 75 dX6_whereWas_53 (by decide) (fun c8 => ?_) (fun c8 => ?_)
    · have hf := (if_pos c8).symm.trans hf
      refine z_iinc (j := 4) (v := 1) hX [(0, .ref (X.ad 0)), (1, .int v1), (2, .int v2), (3, .int v3), (4, .int (v4 + 1)), (5, .ref (X.ad q4.1))] dX6_whereWas_75 rfl (by decide) (by rw [hnl]; decide) [1, 2, 3, 4, 0, 5] rfl ?_
      refine z_goto hX 12 dX6_whereWas_78 (by decide) ?_
      refine z_locals [0, 1, 2, 3, 4] [(0, .ref (X.ad 0)), (1, .int v1), (2, .int v2), (3, .int v3), (4, .int (v4 + 1))] rfl ?_
      exact ih q4.2 v1 v2 v3 (v4 + 1) hf
    have hf := (if_neg c8).symm.trans hf
    refine z_iload_n hX 2 dX6_whereWas_56 rfl rfl ?_
    refine z_aload hX 5 dX6_whereWas_57 rfl ?_
    refine z_getIN hX q4.1 4 dX6_whereWas_59 (zlt_Sailing (rr_X6_knownSailing e5)) (zsh_Sailing (rr_X6_knownSailing e5)) rfl rfl zin_X3 (by decide) zm_156 ?_
    refine z_icmp_ge hX 69 dX6_whereWas_62 (by decide) (fun c9 => ?_) (fun c9 => ?_)
    · have hf := (if_pos c9).symm.trans hf
      refine z_aload hX 5 dX6_whereWas_69 rfl ?_
      refine z_getIN hX q4.1 2 dX6_whereWas_71 (zlt_Sailing (rr_X6_knownSailing e5)) (zsh_Sailing (rr_X6_knownSailing e5)) rfl rfl zin_X3 (by decide) zm_152 ?_
      refine z_istore_n hX [(0, .ref (X.ad 0)), (1, .int v1), (2, .int v2), (3, .int (q4.2.1 q4.1 2)), (4, .int v4), (5, .ref (X.ad q4.1))] dX6_whereWas_74 rfl (by rw [hnl]; decide) [1, 2, 3, 0, 4, 5] rfl ?_
      refine z_iinc (j := 4) (v := 1) hX [(0, .ref (X.ad 0)), (1, .int v1), (2, .int v2), (3, .int (q4.2.1 q4.1 2)), (4, .int (v4 + 1)), (5, .ref (X.ad q4.1))] dX6_whereWas_75 rfl (by decide) (by rw [hnl]; decide) [1, 2, 3, 4, 0, 5] rfl ?_
      refine z_goto hX 12 dX6_whereWas_78 (by decide) ?_
      refine z_locals [0, 1, 2, 3, 4] [(0, .ref (X.ad 0)), (1, .int v1), (2, .int v2), (3, .int (q4.2.1 q4.1 2)), (4, .int (v4 + 1))] rfl ?_
      exact ih q4.2 v1 v2 (q4.2.1 q4.1 2) (v4 + 1) hf
    have hf := (if_neg c9).symm.trans hf
    refine z_iconst (v := (-1)) hX dX6_whereWas_65 (by decide) ?_
    refine z_goto hX 74 dX6_whereWas_66 (by decide) ?_
    refine z_istore_n hX [(0, .ref (X.ad 0)), (1, .int v1), (2, .int v2), (3, .int (-1)), (4, .int v4), (5, .ref (X.ad q4.1))] dX6_whereWas_74 rfl (by rw [hnl]; decide) [1, 2, 3, 0, 4, 5] rfl ?_
    refine z_iinc (j := 4) (v := 1) hX [(0, .ref (X.ad 0)), (1, .int v1), (2, .int v2), (3, .int (-1)), (4, .int (v4 + 1)), (5, .ref (X.ad q4.1))] dX6_whereWas_75 rfl (by decide) (by rw [hnl]; decide) [1, 2, 3, 4, 0, 5] rfl ?_
    refine z_goto hX 12 dX6_whereWas_78 (by decide) ?_
    refine z_locals [0, 1, 2, 3, 4] [(0, .ref (X.ad 0)), (1, .int v1), (2, .int v2), (3, .int (-1)), (4, .int (v4 + 1))] rfl ?_
    exact ih q4.2 v1 v2 (-1) (v4 + 1) hf
set_option maxHeartbeats 4000000 in
set_option maxRecDepth 100000 in
theorem t_X6_whereWas (X : zCx) (out : Int32 × zSt) (hX : zOk X RX6 cX6_whereWas zr_X6_whereWas) (hQ : zPost X 98 shC (some .int) (some (.int out.1)) out.2) (hnl : X.nL = 6) (st : zSt) (a0 : Int32) (a1 : Int32) (hf : f_X6_whereWas st a0 a1 = some out) : zG 98 shC X st 0 [(0, .ref (X.ad 0)), (1, .int a0), (2, .int a1)] [] := by
  unfold f_X6_whereWas at hf
  refine z_aload_n hX 0 dX6_whereWas_0 rfl rfl ?_
  refine z_iload_n hX 1 dX6_whereWas_1 rfl rfl ?_
  obtain ⟨q1, e2, hf⟩ := zbind hf
  refine z_callV (stk := []) (stk' := [.ref (X.ad q1.1)]) hX (c_X6_knownShip X.l st a0 q1 e2) zb_X6_knownShip 0 dX6_whereWas_2 zm_412 (by decide) shC_0 rfl rfl rfl rfl ⟨by decide, by decide⟩ ⟨rfl, rfl⟩ (Nat.le_of_ble_eq_true rfl) rfl ?_
  refine z_getIN hX q1.1 0 dX6_whereWas_5 (zlt_Ship (rr_X6_knownShip e2)) (zsh_Ship (rr_X6_knownShip e2)) rfl rfl zin_X4 (by decide) zm_91 ?_
  refine z_istore_n hX [(0, .ref (X.ad 0)), (1, .int a0), (2, .int a1), (3, .int (q1.2.1 q1.1 0))] dX6_whereWas_8 rfl (by rw [hnl]; decide) [1, 2, 3, 0] rfl ?_
  refine z_iconst (v := 0) hX dX6_whereWas_9 (by decide) ?_
  refine z_istore hX [(0, .ref (X.ad 0)), (1, .int a0), (2, .int a1), (3, .int (q1.2.1 q1.1 0)), (4, .int 0)] dX6_whereWas_10 (by rw [hnl]; decide) [1, 2, 3, 4, 0] rfl ?_
  exact t_X6_whereWas_12 X out hX hQ hnl 64 q1.2 a0 a1 (q1.2.1 q1.1 0) 0 hf
theorem zb_X6_whereWas : zCal yX6_whereWas cX6_whereWas 6 (some .int) 2 := ⟨zm_466, (zws_X6_whereWas), zm_1, zm_467, by decide, by decide, rfl⟩
theorem c_X6_whereWas (l : Launch) (st : zSt) (a0 : Int32) (a1 : Int32) (out : Int32 × zSt) (hf : f_X6_whereWas st a0 a1 = some out) : zMet l yX6_whereWas cX6_whereWas 6 (some .int) zr_X6_whereWas 98 shC (fun ad => [.ref (ad 0), .int a0, .int a1]) st (fun ad => some (.int out.1)) out.2 :=
  zmet_of (by decide +kernel) (fun _ => Nat.le_of_ble_eq_true rfl) (fun X _ hnl hX hQ => t_X6_whereWas X out hX hQ hnl st a0 a1 hf)
abbrev zr_X6_isFree : Room := { frames := 3, cells := 0, slots := 0, locals := 66 }
def f_X6_isFree (st : zSt) (a0 : Int32) : Option (Int32 × zSt) := ((f_X6_lastSailing st a0).bind fun q1 => (if q1.1 = (-1) then some (1, q1.2) else ((f_X6_knownSailing q1.2 q1.1).bind fun q4 => (if (q4.2.1 q4.1 6) = 2 then ((f_X6_knownSailing q4.2 q1.1).bind fun q7 => (if (q7.2.1 0 15) < (q7.2.1 q7.1 4) then some (0, q7.2) else some (1, q7.2))) else some (0, q4.2)))))
set_option maxHeartbeats 4000000 in
set_option maxRecDepth 100000 in
theorem t_X6_isFree (X : zCx) (out : Int32 × zSt) (hX : zOk X RX6 cX6_isFree zr_X6_isFree) (hQ : zPost X 98 shC (some .boolean) (some (.int out.1)) out.2) (hnl : X.nL = 3) (st : zSt) (a0 : Int32) (hf : f_X6_isFree st a0 = some out) : zG 98 shC X st 0 [(0, .ref (X.ad 0)), (1, .int a0)] [] := by
  unfold f_X6_isFree at hf
  refine z_aload_n hX 0 dX6_isFree_0 rfl rfl ?_
  refine z_iload_n hX 1 dX6_isFree_1 rfl rfl ?_
  obtain ⟨q1, e2, hf⟩ := zbind hf
  refine z_callV (stk := []) (stk' := [.int q1.1]) hX (c_X6_lastSailing X.l st a0 q1 e2) zb_X6_lastSailing 0 dX6_isFree_2 zm_608 (by decide) shC_0 rfl rfl rfl rfl ⟨by decide, by decide⟩ ⟨rfl, rfl⟩ (Nat.le_of_ble_eq_true rfl) rfl ?_
  refine z_istore_n hX [(0, .ref (X.ad 0)), (1, .int a0), (2, .int q1.1)] dX6_isFree_5 rfl (by rw [hnl]; decide) [1, 2, 0] rfl ?_
  refine z_iload_n hX 2 dX6_isFree_6 rfl rfl ?_
  refine z_iconst (v := (-1)) hX dX6_isFree_7 (by decide) ?_
  refine z_icmp_eq hX 38 dX6_isFree_8 (by decide) (fun c3 => ?_) (fun c3 => ?_)
  · have hf := (if_pos c3).symm.trans hf
    refine z_iconst (v := 1) hX dX6_isFree_38 (by decide) ?_
    refine z_goto hX 43 dX6_isFree_39 (by decide) ?_
    obtain rfl := Option.some.inj hf
    exact z_iret hX hQ dX6_isFree_43 rfl
  have hf := (if_neg c3).symm.trans hf
  refine z_aload_n hX 0 dX6_isFree_11 rfl rfl ?_
  refine z_iload_n hX 2 dX6_isFree_12 rfl rfl ?_
  obtain ⟨q4, e5, hf⟩ := zbind hf
  refine z_callV (stk := []) (stk' := [.ref (X.ad q4.1)]) hX (c_X6_knownSailing X.l q1.2 q1.1 q4 e5) zb_X6_knownSailing 0 dX6_isFree_13 zm_456 (by decide) shC_0 rfl rfl rfl rfl ⟨by decide, by decide⟩ ⟨rfl, rfl⟩ (Nat.le_of_ble_eq_true rfl) rfl ?_
  refine z_getIN hX q4.1 6 dX6_isFree_16 (zlt_Sailing (rr_X6_knownSailing e5)) (zsh_Sailing (rr_X6_knownSailing e5)) rfl rfl zin_X3 (by decide) zm_160 ?_
  refine z_iconst (v := 2) hX dX6_isFree_19 (by decide) ?_
  refine z_icmp_ne hX 42 dX6_isFree_20 (by decide) (fun c6 => ?_) (fun c6 => ?_)
  · have hf := (if_neg c6).symm.trans hf
    refine z_iconst (v := 0) hX dX6_isFree_42 (by decide) ?_
    obtain rfl := Option.some.inj hf
    exact z_iret hX hQ dX6_isFree_43 rfl
  have hf := (if_pos c6).symm.trans hf
  refine z_aload_n hX 0 dX6_isFree_23 rfl rfl ?_
  refine z_iload_n hX 2 dX6_isFree_24 rfl rfl ?_
  obtain ⟨q7, e8, hf⟩ := zbind hf
  refine z_callV (stk := []) (stk' := [.ref (X.ad q7.1)]) hX (c_X6_knownSailing X.l q4.2 q1.1 q7 e8) zb_X6_knownSailing 0 dX6_isFree_25 zm_456 (by decide) shC_0 rfl rfl rfl rfl ⟨by decide, by decide⟩ ⟨rfl, rfl⟩ (Nat.le_of_ble_eq_true rfl) rfl ?_
  refine z_getIN hX q7.1 4 dX6_isFree_28 (zlt_Sailing (rr_X6_knownSailing e8)) (zsh_Sailing (rr_X6_knownSailing e8)) rfl rfl zin_X3 (by decide) zm_156 ?_
  refine z_aload_n hX 0 dX6_isFree_31 rfl rfl ?_
  refine z_getI hX 0 15 dX6_isFree_32 (by decide) shC_0 rfl rfl zin_X6 (by decide) zm_268 ?_
  refine z_icmp_gt hX 42 dX6_isFree_35 (by decide) (fun c9 => ?_) (fun c9 => ?_)
  · have hf := (if_pos c9).symm.trans hf
    refine z_iconst (v := 0) hX dX6_isFree_42 (by decide) ?_
    obtain rfl := Option.some.inj hf
    exact z_iret hX hQ dX6_isFree_43 rfl
  have hf := (if_neg c9).symm.trans hf
  refine z_iconst (v := 1) hX dX6_isFree_38 (by decide) ?_
  refine z_goto hX 43 dX6_isFree_39 (by decide) ?_
  obtain rfl := Option.some.inj hf
  exact z_iret hX hQ dX6_isFree_43 rfl
theorem zb_X6_isFree : zCal yX6_isFree cX6_isFree 3 (some .boolean) 1 := ⟨zm_633, (zws_X6_isFree), zm_1, zm_634, by decide, by decide, rfl⟩
theorem c_X6_isFree (l : Launch) (st : zSt) (a0 : Int32) (out : Int32 × zSt) (hf : f_X6_isFree st a0 = some out) : zMet l yX6_isFree cX6_isFree 3 (some .boolean) zr_X6_isFree 98 shC (fun ad => [.ref (ad 0), .int a0]) st (fun ad => some (.int out.1)) out.2 :=
  zmet_of (by decide +kernel) (fun _ => Nat.le_of_ble_eq_true rfl) (fun X _ hnl hX hQ => t_X6_isFree X out hX hQ hnl st a0 hf)
abbrev zr_X6_addSailing : Room := { frames := 2, cells := 0, slots := 0, locals := 42 }
def f_X6_addSailing (st : zSt) (a0 : Int32) (a1 : Int32) (a2 : Int32) (a3 : Int32) (a4 : Int32) : Option (Int32 × zSt) := (zlet (zwI st 0 13 ((st.1 0 13) + 1)) fun s1 => ((f_X6_knownSailing s1 (st.1 0 13)).bind fun q3 => (zlet (zwI q3.2 q3.1 0 a0) fun s5 => (zlet (zwI s5 q3.1 1 a1) fun s7 => (zlet (zwI s7 q3.1 2 a2) fun s9 => (zlet (zwI s9 q3.1 3 a3) fun s11 => (zlet (zwI s11 q3.1 5 a4) fun s13 => ((f_X6_knownShip s13 a0).bind fun q15 => ((f_X4_hoursFor q15.2 q15.1 a4).bind fun q17 => (zlet (zwI q17.2 q3.1 4 (a3 + q17.1)) fun s19 => some ((st.1 0 13), s19)))))))))))
set_option maxHeartbeats 4000000 in
set_option maxRecDepth 100000 in
theorem t_X6_addSailing (X : zCx) (out : Int32 × zSt) (hX : zOk X RX6 cX6_addSailing zr_X6_addSailing) (hQ : zPost X 98 shC (some .int) (some (.int out.1)) out.2) (hnl : X.nL = 8) (st : zSt) (a0 : Int32) (a1 : Int32) (a2 : Int32) (a3 : Int32) (a4 : Int32) (hf : f_X6_addSailing st a0 a1 a2 a3 a4 = some out) : zG 98 shC X st 0 [(0, .ref (X.ad 0)), (1, .int a0), (2, .int a1), (3, .int a2), (4, .int a3), (5, .int a4)] [] := by
  unfold f_X6_addSailing at hf
  refine z_aload_n hX 0 dX6_addSailing_0 rfl rfl ?_
  refine z_getI hX 0 13 dX6_addSailing_1 (by decide) shC_0 rfl rfl zin_X6 (by decide) zm_266 ?_
  refine z_istore hX [(0, .ref (X.ad 0)), (1, .int a0), (2, .int a1), (3, .int a2), (4, .int a3), (5, .int a4), (6, .int (st.1 0 13))] dX6_addSailing_4 (by rw [hnl]; decide) [1, 2, 3, 4, 5, 6, 0] rfl ?_
  refine z_aload_n hX 0 dX6_addSailing_6 rfl rfl ?_
  refine z_dup hX dX6_addSailing_7 rfl ?_
  refine z_getI hX 0 13 dX6_addSailing_8 (by decide) shC_0 rfl rfl zin_X6 (by decide) zm_266 ?_
  refine z_iconst (v := 1) hX dX6_addSailing_11 (by decide) ?_
  refine z_iadd hX dX6_addSailing_12 ?_
  refine z_putI hX 0 13 dX6_addSailing_13 (by decide) shC_0 rfl rfl zin_X6 tyX6_ok nmX6 (by decide) zm_266 rfl rfl ?_
  obtain ⟨s1, h2, hf⟩ := zlet_ex hf
  refine z_name h2 ?_
  refine z_aload_n hX 0 dX6_addSailing_16 rfl rfl ?_
  refine z_iload hX 6 dX6_addSailing_17 rfl ?_
  obtain ⟨q3, e4, hf⟩ := zbind hf
  refine z_callV (stk := []) (stk' := [.ref (X.ad q3.1)]) hX (c_X6_knownSailing X.l s1 (st.1 0 13) q3 e4) zb_X6_knownSailing 0 dX6_addSailing_19 zm_456 (by decide) shC_0 rfl rfl rfl rfl ⟨by decide, by decide⟩ ⟨rfl, rfl⟩ (Nat.le_of_ble_eq_true rfl) rfl ?_
  refine z_astore hX [(0, .ref (X.ad 0)), (1, .int a0), (2, .int a1), (3, .int a2), (4, .int a3), (5, .int a4), (6, .int (st.1 0 13)), (7, .ref (X.ad q3.1))] dX6_addSailing_22 (by rw [hnl]; decide) [1, 2, 3, 4, 5, 6, 7, 0] rfl ?_
  refine z_aload hX 7 dX6_addSailing_24 rfl ?_
  refine z_iload_n hX 1 dX6_addSailing_26 rfl rfl ?_
  refine z_putIN hX q3.1 0 dX6_addSailing_27 (zlt_Sailing (rr_X6_knownSailing e4)) (zsh_Sailing (rr_X6_knownSailing e4)) rfl rfl zin_X3 tyX3_ok nmX3 (by decide) zm_148 rfl rfl ?_
  obtain ⟨s5, h6, hf⟩ := zlet_ex hf
  refine z_name h6 ?_
  refine z_aload hX 7 dX6_addSailing_30 rfl ?_
  refine z_iload_n hX 2 dX6_addSailing_32 rfl rfl ?_
  refine z_putIN hX q3.1 1 dX6_addSailing_33 (zlt_Sailing (rr_X6_knownSailing e4)) (zsh_Sailing (rr_X6_knownSailing e4)) rfl rfl zin_X3 tyX3_ok nmX3 (by decide) zm_150 rfl rfl ?_
  obtain ⟨s7, h8, hf⟩ := zlet_ex hf
  refine z_name h8 ?_
  refine z_aload hX 7 dX6_addSailing_36 rfl ?_
  refine z_iload_n hX 3 dX6_addSailing_38 rfl rfl ?_
  refine z_putIN hX q3.1 2 dX6_addSailing_39 (zlt_Sailing (rr_X6_knownSailing e4)) (zsh_Sailing (rr_X6_knownSailing e4)) rfl rfl zin_X3 tyX3_ok nmX3 (by decide) zm_152 rfl rfl ?_
  obtain ⟨s9, h10, hf⟩ := zlet_ex hf
  refine z_name h10 ?_
  refine z_aload hX 7 dX6_addSailing_42 rfl ?_
  refine z_iload hX 4 dX6_addSailing_44 rfl ?_
  refine z_putIN hX q3.1 3 dX6_addSailing_46 (zlt_Sailing (rr_X6_knownSailing e4)) (zsh_Sailing (rr_X6_knownSailing e4)) rfl rfl zin_X3 tyX3_ok nmX3 (by decide) zm_154 rfl rfl ?_
  obtain ⟨s11, h12, hf⟩ := zlet_ex hf
  refine z_name h12 ?_
  refine z_aload hX 7 dX6_addSailing_49 rfl ?_
  refine z_iload hX 5 dX6_addSailing_51 rfl ?_
  refine z_putIN hX q3.1 5 dX6_addSailing_53 (zlt_Sailing (rr_X6_knownSailing e4)) (zsh_Sailing (rr_X6_knownSailing e4)) rfl rfl zin_X3 tyX3_ok nmX3 (by decide) zm_158 rfl rfl ?_
  obtain ⟨s13, h14, hf⟩ := zlet_ex hf
  refine z_name h14 ?_
  refine z_aload hX 7 dX6_addSailing_56 rfl ?_
  refine z_iload hX 4 dX6_addSailing_58 rfl ?_
  refine z_aload_n hX 0 dX6_addSailing_60 rfl rfl ?_
  refine z_iload_n hX 1 dX6_addSailing_61 rfl rfl ?_
  obtain ⟨q15, e16, hf⟩ := zbind hf
  refine z_callV (stk := [.int a3, .ref (X.ad q3.1)]) (stk' := [.ref (X.ad q15.1), .int a3, .ref (X.ad q3.1)]) hX (c_X6_knownShip X.l s13 a0 q15 e16) zb_X6_knownShip 0 dX6_addSailing_62 zm_412 (by decide) shC_0 rfl rfl rfl rfl ⟨by decide, by decide⟩ ⟨rfl, rfl⟩ (Nat.le_of_ble_eq_true rfl) rfl ?_
  refine z_iload hX 5 dX6_addSailing_65 rfl ?_
  obtain ⟨q17, e18, hf⟩ := zbind hf
  refine z_callVN (stk := [.int a3, .ref (X.ad q3.1)]) (stk' := [.int q17.1, .int a3, .ref (X.ad q3.1)]) hX (c_X4_hoursFor X.l q15.2 q15.1 a4 (rr_X6_knownShip e16) q17 e18) zb_X4_hoursFor q15.1 dX6_addSailing_67 zm_616 (zlt_Ship (rr_X6_knownShip e16)) (zsh_Ship (rr_X6_knownShip e16)) rfl rfl rfl rfl ⟨by decide, by decide⟩ ⟨rfl, rfl⟩ (Nat.le_of_ble_eq_true rfl) rfl ?_
  refine z_iadd hX dX6_addSailing_70 ?_
  refine z_putIN hX q3.1 4 dX6_addSailing_71 (zlt_Sailing (rr_X6_knownSailing e4)) (zsh_Sailing (rr_X6_knownSailing e4)) rfl rfl zin_X3 tyX3_ok nmX3 (by decide) zm_156 rfl rfl ?_
  obtain ⟨s19, h20, hf⟩ := zlet_ex hf
  refine z_name h20 ?_
  refine z_iload hX 6 dX6_addSailing_74 rfl ?_
  obtain rfl := Option.some.inj hf
  exact z_iret hX hQ dX6_addSailing_76 rfl
theorem zb_X6_addSailing : zCal yX6_addSailing cX6_addSailing 8 (some .int) 5 := ⟨zm_614, (zws_X6_addSailing), zm_1, zm_615, by decide, by decide, rfl⟩
theorem c_X6_addSailing (l : Launch) (st : zSt) (a0 : Int32) (a1 : Int32) (a2 : Int32) (a3 : Int32) (a4 : Int32) (out : Int32 × zSt) (hf : f_X6_addSailing st a0 a1 a2 a3 a4 = some out) : zMet l yX6_addSailing cX6_addSailing 8 (some .int) zr_X6_addSailing 98 shC (fun ad => [.ref (ad 0), .int a0, .int a1, .int a2, .int a3, .int a4]) st (fun ad => some (.int out.1)) out.2 :=
  zmet_of (by decide +kernel) (fun _ => Nat.le_of_ble_eq_true rfl) (fun X _ hnl hX hQ => t_X6_addSailing X out hX hQ hnl st a0 a1 a2 a3 a4 hf)
abbrev zr_X6_hoursSailed : Room := { frames := 2, cells := 0, slots := 0, locals := 42 }
def f_X6_hoursSailed_5  : Nat → zSt → Int32 → Int32 → Int32 → Int32 → Option (Int32 × zSt)
  | 0, _, _, _, _, _ => none
  | n + 1, st, v1, v2, v3, v4 => (if (st.1 0 13) ≤ v4 then some (v3, st) else ((f_X6_knownSailing st v4).bind fun q2 => (if (q2.2.1 q2.1 8) = v1 then (if ((q2.2.1 q2.1 3) / 24) = v2 then f_X6_hoursSailed_5 n q2.2 v1 v2 (v3 + ((q2.2.1 q2.1 4) - (q2.2.1 q2.1 3))) (v4 + 1) else f_X6_hoursSailed_5 n q2.2 v1 v2 v3 (v4 + 1)) else f_X6_hoursSailed_5 n q2.2 v1 v2 v3 (v4 + 1))))
def f_X6_hoursSailed (st : zSt) (a0 : Int32) (a1 : Int32) : Option (Int32 × zSt) := f_X6_hoursSailed_5 64 st a0 a1 0 0
set_option maxHeartbeats 4000000 in
set_option maxRecDepth 100000 in
theorem t_X6_hoursSailed_5 (X : zCx) (out : Int32 × zSt) (hX : zOk X RX6 cX6_hoursSailed zr_X6_hoursSailed) (hQ : zPost X 98 shC (some .int) (some (.int out.1)) out.2) (hnl : X.nL = 6) : ∀ (n : Nat) (st : zSt) (v1 : Int32) (v2 : Int32) (v3 : Int32) (v4 : Int32), f_X6_hoursSailed_5  n st v1 v2 v3 v4 = some out → zG 98 shC X st 5 [(0, .ref (X.ad 0)), (1, .int v1), (2, .int v2), (3, .int v3), (4, .int v4)] [] := by
  intro n
  induction n with
  | zero => intro st v1 v2 v3 v4 hf; rw [f_X6_hoursSailed_5] at hf; exact (znone hf).elim
  | succ n ih =>
    intro st v1 v2 v3 v4 hf
    rw [f_X6_hoursSailed_5] at hf
    refine z_iload hX 4 dX6_hoursSailed_5 rfl ?_
    refine z_aload_n hX 0 dX6_hoursSailed_7 rfl rfl ?_
    refine z_getI hX 0 13 dX6_hoursSailed_8 (by decide) shC_0 rfl rfl zin_X6 (by decide) zm_266 ?_
    refine z_icmp_ge hX 63 dX6_hoursSailed_11 (by decide) (fun c1 => ?_) (fun c1 => ?_)
    · have hf := (if_pos c1).symm.trans hf
      refine z_iload_n hX 3 dX6_hoursSailed_63 rfl rfl ?_
      obtain rfl := Option.some.inj hf
      exact z_iret hX hQ dX6_hoursSailed_64 rfl
    have hf := (if_neg c1).symm.trans hf
    refine z_aload_n hX 0 dX6_hoursSailed_14 rfl rfl ?_
    refine z_iload hX 4 dX6_hoursSailed_15 rfl ?_
    obtain ⟨q2, e3, hf⟩ := zbind hf
    refine z_callV (stk := []) (stk' := [.ref (X.ad q2.1)]) hX (c_X6_knownSailing X.l st v4 q2 e3) zb_X6_knownSailing 0 dX6_hoursSailed_17 zm_456 (by decide) shC_0 rfl rfl rfl rfl ⟨by decide, by decide⟩ ⟨rfl, rfl⟩ (Nat.le_of_ble_eq_true rfl) rfl ?_
    refine z_astore hX [(0, .ref (X.ad 0)), (1, .int v1), (2, .int v2), (3, .int v3), (4, .int v4), (5, .ref (X.ad q2.1))] dX6_hoursSailed_20 (by rw [hnl]; decide) [1, 2, 3, 4, 5, 0] rfl ?_
    refine z_aload hX 5 dX6_hoursSailed_22 rfl ?_
    refine z_getIN hX q2.1 8 dX6_hoursSailed_24 (zlt_Sailing (rr_X6_knownSailing e3)) (zsh_Sailing (rr_X6_knownSailing e3)) rfl rfl zin_X3 (by decide) zm_164 ?_
    refine z_iload_n hX 1 dX6_hoursSailed_27 rfl rfl ?_
    refine z_icmp_ne hX 57 dX6_hoursSailed_28 (by decide) (fun c4 => ?_) (fun c4 => ?_)
    · have hf := (if_neg c4).symm.trans hf
      refine z_iinc (j := 4) (v := 1) hX [(0, .ref (X.ad 0)), (1, .int v1), (2, .int v2), (3, .int v3), (4, .int (v4 + 1)), (5, .ref (X.ad q2.1))] dX6_hoursSailed_57 rfl (by decide) (by rw [hnl]; decide) [1, 2, 3, 4, 0, 5] rfl ?_
      refine z_goto hX 5 dX6_hoursSailed_60 (by decide) ?_
      refine z_locals [0, 1, 2, 3, 4] [(0, .ref (X.ad 0)), (1, .int v1), (2, .int v2), (3, .int v3), (4, .int (v4 + 1))] rfl ?_
      exact ih q2.2 v1 v2 v3 (v4 + 1) hf
    have hf := (if_pos c4).symm.trans hf
    refine z_aload hX 5 dX6_hoursSailed_31 rfl ?_
    refine z_getIN hX q2.1 3 dX6_hoursSailed_33 (zlt_Sailing (rr_X6_knownSailing e3)) (zsh_Sailing (rr_X6_knownSailing e3)) rfl rfl zin_X3 (by decide) zm_154 ?_
    refine z_bipush (v := 24) hX dX6_hoursSailed_36 (by decide) ?_
    refine z_idiv hX dX6_hoursSailed_38 (by decide) ?_
    refine z_iload_n hX 2 dX6_hoursSailed_39 rfl rfl ?_
    refine z_icmp_ne hX 57 dX6_hoursSailed_40 (by decide) (fun c5 => ?_) (fun c5 => ?_)
    · have hf := (if_neg c5).symm.trans hf
      refine z_iinc (j := 4) (v := 1) hX [(0, .ref (X.ad 0)), (1, .int v1), (2, .int v2), (3, .int v3), (4, .int (v4 + 1)), (5, .ref (X.ad q2.1))] dX6_hoursSailed_57 rfl (by decide) (by rw [hnl]; decide) [1, 2, 3, 4, 0, 5] rfl ?_
      refine z_goto hX 5 dX6_hoursSailed_60 (by decide) ?_
      refine z_locals [0, 1, 2, 3, 4] [(0, .ref (X.ad 0)), (1, .int v1), (2, .int v2), (3, .int v3), (4, .int (v4 + 1))] rfl ?_
      exact ih q2.2 v1 v2 v3 (v4 + 1) hf
    have hf := (if_pos c5).symm.trans hf
    refine z_iload_n hX 3 dX6_hoursSailed_43 rfl rfl ?_
    refine z_aload hX 5 dX6_hoursSailed_44 rfl ?_
    refine z_getIN hX q2.1 4 dX6_hoursSailed_46 (zlt_Sailing (rr_X6_knownSailing e3)) (zsh_Sailing (rr_X6_knownSailing e3)) rfl rfl zin_X3 (by decide) zm_156 ?_
    refine z_aload hX 5 dX6_hoursSailed_49 rfl ?_
    refine z_getIN hX q2.1 3 dX6_hoursSailed_51 (zlt_Sailing (rr_X6_knownSailing e3)) (zsh_Sailing (rr_X6_knownSailing e3)) rfl rfl zin_X3 (by decide) zm_154 ?_
    refine z_isub hX dX6_hoursSailed_54 ?_
    refine z_iadd hX dX6_hoursSailed_55 ?_
    refine z_istore_n hX [(0, .ref (X.ad 0)), (1, .int v1), (2, .int v2), (3, .int (v3 + ((q2.2.1 q2.1 4) - (q2.2.1 q2.1 3)))), (4, .int v4), (5, .ref (X.ad q2.1))] dX6_hoursSailed_56 rfl (by rw [hnl]; decide) [1, 2, 3, 0, 4, 5] rfl ?_
    refine z_iinc (j := 4) (v := 1) hX [(0, .ref (X.ad 0)), (1, .int v1), (2, .int v2), (3, .int (v3 + ((q2.2.1 q2.1 4) - (q2.2.1 q2.1 3)))), (4, .int (v4 + 1)), (5, .ref (X.ad q2.1))] dX6_hoursSailed_57 rfl (by decide) (by rw [hnl]; decide) [1, 2, 3, 4, 0, 5] rfl ?_
    refine z_goto hX 5 dX6_hoursSailed_60 (by decide) ?_
    refine z_locals [0, 1, 2, 3, 4] [(0, .ref (X.ad 0)), (1, .int v1), (2, .int v2), (3, .int (v3 + ((q2.2.1 q2.1 4) - (q2.2.1 q2.1 3)))), (4, .int (v4 + 1))] rfl ?_
    exact ih q2.2 v1 v2 (v3 + ((q2.2.1 q2.1 4) - (q2.2.1 q2.1 3))) (v4 + 1) hf
set_option maxHeartbeats 4000000 in
set_option maxRecDepth 100000 in
theorem t_X6_hoursSailed (X : zCx) (out : Int32 × zSt) (hX : zOk X RX6 cX6_hoursSailed zr_X6_hoursSailed) (hQ : zPost X 98 shC (some .int) (some (.int out.1)) out.2) (hnl : X.nL = 6) (st : zSt) (a0 : Int32) (a1 : Int32) (hf : f_X6_hoursSailed st a0 a1 = some out) : zG 98 shC X st 0 [(0, .ref (X.ad 0)), (1, .int a0), (2, .int a1)] [] := by
  unfold f_X6_hoursSailed at hf
  refine z_iconst (v := 0) hX dX6_hoursSailed_0 (by decide) ?_
  refine z_istore_n hX [(0, .ref (X.ad 0)), (1, .int a0), (2, .int a1), (3, .int 0)] dX6_hoursSailed_1 rfl (by rw [hnl]; decide) [1, 2, 3, 0] rfl ?_
  refine z_iconst (v := 0) hX dX6_hoursSailed_2 (by decide) ?_
  refine z_istore hX [(0, .ref (X.ad 0)), (1, .int a0), (2, .int a1), (3, .int 0), (4, .int 0)] dX6_hoursSailed_3 (by rw [hnl]; decide) [1, 2, 3, 4, 0] rfl ?_
  exact t_X6_hoursSailed_5 X out hX hQ hnl 64 st a0 a1 0 0 hf
theorem zb_X6_hoursSailed : zCal yX6_hoursSailed cX6_hoursSailed 6 (some .int) 2 := ⟨zm_484, (zws_X6_hoursSailed), zm_1, zm_485, by decide, by decide, rfl⟩
theorem c_X6_hoursSailed (l : Launch) (st : zSt) (a0 : Int32) (a1 : Int32) (out : Int32 × zSt) (hf : f_X6_hoursSailed st a0 a1 = some out) : zMet l yX6_hoursSailed cX6_hoursSailed 6 (some .int) zr_X6_hoursSailed 98 shC (fun ad => [.ref (ad 0), .int a0, .int a1]) st (fun ad => some (.int out.1)) out.2 :=
  zmet_of (by decide +kernel) (fun _ => Nat.le_of_ble_eq_true rfl) (fun X _ hnl hX hQ => t_X6_hoursSailed X out hX hQ hnl st a0 a1 hf)
abbrev zr_X6_crewFor : Room := { frames := 3, cells := 0, slots := 0, locals := 67 }
def f_X6_crewFor_24  : Nat → zSt → Nat → Int32 → Int32 → Int32 → Option (Int32 × zSt)
  | 0, _, _, _, _, _ => none
  | n + 1, st, r1, v2, v3, v4 => (if (st.1 0 12) ≤ v4 then some ((-1), st) else ((f_X6_knownCrew st v4).bind fun q2 => (if (q2.2.1 q2.1 0) = (q2.2.1 r1 0) then ((f_X5_has q2.2 (q2.1 + 6) v2).bind fun q5 => (if q5.1 = 0 then f_X6_crewFor_24 n q5.2 r1 v2 v3 (v4 + 1) else ((f_X6_hoursSailed q5.2 v4 v2).bind fun q8 => (if v3 < q8.1 then f_X6_crewFor_24 n q8.2 r1 v2 v3 (v4 + 1) else some (v4, q8.2))))) else f_X6_crewFor_24 n q2.2 r1 v2 v3 (v4 + 1))))
def f_X6_crewFor (st : zSt) (a0 : Nat) : Option (Int32 × zSt) := f_X6_crewFor_24 64 st a0 ((st.1 a0 3) / 24) (12 - ((st.1 a0 4) - (st.1 a0 3))) 0
set_option maxHeartbeats 4000000 in
set_option maxRecDepth 100000 in
theorem t_X6_crewFor_24 (X : zCx) (out : Int32 × zSt) (hX : zOk X RX6 cX6_crewFor zr_X6_crewFor) (hQ : zPost X 98 shC (some .int) (some (.int out.1)) out.2) (hnl : X.nL = 6) : ∀ (n : Nat) (st : zSt) (r1 : Nat) (v2 : Int32) (v3 : Int32) (v4 : Int32) (hr1 : zkSailing r1), f_X6_crewFor_24  n st r1 v2 v3 v4 = some out → zG 98 shC X st 24 [(0, .ref (X.ad 0)), (1, .ref (X.ad r1)), (2, .int v2), (3, .int v3), (4, .int v4)] [] := by
  intro n
  induction n with
  | zero => intro st r1 v2 v3 v4 hr1 hf; rw [f_X6_crewFor_24] at hf; exact (znone hf).elim
  | succ n ih =>
    intro st r1 v2 v3 v4 hr1 hf
    rw [f_X6_crewFor_24] at hf
    refine z_iload hX 4 dX6_crewFor_24 rfl ?_
    refine z_aload_n hX 0 dX6_crewFor_26 rfl rfl ?_
    refine z_getI hX 0 12 dX6_crewFor_27 (by decide) shC_0 rfl rfl zin_X6 (by decide) zm_265 ?_
    refine z_icmp_ge hX 85 dX6_crewFor_30 (by decide) (fun c1 => ?_) (fun c1 => ?_)
    · have hf := (if_pos c1).symm.trans hf
      refine z_iconst (v := (-1)) hX dX6_crewFor_85 (by decide) ?_
      obtain rfl := Option.some.inj hf
      exact z_iret hX hQ dX6_crewFor_86 rfl
    have hf := (if_neg c1).symm.trans hf
    refine z_aload_n hX 0 dX6_crewFor_33 rfl rfl ?_
    refine z_iload hX 4 dX6_crewFor_34 rfl ?_
    obtain ⟨q2, e3, hf⟩ := zbind hf
    refine z_callV (stk := []) (stk' := [.ref (X.ad q2.1)]) hX (c_X6_knownCrew X.l st v4 q2 e3) zb_X6_knownCrew 0 dX6_crewFor_36 zm_424 (by decide) shC_0 rfl rfl rfl rfl ⟨by decide, by decide⟩ ⟨rfl, rfl⟩ (Nat.le_of_ble_eq_true rfl) rfl ?_
    refine z_astore hX [(0, .ref (X.ad 0)), (1, .ref (X.ad r1)), (2, .int v2), (3, .int v3), (4, .int v4), (5, .ref (X.ad q2.1))] dX6_crewFor_39 (by rw [hnl]; decide) [1, 2, 3, 4, 5, 0] rfl ?_
    refine z_aload hX 5 dX6_crewFor_41 rfl ?_
    refine z_getIN hX q2.1 0 dX6_crewFor_43 (zlt_Crew (rr_X6_knownCrew e3)) (zsh_Crew (rr_X6_knownCrew e3)) rfl rfl zin_X1 (by decide) zm_134 ?_
    refine z_aload_n hX 1 dX6_crewFor_46 rfl rfl ?_
    refine z_getIN hX r1 0 dX6_crewFor_47 (zlt_Sailing hr1) (zsh_Sailing hr1) rfl rfl zin_X3 (by decide) zm_148 ?_
    refine z_icmp_ne hX 79 dX6_crewFor_50 (by decide) (fun c4 => ?_) (fun c4 => ?_)
    · have hf := (if_neg c4).symm.trans hf
      refine z_iinc (j := 4) (v := 1) hX [(0, .ref (X.ad 0)), (1, .ref (X.ad r1)), (2, .int v2), (3, .int v3), (4, .int (v4 + 1)), (5, .ref (X.ad q2.1))] dX6_crewFor_79 rfl (by decide) (by rw [hnl]; decide) [1, 2, 3, 4, 0, 5] rfl ?_
      refine z_goto hX 24 dX6_crewFor_82 (by decide) ?_
      refine z_locals [0, 1, 2, 3, 4] [(0, .ref (X.ad 0)), (1, .ref (X.ad r1)), (2, .int v2), (3, .int v3), (4, .int (v4 + 1))] rfl ?_
      exact ih q2.2 r1 v2 v3 (v4 + 1) hr1 hf
    have hf := (if_pos c4).symm.trans hf
    refine z_aload hX 5 dX6_crewFor_53 rfl ?_
    refine z_getRN hX q2.1 1 (q2.1 + 6) dX6_crewFor_55 (zlt_Crew (rr_X6_knownCrew e3)) (zsh_Crew (rr_X6_knownCrew e3)) rfl rfl zin_X1 (by decide) zm_136 ?_
    refine z_iload_n hX 2 dX6_crewFor_58 rfl rfl ?_
    obtain ⟨q5, e6, hf⟩ := zbind hf
    refine z_callVN (stk := []) (stk' := [.int q5.1]) hX (c_X5_has X.l q2.2 (q2.1 + 6) v2 (zsp_days (rr_X6_knownCrew e3)) q5 e6) zb_X5_has (q2.1 + 6) dX6_crewFor_59 zm_468 (zlt_Span (zsp_days (rr_X6_knownCrew e3))) (zsh_Span (zsp_days (rr_X6_knownCrew e3))) rfl rfl rfl rfl ⟨by decide, by decide⟩ ⟨rfl, rfl⟩ (Nat.le_of_ble_eq_true rfl) rfl ?_
    refine z_if_eq hX 79 dX6_crewFor_62 (by decide) (fun c7 => ?_) (fun c7 => ?_)
    · have hf := (if_pos c7).symm.trans hf
      refine z_iinc (j := 4) (v := 1) hX [(0, .ref (X.ad 0)), (1, .ref (X.ad r1)), (2, .int v2), (3, .int v3), (4, .int (v4 + 1)), (5, .ref (X.ad q2.1))] dX6_crewFor_79 rfl (by decide) (by rw [hnl]; decide) [1, 2, 3, 4, 0, 5] rfl ?_
      refine z_goto hX 24 dX6_crewFor_82 (by decide) ?_
      refine z_locals [0, 1, 2, 3, 4] [(0, .ref (X.ad 0)), (1, .ref (X.ad r1)), (2, .int v2), (3, .int v3), (4, .int (v4 + 1))] rfl ?_
      exact ih q5.2 r1 v2 v3 (v4 + 1) hr1 hf
    have hf := (if_neg c7).symm.trans hf
    refine z_aload_n hX 0 dX6_crewFor_65 rfl rfl ?_
    refine z_iload hX 4 dX6_crewFor_66 rfl ?_
    refine z_iload_n hX 2 dX6_crewFor_68 rfl rfl ?_
    obtain ⟨q8, e9, hf⟩ := zbind hf
    refine z_callV (stk := []) (stk' := [.int q8.1]) hX (c_X6_hoursSailed X.l q5.2 v4 v2 q8 e9) zb_X6_hoursSailed 0 dX6_crewFor_69 zm_482 (by decide) shC_0 rfl rfl rfl rfl ⟨by decide, by decide⟩ ⟨rfl, rfl⟩ (Nat.le_of_ble_eq_true rfl) rfl ?_
    refine z_iload_n hX 3 dX6_crewFor_72 rfl rfl ?_
    refine z_icmp_gt hX 79 dX6_crewFor_73 (by decide) (fun c10 => ?_) (fun c10 => ?_)
    · have hf := (if_pos c10).symm.trans hf
      refine z_iinc (j := 4) (v := 1) hX [(0, .ref (X.ad 0)), (1, .ref (X.ad r1)), (2, .int v2), (3, .int v3), (4, .int (v4 + 1)), (5, .ref (X.ad q2.1))] dX6_crewFor_79 rfl (by decide) (by rw [hnl]; decide) [1, 2, 3, 4, 0, 5] rfl ?_
      refine z_goto hX 24 dX6_crewFor_82 (by decide) ?_
      refine z_locals [0, 1, 2, 3, 4] [(0, .ref (X.ad 0)), (1, .ref (X.ad r1)), (2, .int v2), (3, .int v3), (4, .int (v4 + 1))] rfl ?_
      exact ih q8.2 r1 v2 v3 (v4 + 1) hr1 hf
    have hf := (if_neg c10).symm.trans hf
    refine z_iload hX 4 dX6_crewFor_76 rfl ?_
    obtain rfl := Option.some.inj hf
    exact z_iret hX hQ dX6_crewFor_78 rfl
set_option maxHeartbeats 4000000 in
set_option maxRecDepth 100000 in
theorem t_X6_crewFor (X : zCx) (out : Int32 × zSt) (hX : zOk X RX6 cX6_crewFor zr_X6_crewFor) (hQ : zPost X 98 shC (some .int) (some (.int out.1)) out.2) (hnl : X.nL = 6) (st : zSt) (a0 : Nat) (ha0 : zkSailing a0) (hf : f_X6_crewFor st a0 = some out) : zG 98 shC X st 0 [(0, .ref (X.ad 0)), (1, .ref (X.ad a0))] [] := by
  unfold f_X6_crewFor at hf
  refine z_aload_n hX 1 dX6_crewFor_0 rfl rfl ?_
  refine z_getIN hX a0 3 dX6_crewFor_1 (zlt_Sailing ha0) (zsh_Sailing ha0) rfl rfl zin_X3 (by decide) zm_154 ?_
  refine z_bipush (v := 24) hX dX6_crewFor_4 (by decide) ?_
  refine z_idiv hX dX6_crewFor_6 (by decide) ?_
  refine z_istore_n hX [(0, .ref (X.ad 0)), (1, .ref (X.ad a0)), (2, .int ((st.1 a0 3) / 24))] dX6_crewFor_7 rfl (by rw [hnl]; decide) [1, 2, 0] rfl ?_
  refine z_bipush (v := 12) hX dX6_crewFor_8 (by decide) ?_
  refine z_aload_n hX 1 dX6_crewFor_10 rfl rfl ?_
  refine z_getIN hX a0 4 dX6_crewFor_11 (zlt_Sailing ha0) (zsh_Sailing ha0) rfl rfl zin_X3 (by decide) zm_156 ?_
  refine z_aload_n hX 1 dX6_crewFor_14 rfl rfl ?_
  refine z_getIN hX a0 3 dX6_crewFor_15 (zlt_Sailing ha0) (zsh_Sailing ha0) rfl rfl zin_X3 (by decide) zm_154 ?_
  refine z_isub hX dX6_crewFor_18 ?_
  refine z_isub hX dX6_crewFor_19 ?_
  refine z_istore_n hX [(0, .ref (X.ad 0)), (1, .ref (X.ad a0)), (2, .int ((st.1 a0 3) / 24)), (3, .int (12 - ((st.1 a0 4) - (st.1 a0 3))))] dX6_crewFor_20 rfl (by rw [hnl]; decide) [1, 2, 3, 0] rfl ?_
  refine z_iconst (v := 0) hX dX6_crewFor_21 (by decide) ?_
  refine z_istore hX [(0, .ref (X.ad 0)), (1, .ref (X.ad a0)), (2, .int ((st.1 a0 3) / 24)), (3, .int (12 - ((st.1 a0 4) - (st.1 a0 3)))), (4, .int 0)] dX6_crewFor_22 (by rw [hnl]; decide) [1, 2, 3, 4, 0] rfl ?_
  exact t_X6_crewFor_24 X out hX hQ hnl 64 st a0 ((st.1 a0 3) / 24) (12 - ((st.1 a0 4) - (st.1 a0 3))) 0 ha0 hf
theorem zb_X6_crewFor : zCal yX6_crewFor cX6_crewFor 6 (some .int) 1 := ⟨zm_480, (zws_X6_crewFor), zm_1, zm_481, by decide, by decide, rfl⟩
theorem c_X6_crewFor (l : Launch) (st : zSt) (a0 : Nat) (ha0 : zkSailing a0) (out : Int32 × zSt) (hf : f_X6_crewFor st a0 = some out) : zMet l yX6_crewFor cX6_crewFor 6 (some .int) zr_X6_crewFor 98 shC (fun ad => [.ref (ad 0), .ref (ad a0)]) st (fun ad => some (.int out.1)) out.2 :=
  zmet_of (by decide +kernel) (fun _ => Nat.le_of_ble_eq_true rfl) (fun X _ hnl hX hQ => t_X6_crewFor X out hX hQ hnl st a0 ha0 hf)
abbrev zr_X6_nextLike : Room := { frames := 2, cells := 0, slots := 0, locals := 42 }
def f_X6_nextLike_16  : Nat → zSt → Nat → Int32 → Int32 → Int32 → Option (Int32 × zSt)
  | 0, _, _, _, _, _ => none
  | n + 1, st, r2, v3, v4, v5 => (if (st.1 0 13) ≤ v5 then some (v3, st) else ((f_X6_knownSailing st v5).bind fun q4 => (if (q4.2.1 q4.1 6) = 0 then (if (q4.2.1 q4.1 1) = (q4.2.1 r2 1) then (if (q4.2.1 q4.1 2) = (q4.2.1 r2 2) then (if v4 ≤ (q4.2.1 q4.1 3) then f_X6_nextLike_16 n q4.2 r2 v3 v4 (v5 + 1) else f_X6_nextLike_16 n q4.2 r2 v5 (q4.2.1 q4.1 3) (v5 + 1)) else f_X6_nextLike_16 n q4.2 r2 v3 v4 (v5 + 1)) else f_X6_nextLike_16 n q4.2 r2 v3 v4 (v5 + 1)) else f_X6_nextLike_16 n q4.2 r2 v3 v4 (v5 + 1))))
def f_X6_nextLike (st : zSt) (a0 : Int32) : Option (Int32 × zSt) := ((f_X6_knownSailing st a0).bind fun q1 => f_X6_nextLike_16 64 q1.2 q1.1 (-1) 10001 0)
set_option maxHeartbeats 4000000 in
set_option maxRecDepth 100000 in
theorem t_X6_nextLike_16 (X : zCx) (out : Int32 × zSt) (hX : zOk X RX6 cX6_nextLike zr_X6_nextLike) (hQ : zPost X 98 shC (some .int) (some (.int out.1)) out.2) (hnl : X.nL = 7) : ∀ (n : Nat) (st : zSt) (r2 : Nat) (v3 : Int32) (v4 : Int32) (v5 : Int32) (hr2 : zkSailing r2), f_X6_nextLike_16  n st r2 v3 v4 v5 = some out → zG 98 shC X st 16 [(0, .ref (X.ad 0)), (2, .ref (X.ad r2)), (3, .int v3), (4, .int v4), (5, .int v5)] [] := by
  intro n
  induction n with
  | zero => intro st r2 v3 v4 v5 hr2 hf; rw [f_X6_nextLike_16] at hf; exact (znone hf).elim
  | succ n ih =>
    intro st r2 v3 v4 v5 hr2 hf
    rw [f_X6_nextLike_16] at hf
    refine z_iload hX 4 dX6_nextLike_16 rfl ?_
    refine z_aload_n hX 0 dX6_nextLike_18 rfl rfl ?_
    refine z_getI hX 0 13 dX6_nextLike_19 (by decide) shC_0 rfl rfl zin_X6 (by decide) zm_266 ?_
    refine z_icmp_ge hX 91 dX6_nextLike_22 (by decide) (fun c3 => ?_) (fun c3 => ?_)
    · have hf := (if_pos c3).symm.trans hf
      refine z_iload_n hX 2 dX6_nextLike_91 rfl rfl ?_
      obtain rfl := Option.some.inj hf
      exact z_iret hX hQ dX6_nextLike_92 rfl
    have hf := (if_neg c3).symm.trans hf
    refine z_aload_n hX 0 dX6_nextLike_25 rfl rfl ?_
    refine z_iload hX 4 dX6_nextLike_26 rfl ?_
    obtain ⟨q4, e5, hf⟩ := zbind hf
    refine z_callV (stk := []) (stk' := [.ref (X.ad q4.1)]) hX (c_X6_knownSailing X.l st v5 q4 e5) zb_X6_knownSailing 0 dX6_nextLike_28 zm_456 (by decide) shC_0 rfl rfl rfl rfl ⟨by decide, by decide⟩ ⟨rfl, rfl⟩ (Nat.le_of_ble_eq_true rfl) rfl ?_
    refine z_astore hX [(0, .ref (X.ad 0)), (2, .ref (X.ad r2)), (3, .int v3), (4, .int v4), (5, .int v5), (6, .ref (X.ad q4.1))] dX6_nextLike_31 (by rw [hnl]; decide) [1, 2, 3, 4, 5, 0] rfl ?_
    refine z_aload hX 5 dX6_nextLike_33 rfl ?_
    refine z_getIN hX q4.1 6 dX6_nextLike_35 (zlt_Sailing (rr_X6_knownSailing e5)) (zsh_Sailing (rr_X6_knownSailing e5)) rfl rfl zin_X3 (by decide) zm_160 ?_
    refine z_if_ne hX 85 dX6_nextLike_38 (by decide) (fun c6 => ?_) (fun c6 => ?_)
    · have hf := (if_neg c6).symm.trans hf
      refine z_iinc (j := 4) (v := 1) hX [(0, .ref (X.ad 0)), (2, .ref (X.ad r2)), (3, .int v3), (4, .int v4), (5, .int (v5 + 1)), (6, .ref (X.ad q4.1))] dX6_nextLike_85 rfl (by decide) (by rw [hnl]; decide) [1, 2, 3, 4, 0, 5] rfl ?_
      refine z_goto hX 16 dX6_nextLike_88 (by decide) ?_
      refine z_locals [0, 1, 2, 3, 4] [(0, .ref (X.ad 0)), (2, .ref (X.ad r2)), (3, .int v3), (4, .int v4), (5, .int (v5 + 1))] rfl ?_
      exact ih q4.2 r2 v3 v4 (v5 + 1) hr2 hf
    have hf := (if_pos c6).symm.trans hf
    refine z_aload hX 5 dX6_nextLike_41 rfl ?_
    refine z_getIN hX q4.1 1 dX6_nextLike_43 (zlt_Sailing (rr_X6_knownSailing e5)) (zsh_Sailing (rr_X6_knownSailing e5)) rfl rfl zin_X3 (by decide) zm_150 ?_
    refine z_aload_n hX 1 dX6_nextLike_46 rfl rfl ?_
    refine z_getIN hX r2 1 dX6_nextLike_47 (zlt_Sailing hr2) (zsh_Sailing hr2) rfl rfl zin_X3 (by decide) zm_150 ?_
    refine z_icmp_ne hX 85 dX6_nextLike_50 (by decide) (fun c7 => ?_) (fun c7 => ?_)
    · have hf := (if_neg c7).symm.trans hf
      refine z_iinc (j := 4) (v := 1) hX [(0, .ref (X.ad 0)), (2, .ref (X.ad r2)), (3, .int v3), (4, .int v4), (5, .int (v5 + 1)), (6, .ref (X.ad q4.1))] dX6_nextLike_85 rfl (by decide) (by rw [hnl]; decide) [1, 2, 3, 4, 0, 5] rfl ?_
      refine z_goto hX 16 dX6_nextLike_88 (by decide) ?_
      refine z_locals [0, 1, 2, 3, 4] [(0, .ref (X.ad 0)), (2, .ref (X.ad r2)), (3, .int v3), (4, .int v4), (5, .int (v5 + 1))] rfl ?_
      exact ih q4.2 r2 v3 v4 (v5 + 1) hr2 hf
    have hf := (if_pos c7).symm.trans hf
    refine z_aload hX 5 dX6_nextLike_53 rfl ?_
    refine z_getIN hX q4.1 2 dX6_nextLike_55 (zlt_Sailing (rr_X6_knownSailing e5)) (zsh_Sailing (rr_X6_knownSailing e5)) rfl rfl zin_X3 (by decide) zm_152 ?_
    refine z_aload_n hX 1 dX6_nextLike_58 rfl rfl ?_
    refine z_getIN hX r2 2 dX6_nextLike_59 (zlt_Sailing hr2) (zsh_Sailing hr2) rfl rfl zin_X3 (by decide) zm_152 ?_
    refine z_icmp_ne hX 85 dX6_nextLike_62 (by decide) (fun c8 => ?_) (fun c8 => ?_)
    · have hf := (if_neg c8).symm.trans hf
      refine z_iinc (j := 4) (v := 1) hX [(0, .ref (X.ad 0)), (2, .ref (X.ad r2)), (3, .int v3), (4, .int v4), (5, .int (v5 + 1)), (6, .ref (X.ad q4.1))] dX6_nextLike_85 rfl (by decide) (by rw [hnl]; decide) [1, 2, 3, 4, 0, 5] rfl ?_
      refine z_goto hX 16 dX6_nextLike_88 (by decide) ?_
      refine z_locals [0, 1, 2, 3, 4] [(0, .ref (X.ad 0)), (2, .ref (X.ad r2)), (3, .int v3), (4, .int v4), (5, .int (v5 + 1))] rfl ?_
      exact ih q4.2 r2 v3 v4 (v5 + 1) hr2 hf
    have hf := (if_pos c8).symm.trans hf
    refine z_aload hX 5 dX6_nextLike_65 rfl ?_
    refine z_getIN hX q4.1 3 dX6_nextLike_67 (zlt_Sailing (rr_X6_knownSailing e5)) (zsh_Sailing (rr_X6_knownSailing e5)) rfl rfl zin_X3 (by decide) zm_154 ?_
    refine z_iload hX 3 dX6_nextLike_70 rfl ?_
    refine z_icmp_ge hX 85 dX6_nextLike_72 (by decide) (fun c9 => ?_) (fun c9 => ?_)
    · have hf := (if_pos c9).symm.trans hf
      refine z_iinc (j := 4) (v := 1) hX [(0, .ref (X.ad 0)), (2, .ref (X.ad r2)), (3, .int v3), (4, .int v4), (5, .int (v5 + 1)), (6, .ref (X.ad q4.1))] dX6_nextLike_85 rfl (by decide) (by rw [hnl]; decide) [1, 2, 3, 4, 0, 5] rfl ?_
      refine z_goto hX 16 dX6_nextLike_88 (by decide) ?_
      refine z_locals [0, 1, 2, 3, 4] [(0, .ref (X.ad 0)), (2, .ref (X.ad r2)), (3, .int v3), (4, .int v4), (5, .int (v5 + 1))] rfl ?_
      exact ih q4.2 r2 v3 v4 (v5 + 1) hr2 hf
    have hf := (if_neg c9).symm.trans hf
    refine z_iload hX 4 dX6_nextLike_75 rfl ?_
    refine z_istore_n hX [(0, .ref (X.ad 0)), (2, .ref (X.ad r2)), (3, .int v5), (4, .int v4), (5, .int v5), (6, .ref (X.ad q4.1))] dX6_nextLike_77 rfl (by rw [hnl]; decide) [1, 2, 0, 3, 4, 5] rfl ?_
    refine z_aload hX 5 dX6_nextLike_78 rfl ?_
    refine z_getIN hX q4.1 3 dX6_nextLike_80 (zlt_Sailing (rr_X6_knownSailing e5)) (zsh_Sailing (rr_X6_knownSailing e5)) rfl rfl zin_X3 (by decide) zm_154 ?_
    refine z_istore hX [(0, .ref (X.ad 0)), (2, .ref (X.ad r2)), (3, .int v5), (4, .int (q4.2.1 q4.1 3)), (5, .int v5), (6, .ref (X.ad q4.1))] dX6_nextLike_83 (by rw [hnl]; decide) [1, 2, 3, 0, 4, 5] rfl ?_
    refine z_iinc (j := 4) (v := 1) hX [(0, .ref (X.ad 0)), (2, .ref (X.ad r2)), (3, .int v5), (4, .int (q4.2.1 q4.1 3)), (5, .int (v5 + 1)), (6, .ref (X.ad q4.1))] dX6_nextLike_85 rfl (by decide) (by rw [hnl]; decide) [1, 2, 3, 4, 0, 5] rfl ?_
    refine z_goto hX 16 dX6_nextLike_88 (by decide) ?_
    refine z_locals [0, 1, 2, 3, 4] [(0, .ref (X.ad 0)), (2, .ref (X.ad r2)), (3, .int v5), (4, .int (q4.2.1 q4.1 3)), (5, .int (v5 + 1))] rfl ?_
    exact ih q4.2 r2 v5 (q4.2.1 q4.1 3) (v5 + 1) hr2 hf
set_option maxHeartbeats 4000000 in
set_option maxRecDepth 100000 in
theorem t_X6_nextLike (X : zCx) (out : Int32 × zSt) (hX : zOk X RX6 cX6_nextLike zr_X6_nextLike) (hQ : zPost X 98 shC (some .int) (some (.int out.1)) out.2) (hnl : X.nL = 7) (st : zSt) (a0 : Int32) (hf : f_X6_nextLike st a0 = some out) : zG 98 shC X st 0 [(0, .ref (X.ad 0)), (1, .int a0)] [] := by
  unfold f_X6_nextLike at hf
  refine z_aload_n hX 0 dX6_nextLike_0 rfl rfl ?_
  refine z_iload_n hX 1 dX6_nextLike_1 rfl rfl ?_
  obtain ⟨q1, e2, hf⟩ := zbind hf
  refine z_callV (stk := []) (stk' := [.ref (X.ad q1.1)]) hX (c_X6_knownSailing X.l st a0 q1 e2) zb_X6_knownSailing 0 dX6_nextLike_2 zm_456 (by decide) shC_0 rfl rfl rfl rfl ⟨by decide, by decide⟩ ⟨rfl, rfl⟩ (Nat.le_of_ble_eq_true rfl) rfl ?_
  refine z_astore_n hX [(0, .ref (X.ad 0)), (1, .int a0), (2, .ref (X.ad q1.1))] dX6_nextLike_5 rfl (by rw [hnl]; decide) [1, 2, 0] rfl ?_
  refine z_iconst (v := (-1)) hX dX6_nextLike_6 (by decide) ?_
  refine z_istore_n hX [(0, .ref (X.ad 0)), (1, .int a0), (2, .ref (X.ad q1.1)), (3, .int (-1))] dX6_nextLike_7 rfl (by rw [hnl]; decide) [1, 2, 3, 0] rfl ?_
  refine z_sipush (v := 10001) hX dX6_nextLike_8 (by decide) ?_
  refine z_istore hX [(0, .ref (X.ad 0)), (1, .int a0), (2, .ref (X.ad q1.1)), (3, .int (-1)), (4, .int 10001)] dX6_nextLike_11 (by rw [hnl]; decide) [1, 2, 3, 4, 0] rfl ?_
  refine z_iconst (v := 0) hX dX6_nextLike_13 (by decide) ?_
  refine z_istore hX [(0, .ref (X.ad 0)), (1, .int a0), (2, .ref (X.ad q1.1)), (3, .int (-1)), (4, .int 10001), (5, .int 0)] dX6_nextLike_14 (by rw [hnl]; decide) [1, 2, 3, 4, 5, 0] rfl ?_
  refine z_locals [0, 2, 3, 4, 5] [(0, .ref (X.ad 0)), (2, .ref (X.ad q1.1)), (3, .int (-1)), (4, .int 10001), (5, .int 0)] rfl ?_
  exact t_X6_nextLike_16 X out hX hQ hnl 64 q1.2 q1.1 (-1) 10001 0 (rr_X6_knownSailing e2) hf
theorem zb_X6_nextLike : zCal yX6_nextLike cX6_nextLike 7 (some .int) 1 := ⟨zm_553, (zws_X6_nextLike), zm_1, zm_554, by decide, by decide, rfl⟩
theorem c_X6_nextLike (l : Launch) (st : zSt) (a0 : Int32) (out : Int32 × zSt) (hf : f_X6_nextLike st a0 = some out) : zMet l yX6_nextLike cX6_nextLike 7 (some .int) zr_X6_nextLike 98 shC (fun ad => [.ref (ad 0), .int a0]) st (fun ad => some (.int out.1)) out.2 :=
  zmet_of (by decide +kernel) (fun _ => Nat.le_of_ble_eq_true rfl) (fun X _ hnl hX hQ => t_X6_nextLike X out hX hQ hnl st a0 hf)
abbrev zr_X6_payBack : Room := { frames := 0, cells := 0, slots := 0, locals := 0 }
def f_X6_payBack (st : zSt) (a0 : Nat) : Option (Unit × zSt) := (zlet (zwL st 8 (0 : Int32).toNatClampNeg ((st.2 8 (0 : Int32).toNatClampNeg) - (((st.1 a0 7)).toInt64))) fun s3 => (zlet (zwL s3 8 (1 : Int32).toNatClampNeg ((s3.2 8 (1 : Int32).toNatClampNeg) - (((s3.1 a0 8)).toInt64))) fun s7 => (zlet (zwI s7 a0 7 0) fun s9 => (zlet (zwI s9 a0 8 0) fun s11 => (zlet (zwI s11 a0 0 (-1)) fun s13 => some ((), s13))))))
set_option maxHeartbeats 4000000 in
set_option maxRecDepth 100000 in
theorem t_X6_payBack (X : zCx) (out : Unit × zSt) (hX : zOk X RX6 cX6_payBack zr_X6_payBack) (hQ : zPost X 98 shC none (none) out.2) (hnl : X.nL = 2) (st : zSt) (a0 : Nat) (ha0 : zkBooking a0) (hf : f_X6_payBack st a0 = some out) : zG 98 shC X st 0 [(0, .ref (X.ad 0)), (1, .ref (X.ad a0))] [] := by
  unfold f_X6_payBack at hf
  refine z_aload_n hX 0 dX6_payBack_0 rfl rfl ?_
  refine z_getR hX 0 7 8 dX6_payBack_1 (by decide) shC_0 rfl rfl zin_X6 (by decide) zm_260 ?_
  refine z_iconst (v := 0) hX dX6_payBack_4 (by decide) ?_
  refine z_dup2 hX dX6_payBack_5 rfl rfl ?_
  refine z_lald hX 8 dX6_payBack_6 (by decide) shC_8 (show zin 0 3 by decide) ?_
  refine z_aload_n hX 1 dX6_payBack_7 rfl rfl ?_
  refine z_getIN hX a0 7 dX6_payBack_8 (zlt_Booking ha0) (zsh_Booking ha0) rfl rfl zin_X0 (by decide) zm_217 ?_
  refine z_i2l hX dX6_payBack_11 ?_
  refine z_lsub hX dX6_payBack_12 ?_
  refine z_last hX 8 dX6_payBack_13 (by decide) shC_8 (show zin 0 3 by decide) ?_
  obtain ⟨s3, h4, hf⟩ := zlet_ex hf
  refine z_name h4 ?_
  refine z_aload_n hX 0 dX6_payBack_14 rfl rfl ?_
  refine z_getR hX 0 7 8 dX6_payBack_15 (by decide) shC_0 rfl rfl zin_X6 (by decide) zm_260 ?_
  refine z_iconst (v := 1) hX dX6_payBack_18 (by decide) ?_
  refine z_dup2 hX dX6_payBack_19 rfl rfl ?_
  refine z_lald hX 8 dX6_payBack_20 (by decide) shC_8 (show zin 1 3 by decide) ?_
  refine z_aload_n hX 1 dX6_payBack_21 rfl rfl ?_
  refine z_getIN hX a0 8 dX6_payBack_22 (zlt_Booking ha0) (zsh_Booking ha0) rfl rfl zin_X0 (by decide) zm_219 ?_
  refine z_i2l hX dX6_payBack_25 ?_
  refine z_lsub hX dX6_payBack_26 ?_
  refine z_last hX 8 dX6_payBack_27 (by decide) shC_8 (show zin 1 3 by decide) ?_
  obtain ⟨s7, h8, hf⟩ := zlet_ex hf
  refine z_name h8 ?_
  refine z_aload_n hX 1 dX6_payBack_28 rfl rfl ?_
  refine z_iconst (v := 0) hX dX6_payBack_29 (by decide) ?_
  refine z_putIN hX a0 7 dX6_payBack_30 (zlt_Booking ha0) (zsh_Booking ha0) rfl rfl zin_X0 tyX0_ok nmX0 (by decide) zm_217 rfl rfl ?_
  obtain ⟨s9, h10, hf⟩ := zlet_ex hf
  refine z_name h10 ?_
  refine z_aload_n hX 1 dX6_payBack_33 rfl rfl ?_
  refine z_iconst (v := 0) hX dX6_payBack_34 (by decide) ?_
  refine z_putIN hX a0 8 dX6_payBack_35 (zlt_Booking ha0) (zsh_Booking ha0) rfl rfl zin_X0 tyX0_ok nmX0 (by decide) zm_219 rfl rfl ?_
  obtain ⟨s11, h12, hf⟩ := zlet_ex hf
  refine z_name h12 ?_
  refine z_aload_n hX 1 dX6_payBack_38 rfl rfl ?_
  refine z_iconst (v := (-1)) hX dX6_payBack_39 (by decide) ?_
  refine z_putIN hX a0 0 dX6_payBack_40 (zlt_Booking ha0) (zsh_Booking ha0) rfl rfl zin_X0 tyX0_ok nmX0 (by decide) zm_198 rfl rfl ?_
  obtain ⟨s13, h14, hf⟩ := zlet_ex hf
  refine z_name h14 ?_
  obtain rfl := Option.some.inj hf
  exact z_vret hX hQ dX6_payBack_43
theorem zb_X6_payBack : zCal yX6_payBack cX6_payBack 2 none 1 := ⟨zm_561, (zws_X6_payBack), zm_1, zm_562, by decide, by decide, rfl⟩
theorem c_X6_payBack (l : Launch) (st : zSt) (a0 : Nat) (ha0 : zkBooking a0) (out : Unit × zSt) (hf : f_X6_payBack st a0 = some out) : zMet l yX6_payBack cX6_payBack 2 none zr_X6_payBack 98 shC (fun ad => [.ref (ad 0), .ref (ad a0)]) st (fun ad => none) out.2 :=
  zmet_of (by decide +kernel) (fun _ => Nat.le_of_ble_eq_true rfl) (fun X _ hnl hX hQ => t_X6_payBack X out hX hQ hnl st a0 ha0 hf)
abbrev zr_X6_goOver : Room := { frames := 1, cells := 0, slots := 0, locals := 21 }
def f_X6_goOver_13  (st : zSt) (r1 : Nat) : Option (Unit × zSt) := ((f_X6_payBack st r1).bind fun q7 => some ((), q7.2))
def f_X6_goOver (st : zSt) (a0 : Nat) (a1 : Int32) : Option (Unit × zSt) := (if a1 = (-1) then f_X6_goOver_13 st a0 else (if (st.1 a0 6) < 2 then (zlet (zwI st a0 0 a1) fun s3 => (zlet (zwI s3 a0 6 ((s3.1 a0 6) + 1)) fun s5 => some ((), s5))) else f_X6_goOver_13 st a0))
set_option maxHeartbeats 4000000 in
set_option maxRecDepth 100000 in
theorem t_X6_goOver_13 (X : zCx) (out : Unit × zSt) (hX : zOk X RX6 cX6_goOver zr_X6_goOver) (hQ : zPost X 98 shC none (none) out.2) (hnl : X.nL = 3) (st : zSt) (r1 : Nat) (hr1 : zkBooking r1) (hf : f_X6_goOver_13  st r1 = some out) : zG 98 shC X st 13 [(0, .ref (X.ad 0)), (1, .ref (X.ad r1))] [] := by
  unfold f_X6_goOver_13 at hf
  refine z_aload_n hX 0 dX6_goOver_13 rfl rfl ?_
  refine z_aload_n hX 1 dX6_goOver_14 rfl rfl ?_
  obtain ⟨q7, e8, hf⟩ := zbind hf
  refine z_callV (stk := []) (stk' := []) hX (c_X6_payBack X.l st r1 hr1 q7 e8) zb_X6_payBack 0 dX6_goOver_15 zm_559 (by decide) shC_0 rfl rfl rfl rfl ⟨by decide, by decide⟩ ⟨rfl, rfl⟩ (Nat.le_of_ble_eq_true rfl) rfl ?_
  refine z_goto hX 36 dX6_goOver_18 (by decide) ?_
  obtain rfl := Option.some.inj hf
  exact z_vret hX hQ dX6_goOver_36
set_option maxHeartbeats 4000000 in
set_option maxRecDepth 100000 in
theorem t_X6_goOver (X : zCx) (out : Unit × zSt) (hX : zOk X RX6 cX6_goOver zr_X6_goOver) (hQ : zPost X 98 shC none (none) out.2) (hnl : X.nL = 3) (st : zSt) (a0 : Nat) (a1 : Int32) (ha0 : zkBooking a0) (hf : f_X6_goOver st a0 a1 = some out) : zG 98 shC X st 0 [(0, .ref (X.ad 0)), (1, .ref (X.ad a0)), (2, .int a1)] [] := by
  unfold f_X6_goOver at hf
  refine z_iload_n hX 2 dX6_goOver_0 rfl rfl ?_
  refine z_iconst (v := (-1)) hX dX6_goOver_1 (by decide) ?_
  refine z_icmp_eq hX 13 dX6_goOver_2 (by decide) (fun c1 => ?_) (fun c1 => ?_)
  · have hf := (if_pos c1).symm.trans hf
    refine z_locals [0, 1] [(0, .ref (X.ad 0)), (1, .ref (X.ad a0))] rfl ?_
    exact t_X6_goOver_13 X out hX hQ hnl st a0 ha0 hf
  have hf := (if_neg c1).symm.trans hf
  refine z_aload_n hX 1 dX6_goOver_5 rfl rfl ?_
  refine z_getIN hX a0 6 dX6_goOver_6 (zlt_Booking ha0) (zsh_Booking ha0) rfl rfl zin_X0 (by decide) zm_215 ?_
  refine z_iconst (v := 2) hX dX6_goOver_9 (by decide) ?_
  refine z_icmp_lt hX 21 dX6_goOver_10 (by decide) (fun c2 => ?_) (fun c2 => ?_)
  · have hf := (if_pos c2).symm.trans hf
    refine z_aload_n hX 1 dX6_goOver_21 rfl rfl ?_
    refine z_iload_n hX 2 dX6_goOver_22 rfl rfl ?_
    refine z_putIN hX a0 0 dX6_goOver_23 (zlt_Booking ha0) (zsh_Booking ha0) rfl rfl zin_X0 tyX0_ok nmX0 (by decide) zm_198 rfl rfl ?_
    obtain ⟨s3, h4, hf⟩ := zlet_ex hf
    refine z_name h4 ?_
    refine z_aload_n hX 1 dX6_goOver_26 rfl rfl ?_
    refine z_dup hX dX6_goOver_27 rfl ?_
    refine z_getIN hX a0 6 dX6_goOver_28 (zlt_Booking ha0) (zsh_Booking ha0) rfl rfl zin_X0 (by decide) zm_215 ?_
    refine z_iconst (v := 1) hX dX6_goOver_31 (by decide) ?_
    refine z_iadd hX dX6_goOver_32 ?_
    refine z_putIN hX a0 6 dX6_goOver_33 (zlt_Booking ha0) (zsh_Booking ha0) rfl rfl zin_X0 tyX0_ok nmX0 (by decide) zm_215 rfl rfl ?_
    obtain ⟨s5, h6, hf⟩ := zlet_ex hf
    refine z_name h6 ?_
    obtain rfl := Option.some.inj hf
    exact z_vret hX hQ dX6_goOver_36
  have hf := (if_neg c2).symm.trans hf
  refine z_locals [0, 1] [(0, .ref (X.ad 0)), (1, .ref (X.ad a0))] rfl ?_
  exact t_X6_goOver_13 X out hX hQ hnl st a0 ha0 hf
theorem zb_X6_goOver : zCal yX6_goOver cX6_goOver 3 none 2 := ⟨zm_557, (zws_X6_goOver), zm_1, zm_558, by decide, by decide, rfl⟩
theorem c_X6_goOver (l : Launch) (st : zSt) (a0 : Nat) (a1 : Int32) (ha0 : zkBooking a0) (out : Unit × zSt) (hf : f_X6_goOver st a0 a1 = some out) : zMet l yX6_goOver cX6_goOver 3 none zr_X6_goOver 98 shC (fun ad => [.ref (ad 0), .ref (ad a0), .int a1]) st (fun ad => none) out.2 :=
  zmet_of (by decide +kernel) (fun _ => Nat.le_of_ble_eq_true rfl) (fun X _ hnl hX hQ => t_X6_goOver X out hX hQ hnl st a0 a1 ha0 hf)
abbrev zr_X6_sendOver : Room := { frames := 3, cells := 0, slots := 0, locals := 68 }
def f_X6_sendOver_4  : Nat → zSt → Int32 → Int32 → Int32 → Option (Int32 × zSt)
  | 0, _, _, _, _ => none
  | n + 1, st, v1, v2, v3 => (if (st.1 0 14) ≤ v3 then some (v2, st) else ((f_X6_knownBooking st v3).bind fun q2 => (if (q2.2.1 q2.1 0) = v1 then (if (q2.2.1 q2.1 11) = 0 then ((f_X6_nextLike q2.2 v1).bind fun q6 => ((f_X6_goOver q6.2 q2.1 q6.1).bind fun q8 => f_X6_sendOver_4 n q8.2 v1 (v2 + 1) (v3 + 1))) else f_X6_sendOver_4 n q2.2 v1 v2 (v3 + 1)) else f_X6_sendOver_4 n q2.2 v1 v2 (v3 + 1))))
def f_X6_sendOver (st : zSt) (a0 : Int32) : Option (Int32 × zSt) := f_X6_sendOver_4 64 st a0 0 0
set_option maxHeartbeats 4000000 in
set_option maxRecDepth 100000 in
theorem t_X6_sendOver_4 (X : zCx) (out : Int32 × zSt) (hX : zOk X RX6 cX6_sendOver zr_X6_sendOver) (hQ : zPost X 98 shC (some .int) (some (.int out.1)) out.2) (hnl : X.nL = 5) : ∀ (n : Nat) (st : zSt) (v1 : Int32) (v2 : Int32) (v3 : Int32), f_X6_sendOver_4  n st v1 v2 v3 = some out → zG 98 shC X st 4 [(0, .ref (X.ad 0)), (1, .int v1), (2, .int v2), (3, .int v3)] [] := by
  intro n
  induction n with
  | zero => intro st v1 v2 v3 hf; rw [f_X6_sendOver_4] at hf; exact (znone hf).elim
  | succ n ih =>
    intro st v1 v2 v3 hf
    rw [f_X6_sendOver_4] at hf
    refine z_iload_n hX 3 dX6_sendOver_4 rfl rfl ?_
    refine z_aload_n hX 0 dX6_sendOver_5 rfl rfl ?_
    refine z_getI hX 0 14 dX6_sendOver_6 (by decide) shC_0 rfl rfl zin_X6 (by decide) zm_267 ?_
    refine z_icmp_ge hX 56 dX6_sendOver_9 (by decide) (fun c1 => ?_) (fun c1 => ?_)
    · have hf := (if_pos c1).symm.trans hf
      refine z_iload_n hX 2 dX6_sendOver_56 rfl rfl ?_
      obtain rfl := Option.some.inj hf
      exact z_iret hX hQ dX6_sendOver_57 rfl
    have hf := (if_neg c1).symm.trans hf
    refine z_aload_n hX 0 dX6_sendOver_12 rfl rfl ?_
    refine z_iload_n hX 3 dX6_sendOver_13 rfl rfl ?_
    obtain ⟨q2, e3, hf⟩ := zbind hf
    refine z_callV (stk := []) (stk' := [.ref (X.ad q2.1)]) hX (c_X6_knownBooking X.l st v3 q2 e3) zb_X6_knownBooking 0 dX6_sendOver_14 zm_503 (by decide) shC_0 rfl rfl rfl rfl ⟨by decide, by decide⟩ ⟨rfl, rfl⟩ (Nat.le_of_ble_eq_true rfl) rfl ?_
    refine z_astore hX [(0, .ref (X.ad 0)), (1, .int v1), (2, .int v2), (3, .int v3), (4, .ref (X.ad q2.1))] dX6_sendOver_17 (by rw [hnl]; decide) [1, 2, 3, 4, 0] rfl ?_
    refine z_aload hX 4 dX6_sendOver_19 rfl ?_
    refine z_getIN hX q2.1 0 dX6_sendOver_21 (zlt_Booking (rr_X6_knownBooking e3)) (zsh_Booking (rr_X6_knownBooking e3)) rfl rfl zin_X0 (by decide) zm_198 ?_
    refine z_iload_n hX 1 dX6_sendOver_24 rfl rfl ?_
    refine z_icmp_ne hX 50 dX6_sendOver_25 (by decide) (fun c4 => ?_) (fun c4 => ?_)
    · have hf := (if_neg c4).symm.trans hf
      refine z_iinc (j := 3) (v := 1) hX [(0, .ref (X.ad 0)), (1, .int v1), (2, .int v2), (3, .int (v3 + 1)), (4, .ref (X.ad q2.1))] dX6_sendOver_50 rfl (by decide) (by rw [hnl]; decide) [1, 2, 3, 0, 4] rfl ?_
      refine z_goto hX 4 dX6_sendOver_53 (by decide) ?_
      refine z_locals [0, 1, 2, 3] [(0, .ref (X.ad 0)), (1, .int v1), (2, .int v2), (3, .int (v3 + 1))] rfl ?_
      exact ih q2.2 v1 v2 (v3 + 1) hf
    have hf := (if_pos c4).symm.trans hf
    refine z_aload hX 4 dX6_sendOver_28 rfl ?_
    refine z_getIN hX q2.1 11 dX6_sendOver_30 (zlt_Booking (rr_X6_knownBooking e3)) (zsh_Booking (rr_X6_knownBooking e3)) rfl rfl zin_X0 (by decide) zm_227 ?_
    refine z_if_ne hX 50 dX6_sendOver_33 (by decide) (fun c5 => ?_) (fun c5 => ?_)
    · have hf := (if_neg c5).symm.trans hf
      refine z_iinc (j := 3) (v := 1) hX [(0, .ref (X.ad 0)), (1, .int v1), (2, .int v2), (3, .int (v3 + 1)), (4, .ref (X.ad q2.1))] dX6_sendOver_50 rfl (by decide) (by rw [hnl]; decide) [1, 2, 3, 0, 4] rfl ?_
      refine z_goto hX 4 dX6_sendOver_53 (by decide) ?_
      refine z_locals [0, 1, 2, 3] [(0, .ref (X.ad 0)), (1, .int v1), (2, .int v2), (3, .int (v3 + 1))] rfl ?_
      exact ih q2.2 v1 v2 (v3 + 1) hf
    have hf := (if_pos c5).symm.trans hf
    refine z_aload_n hX 0 dX6_sendOver_36 rfl rfl ?_
    refine z_aload hX 4 dX6_sendOver_37 rfl ?_
    refine z_aload_n hX 0 dX6_sendOver_39 rfl rfl ?_
    refine z_iload_n hX 1 dX6_sendOver_40 rfl rfl ?_
    obtain ⟨q6, e7, hf⟩ := zbind hf
    refine z_callV (stk := [.ref (X.ad q2.1), .ref (X.ad 0)]) (stk' := [.int q6.1, .ref (X.ad q2.1), .ref (X.ad 0)]) hX (c_X6_nextLike X.l q2.2 v1 q6 e7) zb_X6_nextLike 0 dX6_sendOver_41 zm_551 (by decide) shC_0 rfl rfl rfl rfl ⟨by decide, by decide⟩ ⟨rfl, rfl⟩ (Nat.le_of_ble_eq_true rfl) rfl ?_
    obtain ⟨q8, e9, hf⟩ := zbind hf
    refine z_callV (stk := []) (stk' := []) hX (c_X6_goOver X.l q6.2 q2.1 q6.1 (rr_X6_knownBooking e3) q8 e9) zb_X6_goOver 0 dX6_sendOver_44 zm_555 (by decide) shC_0 rfl rfl rfl rfl ⟨by decide, by decide⟩ ⟨rfl, rfl⟩ (Nat.le_of_ble_eq_true rfl) rfl ?_
    refine z_iinc (j := 2) (v := 1) hX [(0, .ref (X.ad 0)), (1, .int v1), (2, .int (v2 + 1)), (3, .int v3), (4, .ref (X.ad q2.1))] dX6_sendOver_47 rfl (by decide) (by rw [hnl]; decide) [1, 2, 0, 3, 4] rfl ?_
    refine z_iinc (j := 3) (v := 1) hX [(0, .ref (X.ad 0)), (1, .int v1), (2, .int (v2 + 1)), (3, .int (v3 + 1)), (4, .ref (X.ad q2.1))] dX6_sendOver_50 rfl (by decide) (by rw [hnl]; decide) [1, 2, 3, 0, 4] rfl ?_
    refine z_goto hX 4 dX6_sendOver_53 (by decide) ?_
    refine z_locals [0, 1, 2, 3] [(0, .ref (X.ad 0)), (1, .int v1), (2, .int (v2 + 1)), (3, .int (v3 + 1))] rfl ?_
    exact ih q8.2 v1 (v2 + 1) (v3 + 1) hf
set_option maxHeartbeats 4000000 in
set_option maxRecDepth 100000 in
theorem t_X6_sendOver (X : zCx) (out : Int32 × zSt) (hX : zOk X RX6 cX6_sendOver zr_X6_sendOver) (hQ : zPost X 98 shC (some .int) (some (.int out.1)) out.2) (hnl : X.nL = 5) (st : zSt) (a0 : Int32) (hf : f_X6_sendOver st a0 = some out) : zG 98 shC X st 0 [(0, .ref (X.ad 0)), (1, .int a0)] [] := by
  unfold f_X6_sendOver at hf
  refine z_iconst (v := 0) hX dX6_sendOver_0 (by decide) ?_
  refine z_istore_n hX [(0, .ref (X.ad 0)), (1, .int a0), (2, .int 0)] dX6_sendOver_1 rfl (by rw [hnl]; decide) [1, 2, 0] rfl ?_
  refine z_iconst (v := 0) hX dX6_sendOver_2 (by decide) ?_
  refine z_istore_n hX [(0, .ref (X.ad 0)), (1, .int a0), (2, .int 0), (3, .int 0)] dX6_sendOver_3 rfl (by rw [hnl]; decide) [1, 2, 3, 0] rfl ?_
  exact t_X6_sendOver_4 X out hX hQ hnl 64 st a0 0 0 hf
theorem zb_X6_sendOver : zCal yX6_sendOver cX6_sendOver 5 (some .int) 1 := ⟨zm_549, (zws_X6_sendOver), zm_1, zm_550, by decide, by decide, rfl⟩
theorem c_X6_sendOver (l : Launch) (st : zSt) (a0 : Int32) (out : Int32 × zSt) (hf : f_X6_sendOver st a0 = some out) : zMet l yX6_sendOver cX6_sendOver 5 (some .int) zr_X6_sendOver 98 shC (fun ad => [.ref (ad 0), .int a0]) st (fun ad => some (.int out.1)) out.2 :=
  zmet_of (by decide +kernel) (fun _ => Nat.le_of_ble_eq_true rfl) (fun X _ hnl hX hQ => t_X6_sendOver X out hX hQ hnl st a0 hf)
abbrev zr_X6_callOff : Room := { frames := 4, cells := 0, slots := 0, locals := 92 }
def f_X6_callOff (st : zSt) (a0 : Int32) (a1 : Int32) : Option (Int32 × zSt) := ((f_X6_knownSailing st a0).bind fun q1 => (zlet (zwI q1.2 q1.1 6 1) fun s3 => (zlet (zwI s3 q1.1 7 a1) fun s5 => ((f_X6_sendOver s5 a0).bind fun q7 => some (q7.1, q7.2)))))
set_option maxHeartbeats 4000000 in
set_option maxRecDepth 100000 in
theorem t_X6_callOff (X : zCx) (out : Int32 × zSt) (hX : zOk X RX6 cX6_callOff zr_X6_callOff) (hQ : zPost X 98 shC (some .int) (some (.int out.1)) out.2) (hnl : X.nL = 4) (st : zSt) (a0 : Int32) (a1 : Int32) (hf : f_X6_callOff st a0 a1 = some out) : zG 98 shC X st 0 [(0, .ref (X.ad 0)), (1, .int a0), (2, .int a1)] [] := by
  unfold f_X6_callOff at hf
  refine z_aload_n hX 0 dX6_callOff_0 rfl rfl ?_
  refine z_iload_n hX 1 dX6_callOff_1 rfl rfl ?_
  obtain ⟨q1, e2, hf⟩ := zbind hf
  refine z_callV (stk := []) (stk' := [.ref (X.ad q1.1)]) hX (c_X6_knownSailing X.l st a0 q1 e2) zb_X6_knownSailing 0 dX6_callOff_2 zm_456 (by decide) shC_0 rfl rfl rfl rfl ⟨by decide, by decide⟩ ⟨rfl, rfl⟩ (Nat.le_of_ble_eq_true rfl) rfl ?_
  refine z_astore_n hX [(0, .ref (X.ad 0)), (1, .int a0), (2, .int a1), (3, .ref (X.ad q1.1))] dX6_callOff_5 rfl (by rw [hnl]; decide) [1, 2, 3, 0] rfl ?_
  refine z_aload_n hX 3 dX6_callOff_6 rfl rfl ?_
  refine z_iconst (v := 1) hX dX6_callOff_7 (by decide) ?_
  refine z_putIN hX q1.1 6 dX6_callOff_8 (zlt_Sailing (rr_X6_knownSailing e2)) (zsh_Sailing (rr_X6_knownSailing e2)) rfl rfl zin_X3 tyX3_ok nmX3 (by decide) zm_160 rfl rfl ?_
  obtain ⟨s3, h4, hf⟩ := zlet_ex hf
  refine z_name h4 ?_
  refine z_aload_n hX 3 dX6_callOff_11 rfl rfl ?_
  refine z_iload_n hX 2 dX6_callOff_12 rfl rfl ?_
  refine z_putIN hX q1.1 7 dX6_callOff_13 (zlt_Sailing (rr_X6_knownSailing e2)) (zsh_Sailing (rr_X6_knownSailing e2)) rfl rfl zin_X3 tyX3_ok nmX3 (by decide) zm_162 rfl rfl ?_
  obtain ⟨s5, h6, hf⟩ := zlet_ex hf
  refine z_name h6 ?_
  refine z_aload_n hX 0 dX6_callOff_16 rfl rfl ?_
  refine z_iload_n hX 1 dX6_callOff_17 rfl rfl ?_
  obtain ⟨q7, e8, hf⟩ := zbind hf
  refine z_callV (stk := []) (stk' := [.int q7.1]) hX (c_X6_sendOver X.l s5 a0 q7 e8) zb_X6_sendOver 0 dX6_callOff_18 zm_547 (by decide) shC_0 rfl rfl rfl rfl ⟨by decide, by decide⟩ ⟨rfl, rfl⟩ (Nat.le_of_ble_eq_true rfl) rfl ?_
  obtain rfl := Option.some.inj hf
  exact z_iret hX hQ dX6_callOff_21 rfl
theorem zb_X6_callOff : zCal yX6_callOff cX6_callOff 4 (some .int) 2 := ⟨zm_565, (zws_X6_callOff), zm_1, zm_566, by decide, by decide, rfl⟩
theorem c_X6_callOff (l : Launch) (st : zSt) (a0 : Int32) (a1 : Int32) (out : Int32 × zSt) (hf : f_X6_callOff st a0 a1 = some out) : zMet l yX6_callOff cX6_callOff 4 (some .int) zr_X6_callOff 98 shC (fun ad => [.ref (ad 0), .int a0, .int a1]) st (fun ad => some (.int out.1)) out.2 :=
  zmet_of (by decide +kernel) (fun _ => Nat.le_of_ble_eq_true rfl) (fun X _ hnl hX hQ => t_X6_callOff X out hX hQ hnl st a0 a1 hf)
abbrev zr_X6_fareFor : Room := { frames := 0, cells := 0, slots := 0, locals := 0 }
def f_X6_fareFor (st : zSt) (a0 : Int32) : Option (Int32 × zSt) := (if a0 = 0 then some (2, st) else (if a0 = 1 then some (5, st) else (if a0 = 2 then some (8, st) else some (20, st))))
set_option maxHeartbeats 4000000 in
set_option maxRecDepth 100000 in
theorem t_X6_fareFor (X : zCx) (out : Int32 × zSt) (hX : zOk X RX6 cX6_fareFor zr_X6_fareFor) (hQ : zPost X 98 shC (some .int) (some (.int out.1)) out.2) (hnl : X.nL = 1) (st : zSt) (a0 : Int32) (hf : f_X6_fareFor st a0 = some out) : zG 98 shC X st 0 [(0, .int a0)] [] := by
  unfold f_X6_fareFor at hf
  refine z_iload_n hX 0 dX6_fareFor_0 rfl rfl ?_
  by_cases c1 : a0 = 0
  · have hf := (if_pos c1).symm.trans hf
    refine z_swIn hX 28 dX6_fareFor_1 (by rw [c1]; decide) (by rw [c1]; decide) (by rw [c1]; rfl) (by decide) ?_
    refine z_iconst (v := 2) hX dX6_fareFor_28 (by decide) ?_
    obtain rfl := Option.some.inj hf
    exact z_iret hX hQ dX6_fareFor_29 rfl
  have hf := (if_neg c1).symm.trans hf
  by_cases c2 : a0 = 1
  · have hf := (if_pos c2).symm.trans hf
    refine z_swIn hX 30 dX6_fareFor_1 (by rw [c2]; decide) (by rw [c2]; decide) (by rw [c2]; rfl) (by decide) ?_
    refine z_iconst (v := 5) hX dX6_fareFor_30 (by decide) ?_
    obtain rfl := Option.some.inj hf
    exact z_iret hX hQ dX6_fareFor_31 rfl
  have hf := (if_neg c2).symm.trans hf
  by_cases c3 : a0 = 2
  · have hf := (if_pos c3).symm.trans hf
    refine z_swIn hX 32 dX6_fareFor_1 (by rw [c3]; decide) (by rw [c3]; decide) (by rw [c3]; rfl) (by decide) ?_
    refine z_bipush (v := 8) hX dX6_fareFor_32 (by decide) ?_
    obtain rfl := Option.some.inj hf
    exact z_iret hX hQ dX6_fareFor_34 rfl
  have hf := (if_neg c3).symm.trans hf
  refine z_swOut hX 35 dX6_fareFor_1 (zsw_3 c1 c2 c3) (by decide) ?_
  refine z_bipush (v := 20) hX dX6_fareFor_35 (by decide) ?_
  obtain rfl := Option.some.inj hf
  exact z_iret hX hQ dX6_fareFor_37 rfl
theorem zb_X6_fareFor : zCalS yX6_fareFor cX6_fareFor 1 (some .int) 1 := ⟨zm_646, zm_1, zm_647, by decide, by decide, rfl⟩
theorem c_X6_fareFor (l : Launch) (st : zSt) (a0 : Int32) (out : Int32 × zSt) (hf : f_X6_fareFor st a0 = some out) : zMet l yX6_fareFor cX6_fareFor 1 (some .int) zr_X6_fareFor 98 shC (fun ad => [.int a0]) st (fun ad => some (.int out.1)) out.2 :=
  zmet_of (by decide +kernel) (fun _ => Nat.le_of_ble_eq_true rfl) (fun X _ hnl hX hQ => t_X6_fareFor X out hX hQ hnl st a0 hf)
abbrev zr_X6_payFor : Room := { frames := 0, cells := 0, slots := 0, locals := 0 }
def f_X6_payFor_18  (st : zSt) (r1 : Nat) (v2 : Int32) : Option (Unit × zSt) := (zlet (zwI st r1 8 (v2 - (st.1 r1 7))) fun s6 => (zlet (zwL s6 8 (0 : Int32).toNatClampNeg ((s6.2 8 (0 : Int32).toNatClampNeg) + (((s6.1 r1 7)).toInt64))) fun s10 => (zlet (zwL s10 8 (1 : Int32).toNatClampNeg ((s10.2 8 (1 : Int32).toNatClampNeg) + (((s10.1 r1 8)).toInt64))) fun s14 => some ((), s14))))
def f_X6_payFor (st : zSt) (a0 : Nat) (a1 : Int32) : Option (Unit × zSt) := (if (st.1 a0 10) = 0 then (zlet (zwI st a0 7 a1) fun s2 => f_X6_payFor_18 s2 a0 a1) else (zlet (zwI st a0 7 (a1 / 2)) fun s4 => f_X6_payFor_18 s4 a0 a1))
set_option maxHeartbeats 4000000 in
set_option maxRecDepth 100000 in
theorem t_X6_payFor_18 (X : zCx) (out : Unit × zSt) (hX : zOk X RX6 cX6_payFor zr_X6_payFor) (hQ : zPost X 98 shC none (none) out.2) (hnl : X.nL = 3) (st : zSt) (r1 : Nat) (v2 : Int32) (hr1 : zkBooking r1) (hf : f_X6_payFor_18  st r1 v2 = some out) : zG 98 shC X st 18 [(0, .ref (X.ad 0)), (1, .ref (X.ad r1)), (2, .int v2)] [] := by
  unfold f_X6_payFor_18 at hf
  refine z_aload_n hX 1 dX6_payFor_18 rfl rfl ?_
  refine z_iload_n hX 2 dX6_payFor_19 rfl rfl ?_
  refine z_aload_n hX 1 dX6_payFor_20 rfl rfl ?_
  refine z_getIN hX r1 7 dX6_payFor_21 (zlt_Booking hr1) (zsh_Booking hr1) rfl rfl zin_X0 (by decide) zm_217 ?_
  refine z_isub hX dX6_payFor_24 ?_
  refine z_putIN hX r1 8 dX6_payFor_25 (zlt_Booking hr1) (zsh_Booking hr1) rfl rfl zin_X0 tyX0_ok nmX0 (by decide) zm_219 rfl rfl ?_
  obtain ⟨s6, h7, hf⟩ := zlet_ex hf
  refine z_name h7 ?_
  refine z_aload_n hX 0 dX6_payFor_28 rfl rfl ?_
  refine z_getR hX 0 7 8 dX6_payFor_29 (by decide) shC_0 rfl rfl zin_X6 (by decide) zm_260 ?_
  refine z_iconst (v := 0) hX dX6_payFor_32 (by decide) ?_
  refine z_dup2 hX dX6_payFor_33 rfl rfl ?_
  refine z_lald hX 8 dX6_payFor_34 (by decide) shC_8 (show zin 0 3 by decide) ?_
  refine z_aload_n hX 1 dX6_payFor_35 rfl rfl ?_
  refine z_getIN hX r1 7 dX6_payFor_36 (zlt_Booking hr1) (zsh_Booking hr1) rfl rfl zin_X0 (by decide) zm_217 ?_
  refine z_i2l hX dX6_payFor_39 ?_
  refine z_ladd hX dX6_payFor_40 ?_
  refine z_last hX 8 dX6_payFor_41 (by decide) shC_8 (show zin 0 3 by decide) ?_
  obtain ⟨s10, h11, hf⟩ := zlet_ex hf
  refine z_name h11 ?_
  refine z_aload_n hX 0 dX6_payFor_42 rfl rfl ?_
  refine z_getR hX 0 7 8 dX6_payFor_43 (by decide) shC_0 rfl rfl zin_X6 (by decide) zm_260 ?_
  refine z_iconst (v := 1) hX dX6_payFor_46 (by decide) ?_
  refine z_dup2 hX dX6_payFor_47 rfl rfl ?_
  refine z_lald hX 8 dX6_payFor_48 (by decide) shC_8 (show zin 1 3 by decide) ?_
  refine z_aload_n hX 1 dX6_payFor_49 rfl rfl ?_
  refine z_getIN hX r1 8 dX6_payFor_50 (zlt_Booking hr1) (zsh_Booking hr1) rfl rfl zin_X0 (by decide) zm_219 ?_
  refine z_i2l hX dX6_payFor_53 ?_
  refine z_ladd hX dX6_payFor_54 ?_
  refine z_last hX 8 dX6_payFor_55 (by decide) shC_8 (show zin 1 3 by decide) ?_
  obtain ⟨s14, h15, hf⟩ := zlet_ex hf
  refine z_name h15 ?_
  obtain rfl := Option.some.inj hf
  exact z_vret hX hQ dX6_payFor_56
set_option maxHeartbeats 4000000 in
set_option maxRecDepth 100000 in
theorem t_X6_payFor (X : zCx) (out : Unit × zSt) (hX : zOk X RX6 cX6_payFor zr_X6_payFor) (hQ : zPost X 98 shC none (none) out.2) (hnl : X.nL = 3) (st : zSt) (a0 : Nat) (a1 : Int32) (ha0 : zkBooking a0) (hf : f_X6_payFor st a0 a1 = some out) : zG 98 shC X st 0 [(0, .ref (X.ad 0)), (1, .ref (X.ad a0)), (2, .int a1)] [] := by
  unfold f_X6_payFor at hf
  refine z_aload_n hX 1 dX6_payFor_0 rfl rfl ?_
  refine z_aload_n hX 1 dX6_payFor_1 rfl rfl ?_
  refine z_getIN hX a0 10 dX6_payFor_2 (zlt_Booking ha0) (zsh_Booking ha0) rfl rfl zin_X0 (by decide) zm_224 ?_
  refine z_if_eq hX 14 dX6_payFor_5 (by decide) (fun c1 => ?_) (fun c1 => ?_)
  · have hf := (if_pos c1).symm.trans hf
    refine z_iload_n hX 2 dX6_payFor_14 rfl rfl ?_
    refine z_putIN hX a0 7 dX6_payFor_15 (zlt_Booking ha0) (zsh_Booking ha0) rfl rfl zin_X0 tyX0_ok nmX0 (by decide) zm_217 rfl rfl ?_
    obtain ⟨s2, h3, hf⟩ := zlet_ex hf
    refine z_name h3 ?_
    exact t_X6_payFor_18 X out hX hQ hnl s2 a0 a1 ha0 hf
  have hf := (if_neg c1).symm.trans hf
  refine z_iload_n hX 2 dX6_payFor_8 rfl rfl ?_
  refine z_iconst (v := 2) hX dX6_payFor_9 (by decide) ?_
  refine z_idiv hX dX6_payFor_10 (by decide) ?_
  refine z_goto hX 15 dX6_payFor_11 (by decide) ?_
  refine z_putIN hX a0 7 dX6_payFor_15 (zlt_Booking ha0) (zsh_Booking ha0) rfl rfl zin_X0 tyX0_ok nmX0 (by decide) zm_217 rfl rfl ?_
  obtain ⟨s4, h5, hf⟩ := zlet_ex hf
  refine z_name h5 ?_
  exact t_X6_payFor_18 X out hX hQ hnl s4 a0 a1 ha0 hf
theorem zb_X6_payFor : zCal yX6_payFor cX6_payFor 3 none 2 := ⟨zm_650, (zws_X6_payFor), zm_1, zm_651, by decide, by decide, rfl⟩
theorem c_X6_payFor (l : Launch) (st : zSt) (a0 : Nat) (a1 : Int32) (ha0 : zkBooking a0) (out : Unit × zSt) (hf : f_X6_payFor st a0 a1 = some out) : zMet l yX6_payFor cX6_payFor 3 none zr_X6_payFor 98 shC (fun ad => [.ref (ad 0), .ref (ad a0), .int a1]) st (fun ad => none) out.2 :=
  zmet_of (by decide +kernel) (fun _ => Nat.le_of_ble_eq_true rfl) (fun X _ hnl hX hQ => t_X6_payFor X out hX hQ hnl st a0 a1 ha0 hf)
abbrev zr_X6_reasonAgainst : Room := { frames := 4, cells := 0, slots := 0, locals := 92 }
def f_X6_reasonAgainst_127  (st : zSt) (r2 : Nat) (r3 : Nat) : Option (Int32 × zSt) := ((f_X6_crewFor st r2).bind fun q24 => (if q24.1 = (-1) then some (5, q24.2) else ((f_X4_burns q24.2 r3 ((q24.2.1 r2 4) - (q24.2.1 r2 3))).bind fun q27 => (if q27.1 ≤ (q24.2.1 r3 6) then some (0, q27.2) else some (6, q27.2)))))
def f_X6_reasonAgainst (st : zSt) (a0 : Int32) : Option (Int32 × zSt) := ((f_X6_knownSailing st a0).bind fun q1 => ((f_X6_knownShip q1.2 (q1.2.1 q1.1 0)).bind fun q3 => ((f_X6_whereWas q3.2 (q3.2.1 q1.1 0) (q3.2.1 q1.1 3)).bind fun q5 => (if q5.1 = (q5.2.1 q1.1 1) then ((f_X5_has q5.2 (q3.1 + 4) (q5.2.1 q1.1 3)).bind fun q8 => (if q8.1 = 0 then ((f_X6_depthAt q8.2 (q8.2.1 q1.1 1) (q8.2.1 q1.1 3)).bind fun q11 => (if q11.1 < (q11.2.1 q3.1 4) then some (2, q11.2) else ((f_X6_depthAt q11.2 (q11.2.1 q1.1 2) (q11.2.1 q1.1 4)).bind fun q14 => (if (q14.2.1 q3.1 4) ≤ q14.1 then ((f_X5_has q14.2 9 (q14.2.1 q1.1 3)).bind fun q17 => (if q17.1 = 0 then ((f_X5_has q17.2 10 (q17.2.1 q1.1 3)).bind fun q20 => (if q20.1 = 0 then f_X6_reasonAgainst_127 q20.2 q1.1 q3.1 else (if (a0 - a0 / 2 * 2) = 1 then some (4, q20.2) else f_X6_reasonAgainst_127 q20.2 q1.1 q3.1))) else some (3, q17.2))) else some (2, q14.2))))) else some (1, q8.2))) else some (1, q5.2)))))
set_option maxHeartbeats 4000000 in
set_option maxRecDepth 100000 in
theorem t_X6_reasonAgainst_127 (X : zCx) (out : Int32 × zSt) (hX : zOk X RX6 cX6_reasonAgainst zr_X6_reasonAgainst) (hQ : zPost X 98 shC (some .int) (some (.int out.1)) out.2) (hnl : X.nL = 4) (st : zSt) (r2 : Nat) (r3 : Nat) (hr2 : zkSailing r2) (hr3 : zkShip r3) (hf : f_X6_reasonAgainst_127  st r2 r3 = some out) : zG 98 shC X st 127 [(0, .ref (X.ad 0)), (2, .ref (X.ad r2)), (3, .ref (X.ad r3))] [] := by
  unfold f_X6_reasonAgainst_127 at hf
  refine z_aload_n hX 0 dX6_reasonAgainst_127 rfl rfl ?_
  refine z_aload_n hX 1 dX6_reasonAgainst_128 rfl rfl ?_
  obtain ⟨q24, e25, hf⟩ := zbind hf
  refine z_callV (stk := []) (stk' := [.int q24.1]) hX (c_X6_crewFor X.l st r2 hr2 q24 e25) zb_X6_crewFor 0 dX6_reasonAgainst_129 zm_478 (by decide) shC_0 rfl rfl rfl rfl ⟨by decide, by decide⟩ ⟨rfl, rfl⟩ (Nat.le_of_ble_eq_true rfl) rfl ?_
  refine z_iconst (v := (-1)) hX dX6_reasonAgainst_132 (by decide) ?_
  refine z_icmp_ne hX 138 dX6_reasonAgainst_133 (by decide) (fun c26 => ?_) (fun c26 => ?_)
  · have hf := (if_neg c26).symm.trans hf
    refine z_aload_n hX 2 dX6_reasonAgainst_138 rfl rfl ?_
    refine z_getIN hX r3 6 dX6_reasonAgainst_139 (zlt_Ship hr3) (zsh_Ship hr3) rfl rfl zin_X4 (by decide) zm_106 ?_
    refine z_aload_n hX 2 dX6_reasonAgainst_142 rfl rfl ?_
    refine z_aload_n hX 1 dX6_reasonAgainst_143 rfl rfl ?_
    refine z_getIN hX r2 4 dX6_reasonAgainst_144 (zlt_Sailing hr2) (zsh_Sailing hr2) rfl rfl zin_X3 (by decide) zm_156 ?_
    refine z_aload_n hX 1 dX6_reasonAgainst_147 rfl rfl ?_
    refine z_getIN hX r2 3 dX6_reasonAgainst_148 (zlt_Sailing hr2) (zsh_Sailing hr2) rfl rfl zin_X3 (by decide) zm_154 ?_
    refine z_isub hX dX6_reasonAgainst_151 ?_
    obtain ⟨q27, e28, hf⟩ := zbind hf
    refine z_callVN (stk := [.int (q24.2.1 r3 6)]) (stk' := [.int q27.1, .int (q24.2.1 r3 6)]) hX (c_X4_burns X.l q24.2 r3 ((q24.2.1 r2 4) - (q24.2.1 r2 3)) hr3 q27 e28) zb_X4_burns r3 dX6_reasonAgainst_152 zm_486 (zlt_Ship hr3) (zsh_Ship hr3) rfl rfl rfl rfl ⟨by decide, by decide⟩ ⟨rfl, rfl⟩ (Nat.le_of_ble_eq_true rfl) rfl ?_
    refine z_icmp_ge hX 163 dX6_reasonAgainst_155 (by decide) (fun c29 => ?_) (fun c29 => ?_)
    · have hf := (if_pos c29).symm.trans hf
      refine z_iconst (v := 0) hX dX6_reasonAgainst_163 (by decide) ?_
      obtain rfl := Option.some.inj hf
      exact z_iret hX hQ dX6_reasonAgainst_164 rfl
    have hf := (if_neg c29).symm.trans hf
    refine z_bipush (v := 6) hX dX6_reasonAgainst_158 (by decide) ?_
    refine z_goto hX 164 dX6_reasonAgainst_160 (by decide) ?_
    obtain rfl := Option.some.inj hf
    exact z_iret hX hQ dX6_reasonAgainst_164 rfl
  have hf := (if_pos c26).symm.trans hf
  refine z_iconst (v := 5) hX dX6_reasonAgainst_136 (by decide) ?_
  obtain rfl := Option.some.inj hf
  exact z_iret hX hQ dX6_reasonAgainst_137 rfl
set_option maxHeartbeats 4000000 in
set_option maxRecDepth 100000 in
theorem t_X6_reasonAgainst (X : zCx) (out : Int32 × zSt) (hX : zOk X RX6 cX6_reasonAgainst zr_X6_reasonAgainst) (hQ : zPost X 98 shC (some .int) (some (.int out.1)) out.2) (hnl : X.nL = 4) (st : zSt) (a0 : Int32) (hf : f_X6_reasonAgainst st a0 = some out) : zG 98 shC X st 0 [(0, .ref (X.ad 0)), (1, .int a0)] [] := by
  unfold f_X6_reasonAgainst at hf
  refine z_aload_n hX 0 dX6_reasonAgainst_0 rfl rfl ?_
  refine z_iload_n hX 1 dX6_reasonAgainst_1 rfl rfl ?_
  obtain ⟨q1, e2, hf⟩ := zbind hf
  refine z_callV (stk := []) (stk' := [.ref (X.ad q1.1)]) hX (c_X6_knownSailing X.l st a0 q1 e2) zb_X6_knownSailing 0 dX6_reasonAgainst_2 zm_456 (by decide) shC_0 rfl rfl rfl rfl ⟨by decide, by decide⟩ ⟨rfl, rfl⟩ (Nat.le_of_ble_eq_true rfl) rfl ?_
  refine z_astore_n hX [(0, .ref (X.ad 0)), (1, .int a0), (2, .ref (X.ad q1.1))] dX6_reasonAgainst_5 rfl (by rw [hnl]; decide) [1, 2, 0] rfl ?_
  refine z_aload_n hX 0 dX6_reasonAgainst_6 rfl rfl ?_
  refine z_aload_n hX 2 dX6_reasonAgainst_7 rfl rfl ?_
  refine z_getIN hX q1.1 0 dX6_reasonAgainst_8 (zlt_Sailing (rr_X6_knownSailing e2)) (zsh_Sailing (rr_X6_knownSailing e2)) rfl rfl zin_X3 (by decide) zm_148 ?_
  obtain ⟨q3, e4, hf⟩ := zbind hf
  refine z_callV (stk := []) (stk' := [.ref (X.ad q3.1)]) hX (c_X6_knownShip X.l q1.2 (q1.2.1 q1.1 0) q3 e4) zb_X6_knownShip 0 dX6_reasonAgainst_11 zm_412 (by decide) shC_0 rfl rfl rfl rfl ⟨by decide, by decide⟩ ⟨rfl, rfl⟩ (Nat.le_of_ble_eq_true rfl) rfl ?_
  refine z_astore_n hX [(0, .ref (X.ad 0)), (1, .int a0), (2, .ref (X.ad q1.1)), (3, .ref (X.ad q3.1))] dX6_reasonAgainst_14 rfl (by rw [hnl]; decide) [1, 2, 3, 0] rfl ?_
  refine z_aload_n hX 0 dX6_reasonAgainst_15 rfl rfl ?_
  refine z_aload_n hX 2 dX6_reasonAgainst_16 rfl rfl ?_
  refine z_getIN hX q1.1 0 dX6_reasonAgainst_17 (zlt_Sailing (rr_X6_knownSailing e2)) (zsh_Sailing (rr_X6_knownSailing e2)) rfl rfl zin_X3 (by decide) zm_148 ?_
  refine z_aload_n hX 2 dX6_reasonAgainst_20 rfl rfl ?_
  refine z_getIN hX q1.1 3 dX6_reasonAgainst_21 (zlt_Sailing (rr_X6_knownSailing e2)) (zsh_Sailing (rr_X6_knownSailing e2)) rfl rfl zin_X3 (by decide) zm_154 ?_
  obtain ⟨q5, e6, hf⟩ := zbind hf
  refine z_callV (stk := []) (stk' := [.int q5.1]) hX (c_X6_whereWas X.l q3.2 (q3.2.1 q1.1 0) (q3.2.1 q1.1 3) q5 e6) zb_X6_whereWas 0 dX6_reasonAgainst_24 zm_464 (by decide) shC_0 rfl rfl rfl rfl ⟨by decide, by decide⟩ ⟨rfl, rfl⟩ (Nat.le_of_ble_eq_true rfl) rfl ?_
  refine z_aload_n hX 2 dX6_reasonAgainst_27 rfl rfl ?_
  refine z_getIN hX q1.1 1 dX6_reasonAgainst_28 (zlt_Sailing (rr_X6_knownSailing e2)) (zsh_Sailing (rr_X6_knownSailing e2)) rfl rfl zin_X3 (by decide) zm_150 ?_
  refine z_icmp_ne hX 48 dX6_reasonAgainst_31 (by decide) (fun c7 => ?_) (fun c7 => ?_)
  · have hf := (if_neg c7).symm.trans hf
    refine z_iconst (v := 1) hX dX6_reasonAgainst_48 (by decide) ?_
    obtain rfl := Option.some.inj hf
    exact z_iret hX hQ dX6_reasonAgainst_49 rfl
  have hf := (if_pos c7).symm.trans hf
  refine z_aload_n hX 3 dX6_reasonAgainst_34 rfl rfl ?_
  refine z_getRN hX q3.1 7 (q3.1 + 4) dX6_reasonAgainst_35 (zlt_Ship (rr_X6_knownShip e4)) (zsh_Ship (rr_X6_knownShip e4)) rfl rfl zin_X4 (by decide) zm_108 ?_
  refine z_aload_n hX 2 dX6_reasonAgainst_38 rfl rfl ?_
  refine z_getIN hX q1.1 3 dX6_reasonAgainst_39 (zlt_Sailing (rr_X6_knownSailing e2)) (zsh_Sailing (rr_X6_knownSailing e2)) rfl rfl zin_X3 (by decide) zm_154 ?_
  obtain ⟨q8, e9, hf⟩ := zbind hf
  refine z_callVN (stk := []) (stk' := [.int q8.1]) hX (c_X5_has X.l q5.2 (q3.1 + 4) (q5.2.1 q1.1 3) (zsp_out (rr_X6_knownShip e4)) q8 e9) zb_X5_has (q3.1 + 4) dX6_reasonAgainst_42 zm_468 (zlt_Span (zsp_out (rr_X6_knownShip e4))) (zsh_Span (zsp_out (rr_X6_knownShip e4))) rfl rfl rfl rfl ⟨by decide, by decide⟩ ⟨rfl, rfl⟩ (Nat.le_of_ble_eq_true rfl) rfl ?_
  refine z_if_eq hX 50 dX6_reasonAgainst_45 (by decide) (fun c10 => ?_) (fun c10 => ?_)
  · have hf := (if_pos c10).symm.trans hf
    refine z_aload_n hX 2 dX6_reasonAgainst_50 rfl rfl ?_
    refine z_getIN hX q1.1 1 dX6_reasonAgainst_51 (zlt_Sailing (rr_X6_knownSailing e2)) (zsh_Sailing (rr_X6_knownSailing e2)) rfl rfl zin_X3 (by decide) zm_150 ?_
    refine z_aload_n hX 2 dX6_reasonAgainst_54 rfl rfl ?_
    refine z_getIN hX q1.1 3 dX6_reasonAgainst_55 (zlt_Sailing (rr_X6_knownSailing e2)) (zsh_Sailing (rr_X6_knownSailing e2)) rfl rfl zin_X3 (by decide) zm_154 ?_
    obtain ⟨q11, e12, hf⟩ := zbind hf
    refine z_callS (stk := []) (stk' := [.int q11.1]) hX (c_X6_depthAt X.l q8.2 (q8.2.1 q1.1 1) (q8.2.1 q1.1 3) q11 e12) zb_X6_depthAt dX6_reasonAgainst_58 zm_472 rfl rfl rfl ⟨by decide, by decide⟩ ⟨rfl, rfl⟩ (Nat.le_of_ble_eq_true rfl) rfl ?_
    refine z_aload_n hX 3 dX6_reasonAgainst_61 rfl rfl ?_
    refine z_getIN hX q3.1 4 dX6_reasonAgainst_62 (zlt_Ship (rr_X6_knownShip e4)) (zsh_Ship (rr_X6_knownShip e4)) rfl rfl zin_X4 (by decide) zm_102 ?_
    refine z_icmp_lt hX 86 dX6_reasonAgainst_65 (by decide) (fun c13 => ?_) (fun c13 => ?_)
    · have hf := (if_pos c13).symm.trans hf
      refine z_iconst (v := 2) hX dX6_reasonAgainst_86 (by decide) ?_
      obtain rfl := Option.some.inj hf
      exact z_iret hX hQ dX6_reasonAgainst_87 rfl
    have hf := (if_neg c13).symm.trans hf
    refine z_aload_n hX 2 dX6_reasonAgainst_68 rfl rfl ?_
    refine z_getIN hX q1.1 2 dX6_reasonAgainst_69 (zlt_Sailing (rr_X6_knownSailing e2)) (zsh_Sailing (rr_X6_knownSailing e2)) rfl rfl zin_X3 (by decide) zm_152 ?_
    refine z_aload_n hX 2 dX6_reasonAgainst_72 rfl rfl ?_
    refine z_getIN hX q1.1 4 dX6_reasonAgainst_73 (zlt_Sailing (rr_X6_knownSailing e2)) (zsh_Sailing (rr_X6_knownSailing e2)) rfl rfl zin_X3 (by decide) zm_156 ?_
    obtain ⟨q14, e15, hf⟩ := zbind hf
    refine z_callS (stk := []) (stk' := [.int q14.1]) hX (c_X6_depthAt X.l q11.2 (q11.2.1 q1.1 2) (q11.2.1 q1.1 4) q14 e15) zb_X6_depthAt dX6_reasonAgainst_76 zm_472 rfl rfl rfl ⟨by decide, by decide⟩ ⟨rfl, rfl⟩ (Nat.le_of_ble_eq_true rfl) rfl ?_
    refine z_aload_n hX 3 dX6_reasonAgainst_79 rfl rfl ?_
    refine z_getIN hX q3.1 4 dX6_reasonAgainst_80 (zlt_Ship (rr_X6_knownShip e4)) (zsh_Ship (rr_X6_knownShip e4)) rfl rfl zin_X4 (by decide) zm_102 ?_
    refine z_icmp_ge hX 88 dX6_reasonAgainst_83 (by decide) (fun c16 => ?_) (fun c16 => ?_)
    · have hf := (if_pos c16).symm.trans hf
      refine z_aload_n hX 0 dX6_reasonAgainst_88 rfl rfl ?_
      refine z_getR hX 0 8 9 dX6_reasonAgainst_89 (by decide) shC_0 rfl rfl zin_X6 (by decide) zm_261 ?_
      refine z_aload_n hX 2 dX6_reasonAgainst_92 rfl rfl ?_
      refine z_getIN hX q1.1 3 dX6_reasonAgainst_93 (zlt_Sailing (rr_X6_knownSailing e2)) (zsh_Sailing (rr_X6_knownSailing e2)) rfl rfl zin_X3 (by decide) zm_154 ?_
      obtain ⟨q17, e18, hf⟩ := zbind hf
      refine z_callVN (stk := []) (stk' := [.int q17.1]) hX (c_X5_has X.l q14.2 9 (q14.2.1 q1.1 3) (zkSpan_9) q17 e18) zb_X5_has 9 dX6_reasonAgainst_96 zm_468 (by decide) shC_9 rfl rfl rfl rfl ⟨by decide, by decide⟩ ⟨rfl, rfl⟩ (Nat.le_of_ble_eq_true rfl) rfl ?_
      refine z_if_eq hX 104 dX6_reasonAgainst_99 (by decide) (fun c19 => ?_) (fun c19 => ?_)
      · have hf := (if_pos c19).symm.trans hf
        refine z_aload_n hX 0 dX6_reasonAgainst_104 rfl rfl ?_
        refine z_getR hX 0 9 10 dX6_reasonAgainst_105 (by decide) shC_0 rfl rfl zin_X6 (by decide) zm_262 ?_
        refine z_aload_n hX 2 dX6_reasonAgainst_108 rfl rfl ?_
        refine z_getIN hX q1.1 3 dX6_reasonAgainst_109 (zlt_Sailing (rr_X6_knownSailing e2)) (zsh_Sailing (rr_X6_knownSailing e2)) rfl rfl zin_X3 (by decide) zm_154 ?_
        obtain ⟨q20, e21, hf⟩ := zbind hf
        refine z_callVN (stk := []) (stk' := [.int q20.1]) hX (c_X5_has X.l q17.2 10 (q17.2.1 q1.1 3) (zkSpan_10) q20 e21) zb_X5_has 10 dX6_reasonAgainst_112 zm_468 (by decide) shC_10 rfl rfl rfl rfl ⟨by decide, by decide⟩ ⟨rfl, rfl⟩ (Nat.le_of_ble_eq_true rfl) rfl ?_
        refine z_if_eq hX 127 dX6_reasonAgainst_115 (by decide) (fun c22 => ?_) (fun c22 => ?_)
        · have hf := (if_pos c22).symm.trans hf
          refine z_locals [0, 2, 3] [(0, .ref (X.ad 0)), (2, .ref (X.ad q1.1)), (3, .ref (X.ad q3.1))] rfl ?_
          exact t_X6_reasonAgainst_127 X out hX hQ hnl q20.2 q1.1 q3.1 (rr_X6_knownSailing e2) (rr_X6_knownShip e4) hf
        have hf := (if_neg c22).symm.trans hf
        refine z_iload_n hX 1 dX6_reasonAgainst_118 rfl rfl ?_
        refine z_iconst (v := 2) hX dX6_reasonAgainst_119 (by decide) ?_
        refine z_irem hX dX6_reasonAgainst_120 (by decide) ?_
        refine z_iconst (v := 1) hX dX6_reasonAgainst_121 (by decide) ?_
        refine z_icmp_ne hX 127 dX6_reasonAgainst_122 (by decide) (fun c23 => ?_) (fun c23 => ?_)
        · have hf := (if_neg c23).symm.trans hf
          refine z_locals [0, 2, 3] [(0, .ref (X.ad 0)), (2, .ref (X.ad q1.1)), (3, .ref (X.ad q3.1))] rfl ?_
          exact t_X6_reasonAgainst_127 X out hX hQ hnl q20.2 q1.1 q3.1 (rr_X6_knownSailing e2) (rr_X6_knownShip e4) hf
        have hf := (if_pos c23).symm.trans hf
        refine z_iconst (v := 4) hX dX6_reasonAgainst_125 (by decide) ?_
        obtain rfl := Option.some.inj hf
        exact z_iret hX hQ dX6_reasonAgainst_126 rfl
      have hf := (if_neg c19).symm.trans hf
      refine z_iconst (v := 3) hX dX6_reasonAgainst_102 (by decide) ?_
      obtain rfl := Option.some.inj hf
      exact z_iret hX hQ dX6_reasonAgainst_103 rfl
    have hf := (if_neg c16).symm.trans hf
    refine z_iconst (v := 2) hX dX6_reasonAgainst_86 (by decide) ?_
    obtain rfl := Option.some.inj hf
    exact z_iret hX hQ dX6_reasonAgainst_87 rfl
  have hf := (if_neg c10).symm.trans hf
  refine z_iconst (v := 1) hX dX6_reasonAgainst_48 (by decide) ?_
  obtain rfl := Option.some.inj hf
  exact z_iret hX hQ dX6_reasonAgainst_49 rfl
theorem zb_X6_reasonAgainst : zCal yX6_reasonAgainst cX6_reasonAgainst 4 (some .int) 1 := ⟨zm_462, (zws_X6_reasonAgainst), zm_1, zm_463, by decide, by decide, rfl⟩
theorem c_X6_reasonAgainst (l : Launch) (st : zSt) (a0 : Int32) (out : Int32 × zSt) (hf : f_X6_reasonAgainst st a0 = some out) : zMet l yX6_reasonAgainst cX6_reasonAgainst 4 (some .int) zr_X6_reasonAgainst 98 shC (fun ad => [.ref (ad 0), .int a0]) st (fun ad => some (.int out.1)) out.2 :=
  zmet_of (by decide +kernel) (fun _ => Nat.le_of_ble_eq_true rfl) (fun X _ hnl hX hQ => t_X6_reasonAgainst X out hX hQ hnl st a0 hf)
