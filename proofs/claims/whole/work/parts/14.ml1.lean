/-! methods, walked by program: f_.. what they do to the numbered world, t_.. the walk, c_.. the contract -/
abbrev zr_X7_thrown : Room := { frames := 0, cells := 0, slots := 0, locals := 0 }
def f_X7_thrown (st : zSt)  : Option (Int32 × zSt) := some ((st.1 0 52), st)
set_option maxHeartbeats 4000000 in
set_option maxRecDepth 100000 in
theorem t_X7_thrown (X : zCx) (out : Int32 × zSt) (hX : zOk X RX7 cX7_thrown zr_X7_thrown) (hQ : zPost X 42 shM (some .int) (some (.int out.1)) out.2) (hnl : X.nL = 1) (st : zSt)  (hf : f_X7_thrown st  = some out) : zG 42 shM X st 0 [(0, .ref (X.ad 0))] [] := by
  unfold f_X7_thrown at hf
  refine z_aload_n hX 0 dX7_thrown_0 rfl rfl ?_
  refine z_getI hX 0 52 dX7_thrown_1 (by decide) shM_0 rfl rfl zin_X7 (by decide) zm_832 ?_
  obtain rfl := Option.some.inj hf
  exact z_iret hX hQ dX7_thrown_4 rfl
theorem zb_X7_thrown : zCal yX7_thrown cX7_thrown 1 (some .int) 0 := ⟨zm_941, (zwl_in zm_942 rfl), zm_8, zm_943, by decide, by decide, rfl⟩
theorem c_X7_thrown (l : Launch) (st : zSt)  (out : Int32 × zSt) (hf : f_X7_thrown st  = some out) : zMet l yX7_thrown cX7_thrown 1 (some .int) zr_X7_thrown 42 shM (fun ad => [.ref (ad 0)]) st (fun ad => some (.int out.1)) out.2 :=
  zmet_of (by decide +kernel) (fun _ => Nat.le_of_ble_eq_true rfl) (fun X _ hnl hX hQ => t_X7_thrown X out hX hQ hnl st  hf)
abbrev zr_X7_in : Room := { frames := 0, cells := 0, slots := 0, locals := 0 }
def f_X7_in (st : zSt) (a0 : Int32) (a1 : Int32) (a2 : Int32) : Option (Int32 × zSt) := (if a0 < a1 then some (0, st) else (if a2 < a0 then some (0, st) else some (1, st)))
set_option maxHeartbeats 4000000 in
set_option maxRecDepth 100000 in
theorem t_X7_in (X : zCx) (out : Int32 × zSt) (hX : zOk X RX7 cX7_in zr_X7_in) (hQ : zPost X 42 shM (some .boolean) (some (.int out.1)) out.2) (hnl : X.nL = 3) (st : zSt) (a0 : Int32) (a1 : Int32) (a2 : Int32) (hf : f_X7_in st a0 a1 a2 = some out) : zG 42 shM X st 0 [(0, .int a0), (1, .int a1), (2, .int a2)] [] := by
  unfold f_X7_in at hf
  refine z_iload_n hX 0 dX7_in_0 rfl rfl ?_
  refine z_iload_n hX 1 dX7_in_1 rfl rfl ?_
  refine z_icmp_lt hX 14 dX7_in_2 (by decide) (fun c1 => ?_) (fun c1 => ?_)
  · have hf := (if_pos c1).symm.trans hf
    refine z_iconst (v := 0) hX dX7_in_14 (by decide) ?_
    obtain rfl := Option.some.inj hf
    exact z_iret hX hQ dX7_in_15 rfl
  have hf := (if_neg c1).symm.trans hf
  refine z_iload_n hX 0 dX7_in_5 rfl rfl ?_
  refine z_iload_n hX 2 dX7_in_6 rfl rfl ?_
  refine z_icmp_gt hX 14 dX7_in_7 (by decide) (fun c2 => ?_) (fun c2 => ?_)
  · have hf := (if_pos c2).symm.trans hf
    refine z_iconst (v := 0) hX dX7_in_14 (by decide) ?_
    obtain rfl := Option.some.inj hf
    exact z_iret hX hQ dX7_in_15 rfl
  have hf := (if_neg c2).symm.trans hf
  refine z_iconst (v := 1) hX dX7_in_10 (by decide) ?_
  refine z_goto hX 15 dX7_in_11 (by decide) ?_
  obtain rfl := Option.some.inj hf
  exact z_iret hX hQ dX7_in_15 rfl
theorem zb_X7_in : zCalS yX7_in cX7_in 3 (some .boolean) 3 := ⟨zm_952, zm_8, zm_953, by decide, by decide, rfl⟩
theorem c_X7_in (l : Launch) (st : zSt) (a0 : Int32) (a1 : Int32) (a2 : Int32) (out : Int32 × zSt) (hf : f_X7_in st a0 a1 a2 = some out) : zMet l yX7_in cX7_in 3 (some .boolean) zr_X7_in 42 shM (fun ad => [.int a0, .int a1, .int a2]) st (fun ad => some (.int out.1)) out.2 :=
  zmet_of (by decide +kernel) (fun _ => Nat.le_of_ble_eq_true rfl) (fun X _ hnl hX hQ => t_X7_in X out hX hQ hnl st a0 a1 a2 hf)
theorem rb_X7_in {st : zSt} {a0 a1 a2 : Int32} {out : Int32 × zSt} (h : f_X7_in st a0 a1 a2 = some out) : out.1 = 0 ∨ out.1 = 1 := by
  unfold f_X7_in at h
  by_cases c1 : a0 < a1
  · rw [if_pos c1] at h
    obtain rfl := Option.some.inj h
    exact Or.inl rfl
  · rw [if_neg c1] at h
    by_cases c2 : a2 < a0
    · rw [if_pos c2] at h
      obtain rfl := Option.some.inj h
      exact Or.inl rfl
    · rw [if_neg c2] at h
      obtain rfl := Option.some.inj h
      exact Or.inr rfl
abbrev zr_X7_isIsland : Room := { frames := 1, cells := 0, slots := 0, locals := 22 }
def f_X7_isIsland (st : zSt) (a0 : Int32) : Option (Int32 × zSt) := ((f_X7_in st a0 0 5).bind fun q1 => some (q1.1, q1.2))
set_option maxHeartbeats 4000000 in
set_option maxRecDepth 100000 in
theorem t_X7_isIsland (X : zCx) (out : Int32 × zSt) (hX : zOk X RX7 cX7_isIsland zr_X7_isIsland) (hQ : zPost X 42 shM (some .boolean) (some (.int out.1)) out.2) (hnl : X.nL = 1) (st : zSt) (a0 : Int32) (hf : f_X7_isIsland st a0 = some out) : zG 42 shM X st 0 [(0, .int a0)] [] := by
  unfold f_X7_isIsland at hf
  refine z_iload_n hX 0 dX7_isIsland_0 rfl rfl ?_
  refine z_iconst (v := 0) hX dX7_isIsland_1 (by decide) ?_
  refine z_iconst (v := 5) hX dX7_isIsland_2 (by decide) ?_
  obtain ⟨q1, e2, hf⟩ := zbind hf
  refine z_callS (stk := []) (stk' := [.int q1.1]) hX (c_X7_in X.l st a0 0 5 q1 e2) zb_X7_in dX7_isIsland_3 zm_951 rfl rfl rfl ⟨by decide, by decide⟩ ⟨rfl, rfl⟩ (Nat.le_of_ble_eq_true rfl) rfl ?_
  obtain rfl := Option.some.inj hf
  exact z_iret hX hQ dX7_isIsland_6 (znb (rb_X7_in e2))
theorem zb_X7_isIsland : zCalS yX7_isIsland cX7_isIsland 1 (some .boolean) 1 := ⟨zm_949, zm_8, zm_950, by decide, by decide, rfl⟩
theorem c_X7_isIsland (l : Launch) (st : zSt) (a0 : Int32) (out : Int32 × zSt) (hf : f_X7_isIsland st a0 = some out) : zMet l yX7_isIsland cX7_isIsland 1 (some .boolean) zr_X7_isIsland 42 shM (fun ad => [.int a0]) st (fun ad => some (.int out.1)) out.2 :=
  zmet_of (by decide +kernel) (fun _ => Nat.le_of_ble_eq_true rfl) (fun X _ hnl hX hQ => t_X7_isIsland X out hX hQ hnl st a0 hf)
theorem rb_X7_isIsland {st : zSt} {a0 : Int32} {out : Int32 × zSt} (h : f_X7_isIsland st a0 = some out) : out.1 = 0 ∨ out.1 = 1 := by
  unfold f_X7_isIsland at h
  obtain ⟨q, e, h⟩ := zbind h
  obtain rfl := Option.some.inj h
  exact rb_X7_in e
abbrev zr_X7_isShip : Room := { frames := 1, cells := 0, slots := 0, locals := 22 }
def f_X7_isShip (st : zSt) (a0 : Int32) : Option (Int32 × zSt) := ((f_X7_in st a0 0 ((st.1 0 1) - 1)).bind fun q1 => some (q1.1, q1.2))
set_option maxHeartbeats 4000000 in
set_option maxRecDepth 100000 in
theorem t_X7_isShip (X : zCx) (out : Int32 × zSt) (hX : zOk X RX7 cX7_isShip zr_X7_isShip) (hQ : zPost X 42 shM (some .boolean) (some (.int out.1)) out.2) (hnl : X.nL = 2) (st : zSt) (a0 : Int32) (hf : f_X7_isShip st a0 = some out) : zG 42 shM X st 0 [(0, .ref (X.ad 0)), (1, .int a0)] [] := by
  unfold f_X7_isShip at hf
  refine z_iload_n hX 1 dX7_isShip_0 rfl rfl ?_
  refine z_iconst (v := 0) hX dX7_isShip_1 (by decide) ?_
  refine z_aload_n hX 0 dX7_isShip_2 rfl rfl ?_
  refine z_getI hX 0 1 dX7_isShip_3 (by decide) shM_0 rfl rfl zin_X7 (by decide) zm_781 ?_
  refine z_iconst (v := 1) hX dX7_isShip_6 (by decide) ?_
  refine z_isub hX dX7_isShip_7 ?_
  obtain ⟨q1, e2, hf⟩ := zbind hf
  refine z_callS (stk := []) (stk' := [.int q1.1]) hX (c_X7_in X.l st a0 0 ((st.1 0 1) - 1) q1 e2) zb_X7_in dX7_isShip_8 zm_951 rfl rfl rfl ⟨by decide, by decide⟩ ⟨rfl, rfl⟩ (Nat.le_of_ble_eq_true rfl) rfl ?_
  obtain rfl := Option.some.inj hf
  exact z_iret hX hQ dX7_isShip_11 (znb (rb_X7_in e2))
theorem zb_X7_isShip : zCal yX7_isShip cX7_isShip 2 (some .boolean) 1 := ⟨zm_960, (zws_X7_isShip), zm_8, zm_961, by decide, by decide, rfl⟩
theorem c_X7_isShip (l : Launch) (st : zSt) (a0 : Int32) (out : Int32 × zSt) (hf : f_X7_isShip st a0 = some out) : zMet l yX7_isShip cX7_isShip 2 (some .boolean) zr_X7_isShip 42 shM (fun ad => [.ref (ad 0), .int a0]) st (fun ad => some (.int out.1)) out.2 :=
  zmet_of (by decide +kernel) (fun _ => Nat.le_of_ble_eq_true rfl) (fun X _ hnl hX hQ => t_X7_isShip X out hX hQ hnl st a0 hf)
theorem rb_X7_isShip {st : zSt} {a0 : Int32} {out : Int32 × zSt} (h : f_X7_isShip st a0 = some out) : out.1 = 0 ∨ out.1 = 1 := by
  unfold f_X7_isShip at h
  obtain ⟨q, e, h⟩ := zbind h
  obtain rfl := Option.some.inj h
  exact rb_X7_in e
abbrev zr_X7_hasSailing : Room := { frames := 1, cells := 0, slots := 0, locals := 22 }
def f_X7_hasSailing_23  (st : zSt)  : Option (Int32 × zSt) := (if (st.1 0 52) = 0 then some (1, st) else some (0, st))
def f_X7_hasSailing (st : zSt) (a0 : Int32) : Option (Int32 × zSt) := ((f_X7_in st a0 0 ((st.1 0 19) - 1)).bind fun q1 => (if q1.1 = 0 then (zlet (zwI q1.2 0 52 1) fun s4 => f_X7_hasSailing_23 s4) else (zlet (zwI q1.2 0 52 0) fun s6 => f_X7_hasSailing_23 s6)))
set_option maxHeartbeats 4000000 in
set_option maxRecDepth 100000 in
theorem t_X7_hasSailing_23 (X : zCx) (out : Int32 × zSt) (hX : zOk X RX7 cX7_hasSailing zr_X7_hasSailing) (hQ : zPost X 42 shM (some .boolean) (some (.int out.1)) out.2) (hnl : X.nL = 2) (st : zSt)  (hf : f_X7_hasSailing_23  st  = some out) : zG 42 shM X st 23 [(0, .ref (X.ad 0))] [] := by
  unfold f_X7_hasSailing_23 at hf
  refine z_aload_n hX 0 dX7_hasSailing_23 rfl rfl ?_
  refine z_getI hX 0 52 dX7_hasSailing_24 (by decide) shM_0 rfl rfl zin_X7 (by decide) zm_832 ?_
  refine z_if_ne hX 34 dX7_hasSailing_27 (by decide) (fun c8 => ?_) (fun c8 => ?_)
  · have hf := (if_neg c8).symm.trans hf
    refine z_iconst (v := 0) hX dX7_hasSailing_34 (by decide) ?_
    obtain rfl := Option.some.inj hf
    exact z_iret hX hQ dX7_hasSailing_35 rfl
  have hf := (if_pos c8).symm.trans hf
  refine z_iconst (v := 1) hX dX7_hasSailing_30 (by decide) ?_
  refine z_goto hX 35 dX7_hasSailing_31 (by decide) ?_
  obtain rfl := Option.some.inj hf
  exact z_iret hX hQ dX7_hasSailing_35 rfl
set_option maxHeartbeats 4000000 in
set_option maxRecDepth 100000 in
theorem t_X7_hasSailing (X : zCx) (out : Int32 × zSt) (hX : zOk X RX7 cX7_hasSailing zr_X7_hasSailing) (hQ : zPost X 42 shM (some .boolean) (some (.int out.1)) out.2) (hnl : X.nL = 2) (st : zSt) (a0 : Int32) (hf : f_X7_hasSailing st a0 = some out) : zG 42 shM X st 0 [(0, .ref (X.ad 0)), (1, .int a0)] [] := by
  unfold f_X7_hasSailing at hf
  refine z_aload_n hX 0 dX7_hasSailing_0 rfl rfl ?_
  refine z_iload_n hX 1 dX7_hasSailing_1 rfl rfl ?_
  refine z_iconst (v := 0) hX dX7_hasSailing_2 (by decide) ?_
  refine z_aload_n hX 0 dX7_hasSailing_3 rfl rfl ?_
  refine z_getI hX 0 19 dX7_hasSailing_4 (by decide) shM_0 rfl rfl zin_X7 (by decide) zm_799 ?_
  refine z_iconst (v := 1) hX dX7_hasSailing_7 (by decide) ?_
  refine z_isub hX dX7_hasSailing_8 ?_
  obtain ⟨q1, e2, hf⟩ := zbind hf
  refine z_callS (stk := [.ref (X.ad 0)]) (stk' := [.int q1.1, .ref (X.ad 0)]) hX (c_X7_in X.l st a0 0 ((st.1 0 19) - 1) q1 e2) zb_X7_in dX7_hasSailing_9 zm_951 rfl rfl rfl ⟨by decide, by decide⟩ ⟨rfl, rfl⟩ (Nat.le_of_ble_eq_true rfl) rfl ?_
  refine z_if_eq hX 19 dX7_hasSailing_12 (by decide) (fun c3 => ?_) (fun c3 => ?_)
  · have hf := (if_pos c3).symm.trans hf
    refine z_iconst (v := 1) hX dX7_hasSailing_19 (by decide) ?_
    refine z_putI hX 0 52 dX7_hasSailing_20 (by decide) shM_0 rfl rfl zin_X7 tyX7_ok nmX7 (by decide) zm_832 rfl rfl ?_
    obtain ⟨s4, h5, hf⟩ := zlet_ex hf
    refine z_name h5 ?_
    refine z_locals [0] [(0, .ref (X.ad 0))] rfl ?_
    exact t_X7_hasSailing_23 X out hX hQ hnl s4 hf
  have hf := (if_neg c3).symm.trans hf
  refine z_iconst (v := 0) hX dX7_hasSailing_15 (by decide) ?_
  refine z_goto hX 20 dX7_hasSailing_16 (by decide) ?_
  refine z_putI hX 0 52 dX7_hasSailing_20 (by decide) shM_0 rfl rfl zin_X7 tyX7_ok nmX7 (by decide) zm_832 rfl rfl ?_
  obtain ⟨s6, h7, hf⟩ := zlet_ex hf
  refine z_name h7 ?_
  refine z_locals [0] [(0, .ref (X.ad 0))] rfl ?_
  exact t_X7_hasSailing_23 X out hX hQ hnl s6 hf
theorem zb_X7_hasSailing : zCal yX7_hasSailing cX7_hasSailing 2 (some .boolean) 1 := ⟨zm_1020, (zws_X7_hasSailing), zm_8, zm_1021, by decide, by decide, rfl⟩
theorem c_X7_hasSailing (l : Launch) (st : zSt) (a0 : Int32) (out : Int32 × zSt) (hf : f_X7_hasSailing st a0 = some out) : zMet l yX7_hasSailing cX7_hasSailing 2 (some .boolean) zr_X7_hasSailing 42 shM (fun ad => [.ref (ad 0), .int a0]) st (fun ad => some (.int out.1)) out.2 :=
  zmet_of (by decide +kernel) (fun _ => Nat.le_of_ble_eq_true rfl) (fun X _ hnl hX hQ => t_X7_hasSailing X out hX hQ hnl st a0 hf)
abbrev zr_X7_hasBooking : Room := { frames := 1, cells := 0, slots := 0, locals := 22 }
def f_X7_hasBooking_23  (st : zSt)  : Option (Int32 × zSt) := (if (st.1 0 52) = 0 then some (1, st) else some (0, st))
def f_X7_hasBooking (st : zSt) (a0 : Int32) : Option (Int32 × zSt) := ((f_X7_in st a0 0 ((st.1 0 30) - 1)).bind fun q1 => (if q1.1 = 0 then (zlet (zwI q1.2 0 52 1) fun s4 => f_X7_hasBooking_23 s4) else (zlet (zwI q1.2 0 52 0) fun s6 => f_X7_hasBooking_23 s6)))
set_option maxHeartbeats 4000000 in
set_option maxRecDepth 100000 in
theorem t_X7_hasBooking_23 (X : zCx) (out : Int32 × zSt) (hX : zOk X RX7 cX7_hasBooking zr_X7_hasBooking) (hQ : zPost X 42 shM (some .boolean) (some (.int out.1)) out.2) (hnl : X.nL = 2) (st : zSt)  (hf : f_X7_hasBooking_23  st  = some out) : zG 42 shM X st 23 [(0, .ref (X.ad 0))] [] := by
  unfold f_X7_hasBooking_23 at hf
  refine z_aload_n hX 0 dX7_hasBooking_23 rfl rfl ?_
  refine z_getI hX 0 52 dX7_hasBooking_24 (by decide) shM_0 rfl rfl zin_X7 (by decide) zm_832 ?_
  refine z_if_ne hX 34 dX7_hasBooking_27 (by decide) (fun c8 => ?_) (fun c8 => ?_)
  · have hf := (if_neg c8).symm.trans hf
    refine z_iconst (v := 0) hX dX7_hasBooking_34 (by decide) ?_
    obtain rfl := Option.some.inj hf
    exact z_iret hX hQ dX7_hasBooking_35 rfl
  have hf := (if_pos c8).symm.trans hf
  refine z_iconst (v := 1) hX dX7_hasBooking_30 (by decide) ?_
  refine z_goto hX 35 dX7_hasBooking_31 (by decide) ?_
  obtain rfl := Option.some.inj hf
  exact z_iret hX hQ dX7_hasBooking_35 rfl
set_option maxHeartbeats 4000000 in
set_option maxRecDepth 100000 in
theorem t_X7_hasBooking (X : zCx) (out : Int32 × zSt) (hX : zOk X RX7 cX7_hasBooking zr_X7_hasBooking) (hQ : zPost X 42 shM (some .boolean) (some (.int out.1)) out.2) (hnl : X.nL = 2) (st : zSt) (a0 : Int32) (hf : f_X7_hasBooking st a0 = some out) : zG 42 shM X st 0 [(0, .ref (X.ad 0)), (1, .int a0)] [] := by
  unfold f_X7_hasBooking at hf
  refine z_aload_n hX 0 dX7_hasBooking_0 rfl rfl ?_
  refine z_iload_n hX 1 dX7_hasBooking_1 rfl rfl ?_
  refine z_iconst (v := 0) hX dX7_hasBooking_2 (by decide) ?_
  refine z_aload_n hX 0 dX7_hasBooking_3 rfl rfl ?_
  refine z_getI hX 0 30 dX7_hasBooking_4 (by decide) shM_0 rfl rfl zin_X7 (by decide) zm_810 ?_
  refine z_iconst (v := 1) hX dX7_hasBooking_7 (by decide) ?_
  refine z_isub hX dX7_hasBooking_8 ?_
  obtain ⟨q1, e2, hf⟩ := zbind hf
  refine z_callS (stk := [.ref (X.ad 0)]) (stk' := [.int q1.1, .ref (X.ad 0)]) hX (c_X7_in X.l st a0 0 ((st.1 0 30) - 1) q1 e2) zb_X7_in dX7_hasBooking_9 zm_951 rfl rfl rfl ⟨by decide, by decide⟩ ⟨rfl, rfl⟩ (Nat.le_of_ble_eq_true rfl) rfl ?_
  refine z_if_eq hX 19 dX7_hasBooking_12 (by decide) (fun c3 => ?_) (fun c3 => ?_)
  · have hf := (if_pos c3).symm.trans hf
    refine z_iconst (v := 1) hX dX7_hasBooking_19 (by decide) ?_
    refine z_putI hX 0 52 dX7_hasBooking_20 (by decide) shM_0 rfl rfl zin_X7 tyX7_ok nmX7 (by decide) zm_832 rfl rfl ?_
    obtain ⟨s4, h5, hf⟩ := zlet_ex hf
    refine z_name h5 ?_
    refine z_locals [0] [(0, .ref (X.ad 0))] rfl ?_
    exact t_X7_hasBooking_23 X out hX hQ hnl s4 hf
  have hf := (if_neg c3).symm.trans hf
  refine z_iconst (v := 0) hX dX7_hasBooking_15 (by decide) ?_
  refine z_goto hX 20 dX7_hasBooking_16 (by decide) ?_
  refine z_putI hX 0 52 dX7_hasBooking_20 (by decide) shM_0 rfl rfl zin_X7 tyX7_ok nmX7 (by decide) zm_832 rfl rfl ?_
  obtain ⟨s6, h7, hf⟩ := zlet_ex hf
  refine z_name h7 ?_
  refine z_locals [0] [(0, .ref (X.ad 0))] rfl ?_
  exact t_X7_hasBooking_23 X out hX hQ hnl s6 hf
theorem zb_X7_hasBooking : zCal yX7_hasBooking cX7_hasBooking 2 (some .boolean) 1 := ⟨zm_1120, (zws_X7_hasBooking), zm_8, zm_1121, by decide, by decide, rfl⟩
theorem c_X7_hasBooking (l : Launch) (st : zSt) (a0 : Int32) (out : Int32 × zSt) (hf : f_X7_hasBooking st a0 = some out) : zMet l yX7_hasBooking cX7_hasBooking 2 (some .boolean) zr_X7_hasBooking 42 shM (fun ad => [.ref (ad 0), .int a0]) st (fun ad => some (.int out.1)) out.2 :=
  zmet_of (by decide +kernel) (fun _ => Nat.le_of_ble_eq_true rfl) (fun X _ hnl hX hQ => t_X7_hasBooking X out hX hQ hnl st a0 hf)
abbrev zr_X7_ship : Room := { frames := 2, cells := 0, slots := 0, locals := 42 }
def f_X7_ship_98  (st : zSt) (v1 : Int32) (v2 : Int32) (v3 : Int32) (v4 : Int32) (v5 : Int32) (v6 : Int32) : Option (Int32 × zSt) := (if (st.1 0 52) ≤ 0 then (if zin (st.1 0 1) 4 then (zlet (zwI st 1 (st.1 0 1).toNatClampNeg v1) fun s41 => (if zin (s41.1 0 1) 4 then (zlet (zwI s41 2 (s41.1 0 1).toNatClampNeg v2) fun s44 => (if zin (s44.1 0 1) 4 then (zlet (zwI s44 3 (s44.1 0 1).toNatClampNeg v3) fun s47 => (if zin (s47.1 0 1) 4 then (zlet (zwI s47 4 (s47.1 0 1).toNatClampNeg v4) fun s50 => (if zin (s50.1 0 1) 4 then (zlet (zwI s50 5 (s50.1 0 1).toNatClampNeg v5) fun s53 => (if zin (s53.1 0 1) 4 then (zlet (zwI s53 6 (s53.1 0 1).toNatClampNeg v6) fun s56 => (zlet (zwI s56 0 1 ((s56.1 0 1) + 1)) fun s58 => some (((s58.1 0 1) - 1), s58))) else none)) else none)) else none)) else none)) else none)) else none) else some (0, st))
def f_X7_ship_16  (st : zSt) (v1 : Int32) (v2 : Int32) (v3 : Int32) (v4 : Int32) (v5 : Int32) (v6 : Int32) : Option (Int32 × zSt) := (if (st.1 0 52) = 0 then ((f_X7_in st v2 1 4).bind fun q9 => (if q9.1 = 0 then (zlet (zwI q9.2 0 52 2) fun s12 => f_X7_ship_98 s12 v1 v2 v3 v4 v5 v6) else ((f_X7_in q9.2 v3 10 100).bind fun q14 => (if q14.1 = 0 then (zlet (zwI q14.2 0 52 2) fun s17 => f_X7_ship_98 s17 v1 v2 v3 v4 v5 v6) else ((f_X7_in q14.2 v4 1 1000).bind fun q19 => (if q19.1 = 0 then (zlet (zwI q19.2 0 52 2) fun s22 => f_X7_ship_98 s22 v1 v2 v3 v4 v5 v6) else ((f_X7_in q19.2 v5 1 9).bind fun q24 => (if q24.1 = 0 then (zlet (zwI q24.2 0 52 2) fun s27 => f_X7_ship_98 s27 v1 v2 v3 v4 v5 v6) else ((f_X7_in q24.2 v6 1 40).bind fun q29 => (if q29.1 = 0 then (zlet (zwI q29.2 0 52 2) fun s37 => f_X7_ship_98 s37 v1 v2 v3 v4 v5 v6) else (if (q29.2.1 0 1) = 4 then (zlet (zwI q29.2 0 52 3) fun s35 => f_X7_ship_98 s35 v1 v2 v3 v4 v5 v6) else (zlet (zwI q29.2 0 52 0) fun s33 => f_X7_ship_98 s33 v1 v2 v3 v4 v5 v6)))))))))))) else f_X7_ship_98 st v1 v2 v3 v4 v5 v6)
def f_X7_ship (st : zSt) (a0 : Int32) (a1 : Int32) (a2 : Int32) (a3 : Int32) (a4 : Int32) (a5 : Int32) : Option (Int32 × zSt) := ((f_X7_isIsland st a0).bind fun q1 => (if q1.1 = 0 then (zlet (zwI q1.2 0 52 1) fun s6 => f_X7_ship_16 s6 a0 a1 a2 a3 a4 a5) else (zlet (zwI q1.2 0 52 0) fun s4 => f_X7_ship_16 s4 a0 a1 a2 a3 a4 a5)))
set_option maxHeartbeats 4000000 in
set_option maxRecDepth 100000 in
theorem t_X7_ship_98 (X : zCx) (out : Int32 × zSt) (hX : zOk X RX7 cX7_ship zr_X7_ship) (hQ : zPost X 42 shM (some .int) (some (.int out.1)) out.2) (hnl : X.nL = 7) (st : zSt) (v1 : Int32) (v2 : Int32) (v3 : Int32) (v4 : Int32) (v5 : Int32) (v6 : Int32) (hf : f_X7_ship_98  st v1 v2 v3 v4 v5 v6 = some out) : zG 42 shM X st 98 [(0, .ref (X.ad 0)), (1, .int v1), (2, .int v2), (3, .int v3), (4, .int v4), (5, .int v5), (6, .int v6)] [] := by
  unfold f_X7_ship_98 at hf
  refine z_aload_n hX 0 dX7_ship_98 rfl rfl ?_
  refine z_getI hX 0 52 dX7_ship_99 (by decide) shM_0 rfl rfl zin_X7 (by decide) zm_832 ?_
  refine z_if_le hX 107 dX7_ship_102 (by decide) (fun c39 => ?_) (fun c39 => ?_)
  · have hf := (if_pos c39).symm.trans hf
    refine z_aload_n hX 0 dX7_ship_107 rfl rfl ?_
    refine z_getR hX 0 2 1 dX7_ship_108 (by decide) shM_0 rfl rfl zin_X7 (by decide) zm_782 ?_
    refine z_aload_n hX 0 dX7_ship_111 rfl rfl ?_
    refine z_getI hX 0 1 dX7_ship_112 (by decide) shM_0 rfl rfl zin_X7 (by decide) zm_781 ?_
    refine z_iload_n hX 1 dX7_ship_115 rfl rfl ?_
    obtain ⟨i40, hf⟩ := zifd hf
    refine z_iast hX 1 dX7_ship_116 (by decide) shM_1 i40 ?_
    obtain ⟨s41, h42, hf⟩ := zlet_ex hf
    refine z_name h42 ?_
    refine z_aload_n hX 0 dX7_ship_117 rfl rfl ?_
    refine z_getR hX 0 3 2 dX7_ship_118 (by decide) shM_0 rfl rfl zin_X7 (by decide) zm_783 ?_
    refine z_aload_n hX 0 dX7_ship_121 rfl rfl ?_
    refine z_getI hX 0 1 dX7_ship_122 (by decide) shM_0 rfl rfl zin_X7 (by decide) zm_781 ?_
    refine z_iload_n hX 2 dX7_ship_125 rfl rfl ?_
    obtain ⟨i43, hf⟩ := zifd hf
    refine z_iast hX 2 dX7_ship_126 (by decide) shM_2 i43 ?_
    obtain ⟨s44, h45, hf⟩ := zlet_ex hf
    refine z_name h45 ?_
    refine z_aload_n hX 0 dX7_ship_127 rfl rfl ?_
    refine z_getR hX 0 4 3 dX7_ship_128 (by decide) shM_0 rfl rfl zin_X7 (by decide) zm_784 ?_
    refine z_aload_n hX 0 dX7_ship_131 rfl rfl ?_
    refine z_getI hX 0 1 dX7_ship_132 (by decide) shM_0 rfl rfl zin_X7 (by decide) zm_781 ?_
    refine z_iload_n hX 3 dX7_ship_135 rfl rfl ?_
    obtain ⟨i46, hf⟩ := zifd hf
    refine z_iast hX 3 dX7_ship_136 (by decide) shM_3 i46 ?_
    obtain ⟨s47, h48, hf⟩ := zlet_ex hf
    refine z_name h48 ?_
    refine z_aload_n hX 0 dX7_ship_137 rfl rfl ?_
    refine z_getR hX 0 5 4 dX7_ship_138 (by decide) shM_0 rfl rfl zin_X7 (by decide) zm_785 ?_
    refine z_aload_n hX 0 dX7_ship_141 rfl rfl ?_
    refine z_getI hX 0 1 dX7_ship_142 (by decide) shM_0 rfl rfl zin_X7 (by decide) zm_781 ?_
    refine z_iload hX 4 dX7_ship_145 rfl ?_
    obtain ⟨i49, hf⟩ := zifd hf
    refine z_iast hX 4 dX7_ship_147 (by decide) shM_4 i49 ?_
    obtain ⟨s50, h51, hf⟩ := zlet_ex hf
    refine z_name h51 ?_
    refine z_aload_n hX 0 dX7_ship_148 rfl rfl ?_
    refine z_getR hX 0 6 5 dX7_ship_149 (by decide) shM_0 rfl rfl zin_X7 (by decide) zm_786 ?_
    refine z_aload_n hX 0 dX7_ship_152 rfl rfl ?_
    refine z_getI hX 0 1 dX7_ship_153 (by decide) shM_0 rfl rfl zin_X7 (by decide) zm_781 ?_
    refine z_iload hX 5 dX7_ship_156 rfl ?_
    obtain ⟨i52, hf⟩ := zifd hf
    refine z_iast hX 5 dX7_ship_158 (by decide) shM_5 i52 ?_
    obtain ⟨s53, h54, hf⟩ := zlet_ex hf
    refine z_name h54 ?_
    refine z_aload_n hX 0 dX7_ship_159 rfl rfl ?_
    refine z_getR hX 0 7 6 dX7_ship_160 (by decide) shM_0 rfl rfl zin_X7 (by decide) zm_787 ?_
    refine z_aload_n hX 0 dX7_ship_163 rfl rfl ?_
    refine z_getI hX 0 1 dX7_ship_164 (by decide) shM_0 rfl rfl zin_X7 (by decide) zm_781 ?_
    refine z_iload hX 6 dX7_ship_167 rfl ?_
    obtain ⟨i55, hf⟩ := zifd hf
    refine z_iast hX 6 dX7_ship_169 (by decide) shM_6 i55 ?_
    obtain ⟨s56, h57, hf⟩ := zlet_ex hf
    refine z_name h57 ?_
    refine z_aload_n hX 0 dX7_ship_170 rfl rfl ?_
    refine z_dup hX dX7_ship_171 rfl ?_
    refine z_getI hX 0 1 dX7_ship_172 (by decide) shM_0 rfl rfl zin_X7 (by decide) zm_781 ?_
    refine z_iconst (v := 1) hX dX7_ship_175 (by decide) ?_
    refine z_iadd hX dX7_ship_176 ?_
    refine z_putI hX 0 1 dX7_ship_177 (by decide) shM_0 rfl rfl zin_X7 tyX7_ok nmX7 (by decide) zm_781 rfl rfl ?_
    obtain ⟨s58, h59, hf⟩ := zlet_ex hf
    refine z_name h59 ?_
    refine z_aload_n hX 0 dX7_ship_180 rfl rfl ?_
    refine z_getI hX 0 1 dX7_ship_181 (by decide) shM_0 rfl rfl zin_X7 (by decide) zm_781 ?_
    refine z_iconst (v := 1) hX dX7_ship_184 (by decide) ?_
    refine z_isub hX dX7_ship_185 ?_
    obtain rfl := Option.some.inj hf
    exact z_iret hX hQ dX7_ship_186 rfl
  have hf := (if_neg c39).symm.trans hf
  refine z_iconst (v := 0) hX dX7_ship_105 (by decide) ?_
  obtain rfl := Option.some.inj hf
  exact z_iret hX hQ dX7_ship_106 rfl
set_option maxHeartbeats 4000000 in
set_option maxRecDepth 100000 in
theorem t_X7_ship_16 (X : zCx) (out : Int32 × zSt) (hX : zOk X RX7 cX7_ship zr_X7_ship) (hQ : zPost X 42 shM (some .int) (some (.int out.1)) out.2) (hnl : X.nL = 7) (st : zSt) (v1 : Int32) (v2 : Int32) (v3 : Int32) (v4 : Int32) (v5 : Int32) (v6 : Int32) (hf : f_X7_ship_16  st v1 v2 v3 v4 v5 v6 = some out) : zG 42 shM X st 16 [(0, .ref (X.ad 0)), (1, .int v1), (2, .int v2), (3, .int v3), (4, .int v4), (5, .int v5), (6, .int v6)] [] := by
  unfold f_X7_ship_16 at hf
  refine z_aload_n hX 0 dX7_ship_16 rfl rfl ?_
  refine z_getI hX 0 52 dX7_ship_17 (by decide) shM_0 rfl rfl zin_X7 (by decide) zm_832 ?_
  refine z_if_ne hX 98 dX7_ship_20 (by decide) (fun c8 => ?_) (fun c8 => ?_)
  · have hf := (if_neg c8).symm.trans hf
    exact t_X7_ship_98 X out hX hQ hnl st v1 v2 v3 v4 v5 v6 hf
  have hf := (if_pos c8).symm.trans hf
  refine z_aload_n hX 0 dX7_ship_23 rfl rfl ?_
  refine z_iload_n hX 2 dX7_ship_24 rfl rfl ?_
  refine z_iconst (v := 1) hX dX7_ship_25 (by decide) ?_
  refine z_iconst (v := 4) hX dX7_ship_26 (by decide) ?_
  obtain ⟨q9, e10, hf⟩ := zbind hf
  refine z_callS (stk := [.ref (X.ad 0)]) (stk' := [.int q9.1, .ref (X.ad 0)]) hX (c_X7_in X.l st v2 1 4 q9 e10) zb_X7_in dX7_ship_27 zm_951 rfl rfl rfl ⟨by decide, by decide⟩ ⟨rfl, rfl⟩ (Nat.le_of_ble_eq_true rfl) rfl ?_
  refine z_if_eq hX 78 dX7_ship_30 (by decide) (fun c11 => ?_) (fun c11 => ?_)
  · have hf := (if_pos c11).symm.trans hf
    refine z_iconst (v := 2) hX dX7_ship_78 (by decide) ?_
    refine z_goto hX 95 dX7_ship_79 (by decide) ?_
    refine z_putI hX 0 52 dX7_ship_95 (by decide) shM_0 rfl rfl zin_X7 tyX7_ok nmX7 (by decide) zm_832 rfl rfl ?_
    obtain ⟨s12, h13, hf⟩ := zlet_ex hf
    refine z_name h13 ?_
    exact t_X7_ship_98 X out hX hQ hnl s12 v1 v2 v3 v4 v5 v6 hf
  have hf := (if_neg c11).symm.trans hf
  refine z_iload_n hX 3 dX7_ship_33 rfl rfl ?_
  refine z_bipush (v := 10) hX dX7_ship_34 (by decide) ?_
  refine z_bipush (v := 100) hX dX7_ship_36 (by decide) ?_
  obtain ⟨q14, e15, hf⟩ := zbind hf
  refine z_callS (stk := [.ref (X.ad 0)]) (stk' := [.int q14.1, .ref (X.ad 0)]) hX (c_X7_in X.l q9.2 v3 10 100 q14 e15) zb_X7_in dX7_ship_38 zm_951 rfl rfl rfl ⟨by decide, by decide⟩ ⟨rfl, rfl⟩ (Nat.le_of_ble_eq_true rfl) rfl ?_
  refine z_if_eq hX 78 dX7_ship_41 (by decide) (fun c16 => ?_) (fun c16 => ?_)
  · have hf := (if_pos c16).symm.trans hf
    refine z_iconst (v := 2) hX dX7_ship_78 (by decide) ?_
    refine z_goto hX 95 dX7_ship_79 (by decide) ?_
    refine z_putI hX 0 52 dX7_ship_95 (by decide) shM_0 rfl rfl zin_X7 tyX7_ok nmX7 (by decide) zm_832 rfl rfl ?_
    obtain ⟨s17, h18, hf⟩ := zlet_ex hf
    refine z_name h18 ?_
    exact t_X7_ship_98 X out hX hQ hnl s17 v1 v2 v3 v4 v5 v6 hf
  have hf := (if_neg c16).symm.trans hf
  refine z_iload hX 4 dX7_ship_44 rfl ?_
  refine z_iconst (v := 1) hX dX7_ship_46 (by decide) ?_
  refine z_sipush (v := 1000) hX dX7_ship_47 (by decide) ?_
  obtain ⟨q19, e20, hf⟩ := zbind hf
  refine z_callS (stk := [.ref (X.ad 0)]) (stk' := [.int q19.1, .ref (X.ad 0)]) hX (c_X7_in X.l q14.2 v4 1 1000 q19 e20) zb_X7_in dX7_ship_50 zm_951 rfl rfl rfl ⟨by decide, by decide⟩ ⟨rfl, rfl⟩ (Nat.le_of_ble_eq_true rfl) rfl ?_
  refine z_if_eq hX 78 dX7_ship_53 (by decide) (fun c21 => ?_) (fun c21 => ?_)
  · have hf := (if_pos c21).symm.trans hf
    refine z_iconst (v := 2) hX dX7_ship_78 (by decide) ?_
    refine z_goto hX 95 dX7_ship_79 (by decide) ?_
    refine z_putI hX 0 52 dX7_ship_95 (by decide) shM_0 rfl rfl zin_X7 tyX7_ok nmX7 (by decide) zm_832 rfl rfl ?_
    obtain ⟨s22, h23, hf⟩ := zlet_ex hf
    refine z_name h23 ?_
    exact t_X7_ship_98 X out hX hQ hnl s22 v1 v2 v3 v4 v5 v6 hf
  have hf := (if_neg c21).symm.trans hf
  refine z_iload hX 5 dX7_ship_56 rfl ?_
  refine z_iconst (v := 1) hX dX7_ship_58 (by decide) ?_
  refine z_bipush (v := 9) hX dX7_ship_59 (by decide) ?_
  obtain ⟨q24, e25, hf⟩ := zbind hf
  refine z_callS (stk := [.ref (X.ad 0)]) (stk' := [.int q24.1, .ref (X.ad 0)]) hX (c_X7_in X.l q19.2 v5 1 9 q24 e25) zb_X7_in dX7_ship_61 zm_951 rfl rfl rfl ⟨by decide, by decide⟩ ⟨rfl, rfl⟩ (Nat.le_of_ble_eq_true rfl) rfl ?_
  refine z_if_eq hX 78 dX7_ship_64 (by decide) (fun c26 => ?_) (fun c26 => ?_)
  · have hf := (if_pos c26).symm.trans hf
    refine z_iconst (v := 2) hX dX7_ship_78 (by decide) ?_
    refine z_goto hX 95 dX7_ship_79 (by decide) ?_
    refine z_putI hX 0 52 dX7_ship_95 (by decide) shM_0 rfl rfl zin_X7 tyX7_ok nmX7 (by decide) zm_832 rfl rfl ?_
    obtain ⟨s27, h28, hf⟩ := zlet_ex hf
    refine z_name h28 ?_
    exact t_X7_ship_98 X out hX hQ hnl s27 v1 v2 v3 v4 v5 v6 hf
  have hf := (if_neg c26).symm.trans hf
  refine z_iload hX 6 dX7_ship_67 rfl ?_
  refine z_iconst (v := 1) hX dX7_ship_69 (by decide) ?_
  refine z_bipush (v := 40) hX dX7_ship_70 (by decide) ?_
  obtain ⟨q29, e30, hf⟩ := zbind hf
  refine z_callS (stk := [.ref (X.ad 0)]) (stk' := [.int q29.1, .ref (X.ad 0)]) hX (c_X7_in X.l q24.2 v6 1 40 q29 e30) zb_X7_in dX7_ship_72 zm_951 rfl rfl rfl ⟨by decide, by decide⟩ ⟨rfl, rfl⟩ (Nat.le_of_ble_eq_true rfl) rfl ?_
  refine z_if_ne hX 82 dX7_ship_75 (by decide) (fun c31 => ?_) (fun c31 => ?_)
  · have hf := (if_neg c31).symm.trans hf
    refine z_aload_n hX 0 dX7_ship_82 rfl rfl ?_
    refine z_getI hX 0 1 dX7_ship_83 (by decide) shM_0 rfl rfl zin_X7 (by decide) zm_781 ?_
    refine z_iconst (v := 4) hX dX7_ship_86 (by decide) ?_
    refine z_icmp_ne hX 94 dX7_ship_87 (by decide) (fun c32 => ?_) (fun c32 => ?_)
    · have hf := (if_neg c32).symm.trans hf
      refine z_iconst (v := 0) hX dX7_ship_94 (by decide) ?_
      refine z_putI hX 0 52 dX7_ship_95 (by decide) shM_0 rfl rfl zin_X7 tyX7_ok nmX7 (by decide) zm_832 rfl rfl ?_
      obtain ⟨s33, h34, hf⟩ := zlet_ex hf
      refine z_name h34 ?_
      exact t_X7_ship_98 X out hX hQ hnl s33 v1 v2 v3 v4 v5 v6 hf
    have hf := (if_pos c32).symm.trans hf
    refine z_iconst (v := 3) hX dX7_ship_90 (by decide) ?_
    refine z_goto hX 95 dX7_ship_91 (by decide) ?_
    refine z_putI hX 0 52 dX7_ship_95 (by decide) shM_0 rfl rfl zin_X7 tyX7_ok nmX7 (by decide) zm_832 rfl rfl ?_
    obtain ⟨s35, h36, hf⟩ := zlet_ex hf
    refine z_name h36 ?_
    exact t_X7_ship_98 X out hX hQ hnl s35 v1 v2 v3 v4 v5 v6 hf
  have hf := (if_pos c31).symm.trans hf
  refine z_iconst (v := 2) hX dX7_ship_78 (by decide) ?_
  refine z_goto hX 95 dX7_ship_79 (by decide) ?_
  refine z_putI hX 0 52 dX7_ship_95 (by decide) shM_0 rfl rfl zin_X7 tyX7_ok nmX7 (by decide) zm_832 rfl rfl ?_
  obtain ⟨s37, h38, hf⟩ := zlet_ex hf
  refine z_name h38 ?_
  exact t_X7_ship_98 X out hX hQ hnl s37 v1 v2 v3 v4 v5 v6 hf
set_option maxHeartbeats 4000000 in
set_option maxRecDepth 100000 in
theorem t_X7_ship (X : zCx) (out : Int32 × zSt) (hX : zOk X RX7 cX7_ship zr_X7_ship) (hQ : zPost X 42 shM (some .int) (some (.int out.1)) out.2) (hnl : X.nL = 7) (st : zSt) (a0 : Int32) (a1 : Int32) (a2 : Int32) (a3 : Int32) (a4 : Int32) (a5 : Int32) (hf : f_X7_ship st a0 a1 a2 a3 a4 a5 = some out) : zG 42 shM X st 0 [(0, .ref (X.ad 0)), (1, .int a0), (2, .int a1), (3, .int a2), (4, .int a3), (5, .int a4), (6, .int a5)] [] := by
  unfold f_X7_ship at hf
  refine z_aload_n hX 0 dX7_ship_0 rfl rfl ?_
  refine z_iload_n hX 1 dX7_ship_1 rfl rfl ?_
  obtain ⟨q1, e2, hf⟩ := zbind hf
  refine z_callS (stk := [.ref (X.ad 0)]) (stk' := [.int q1.1, .ref (X.ad 0)]) hX (c_X7_isIsland X.l st a0 q1 e2) zb_X7_isIsland dX7_ship_2 zm_948 rfl rfl rfl ⟨by decide, by decide⟩ ⟨rfl, rfl⟩ (Nat.le_of_ble_eq_true rfl) rfl ?_
  refine z_if_ne hX 12 dX7_ship_5 (by decide) (fun c3 => ?_) (fun c3 => ?_)
  · have hf := (if_neg c3).symm.trans hf
    refine z_iconst (v := 0) hX dX7_ship_12 (by decide) ?_
    refine z_putI hX 0 52 dX7_ship_13 (by decide) shM_0 rfl rfl zin_X7 tyX7_ok nmX7 (by decide) zm_832 rfl rfl ?_
    obtain ⟨s4, h5, hf⟩ := zlet_ex hf
    refine z_name h5 ?_
    exact t_X7_ship_16 X out hX hQ hnl s4 a0 a1 a2 a3 a4 a5 hf
  have hf := (if_pos c3).symm.trans hf
  refine z_iconst (v := 1) hX dX7_ship_8 (by decide) ?_
  refine z_goto hX 13 dX7_ship_9 (by decide) ?_
  refine z_putI hX 0 52 dX7_ship_13 (by decide) shM_0 rfl rfl zin_X7 tyX7_ok nmX7 (by decide) zm_832 rfl rfl ?_
  obtain ⟨s6, h7, hf⟩ := zlet_ex hf
  refine z_name h7 ?_
  exact t_X7_ship_16 X out hX hQ hnl s6 a0 a1 a2 a3 a4 a5 hf
theorem zb_X7_ship : zCal yX7_ship cX7_ship 7 (some .int) 6 := ⟨zm_945, (zwl_in zm_946 rfl), zm_8, zm_947, by decide, by decide, rfl⟩
theorem c_X7_ship (l : Launch) (st : zSt) (a0 : Int32) (a1 : Int32) (a2 : Int32) (a3 : Int32) (a4 : Int32) (a5 : Int32) (out : Int32 × zSt) (hf : f_X7_ship st a0 a1 a2 a3 a4 a5 = some out) : zMet l yX7_ship cX7_ship 7 (some .int) zr_X7_ship 42 shM (fun ad => [.ref (ad 0), .int a0, .int a1, .int a2, .int a3, .int a4, .int a5]) st (fun ad => some (.int out.1)) out.2 :=
  zmet_of (by decide +kernel) (fun _ => Nat.le_of_ble_eq_true rfl) (fun X _ hnl hX hQ => t_X7_ship X out hX hQ hnl st a0 a1 a2 a3 a4 a5 hf)
abbrev zr_X7_fill : Room := { frames := 2, cells := 0, slots := 0, locals := 43 }
def f_X7_fill_50  (st : zSt) (v1 : Int32) (v2 : Int32) : Option (Int32 × zSt) := (if (st.1 0 52) ≤ 0 then (if zin v1 4 then (if zin v1 4 then (zlet (zwI st 7 v1.toNatClampNeg ((st.1 7 v1.toNatClampNeg) + v2)) fun s20 => (zlet (zwL s20 0 51 ((s20.2 0 51) - (3 * ((v2).toInt64)))) fun s22 => (if zin v1 4 then some ((s22.1 7 v1.toNatClampNeg), s22) else none))) else none) else none) else some (0, st))
def f_X7_fill (st : zSt) (a0 : Int32) (a1 : Int32) : Option (Int32 × zSt) := ((f_X7_isShip st a0).bind fun q1 => (if q1.1 = 0 then (zlet (zwI q1.2 0 52 1) fun s15 => f_X7_fill_50 s15 a0 a1) else ((f_X7_in q1.2 a1 1 1000).bind fun q4 => (if q4.1 = 0 then (zlet (zwI q4.2 0 52 2) fun s13 => f_X7_fill_50 s13 a0 a1) else (if zin a0 4 then (if ((q4.2.1 7 a0.toNatClampNeg) + a1) ≤ 1000 then (zlet (zwI q4.2 0 52 0) fun s9 => f_X7_fill_50 s9 a0 a1) else (zlet (zwI q4.2 0 52 3) fun s11 => f_X7_fill_50 s11 a0 a1)) else none)))))
set_option maxHeartbeats 4000000 in
set_option maxRecDepth 100000 in
theorem t_X7_fill_50 (X : zCx) (out : Int32 × zSt) (hX : zOk X RX7 cX7_fill zr_X7_fill) (hQ : zPost X 42 shM (some .int) (some (.int out.1)) out.2) (hnl : X.nL = 3) (st : zSt) (v1 : Int32) (v2 : Int32) (hf : f_X7_fill_50  st v1 v2 = some out) : zG 42 shM X st 50 [(0, .ref (X.ad 0)), (1, .int v1), (2, .int v2)] [] := by
  unfold f_X7_fill_50 at hf
  refine z_aload_n hX 0 dX7_fill_50 rfl rfl ?_
  refine z_getI hX 0 52 dX7_fill_51 (by decide) shM_0 rfl rfl zin_X7 (by decide) zm_832 ?_
  refine z_if_le hX 59 dX7_fill_54 (by decide) (fun c17 => ?_) (fun c17 => ?_)
  · have hf := (if_pos c17).symm.trans hf
    refine z_aload_n hX 0 dX7_fill_59 rfl rfl ?_
    refine z_getR hX 0 8 7 dX7_fill_60 (by decide) shM_0 rfl rfl zin_X7 (by decide) zm_788 ?_
    refine z_iload_n hX 1 dX7_fill_63 rfl rfl ?_
    refine z_dup2 hX dX7_fill_64 rfl rfl ?_
    obtain ⟨i18, hf⟩ := zifd hf
    refine z_iald hX 7 dX7_fill_65 (by decide) shM_7 i18 ?_
    refine z_iload_n hX 2 dX7_fill_66 rfl rfl ?_
    refine z_iadd hX dX7_fill_67 ?_
    obtain ⟨i19, hf⟩ := zifd hf
    refine z_iast hX 7 dX7_fill_68 (by decide) shM_7 i19 ?_
    obtain ⟨s20, h21, hf⟩ := zlet_ex hf
    refine z_name h21 ?_
    refine z_aload_n hX 0 dX7_fill_69 rfl rfl ?_
    refine z_dup hX dX7_fill_70 rfl ?_
    refine z_getL hX 0 51 dX7_fill_71 (by decide) shM_0 rfl rfl zin_X7 (by decide) zm_831 ?_
    refine z_ldc2 (v := 3) hX dX7_fill_74 zm_962 ?_
    refine z_iload_n hX 2 dX7_fill_77 rfl rfl ?_
    refine z_i2l hX dX7_fill_78 ?_
    refine z_lmul hX dX7_fill_79 ?_
    refine z_lsub hX dX7_fill_80 ?_
    refine z_putL hX 0 51 dX7_fill_81 (by decide) shM_0 rfl rfl zin_X7 tyX7_ok nmX7 (by decide) zm_831 rfl rfl ?_
    obtain ⟨s22, h23, hf⟩ := zlet_ex hf
    refine z_name h23 ?_
    refine z_aload_n hX 0 dX7_fill_84 rfl rfl ?_
    refine z_getR hX 0 8 7 dX7_fill_85 (by decide) shM_0 rfl rfl zin_X7 (by decide) zm_788 ?_
    refine z_iload_n hX 1 dX7_fill_88 rfl rfl ?_
    obtain ⟨i24, hf⟩ := zifd hf
    refine z_iald hX 7 dX7_fill_89 (by decide) shM_7 i24 ?_
    obtain rfl := Option.some.inj hf
    exact z_iret hX hQ dX7_fill_90 rfl
  have hf := (if_neg c17).symm.trans hf
  refine z_iconst (v := 0) hX dX7_fill_57 (by decide) ?_
  obtain rfl := Option.some.inj hf
  exact z_iret hX hQ dX7_fill_58 rfl
set_option maxHeartbeats 4000000 in
set_option maxRecDepth 100000 in
theorem t_X7_fill (X : zCx) (out : Int32 × zSt) (hX : zOk X RX7 cX7_fill zr_X7_fill) (hQ : zPost X 42 shM (some .int) (some (.int out.1)) out.2) (hnl : X.nL = 3) (st : zSt) (a0 : Int32) (a1 : Int32) (hf : f_X7_fill st a0 a1 = some out) : zG 42 shM X st 0 [(0, .ref (X.ad 0)), (1, .int a0), (2, .int a1)] [] := by
  unfold f_X7_fill at hf
  refine z_aload_n hX 0 dX7_fill_0 rfl rfl ?_
  refine z_aload_n hX 0 dX7_fill_1 rfl rfl ?_
  refine z_iload_n hX 1 dX7_fill_2 rfl rfl ?_
  obtain ⟨q1, e2, hf⟩ := zbind hf
  refine z_callV (stk := [.ref (X.ad 0)]) (stk' := [.int q1.1, .ref (X.ad 0)]) hX (c_X7_isShip X.l st a0 q1 e2) zb_X7_isShip 0 dX7_fill_3 zm_958 (by decide) shM_0 rfl rfl rfl rfl ⟨by decide, by decide⟩ ⟨rfl, rfl⟩ (Nat.le_of_ble_eq_true rfl) rfl ?_
  refine z_if_ne hX 13 dX7_fill_6 (by decide) (fun c3 => ?_) (fun c3 => ?_)
  · have hf := (if_neg c3).symm.trans hf
    refine z_iload_n hX 2 dX7_fill_13 rfl rfl ?_
    refine z_iconst (v := 1) hX dX7_fill_14 (by decide) ?_
    refine z_sipush (v := 1000) hX dX7_fill_15 (by decide) ?_
    obtain ⟨q4, e5, hf⟩ := zbind hf
    refine z_callS (stk := [.ref (X.ad 0)]) (stk' := [.int q4.1, .ref (X.ad 0)]) hX (c_X7_in X.l q1.2 a1 1 1000 q4 e5) zb_X7_in dX7_fill_18 zm_951 rfl rfl rfl ⟨by decide, by decide⟩ ⟨rfl, rfl⟩ (Nat.le_of_ble_eq_true rfl) rfl ?_
    refine z_if_ne hX 28 dX7_fill_21 (by decide) (fun c6 => ?_) (fun c6 => ?_)
    · have hf := (if_neg c6).symm.trans hf
      refine z_aload_n hX 0 dX7_fill_28 rfl rfl ?_
      refine z_getR hX 0 8 7 dX7_fill_29 (by decide) shM_0 rfl rfl zin_X7 (by decide) zm_788 ?_
      refine z_iload_n hX 1 dX7_fill_32 rfl rfl ?_
      obtain ⟨i7, hf⟩ := zifd hf
      refine z_iald hX 7 dX7_fill_33 (by decide) shM_7 i7 ?_
      refine z_iload_n hX 2 dX7_fill_34 rfl rfl ?_
      refine z_iadd hX dX7_fill_35 ?_
      refine z_sipush (v := 1000) hX dX7_fill_36 (by decide) ?_
      refine z_icmp_le hX 46 dX7_fill_39 (by decide) (fun c8 => ?_) (fun c8 => ?_)
      · have hf := (if_pos c8).symm.trans hf
        refine z_iconst (v := 0) hX dX7_fill_46 (by decide) ?_
        refine z_putI hX 0 52 dX7_fill_47 (by decide) shM_0 rfl rfl zin_X7 tyX7_ok nmX7 (by decide) zm_832 rfl rfl ?_
        obtain ⟨s9, h10, hf⟩ := zlet_ex hf
        refine z_name h10 ?_
        exact t_X7_fill_50 X out hX hQ hnl s9 a0 a1 hf
      have hf := (if_neg c8).symm.trans hf
      refine z_iconst (v := 3) hX dX7_fill_42 (by decide) ?_
      refine z_goto hX 47 dX7_fill_43 (by decide) ?_
      refine z_putI hX 0 52 dX7_fill_47 (by decide) shM_0 rfl rfl zin_X7 tyX7_ok nmX7 (by decide) zm_832 rfl rfl ?_
      obtain ⟨s11, h12, hf⟩ := zlet_ex hf
      refine z_name h12 ?_
      exact t_X7_fill_50 X out hX hQ hnl s11 a0 a1 hf
    have hf := (if_pos c6).symm.trans hf
    refine z_iconst (v := 2) hX dX7_fill_24 (by decide) ?_
    refine z_goto hX 47 dX7_fill_25 (by decide) ?_
    refine z_putI hX 0 52 dX7_fill_47 (by decide) shM_0 rfl rfl zin_X7 tyX7_ok nmX7 (by decide) zm_832 rfl rfl ?_
    obtain ⟨s13, h14, hf⟩ := zlet_ex hf
    refine z_name h14 ?_
    exact t_X7_fill_50 X out hX hQ hnl s13 a0 a1 hf
  have hf := (if_pos c3).symm.trans hf
  refine z_iconst (v := 1) hX dX7_fill_9 (by decide) ?_
  refine z_goto hX 47 dX7_fill_10 (by decide) ?_
  refine z_putI hX 0 52 dX7_fill_47 (by decide) shM_0 rfl rfl zin_X7 tyX7_ok nmX7 (by decide) zm_832 rfl rfl ?_
  obtain ⟨s15, h16, hf⟩ := zlet_ex hf
  refine z_name h16 ?_
  exact t_X7_fill_50 X out hX hQ hnl s15 a0 a1 hf
theorem zb_X7_fill : zCal yX7_fill cX7_fill 3 (some .int) 2 := ⟨zm_955, (zwl_in zm_956 rfl), zm_8, zm_957, by decide, by decide, rfl⟩
theorem c_X7_fill (l : Launch) (st : zSt) (a0 : Int32) (a1 : Int32) (out : Int32 × zSt) (hf : f_X7_fill st a0 a1 = some out) : zMet l yX7_fill cX7_fill 3 (some .int) zr_X7_fill 42 shM (fun ad => [.ref (ad 0), .int a0, .int a1]) st (fun ad => some (.int out.1)) out.2 :=
  zmet_of (by decide +kernel) (fun _ => Nat.le_of_ble_eq_true rfl) (fun X _ hnl hX hQ => t_X7_fill X out hX hQ hnl st a0 a1 hf)
abbrev zr_X7_crew : Room := { frames := 2, cells := 0, slots := 0, locals := 43 }
def f_X7_crew_56  (st : zSt) (v1 : Int32) (v2 : Int32) (v3 : Int32) : Option (Int32 × zSt) := (if (st.1 0 52) ≤ 0 then (if zin (st.1 0 9) 6 then (zlet (zwI st 8 (st.1 0 9).toNatClampNeg v1) fun s23 => (if zin (s23.1 0 9) 6 then (zlet (zwI s23 9 (s23.1 0 9).toNatClampNeg v2) fun s26 => (if zin (s26.1 0 9) 6 then (zlet (zwI s26 10 (s26.1 0 9).toNatClampNeg v3) fun s29 => (zlet (zwI s29 0 9 ((s29.1 0 9) + 1)) fun s31 => some (((s31.1 0 9) - 1), s31))) else none)) else none)) else none) else some (0, st))
def f_X7_crew (st : zSt) (a0 : Int32) (a1 : Int32) (a2 : Int32) : Option (Int32 × zSt) := ((f_X7_isShip st a0).bind fun q1 => (if q1.1 = 0 then (zlet (zwI q1.2 0 52 1) fun s19 => f_X7_crew_56 s19 a0 a1 a2) else ((f_X7_in q1.2 a1 0 500).bind fun q4 => (if q4.1 = 0 then (zlet (zwI q4.2 0 52 2) fun s7 => f_X7_crew_56 s7 a0 a1 a2) else ((f_X7_in q4.2 a2 a1 500).bind fun q9 => (if q9.1 = 0 then (zlet (zwI q9.2 0 52 2) fun s17 => f_X7_crew_56 s17 a0 a1 a2) else (if (q9.2.1 0 9) = 6 then (zlet (zwI q9.2 0 52 3) fun s15 => f_X7_crew_56 s15 a0 a1 a2) else (zlet (zwI q9.2 0 52 0) fun s13 => f_X7_crew_56 s13 a0 a1 a2))))))))
set_option maxHeartbeats 4000000 in
set_option maxRecDepth 100000 in
theorem t_X7_crew_56 (X : zCx) (out : Int32 × zSt) (hX : zOk X RX7 cX7_crew zr_X7_crew) (hQ : zPost X 42 shM (some .int) (some (.int out.1)) out.2) (hnl : X.nL = 4) (st : zSt) (v1 : Int32) (v2 : Int32) (v3 : Int32) (hf : f_X7_crew_56  st v1 v2 v3 = some out) : zG 42 shM X st 56 [(0, .ref (X.ad 0)), (1, .int v1), (2, .int v2), (3, .int v3)] [] := by
  unfold f_X7_crew_56 at hf
  refine z_aload_n hX 0 dX7_crew_56 rfl rfl ?_
  refine z_getI hX 0 52 dX7_crew_57 (by decide) shM_0 rfl rfl zin_X7 (by decide) zm_832 ?_
  refine z_if_le hX 65 dX7_crew_60 (by decide) (fun c21 => ?_) (fun c21 => ?_)
  · have hf := (if_pos c21).symm.trans hf
    refine z_aload_n hX 0 dX7_crew_65 rfl rfl ?_
    refine z_getR hX 0 10 8 dX7_crew_66 (by decide) shM_0 rfl rfl zin_X7 (by decide) zm_790 ?_
    refine z_aload_n hX 0 dX7_crew_69 rfl rfl ?_
    refine z_getI hX 0 9 dX7_crew_70 (by decide) shM_0 rfl rfl zin_X7 (by decide) zm_789 ?_
    refine z_iload_n hX 1 dX7_crew_73 rfl rfl ?_
    obtain ⟨i22, hf⟩ := zifd hf
    refine z_iast hX 8 dX7_crew_74 (by decide) shM_8 i22 ?_
    obtain ⟨s23, h24, hf⟩ := zlet_ex hf
    refine z_name h24 ?_
    refine z_aload_n hX 0 dX7_crew_75 rfl rfl ?_
    refine z_getR hX 0 11 9 dX7_crew_76 (by decide) shM_0 rfl rfl zin_X7 (by decide) zm_791 ?_
    refine z_aload_n hX 0 dX7_crew_79 rfl rfl ?_
    refine z_getI hX 0 9 dX7_crew_80 (by decide) shM_0 rfl rfl zin_X7 (by decide) zm_789 ?_
    refine z_iload_n hX 2 dX7_crew_83 rfl rfl ?_
    obtain ⟨i25, hf⟩ := zifd hf
    refine z_iast hX 9 dX7_crew_84 (by decide) shM_9 i25 ?_
    obtain ⟨s26, h27, hf⟩ := zlet_ex hf
    refine z_name h27 ?_
    refine z_aload_n hX 0 dX7_crew_85 rfl rfl ?_
    refine z_getR hX 0 12 10 dX7_crew_86 (by decide) shM_0 rfl rfl zin_X7 (by decide) zm_792 ?_
    refine z_aload_n hX 0 dX7_crew_89 rfl rfl ?_
    refine z_getI hX 0 9 dX7_crew_90 (by decide) shM_0 rfl rfl zin_X7 (by decide) zm_789 ?_
    refine z_iload_n hX 3 dX7_crew_93 rfl rfl ?_
    obtain ⟨i28, hf⟩ := zifd hf
    refine z_iast hX 10 dX7_crew_94 (by decide) shM_10 i28 ?_
    obtain ⟨s29, h30, hf⟩ := zlet_ex hf
    refine z_name h30 ?_
    refine z_aload_n hX 0 dX7_crew_95 rfl rfl ?_
    refine z_dup hX dX7_crew_96 rfl ?_
    refine z_getI hX 0 9 dX7_crew_97 (by decide) shM_0 rfl rfl zin_X7 (by decide) zm_789 ?_
    refine z_iconst (v := 1) hX dX7_crew_100 (by decide) ?_
    refine z_iadd hX dX7_crew_101 ?_
    refine z_putI hX 0 9 dX7_crew_102 (by decide) shM_0 rfl rfl zin_X7 tyX7_ok nmX7 (by decide) zm_789 rfl rfl ?_
    obtain ⟨s31, h32, hf⟩ := zlet_ex hf
    refine z_name h32 ?_
    refine z_aload_n hX 0 dX7_crew_105 rfl rfl ?_
    refine z_getI hX 0 9 dX7_crew_106 (by decide) shM_0 rfl rfl zin_X7 (by decide) zm_789 ?_
    refine z_iconst (v := 1) hX dX7_crew_109 (by decide) ?_
    refine z_isub hX dX7_crew_110 ?_
    obtain rfl := Option.some.inj hf
    exact z_iret hX hQ dX7_crew_111 rfl
  have hf := (if_neg c21).symm.trans hf
  refine z_iconst (v := 0) hX dX7_crew_63 (by decide) ?_
  obtain rfl := Option.some.inj hf
  exact z_iret hX hQ dX7_crew_64 rfl
set_option maxHeartbeats 4000000 in
set_option maxRecDepth 100000 in
theorem t_X7_crew (X : zCx) (out : Int32 × zSt) (hX : zOk X RX7 cX7_crew zr_X7_crew) (hQ : zPost X 42 shM (some .int) (some (.int out.1)) out.2) (hnl : X.nL = 4) (st : zSt) (a0 : Int32) (a1 : Int32) (a2 : Int32) (hf : f_X7_crew st a0 a1 a2 = some out) : zG 42 shM X st 0 [(0, .ref (X.ad 0)), (1, .int a0), (2, .int a1), (3, .int a2)] [] := by
  unfold f_X7_crew at hf
  refine z_aload_n hX 0 dX7_crew_0 rfl rfl ?_
  refine z_aload_n hX 0 dX7_crew_1 rfl rfl ?_
  refine z_iload_n hX 1 dX7_crew_2 rfl rfl ?_
  obtain ⟨q1, e2, hf⟩ := zbind hf
  refine z_callV (stk := [.ref (X.ad 0)]) (stk' := [.int q1.1, .ref (X.ad 0)]) hX (c_X7_isShip X.l st a0 q1 e2) zb_X7_isShip 0 dX7_crew_3 zm_958 (by decide) shM_0 rfl rfl rfl rfl ⟨by decide, by decide⟩ ⟨rfl, rfl⟩ (Nat.le_of_ble_eq_true rfl) rfl ?_
  refine z_if_ne hX 13 dX7_crew_6 (by decide) (fun c3 => ?_) (fun c3 => ?_)
  · have hf := (if_neg c3).symm.trans hf
    refine z_iload_n hX 2 dX7_crew_13 rfl rfl ?_
    refine z_iconst (v := 0) hX dX7_crew_14 (by decide) ?_
    refine z_sipush (v := 500) hX dX7_crew_15 (by decide) ?_
    obtain ⟨q4, e5, hf⟩ := zbind hf
    refine z_callS (stk := [.ref (X.ad 0)]) (stk' := [.int q4.1, .ref (X.ad 0)]) hX (c_X7_in X.l q1.2 a1 0 500 q4 e5) zb_X7_in dX7_crew_18 zm_951 rfl rfl rfl ⟨by decide, by decide⟩ ⟨rfl, rfl⟩ (Nat.le_of_ble_eq_true rfl) rfl ?_
    refine z_if_eq hX 35 dX7_crew_21 (by decide) (fun c6 => ?_) (fun c6 => ?_)
    · have hf := (if_pos c6).symm.trans hf
      refine z_iconst (v := 2) hX dX7_crew_35 (by decide) ?_
      refine z_goto hX 53 dX7_crew_36 (by decide) ?_
      refine z_putI hX 0 52 dX7_crew_53 (by decide) shM_0 rfl rfl zin_X7 tyX7_ok nmX7 (by decide) zm_832 rfl rfl ?_
      obtain ⟨s7, h8, hf⟩ := zlet_ex hf
      refine z_name h8 ?_
      exact t_X7_crew_56 X out hX hQ hnl s7 a0 a1 a2 hf
    have hf := (if_neg c6).symm.trans hf
    refine z_iload_n hX 3 dX7_crew_24 rfl rfl ?_
    refine z_iload_n hX 2 dX7_crew_25 rfl rfl ?_
    refine z_sipush (v := 500) hX dX7_crew_26 (by decide) ?_
    obtain ⟨q9, e10, hf⟩ := zbind hf
    refine z_callS (stk := [.ref (X.ad 0)]) (stk' := [.int q9.1, .ref (X.ad 0)]) hX (c_X7_in X.l q4.2 a2 a1 500 q9 e10) zb_X7_in dX7_crew_29 zm_951 rfl rfl rfl ⟨by decide, by decide⟩ ⟨rfl, rfl⟩ (Nat.le_of_ble_eq_true rfl) rfl ?_
    refine z_if_ne hX 39 dX7_crew_32 (by decide) (fun c11 => ?_) (fun c11 => ?_)
    · have hf := (if_neg c11).symm.trans hf
      refine z_aload_n hX 0 dX7_crew_39 rfl rfl ?_
      refine z_getI hX 0 9 dX7_crew_40 (by decide) shM_0 rfl rfl zin_X7 (by decide) zm_789 ?_
      refine z_bipush (v := 6) hX dX7_crew_43 (by decide) ?_
      refine z_icmp_ne hX 52 dX7_crew_45 (by decide) (fun c12 => ?_) (fun c12 => ?_)
      · have hf := (if_neg c12).symm.trans hf
        refine z_iconst (v := 0) hX dX7_crew_52 (by decide) ?_
        refine z_putI hX 0 52 dX7_crew_53 (by decide) shM_0 rfl rfl zin_X7 tyX7_ok nmX7 (by decide) zm_832 rfl rfl ?_
        obtain ⟨s13, h14, hf⟩ := zlet_ex hf
        refine z_name h14 ?_
        exact t_X7_crew_56 X out hX hQ hnl s13 a0 a1 a2 hf
      have hf := (if_pos c12).symm.trans hf
      refine z_iconst (v := 3) hX dX7_crew_48 (by decide) ?_
      refine z_goto hX 53 dX7_crew_49 (by decide) ?_
      refine z_putI hX 0 52 dX7_crew_53 (by decide) shM_0 rfl rfl zin_X7 tyX7_ok nmX7 (by decide) zm_832 rfl rfl ?_
      obtain ⟨s15, h16, hf⟩ := zlet_ex hf
      refine z_name h16 ?_
      exact t_X7_crew_56 X out hX hQ hnl s15 a0 a1 a2 hf
    have hf := (if_pos c11).symm.trans hf
    refine z_iconst (v := 2) hX dX7_crew_35 (by decide) ?_
    refine z_goto hX 53 dX7_crew_36 (by decide) ?_
    refine z_putI hX 0 52 dX7_crew_53 (by decide) shM_0 rfl rfl zin_X7 tyX7_ok nmX7 (by decide) zm_832 rfl rfl ?_
    obtain ⟨s17, h18, hf⟩ := zlet_ex hf
    refine z_name h18 ?_
    exact t_X7_crew_56 X out hX hQ hnl s17 a0 a1 a2 hf
  have hf := (if_pos c3).symm.trans hf
  refine z_iconst (v := 1) hX dX7_crew_9 (by decide) ?_
  refine z_goto hX 53 dX7_crew_10 (by decide) ?_
  refine z_putI hX 0 52 dX7_crew_53 (by decide) shM_0 rfl rfl zin_X7 tyX7_ok nmX7 (by decide) zm_832 rfl rfl ?_
  obtain ⟨s19, h20, hf⟩ := zlet_ex hf
  refine z_name h20 ?_
  exact t_X7_crew_56 X out hX hQ hnl s19 a0 a1 a2 hf
theorem zb_X7_crew : zCal yX7_crew cX7_crew 4 (some .int) 3 := ⟨zm_964, (zwl_in zm_965 rfl), zm_8, zm_966, by decide, by decide, rfl⟩
theorem c_X7_crew (l : Launch) (st : zSt) (a0 : Int32) (a1 : Int32) (a2 : Int32) (out : Int32 × zSt) (hf : f_X7_crew st a0 a1 a2 = some out) : zMet l yX7_crew cX7_crew 4 (some .int) zr_X7_crew 42 shM (fun ad => [.ref (ad 0), .int a0, .int a1, .int a2]) st (fun ad => some (.int out.1)) out.2 :=
  zmet_of (by decide +kernel) (fun _ => Nat.le_of_ble_eq_true rfl) (fun X _ hnl hX hQ => t_X7_crew X out hX hQ hnl st a0 a1 a2 hf)
abbrev zr_X7_hours : Room := { frames := 1, cells := 0, slots := 0, locals := 22 }
def f_X7_hours_38  (st : zSt) (v1 : Int32) (v2 : Int32) : Option (Int32 × zSt) := (if (st.1 0 52) = 0 then (if zin ((501 * v1) + v2) 3006 then some ((st.1 11 ((501 * v1) + v2).toNatClampNeg), st) else none) else some (0, st))
def f_X7_hours (st : zSt) (a0 : Int32) (a1 : Int32) : Option (Int32 × zSt) := ((f_X7_in st a0 0 ((st.1 0 9) - 1)).bind fun q1 => (if q1.1 = 0 then (zlet (zwI q1.2 0 52 1) fun s11 => f_X7_hours_38 s11 a0 a1) else ((f_X7_in q1.2 a1 0 500).bind fun q4 => (if q4.1 = 0 then (zlet (zwI q4.2 0 52 2) fun s9 => f_X7_hours_38 s9 a0 a1) else (zlet (zwI q4.2 0 52 0) fun s7 => f_X7_hours_38 s7 a0 a1)))))
set_option maxHeartbeats 4000000 in
set_option maxRecDepth 100000 in
theorem t_X7_hours_38 (X : zCx) (out : Int32 × zSt) (hX : zOk X RX7 cX7_hours zr_X7_hours) (hQ : zPost X 42 shM (some .int) (some (.int out.1)) out.2) (hnl : X.nL = 3) (st : zSt) (v1 : Int32) (v2 : Int32) (hf : f_X7_hours_38  st v1 v2 = some out) : zG 42 shM X st 38 [(0, .ref (X.ad 0)), (1, .int v1), (2, .int v2)] [] := by
  unfold f_X7_hours_38 at hf
  refine z_aload_n hX 0 dX7_hours_38 rfl rfl ?_
  refine z_getI hX 0 52 dX7_hours_39 (by decide) shM_0 rfl rfl zin_X7 (by decide) zm_832 ?_
  refine z_if_ne hX 60 dX7_hours_42 (by decide) (fun c13 => ?_) (fun c13 => ?_)
  · have hf := (if_neg c13).symm.trans hf
    refine z_iconst (v := 0) hX dX7_hours_60 (by decide) ?_
    obtain rfl := Option.some.inj hf
    exact z_iret hX hQ dX7_hours_61 rfl
  have hf := (if_pos c13).symm.trans hf
  refine z_aload_n hX 0 dX7_hours_45 rfl rfl ?_
  refine z_getR hX 0 13 11 dX7_hours_46 (by decide) shM_0 rfl rfl zin_X7 (by decide) zm_793 ?_
  refine z_sipush (v := 501) hX dX7_hours_49 (by decide) ?_
  refine z_iload_n hX 1 dX7_hours_52 rfl rfl ?_
  refine z_imul hX dX7_hours_53 ?_
  refine z_iload_n hX 2 dX7_hours_54 rfl rfl ?_
  refine z_iadd hX dX7_hours_55 ?_
  obtain ⟨i14, hf⟩ := zifd hf
  refine z_iald hX 11 dX7_hours_56 (by decide) shM_11 i14 ?_
  refine z_goto hX 61 dX7_hours_57 (by decide) ?_
  obtain rfl := Option.some.inj hf
  exact z_iret hX hQ dX7_hours_61 rfl
set_option maxHeartbeats 4000000 in
set_option maxRecDepth 100000 in
theorem t_X7_hours (X : zCx) (out : Int32 × zSt) (hX : zOk X RX7 cX7_hours zr_X7_hours) (hQ : zPost X 42 shM (some .int) (some (.int out.1)) out.2) (hnl : X.nL = 3) (st : zSt) (a0 : Int32) (a1 : Int32) (hf : f_X7_hours st a0 a1 = some out) : zG 42 shM X st 0 [(0, .ref (X.ad 0)), (1, .int a0), (2, .int a1)] [] := by
  unfold f_X7_hours at hf
  refine z_aload_n hX 0 dX7_hours_0 rfl rfl ?_
  refine z_iload_n hX 1 dX7_hours_1 rfl rfl ?_
  refine z_iconst (v := 0) hX dX7_hours_2 (by decide) ?_
  refine z_aload_n hX 0 dX7_hours_3 rfl rfl ?_
  refine z_getI hX 0 9 dX7_hours_4 (by decide) shM_0 rfl rfl zin_X7 (by decide) zm_789 ?_
  refine z_iconst (v := 1) hX dX7_hours_7 (by decide) ?_
  refine z_isub hX dX7_hours_8 ?_
  obtain ⟨q1, e2, hf⟩ := zbind hf
  refine z_callS (stk := [.ref (X.ad 0)]) (stk' := [.int q1.1, .ref (X.ad 0)]) hX (c_X7_in X.l st a0 0 ((st.1 0 9) - 1) q1 e2) zb_X7_in dX7_hours_9 zm_951 rfl rfl rfl ⟨by decide, by decide⟩ ⟨rfl, rfl⟩ (Nat.le_of_ble_eq_true rfl) rfl ?_
  refine z_if_ne hX 19 dX7_hours_12 (by decide) (fun c3 => ?_) (fun c3 => ?_)
  · have hf := (if_neg c3).symm.trans hf
    refine z_iload_n hX 2 dX7_hours_19 rfl rfl ?_
    refine z_iconst (v := 0) hX dX7_hours_20 (by decide) ?_
    refine z_sipush (v := 500) hX dX7_hours_21 (by decide) ?_
    obtain ⟨q4, e5, hf⟩ := zbind hf
    refine z_callS (stk := [.ref (X.ad 0)]) (stk' := [.int q4.1, .ref (X.ad 0)]) hX (c_X7_in X.l q1.2 a1 0 500 q4 e5) zb_X7_in dX7_hours_24 zm_951 rfl rfl rfl ⟨by decide, by decide⟩ ⟨rfl, rfl⟩ (Nat.le_of_ble_eq_true rfl) rfl ?_
    refine z_if_ne hX 34 dX7_hours_27 (by decide) (fun c6 => ?_) (fun c6 => ?_)
    · have hf := (if_neg c6).symm.trans hf
      refine z_iconst (v := 0) hX dX7_hours_34 (by decide) ?_
      refine z_putI hX 0 52 dX7_hours_35 (by decide) shM_0 rfl rfl zin_X7 tyX7_ok nmX7 (by decide) zm_832 rfl rfl ?_
      obtain ⟨s7, h8, hf⟩ := zlet_ex hf
      refine z_name h8 ?_
      exact t_X7_hours_38 X out hX hQ hnl s7 a0 a1 hf
    have hf := (if_pos c6).symm.trans hf
    refine z_iconst (v := 2) hX dX7_hours_30 (by decide) ?_
    refine z_goto hX 35 dX7_hours_31 (by decide) ?_
    refine z_putI hX 0 52 dX7_hours_35 (by decide) shM_0 rfl rfl zin_X7 tyX7_ok nmX7 (by decide) zm_832 rfl rfl ?_
    obtain ⟨s9, h10, hf⟩ := zlet_ex hf
    refine z_name h10 ?_
    exact t_X7_hours_38 X out hX hQ hnl s9 a0 a1 hf
  have hf := (if_pos c3).symm.trans hf
  refine z_iconst (v := 1) hX dX7_hours_15 (by decide) ?_
  refine z_goto hX 35 dX7_hours_16 (by decide) ?_
  refine z_putI hX 0 52 dX7_hours_35 (by decide) shM_0 rfl rfl zin_X7 tyX7_ok nmX7 (by decide) zm_832 rfl rfl ?_
  obtain ⟨s11, h12, hf⟩ := zlet_ex hf
  refine z_name h12 ?_
  exact t_X7_hours_38 X out hX hQ hnl s11 a0 a1 hf
theorem zb_X7_hours : zCal yX7_hours cX7_hours 3 (some .int) 2 := ⟨zm_968, (zwl_in zm_969 rfl), zm_8, zm_970, by decide, by decide, rfl⟩
theorem c_X7_hours (l : Launch) (st : zSt) (a0 : Int32) (a1 : Int32) (out : Int32 × zSt) (hf : f_X7_hours st a0 a1 = some out) : zMet l yX7_hours cX7_hours 3 (some .int) zr_X7_hours 42 shM (fun ad => [.ref (ad 0), .int a0, .int a1]) st (fun ad => some (.int out.1)) out.2 :=
  zmet_of (by decide +kernel) (fun _ => Nat.le_of_ble_eq_true rfl) (fun X _ hnl hX hQ => t_X7_hours X out hX hQ hnl st a0 a1 hf)
abbrev zr_X7_depthOf : Room := { frames := 0, cells := 0, slots := 0, locals := 0 }
def f_X7_depthOf (st : zSt) (a0 : Int32) (a1 : Int32) : Option (Int32 × zSt) := (if 0 ≤ (((a1 + (2 * a0)) - (a1 + (2 * a0)) / 12 * 12) - 6) then some ((3 + (((a1 + (2 * a0)) - (a1 + (2 * a0)) / 12 * 12) - 6)), st) else some ((3 + (-(((a1 + (2 * a0)) - (a1 + (2 * a0)) / 12 * 12) - 6))), st))
set_option maxHeartbeats 4000000 in
set_option maxRecDepth 100000 in
theorem t_X7_depthOf (X : zCx) (out : Int32 × zSt) (hX : zOk X RX7 cX7_depthOf zr_X7_depthOf) (hQ : zPost X 42 shM (some .int) (some (.int out.1)) out.2) (hnl : X.nL = 3) (st : zSt) (a0 : Int32) (a1 : Int32) (hf : f_X7_depthOf st a0 a1 = some out) : zG 42 shM X st 0 [(0, .int a0), (1, .int a1)] [] := by
  unfold f_X7_depthOf at hf
  refine z_iload_n hX 1 dX7_depthOf_0 rfl rfl ?_
  refine z_iconst (v := 2) hX dX7_depthOf_1 (by decide) ?_
  refine z_iload_n hX 0 dX7_depthOf_2 rfl rfl ?_
  refine z_imul hX dX7_depthOf_3 ?_
  refine z_iadd hX dX7_depthOf_4 ?_
  refine z_bipush (v := 12) hX dX7_depthOf_5 (by decide) ?_
  refine z_irem hX dX7_depthOf_7 (by decide) ?_
  refine z_bipush (v := 6) hX dX7_depthOf_8 (by decide) ?_
  refine z_isub hX dX7_depthOf_10 ?_
  refine z_istore_n hX [(0, .int a0), (1, .int a1), (2, .int (((a1 + (2 * a0)) - (a1 + (2 * a0)) / 12 * 12) - 6))] dX7_depthOf_11 rfl (by rw [hnl]; decide) [1, 2, 0] rfl ?_
  refine z_iconst (v := 3) hX dX7_depthOf_12 (by decide) ?_
  refine z_iload_n hX 2 dX7_depthOf_13 rfl rfl ?_
  refine z_if_ge hX 22 dX7_depthOf_14 (by decide) (fun c1 => ?_) (fun c1 => ?_)
  · have hf := (if_pos c1).symm.trans hf
    refine z_iload_n hX 2 dX7_depthOf_22 rfl rfl ?_
    refine z_iadd hX dX7_depthOf_23 ?_
    obtain rfl := Option.some.inj hf
    exact z_iret hX hQ dX7_depthOf_24 rfl
  have hf := (if_neg c1).symm.trans hf
  refine z_iload_n hX 2 dX7_depthOf_17 rfl rfl ?_
  refine z_ineg hX dX7_depthOf_18 ?_
  refine z_goto hX 23 dX7_depthOf_19 (by decide) ?_
  refine z_iadd hX dX7_depthOf_23 ?_
  obtain rfl := Option.some.inj hf
  exact z_iret hX hQ dX7_depthOf_24 rfl
theorem zb_X7_depthOf : zCalS yX7_depthOf cX7_depthOf 3 (some .int) 2 := ⟨zm_976, zm_8, zm_977, by decide, by decide, rfl⟩
theorem c_X7_depthOf (l : Launch) (st : zSt) (a0 : Int32) (a1 : Int32) (out : Int32 × zSt) (hf : f_X7_depthOf st a0 a1 = some out) : zMet l yX7_depthOf cX7_depthOf 3 (some .int) zr_X7_depthOf 42 shM (fun ad => [.int a0, .int a1]) st (fun ad => some (.int out.1)) out.2 :=
  zmet_of (by decide +kernel) (fun _ => Nat.le_of_ble_eq_true rfl) (fun X _ hnl hX hQ => t_X7_depthOf X out hX hQ hnl st a0 a1 hf)
abbrev zr_X7_depth : Room := { frames := 2, cells := 0, slots := 0, locals := 42 }
def f_X7_depth_31  (st : zSt) (v1 : Int32) (v2 : Int32) : Option (Int32 × zSt) := (if (st.1 0 52) = 0 then ((f_X7_depthOf st v1 v2).bind fun q14 => some (q14.1, q14.2)) else some (0, st))
def f_X7_depth (st : zSt) (a0 : Int32) (a1 : Int32) : Option (Int32 × zSt) := ((f_X7_isIsland st a0).bind fun q1 => (if q1.1 = 0 then (zlet (zwI q1.2 0 52 1) fun s11 => f_X7_depth_31 s11 a0 a1) else ((f_X7_in q1.2 a1 0 10000).bind fun q4 => (if q4.1 = 0 then (zlet (zwI q4.2 0 52 2) fun s9 => f_X7_depth_31 s9 a0 a1) else (zlet (zwI q4.2 0 52 0) fun s7 => f_X7_depth_31 s7 a0 a1)))))
set_option maxHeartbeats 4000000 in
set_option maxRecDepth 100000 in
theorem t_X7_depth_31 (X : zCx) (out : Int32 × zSt) (hX : zOk X RX7 cX7_depth zr_X7_depth) (hQ : zPost X 42 shM (some .int) (some (.int out.1)) out.2) (hnl : X.nL = 3) (st : zSt) (v1 : Int32) (v2 : Int32) (hf : f_X7_depth_31  st v1 v2 = some out) : zG 42 shM X st 31 [(0, .ref (X.ad 0)), (1, .int v1), (2, .int v2)] [] := by
  unfold f_X7_depth_31 at hf
  refine z_aload_n hX 0 dX7_depth_31 rfl rfl ?_
  refine z_getI hX 0 52 dX7_depth_32 (by decide) shM_0 rfl rfl zin_X7 (by decide) zm_832 ?_
  refine z_if_ne hX 46 dX7_depth_35 (by decide) (fun c13 => ?_) (fun c13 => ?_)
  · have hf := (if_neg c13).symm.trans hf
    refine z_iconst (v := 0) hX dX7_depth_46 (by decide) ?_
    obtain rfl := Option.some.inj hf
    exact z_iret hX hQ dX7_depth_47 rfl
  have hf := (if_pos c13).symm.trans hf
  refine z_iload_n hX 1 dX7_depth_38 rfl rfl ?_
  refine z_iload_n hX 2 dX7_depth_39 rfl rfl ?_
  obtain ⟨q14, e15, hf⟩ := zbind hf
  refine z_callS (stk := []) (stk' := [.int q14.1]) hX (c_X7_depthOf X.l st v1 v2 q14 e15) zb_X7_depthOf dX7_depth_40 zm_975 rfl rfl rfl ⟨by decide, by decide⟩ ⟨rfl, rfl⟩ (Nat.le_of_ble_eq_true rfl) rfl ?_
  refine z_goto hX 47 dX7_depth_43 (by decide) ?_
  obtain rfl := Option.some.inj hf
  exact z_iret hX hQ dX7_depth_47 rfl
set_option maxHeartbeats 4000000 in
set_option maxRecDepth 100000 in
theorem t_X7_depth (X : zCx) (out : Int32 × zSt) (hX : zOk X RX7 cX7_depth zr_X7_depth) (hQ : zPost X 42 shM (some .int) (some (.int out.1)) out.2) (hnl : X.nL = 3) (st : zSt) (a0 : Int32) (a1 : Int32) (hf : f_X7_depth st a0 a1 = some out) : zG 42 shM X st 0 [(0, .ref (X.ad 0)), (1, .int a0), (2, .int a1)] [] := by
  unfold f_X7_depth at hf
  refine z_aload_n hX 0 dX7_depth_0 rfl rfl ?_
  refine z_iload_n hX 1 dX7_depth_1 rfl rfl ?_
  obtain ⟨q1, e2, hf⟩ := zbind hf
  refine z_callS (stk := [.ref (X.ad 0)]) (stk' := [.int q1.1, .ref (X.ad 0)]) hX (c_X7_isIsland X.l st a0 q1 e2) zb_X7_isIsland dX7_depth_2 zm_948 rfl rfl rfl ⟨by decide, by decide⟩ ⟨rfl, rfl⟩ (Nat.le_of_ble_eq_true rfl) rfl ?_
  refine z_if_ne hX 12 dX7_depth_5 (by decide) (fun c3 => ?_) (fun c3 => ?_)
  · have hf := (if_neg c3).symm.trans hf
    refine z_iload_n hX 2 dX7_depth_12 rfl rfl ?_
    refine z_iconst (v := 0) hX dX7_depth_13 (by decide) ?_
    refine z_sipush (v := 10000) hX dX7_depth_14 (by decide) ?_
    obtain ⟨q4, e5, hf⟩ := zbind hf
    refine z_callS (stk := [.ref (X.ad 0)]) (stk' := [.int q4.1, .ref (X.ad 0)]) hX (c_X7_in X.l q1.2 a1 0 10000 q4 e5) zb_X7_in dX7_depth_17 zm_951 rfl rfl rfl ⟨by decide, by decide⟩ ⟨rfl, rfl⟩ (Nat.le_of_ble_eq_true rfl) rfl ?_
    refine z_if_ne hX 27 dX7_depth_20 (by decide) (fun c6 => ?_) (fun c6 => ?_)
    · have hf := (if_neg c6).symm.trans hf
      refine z_iconst (v := 0) hX dX7_depth_27 (by decide) ?_
      refine z_putI hX 0 52 dX7_depth_28 (by decide) shM_0 rfl rfl zin_X7 tyX7_ok nmX7 (by decide) zm_832 rfl rfl ?_
      obtain ⟨s7, h8, hf⟩ := zlet_ex hf
      refine z_name h8 ?_
      exact t_X7_depth_31 X out hX hQ hnl s7 a0 a1 hf
    have hf := (if_pos c6).symm.trans hf
    refine z_iconst (v := 2) hX dX7_depth_23 (by decide) ?_
    refine z_goto hX 28 dX7_depth_24 (by decide) ?_
    refine z_putI hX 0 52 dX7_depth_28 (by decide) shM_0 rfl rfl zin_X7 tyX7_ok nmX7 (by decide) zm_832 rfl rfl ?_
    obtain ⟨s9, h10, hf⟩ := zlet_ex hf
    refine z_name h10 ?_
    exact t_X7_depth_31 X out hX hQ hnl s9 a0 a1 hf
  have hf := (if_pos c3).symm.trans hf
  refine z_iconst (v := 1) hX dX7_depth_8 (by decide) ?_
  refine z_goto hX 28 dX7_depth_9 (by decide) ?_
  refine z_putI hX 0 52 dX7_depth_28 (by decide) shM_0 rfl rfl zin_X7 tyX7_ok nmX7 (by decide) zm_832 rfl rfl ?_
  obtain ⟨s11, h12, hf⟩ := zlet_ex hf
  refine z_name h12 ?_
  exact t_X7_depth_31 X out hX hQ hnl s11 a0 a1 hf
theorem zb_X7_depth : zCal yX7_depth cX7_depth 3 (some .int) 2 := ⟨zm_972, (zwl_in zm_973 rfl), zm_8, zm_974, by decide, by decide, rfl⟩
theorem c_X7_depth (l : Launch) (st : zSt) (a0 : Int32) (a1 : Int32) (out : Int32 × zSt) (hf : f_X7_depth st a0 a1 = some out) : zMet l yX7_depth cX7_depth 3 (some .int) zr_X7_depth 42 shM (fun ad => [.ref (ad 0), .int a0, .int a1]) st (fun ad => some (.int out.1)) out.2 :=
  zmet_of (by decide +kernel) (fun _ => Nat.le_of_ble_eq_true rfl) (fun X _ hnl hX hQ => t_X7_depth X out hX hQ hnl st a0 a1 hf)
abbrev zr_X7_hinder : Room := { frames := 2, cells := 0, slots := 0, locals := 43 }
def f_X7_hinder_79  (st : zSt) (v3 : Int32) (v4 : Int32) (v5 : Int32) : Option (Unit × zSt) := (if zin v5 6 then (zlet (zwI st 12 v5.toNatClampNeg (v3 + 1)) fun s44 => (if zin v5 6 then (zlet (zwI s44 13 v5.toNatClampNeg v4) fun s47 => some ((), s47)) else none)) else none)
def f_X7_hinder_58  (st : zSt) (v1 : Int32) (v2 : Int32) (v3 : Int32) (v4 : Int32) : Option (Unit × zSt) := (if (st.1 0 52) = 0 then (if v1 = 2 then f_X7_hinder_79 st v3 v4 (2 + v2) else f_X7_hinder_79 st v3 v4 v1) else some ((), st))
def f_X7_hinder (st : zSt) (a0 : Int32) (a1 : Int32) (a2 : Int32) (a3 : Int32) : Option (Unit × zSt) := (if a0 = 2 then ((f_X7_isShip st a1).bind fun q19 => (if q19.1 = 0 then (zlet (zwI q19.2 0 52 1) fun s39 => f_X7_hinder_58 s39 a0 a1 a2 a3) else ((f_X7_in q19.2 a0 0 2).bind fun q22 => (if q22.1 = 0 then (zlet (zwI q22.2 0 52 2) fun s25 => f_X7_hinder_58 s25 a0 a1 a2 a3) else ((f_X7_in q22.2 a2 0 10000).bind fun q27 => (if q27.1 = 0 then (zlet (zwI q27.2 0 52 2) fun s30 => f_X7_hinder_58 s30 a0 a1 a2 a3) else ((f_X7_in q27.2 a3 a2 10000).bind fun q32 => (if q32.1 = 0 then (zlet (zwI q32.2 0 52 2) fun s37 => f_X7_hinder_58 s37 a0 a1 a2 a3) else (zlet (zwI q32.2 0 52 0) fun s35 => f_X7_hinder_58 s35 a0 a1 a2 a3))))))))) else ((f_X7_in st a0 0 2).bind fun q2 => (if q2.1 = 0 then (zlet (zwI q2.2 0 52 2) fun s5 => f_X7_hinder_58 s5 a0 a1 a2 a3) else ((f_X7_in q2.2 a2 0 10000).bind fun q7 => (if q7.1 = 0 then (zlet (zwI q7.2 0 52 2) fun s10 => f_X7_hinder_58 s10 a0 a1 a2 a3) else ((f_X7_in q7.2 a3 a2 10000).bind fun q12 => (if q12.1 = 0 then (zlet (zwI q12.2 0 52 2) fun s17 => f_X7_hinder_58 s17 a0 a1 a2 a3) else (zlet (zwI q12.2 0 52 0) fun s15 => f_X7_hinder_58 s15 a0 a1 a2 a3))))))))
set_option maxHeartbeats 4000000 in
set_option maxRecDepth 100000 in
theorem t_X7_hinder_79 (X : zCx) (out : Unit × zSt) (hX : zOk X RX7 cX7_hinder zr_X7_hinder) (hQ : zPost X 42 shM none (none) out.2) (hnl : X.nL = 6) (st : zSt) (v3 : Int32) (v4 : Int32) (v5 : Int32) (hf : f_X7_hinder_79  st v3 v4 v5 = some out) : zG 42 shM X st 79 [(0, .ref (X.ad 0)), (3, .int v3), (4, .int v4), (5, .int v5)] [] := by
  unfold f_X7_hinder_79 at hf
  refine z_aload_n hX 0 dX7_hinder_79 rfl rfl ?_
  refine z_getR hX 0 14 12 dX7_hinder_80 (by decide) shM_0 rfl rfl zin_X7 (by decide) zm_794 ?_
  refine z_iload hX 3 dX7_hinder_83 rfl ?_
  refine z_iload_n hX 1 dX7_hinder_85 rfl rfl ?_
  refine z_iconst (v := 1) hX dX7_hinder_86 (by decide) ?_
  refine z_iadd hX dX7_hinder_87 ?_
  obtain ⟨i43, hf⟩ := zifd hf
  refine z_iast hX 12 dX7_hinder_88 (by decide) shM_12 i43 ?_
  obtain ⟨s44, h45, hf⟩ := zlet_ex hf
  refine z_name h45 ?_
  refine z_aload_n hX 0 dX7_hinder_89 rfl rfl ?_
  refine z_getR hX 0 15 13 dX7_hinder_90 (by decide) shM_0 rfl rfl zin_X7 (by decide) zm_795 ?_
  refine z_iload hX 3 dX7_hinder_93 rfl ?_
  refine z_iload hX 2 dX7_hinder_95 rfl ?_
  obtain ⟨i46, hf⟩ := zifd hf
  refine z_iast hX 13 dX7_hinder_97 (by decide) shM_13 i46 ?_
  obtain ⟨s47, h48, hf⟩ := zlet_ex hf
  refine z_name h48 ?_
  obtain rfl := Option.some.inj hf
  exact z_vret hX hQ dX7_hinder_98
set_option maxHeartbeats 4000000 in
set_option maxRecDepth 100000 in
theorem t_X7_hinder_58 (X : zCx) (out : Unit × zSt) (hX : zOk X RX7 cX7_hinder zr_X7_hinder) (hQ : zPost X 42 shM none (none) out.2) (hnl : X.nL = 6) (st : zSt) (v1 : Int32) (v2 : Int32) (v3 : Int32) (v4 : Int32) (hf : f_X7_hinder_58  st v1 v2 v3 v4 = some out) : zG 42 shM X st 58 [(0, .ref (X.ad 0)), (1, .int v1), (2, .int v2), (3, .int v3), (4, .int v4)] [] := by
  unfold f_X7_hinder_58 at hf
  refine z_aload_n hX 0 dX7_hinder_58 rfl rfl ?_
  refine z_getI hX 0 52 dX7_hinder_59 (by decide) shM_0 rfl rfl zin_X7 (by decide) zm_832 ?_
  refine z_if_ne hX 98 dX7_hinder_62 (by decide) (fun c41 => ?_) (fun c41 => ?_)
  · have hf := (if_neg c41).symm.trans hf
    obtain rfl := Option.some.inj hf
    exact z_vret hX hQ dX7_hinder_98
  have hf := (if_pos c41).symm.trans hf
  refine z_iload_n hX 1 dX7_hinder_65 rfl rfl ?_
  refine z_iconst (v := 2) hX dX7_hinder_66 (by decide) ?_
  refine z_icmp_ne hX 76 dX7_hinder_67 (by decide) (fun c42 => ?_) (fun c42 => ?_)
  · have hf := (if_neg c42).symm.trans hf
    refine z_iload_n hX 1 dX7_hinder_76 rfl rfl ?_
    refine z_istore hX [(0, .ref (X.ad 0)), (1, .int v1), (2, .int v2), (3, .int v3), (4, .int v4), (5, .int v1)] dX7_hinder_77 (by rw [hnl]; decide) [1, 2, 3, 4, 5, 0] rfl ?_
    refine z_locals [0, 3, 4, 5] [(0, .ref (X.ad 0)), (3, .int v3), (4, .int v4), (5, .int v1)] rfl ?_
    exact t_X7_hinder_79 X out hX hQ hnl st v3 v4 v1 hf
  have hf := (if_pos c42).symm.trans hf
  refine z_iconst (v := 2) hX dX7_hinder_70 (by decide) ?_
  refine z_iload_n hX 2 dX7_hinder_71 rfl rfl ?_
  refine z_iadd hX dX7_hinder_72 ?_
  refine z_goto hX 77 dX7_hinder_73 (by decide) ?_
  refine z_istore hX [(0, .ref (X.ad 0)), (1, .int v1), (2, .int v2), (3, .int v3), (4, .int v4), (5, .int (2 + v2))] dX7_hinder_77 (by rw [hnl]; decide) [1, 2, 3, 4, 5, 0] rfl ?_
  refine z_locals [0, 3, 4, 5] [(0, .ref (X.ad 0)), (3, .int v3), (4, .int v4), (5, .int (2 + v2))] rfl ?_
  exact t_X7_hinder_79 X out hX hQ hnl st v3 v4 (2 + v2) hf
set_option maxHeartbeats 4000000 in
set_option maxRecDepth 100000 in
theorem t_X7_hinder (X : zCx) (out : Unit × zSt) (hX : zOk X RX7 cX7_hinder zr_X7_hinder) (hQ : zPost X 42 shM none (none) out.2) (hnl : X.nL = 6) (st : zSt) (a0 : Int32) (a1 : Int32) (a2 : Int32) (a3 : Int32) (hf : f_X7_hinder st a0 a1 a2 a3 = some out) : zG 42 shM X st 0 [(0, .ref (X.ad 0)), (1, .int a0), (2, .int a1), (3, .int a2), (4, .int a3)] [] := by
  unfold f_X7_hinder at hf
  refine z_aload_n hX 0 dX7_hinder_0 rfl rfl ?_
  refine z_iload_n hX 1 dX7_hinder_1 rfl rfl ?_
  refine z_iconst (v := 2) hX dX7_hinder_2 (by decide) ?_
  refine z_icmp_ne hX 18 dX7_hinder_3 (by decide) (fun c1 => ?_) (fun c1 => ?_)
  · have hf := (if_neg c1).symm.trans hf
    refine z_iload_n hX 1 dX7_hinder_18 rfl rfl ?_
    refine z_iconst (v := 0) hX dX7_hinder_19 (by decide) ?_
    refine z_iconst (v := 2) hX dX7_hinder_20 (by decide) ?_
    obtain ⟨q2, e3, hf⟩ := zbind hf
    refine z_callS (stk := [.ref (X.ad 0)]) (stk' := [.int q2.1, .ref (X.ad 0)]) hX (c_X7_in X.l st a0 0 2 q2 e3) zb_X7_in dX7_hinder_21 zm_951 rfl rfl rfl ⟨by decide, by decide⟩ ⟨rfl, rfl⟩ (Nat.le_of_ble_eq_true rfl) rfl ?_
    refine z_if_eq hX 50 dX7_hinder_24 (by decide) (fun c4 => ?_) (fun c4 => ?_)
    · have hf := (if_pos c4).symm.trans hf
      refine z_iconst (v := 2) hX dX7_hinder_50 (by decide) ?_
      refine z_goto hX 55 dX7_hinder_51 (by decide) ?_
      refine z_putI hX 0 52 dX7_hinder_55 (by decide) shM_0 rfl rfl zin_X7 tyX7_ok nmX7 (by decide) zm_832 rfl rfl ?_
      obtain ⟨s5, h6, hf⟩ := zlet_ex hf
      refine z_name h6 ?_
      exact t_X7_hinder_58 X out hX hQ hnl s5 a0 a1 a2 a3 hf
    have hf := (if_neg c4).symm.trans hf
    refine z_iload_n hX 3 dX7_hinder_27 rfl rfl ?_
    refine z_iconst (v := 0) hX dX7_hinder_28 (by decide) ?_
    refine z_sipush (v := 10000) hX dX7_hinder_29 (by decide) ?_
    obtain ⟨q7, e8, hf⟩ := zbind hf
    refine z_callS (stk := [.ref (X.ad 0)]) (stk' := [.int q7.1, .ref (X.ad 0)]) hX (c_X7_in X.l q2.2 a2 0 10000 q7 e8) zb_X7_in dX7_hinder_32 zm_951 rfl rfl rfl ⟨by decide, by decide⟩ ⟨rfl, rfl⟩ (Nat.le_of_ble_eq_true rfl) rfl ?_
    refine z_if_eq hX 50 dX7_hinder_35 (by decide) (fun c9 => ?_) (fun c9 => ?_)
    · have hf := (if_pos c9).symm.trans hf
      refine z_iconst (v := 2) hX dX7_hinder_50 (by decide) ?_
      refine z_goto hX 55 dX7_hinder_51 (by decide) ?_
      refine z_putI hX 0 52 dX7_hinder_55 (by decide) shM_0 rfl rfl zin_X7 tyX7_ok nmX7 (by decide) zm_832 rfl rfl ?_
      obtain ⟨s10, h11, hf⟩ := zlet_ex hf
      refine z_name h11 ?_
      exact t_X7_hinder_58 X out hX hQ hnl s10 a0 a1 a2 a3 hf
    have hf := (if_neg c9).symm.trans hf
    refine z_iload hX 4 dX7_hinder_38 rfl ?_
    refine z_iload_n hX 3 dX7_hinder_40 rfl rfl ?_
    refine z_sipush (v := 10000) hX dX7_hinder_41 (by decide) ?_
    obtain ⟨q12, e13, hf⟩ := zbind hf
    refine z_callS (stk := [.ref (X.ad 0)]) (stk' := [.int q12.1, .ref (X.ad 0)]) hX (c_X7_in X.l q7.2 a3 a2 10000 q12 e13) zb_X7_in dX7_hinder_44 zm_951 rfl rfl rfl ⟨by decide, by decide⟩ ⟨rfl, rfl⟩ (Nat.le_of_ble_eq_true rfl) rfl ?_
    refine z_if_ne hX 54 dX7_hinder_47 (by decide) (fun c14 => ?_) (fun c14 => ?_)
    · have hf := (if_neg c14).symm.trans hf
      refine z_iconst (v := 0) hX dX7_hinder_54 (by decide) ?_
      refine z_putI hX 0 52 dX7_hinder_55 (by decide) shM_0 rfl rfl zin_X7 tyX7_ok nmX7 (by decide) zm_832 rfl rfl ?_
      obtain ⟨s15, h16, hf⟩ := zlet_ex hf
      refine z_name h16 ?_
      exact t_X7_hinder_58 X out hX hQ hnl s15 a0 a1 a2 a3 hf
    have hf := (if_pos c14).symm.trans hf
    refine z_iconst (v := 2) hX dX7_hinder_50 (by decide) ?_
    refine z_goto hX 55 dX7_hinder_51 (by decide) ?_
    refine z_putI hX 0 52 dX7_hinder_55 (by decide) shM_0 rfl rfl zin_X7 tyX7_ok nmX7 (by decide) zm_832 rfl rfl ?_
    obtain ⟨s17, h18, hf⟩ := zlet_ex hf
    refine z_name h18 ?_
    exact t_X7_hinder_58 X out hX hQ hnl s17 a0 a1 a2 a3 hf
  have hf := (if_pos c1).symm.trans hf
  refine z_aload_n hX 0 dX7_hinder_6 rfl rfl ?_
  refine z_iload_n hX 2 dX7_hinder_7 rfl rfl ?_
  obtain ⟨q19, e20, hf⟩ := zbind hf
  refine z_callV (stk := [.ref (X.ad 0)]) (stk' := [.int q19.1, .ref (X.ad 0)]) hX (c_X7_isShip X.l st a1 q19 e20) zb_X7_isShip 0 dX7_hinder_8 zm_958 (by decide) shM_0 rfl rfl rfl rfl ⟨by decide, by decide⟩ ⟨rfl, rfl⟩ (Nat.le_of_ble_eq_true rfl) rfl ?_
  refine z_if_ne hX 18 dX7_hinder_11 (by decide) (fun c21 => ?_) (fun c21 => ?_)
  · have hf := (if_neg c21).symm.trans hf
    refine z_iload_n hX 1 dX7_hinder_18 rfl rfl ?_
    refine z_iconst (v := 0) hX dX7_hinder_19 (by decide) ?_
    refine z_iconst (v := 2) hX dX7_hinder_20 (by decide) ?_
    obtain ⟨q22, e23, hf⟩ := zbind hf
    refine z_callS (stk := [.ref (X.ad 0)]) (stk' := [.int q22.1, .ref (X.ad 0)]) hX (c_X7_in X.l q19.2 a0 0 2 q22 e23) zb_X7_in dX7_hinder_21 zm_951 rfl rfl rfl ⟨by decide, by decide⟩ ⟨rfl, rfl⟩ (Nat.le_of_ble_eq_true rfl) rfl ?_
    refine z_if_eq hX 50 dX7_hinder_24 (by decide) (fun c24 => ?_) (fun c24 => ?_)
    · have hf := (if_pos c24).symm.trans hf
      refine z_iconst (v := 2) hX dX7_hinder_50 (by decide) ?_
      refine z_goto hX 55 dX7_hinder_51 (by decide) ?_
      refine z_putI hX 0 52 dX7_hinder_55 (by decide) shM_0 rfl rfl zin_X7 tyX7_ok nmX7 (by decide) zm_832 rfl rfl ?_
      obtain ⟨s25, h26, hf⟩ := zlet_ex hf
      refine z_name h26 ?_
      exact t_X7_hinder_58 X out hX hQ hnl s25 a0 a1 a2 a3 hf
    have hf := (if_neg c24).symm.trans hf
    refine z_iload_n hX 3 dX7_hinder_27 rfl rfl ?_
    refine z_iconst (v := 0) hX dX7_hinder_28 (by decide) ?_
    refine z_sipush (v := 10000) hX dX7_hinder_29 (by decide) ?_
    obtain ⟨q27, e28, hf⟩ := zbind hf
    refine z_callS (stk := [.ref (X.ad 0)]) (stk' := [.int q27.1, .ref (X.ad 0)]) hX (c_X7_in X.l q22.2 a2 0 10000 q27 e28) zb_X7_in dX7_hinder_32 zm_951 rfl rfl rfl ⟨by decide, by decide⟩ ⟨rfl, rfl⟩ (Nat.le_of_ble_eq_true rfl) rfl ?_
    refine z_if_eq hX 50 dX7_hinder_35 (by decide) (fun c29 => ?_) (fun c29 => ?_)
    · have hf := (if_pos c29).symm.trans hf
      refine z_iconst (v := 2) hX dX7_hinder_50 (by decide) ?_
      refine z_goto hX 55 dX7_hinder_51 (by decide) ?_
      refine z_putI hX 0 52 dX7_hinder_55 (by decide) shM_0 rfl rfl zin_X7 tyX7_ok nmX7 (by decide) zm_832 rfl rfl ?_
      obtain ⟨s30, h31, hf⟩ := zlet_ex hf
      refine z_name h31 ?_
      exact t_X7_hinder_58 X out hX hQ hnl s30 a0 a1 a2 a3 hf
    have hf := (if_neg c29).symm.trans hf
    refine z_iload hX 4 dX7_hinder_38 rfl ?_
    refine z_iload_n hX 3 dX7_hinder_40 rfl rfl ?_
    refine z_sipush (v := 10000) hX dX7_hinder_41 (by decide) ?_
    obtain ⟨q32, e33, hf⟩ := zbind hf
    refine z_callS (stk := [.ref (X.ad 0)]) (stk' := [.int q32.1, .ref (X.ad 0)]) hX (c_X7_in X.l q27.2 a3 a2 10000 q32 e33) zb_X7_in dX7_hinder_44 zm_951 rfl rfl rfl ⟨by decide, by decide⟩ ⟨rfl, rfl⟩ (Nat.le_of_ble_eq_true rfl) rfl ?_
    refine z_if_ne hX 54 dX7_hinder_47 (by decide) (fun c34 => ?_) (fun c34 => ?_)
    · have hf := (if_neg c34).symm.trans hf
      refine z_iconst (v := 0) hX dX7_hinder_54 (by decide) ?_
      refine z_putI hX 0 52 dX7_hinder_55 (by decide) shM_0 rfl rfl zin_X7 tyX7_ok nmX7 (by decide) zm_832 rfl rfl ?_
      obtain ⟨s35, h36, hf⟩ := zlet_ex hf
      refine z_name h36 ?_
      exact t_X7_hinder_58 X out hX hQ hnl s35 a0 a1 a2 a3 hf
    have hf := (if_pos c34).symm.trans hf
    refine z_iconst (v := 2) hX dX7_hinder_50 (by decide) ?_
    refine z_goto hX 55 dX7_hinder_51 (by decide) ?_
    refine z_putI hX 0 52 dX7_hinder_55 (by decide) shM_0 rfl rfl zin_X7 tyX7_ok nmX7 (by decide) zm_832 rfl rfl ?_
    obtain ⟨s37, h38, hf⟩ := zlet_ex hf
    refine z_name h38 ?_
    exact t_X7_hinder_58 X out hX hQ hnl s37 a0 a1 a2 a3 hf
  have hf := (if_pos c21).symm.trans hf
  refine z_iconst (v := 1) hX dX7_hinder_14 (by decide) ?_
  refine z_goto hX 55 dX7_hinder_15 (by decide) ?_
  refine z_putI hX 0 52 dX7_hinder_55 (by decide) shM_0 rfl rfl zin_X7 tyX7_ok nmX7 (by decide) zm_832 rfl rfl ?_
  obtain ⟨s39, h40, hf⟩ := zlet_ex hf
  refine z_name h40 ?_
  exact t_X7_hinder_58 X out hX hQ hnl s39 a0 a1 a2 a3 hf
theorem zb_X7_hinder : zCal yX7_hinder cX7_hinder 6 none 4 := ⟨zm_979, (zwl_in zm_980 rfl), zm_8, zm_981, by decide, by decide, rfl⟩
theorem c_X7_hinder (l : Launch) (st : zSt) (a0 : Int32) (a1 : Int32) (a2 : Int32) (a3 : Int32) (out : Unit × zSt) (hf : f_X7_hinder st a0 a1 a2 a3 = some out) : zMet l yX7_hinder cX7_hinder 6 none zr_X7_hinder 42 shM (fun ad => [.ref (ad 0), .int a0, .int a1, .int a2, .int a3]) st (fun ad => none) out.2 :=
  zmet_of (by decide +kernel) (fun _ => Nat.le_of_ble_eq_true rfl) (fun X _ hnl hX hQ => t_X7_hinder X out hX hQ hnl st a0 a1 a2 a3 hf)
abbrev zr_X7_hinders : Room := { frames := 1, cells := 0, slots := 0, locals := 22 }
def f_X7_hinders (st : zSt) (a0 : Int32) (a1 : Int32) : Option (Int32 × zSt) := (if zin a0 6 then (if (st.1 12 a0.toNatClampNeg) ≤ 0 then some (0, st) else (if zin a0 6 then (if zin a0 6 then ((f_X7_in st a1 ((st.1 12 a0.toNatClampNeg) - 1) (st.1 13 a0.toNatClampNeg)).bind fun q5 => (if q5.1 = 0 then some (0, q5.2) else some (1, q5.2))) else none) else none)) else none)
set_option maxHeartbeats 4000000 in
set_option maxRecDepth 100000 in
theorem t_X7_hinders (X : zCx) (out : Int32 × zSt) (hX : zOk X RX7 cX7_hinders zr_X7_hinders) (hQ : zPost X 42 shM (some .boolean) (some (.int out.1)) out.2) (hnl : X.nL = 3) (st : zSt) (a0 : Int32) (a1 : Int32) (hf : f_X7_hinders st a0 a1 = some out) : zG 42 shM X st 0 [(0, .ref (X.ad 0)), (1, .int a0), (2, .int a1)] [] := by
  unfold f_X7_hinders at hf
  refine z_aload_n hX 0 dX7_hinders_0 rfl rfl ?_
  refine z_getR hX 0 14 12 dX7_hinders_1 (by decide) shM_0 rfl rfl zin_X7 (by decide) zm_794 ?_
  refine z_iload_n hX 1 dX7_hinders_4 rfl rfl ?_
  obtain ⟨i1, hf⟩ := zifd hf
  refine z_iald hX 12 dX7_hinders_5 (by decide) shM_12 i1 ?_
  refine z_if_le hX 34 dX7_hinders_6 (by decide) (fun c2 => ?_) (fun c2 => ?_)
  · have hf := (if_pos c2).symm.trans hf
    refine z_iconst (v := 0) hX dX7_hinders_34 (by decide) ?_
    obtain rfl := Option.some.inj hf
    exact z_iret hX hQ dX7_hinders_35 rfl
  have hf := (if_neg c2).symm.trans hf
  refine z_iload_n hX 2 dX7_hinders_9 rfl rfl ?_
  refine z_aload_n hX 0 dX7_hinders_10 rfl rfl ?_
  refine z_getR hX 0 14 12 dX7_hinders_11 (by decide) shM_0 rfl rfl zin_X7 (by decide) zm_794 ?_
  refine z_iload_n hX 1 dX7_hinders_14 rfl rfl ?_
  obtain ⟨i3, hf⟩ := zifd hf
  refine z_iald hX 12 dX7_hinders_15 (by decide) shM_12 i3 ?_
  refine z_iconst (v := 1) hX dX7_hinders_16 (by decide) ?_
  refine z_isub hX dX7_hinders_17 ?_
  refine z_aload_n hX 0 dX7_hinders_18 rfl rfl ?_
  refine z_getR hX 0 15 13 dX7_hinders_19 (by decide) shM_0 rfl rfl zin_X7 (by decide) zm_795 ?_
  refine z_iload_n hX 1 dX7_hinders_22 rfl rfl ?_
  obtain ⟨i4, hf⟩ := zifd hf
  refine z_iald hX 13 dX7_hinders_23 (by decide) shM_13 i4 ?_
  obtain ⟨q5, e6, hf⟩ := zbind hf
  refine z_callS (stk := []) (stk' := [.int q5.1]) hX (c_X7_in X.l st a1 ((st.1 12 a0.toNatClampNeg) - 1) (st.1 13 a0.toNatClampNeg) q5 e6) zb_X7_in dX7_hinders_24 zm_951 rfl rfl rfl ⟨by decide, by decide⟩ ⟨rfl, rfl⟩ (Nat.le_of_ble_eq_true rfl) rfl ?_
  refine z_if_eq hX 34 dX7_hinders_27 (by decide) (fun c7 => ?_) (fun c7 => ?_)
  · have hf := (if_pos c7).symm.trans hf
    refine z_iconst (v := 0) hX dX7_hinders_34 (by decide) ?_
    obtain rfl := Option.some.inj hf
    exact z_iret hX hQ dX7_hinders_35 rfl
  have hf := (if_neg c7).symm.trans hf
  refine z_iconst (v := 1) hX dX7_hinders_30 (by decide) ?_
  refine z_goto hX 35 dX7_hinders_31 (by decide) ?_
  obtain rfl := Option.some.inj hf
  exact z_iret hX hQ dX7_hinders_35 rfl
theorem zb_X7_hinders : zCal yX7_hinders cX7_hinders 3 (some .boolean) 2 := ⟨zm_1036, (zws_X7_hinders), zm_8, zm_1037, by decide, by decide, rfl⟩
theorem c_X7_hinders (l : Launch) (st : zSt) (a0 : Int32) (a1 : Int32) (out : Int32 × zSt) (hf : f_X7_hinders st a0 a1 = some out) : zMet l yX7_hinders cX7_hinders 3 (some .boolean) zr_X7_hinders 42 shM (fun ad => [.ref (ad 0), .int a0, .int a1]) st (fun ad => some (.int out.1)) out.2 :=
  zmet_of (by decide +kernel) (fun _ => Nat.le_of_ble_eq_true rfl) (fun X _ hnl hX hQ => t_X7_hinders X out hX hQ hnl st a0 a1 hf)
abbrev zr_X7_bus : Room := { frames := 2, cells := 0, slots := 0, locals := 42 }
def f_X7_bus_41  (st : zSt) (v1 : Int32) (v2 : Int32) (v3 : Int32) : Option (Unit × zSt) := (if (st.1 0 52) = 0 then (if zin v1 6 then (zlet (zwI st 14 v1.toNatClampNeg v2) fun s20 => (if zin v1 6 then (zlet (zwI s20 15 v1.toNatClampNeg v3) fun s23 => some ((), s23)) else none)) else none) else some ((), st))
def f_X7_bus (st : zSt) (a0 : Int32) (a1 : Int32) (a2 : Int32) : Option (Unit × zSt) := ((f_X7_isIsland st a0).bind fun q1 => (if q1.1 = 0 then (zlet (zwI q1.2 0 52 1) fun s16 => f_X7_bus_41 s16 a0 a1 a2) else ((f_X7_in q1.2 a1 1 12).bind fun q4 => (if q4.1 = 0 then (zlet (zwI q4.2 0 52 2) fun s7 => f_X7_bus_41 s7 a0 a1 a2) else ((f_X7_in q4.2 a2 0 (a1 - 1)).bind fun q9 => (if q9.1 = 0 then (zlet (zwI q9.2 0 52 2) fun s14 => f_X7_bus_41 s14 a0 a1 a2) else (zlet (zwI q9.2 0 52 0) fun s12 => f_X7_bus_41 s12 a0 a1 a2)))))))
set_option maxHeartbeats 4000000 in
set_option maxRecDepth 100000 in
theorem t_X7_bus_41 (X : zCx) (out : Unit × zSt) (hX : zOk X RX7 cX7_bus zr_X7_bus) (hQ : zPost X 42 shM none (none) out.2) (hnl : X.nL = 4) (st : zSt) (v1 : Int32) (v2 : Int32) (v3 : Int32) (hf : f_X7_bus_41  st v1 v2 v3 = some out) : zG 42 shM X st 41 [(0, .ref (X.ad 0)), (1, .int v1), (2, .int v2), (3, .int v3)] [] := by
  unfold f_X7_bus_41 at hf
  refine z_aload_n hX 0 dX7_bus_41 rfl rfl ?_
  refine z_getI hX 0 52 dX7_bus_42 (by decide) shM_0 rfl rfl zin_X7 (by decide) zm_832 ?_
  refine z_if_ne hX 62 dX7_bus_45 (by decide) (fun c18 => ?_) (fun c18 => ?_)
  · have hf := (if_neg c18).symm.trans hf
    obtain rfl := Option.some.inj hf
    exact z_vret hX hQ dX7_bus_62
  have hf := (if_pos c18).symm.trans hf
  refine z_aload_n hX 0 dX7_bus_48 rfl rfl ?_
  refine z_getR hX 0 16 14 dX7_bus_49 (by decide) shM_0 rfl rfl zin_X7 (by decide) zm_796 ?_
  refine z_iload_n hX 1 dX7_bus_52 rfl rfl ?_
  refine z_iload_n hX 2 dX7_bus_53 rfl rfl ?_
  obtain ⟨i19, hf⟩ := zifd hf
  refine z_iast hX 14 dX7_bus_54 (by decide) shM_14 i19 ?_
  obtain ⟨s20, h21, hf⟩ := zlet_ex hf
  refine z_name h21 ?_
  refine z_aload_n hX 0 dX7_bus_55 rfl rfl ?_
  refine z_getR hX 0 17 15 dX7_bus_56 (by decide) shM_0 rfl rfl zin_X7 (by decide) zm_797 ?_
  refine z_iload_n hX 1 dX7_bus_59 rfl rfl ?_
  refine z_iload_n hX 3 dX7_bus_60 rfl rfl ?_
  obtain ⟨i22, hf⟩ := zifd hf
  refine z_iast hX 15 dX7_bus_61 (by decide) shM_15 i22 ?_
  obtain ⟨s23, h24, hf⟩ := zlet_ex hf
  refine z_name h24 ?_
  obtain rfl := Option.some.inj hf
  exact z_vret hX hQ dX7_bus_62
set_option maxHeartbeats 4000000 in
set_option maxRecDepth 100000 in
theorem t_X7_bus (X : zCx) (out : Unit × zSt) (hX : zOk X RX7 cX7_bus zr_X7_bus) (hQ : zPost X 42 shM none (none) out.2) (hnl : X.nL = 4) (st : zSt) (a0 : Int32) (a1 : Int32) (a2 : Int32) (hf : f_X7_bus st a0 a1 a2 = some out) : zG 42 shM X st 0 [(0, .ref (X.ad 0)), (1, .int a0), (2, .int a1), (3, .int a2)] [] := by
  unfold f_X7_bus at hf
  refine z_aload_n hX 0 dX7_bus_0 rfl rfl ?_
  refine z_iload_n hX 1 dX7_bus_1 rfl rfl ?_
  obtain ⟨q1, e2, hf⟩ := zbind hf
  refine z_callS (stk := [.ref (X.ad 0)]) (stk' := [.int q1.1, .ref (X.ad 0)]) hX (c_X7_isIsland X.l st a0 q1 e2) zb_X7_isIsland dX7_bus_2 zm_948 rfl rfl rfl ⟨by decide, by decide⟩ ⟨rfl, rfl⟩ (Nat.le_of_ble_eq_true rfl) rfl ?_
  refine z_if_ne hX 12 dX7_bus_5 (by decide) (fun c3 => ?_) (fun c3 => ?_)
  · have hf := (if_neg c3).symm.trans hf
    refine z_iload_n hX 2 dX7_bus_12 rfl rfl ?_
    refine z_iconst (v := 1) hX dX7_bus_13 (by decide) ?_
    refine z_bipush (v := 12) hX dX7_bus_14 (by decide) ?_
    obtain ⟨q4, e5, hf⟩ := zbind hf
    refine z_callS (stk := [.ref (X.ad 0)]) (stk' := [.int q4.1, .ref (X.ad 0)]) hX (c_X7_in X.l q1.2 a1 1 12 q4 e5) zb_X7_in dX7_bus_16 zm_951 rfl rfl rfl ⟨by decide, by decide⟩ ⟨rfl, rfl⟩ (Nat.le_of_ble_eq_true rfl) rfl ?_
    refine z_if_eq hX 33 dX7_bus_19 (by decide) (fun c6 => ?_) (fun c6 => ?_)
    · have hf := (if_pos c6).symm.trans hf
      refine z_iconst (v := 2) hX dX7_bus_33 (by decide) ?_
      refine z_goto hX 38 dX7_bus_34 (by decide) ?_
      refine z_putI hX 0 52 dX7_bus_38 (by decide) shM_0 rfl rfl zin_X7 tyX7_ok nmX7 (by decide) zm_832 rfl rfl ?_
      obtain ⟨s7, h8, hf⟩ := zlet_ex hf
      refine z_name h8 ?_
      exact t_X7_bus_41 X out hX hQ hnl s7 a0 a1 a2 hf
    have hf := (if_neg c6).symm.trans hf
    refine z_iload_n hX 3 dX7_bus_22 rfl rfl ?_
    refine z_iconst (v := 0) hX dX7_bus_23 (by decide) ?_
    refine z_iload_n hX 2 dX7_bus_24 rfl rfl ?_
    refine z_iconst (v := 1) hX dX7_bus_25 (by decide) ?_
    refine z_isub hX dX7_bus_26 ?_
    obtain ⟨q9, e10, hf⟩ := zbind hf
    refine z_callS (stk := [.ref (X.ad 0)]) (stk' := [.int q9.1, .ref (X.ad 0)]) hX (c_X7_in X.l q4.2 a2 0 (a1 - 1) q9 e10) zb_X7_in dX7_bus_27 zm_951 rfl rfl rfl ⟨by decide, by decide⟩ ⟨rfl, rfl⟩ (Nat.le_of_ble_eq_true rfl) rfl ?_
    refine z_if_ne hX 37 dX7_bus_30 (by decide) (fun c11 => ?_) (fun c11 => ?_)
    · have hf := (if_neg c11).symm.trans hf
      refine z_iconst (v := 0) hX dX7_bus_37 (by decide) ?_
      refine z_putI hX 0 52 dX7_bus_38 (by decide) shM_0 rfl rfl zin_X7 tyX7_ok nmX7 (by decide) zm_832 rfl rfl ?_
      obtain ⟨s12, h13, hf⟩ := zlet_ex hf
      refine z_name h13 ?_
      exact t_X7_bus_41 X out hX hQ hnl s12 a0 a1 a2 hf
    have hf := (if_pos c11).symm.trans hf
    refine z_iconst (v := 2) hX dX7_bus_33 (by decide) ?_
    refine z_goto hX 38 dX7_bus_34 (by decide) ?_
    refine z_putI hX 0 52 dX7_bus_38 (by decide) shM_0 rfl rfl zin_X7 tyX7_ok nmX7 (by decide) zm_832 rfl rfl ?_
    obtain ⟨s14, h15, hf⟩ := zlet_ex hf
    refine z_name h15 ?_
    exact t_X7_bus_41 X out hX hQ hnl s14 a0 a1 a2 hf
  have hf := (if_pos c3).symm.trans hf
  refine z_iconst (v := 1) hX dX7_bus_8 (by decide) ?_
  refine z_goto hX 38 dX7_bus_9 (by decide) ?_
  refine z_putI hX 0 52 dX7_bus_38 (by decide) shM_0 rfl rfl zin_X7 tyX7_ok nmX7 (by decide) zm_832 rfl rfl ?_
  obtain ⟨s16, h17, hf⟩ := zlet_ex hf
  refine z_name h17 ?_
  exact t_X7_bus_41 X out hX hQ hnl s16 a0 a1 a2 hf
theorem zb_X7_bus : zCal yX7_bus cX7_bus 4 none 3 := ⟨zm_983, (zwl_in zm_984 rfl), zm_8, zm_985, by decide, by decide, rfl⟩
theorem c_X7_bus (l : Launch) (st : zSt) (a0 : Int32) (a1 : Int32) (a2 : Int32) (out : Unit × zSt) (hf : f_X7_bus st a0 a1 a2 = some out) : zMet l yX7_bus cX7_bus 4 none zr_X7_bus 42 shM (fun ad => [.ref (ad 0), .int a0, .int a1, .int a2]) st (fun ad => none) out.2 :=
  zmet_of (by decide +kernel) (fun _ => Nat.le_of_ble_eq_true rfl) (fun X _ hnl hX hQ => t_X7_bus X out hX hQ hnl st a0 a1 a2 hf)
abbrev zr_X7_reside : Room := { frames := 1, cells := 0, slots := 0, locals := 22 }
def f_X7_reside_28  (st : zSt) (v1 : Int32) (v2 : Int32) : Option (Int32 × zSt) := (if (st.1 0 52) ≤ 0 then (if zin v1 10 then (if zin v1 10 then (zlet (zwI st 16 v1.toNatClampNeg (v2 + 1)) fun s16 => some (((st.1 16 v1.toNatClampNeg) - 1), s16)) else none) else none) else some (0, st))
def f_X7_reside (st : zSt) (a0 : Int32) (a1 : Int32) : Option (Int32 × zSt) := ((f_X7_in st a0 0 9).bind fun q1 => (if q1.1 = 0 then (zlet (zwI q1.2 0 52 1) fun s4 => f_X7_reside_28 s4 a0 a1) else ((f_X7_in q1.2 a1 (-1) 5).bind fun q6 => (if q6.1 = 0 then (zlet (zwI q6.2 0 52 1) fun s11 => f_X7_reside_28 s11 a0 a1) else (zlet (zwI q6.2 0 52 0) fun s9 => f_X7_reside_28 s9 a0 a1)))))
set_option maxHeartbeats 4000000 in
set_option maxRecDepth 100000 in
theorem t_X7_reside_28 (X : zCx) (out : Int32 × zSt) (hX : zOk X RX7 cX7_reside zr_X7_reside) (hQ : zPost X 42 shM (some .int) (some (.int out.1)) out.2) (hnl : X.nL = 4) (st : zSt) (v1 : Int32) (v2 : Int32) (hf : f_X7_reside_28  st v1 v2 = some out) : zG 42 shM X st 28 [(0, .ref (X.ad 0)), (1, .int v1), (2, .int v2)] [] := by
  unfold f_X7_reside_28 at hf
  refine z_aload_n hX 0 dX7_reside_28 rfl rfl ?_
  refine z_getI hX 0 52 dX7_reside_29 (by decide) shM_0 rfl rfl zin_X7 (by decide) zm_832 ?_
  refine z_if_le hX 37 dX7_reside_32 (by decide) (fun c13 => ?_) (fun c13 => ?_)
  · have hf := (if_pos c13).symm.trans hf
    refine z_aload_n hX 0 dX7_reside_37 rfl rfl ?_
    refine z_getR hX 0 18 16 dX7_reside_38 (by decide) shM_0 rfl rfl zin_X7 (by decide) zm_798 ?_
    refine z_iload_n hX 1 dX7_reside_41 rfl rfl ?_
    obtain ⟨i14, hf⟩ := zifd hf
    refine z_iald hX 16 dX7_reside_42 (by decide) shM_16 i14 ?_
    refine z_iconst (v := 1) hX dX7_reside_43 (by decide) ?_
    refine z_isub hX dX7_reside_44 ?_
    refine z_istore_n hX [(0, .ref (X.ad 0)), (1, .int v1), (2, .int v2), (3, .int ((st.1 16 v1.toNatClampNeg) - 1))] dX7_reside_45 rfl (by rw [hnl]; decide) [1, 2, 3, 0] rfl ?_
    refine z_aload_n hX 0 dX7_reside_46 rfl rfl ?_
    refine z_getR hX 0 18 16 dX7_reside_47 (by decide) shM_0 rfl rfl zin_X7 (by decide) zm_798 ?_
    refine z_iload_n hX 1 dX7_reside_50 rfl rfl ?_
    refine z_iload_n hX 2 dX7_reside_51 rfl rfl ?_
    refine z_iconst (v := 1) hX dX7_reside_52 (by decide) ?_
    refine z_iadd hX dX7_reside_53 ?_
    obtain ⟨i15, hf⟩ := zifd hf
    refine z_iast hX 16 dX7_reside_54 (by decide) shM_16 i15 ?_
    obtain ⟨s16, h17, hf⟩ := zlet_ex hf
    refine z_name h17 ?_
    refine z_iload_n hX 3 dX7_reside_55 rfl rfl ?_
    obtain rfl := Option.some.inj hf
    exact z_iret hX hQ dX7_reside_56 rfl
  have hf := (if_neg c13).symm.trans hf
  refine z_iconst (v := 0) hX dX7_reside_35 (by decide) ?_
  obtain rfl := Option.some.inj hf
  exact z_iret hX hQ dX7_reside_36 rfl
set_option maxHeartbeats 4000000 in
set_option maxRecDepth 100000 in
theorem t_X7_reside (X : zCx) (out : Int32 × zSt) (hX : zOk X RX7 cX7_reside zr_X7_reside) (hQ : zPost X 42 shM (some .int) (some (.int out.1)) out.2) (hnl : X.nL = 4) (st : zSt) (a0 : Int32) (a1 : Int32) (hf : f_X7_reside st a0 a1 = some out) : zG 42 shM X st 0 [(0, .ref (X.ad 0)), (1, .int a0), (2, .int a1)] [] := by
  unfold f_X7_reside at hf
  refine z_aload_n hX 0 dX7_reside_0 rfl rfl ?_
  refine z_iload_n hX 1 dX7_reside_1 rfl rfl ?_
  refine z_iconst (v := 0) hX dX7_reside_2 (by decide) ?_
  refine z_bipush (v := 9) hX dX7_reside_3 (by decide) ?_
  obtain ⟨q1, e2, hf⟩ := zbind hf
  refine z_callS (stk := [.ref (X.ad 0)]) (stk' := [.int q1.1, .ref (X.ad 0)]) hX (c_X7_in X.l st a0 0 9 q1 e2) zb_X7_in dX7_reside_5 zm_951 rfl rfl rfl ⟨by decide, by decide⟩ ⟨rfl, rfl⟩ (Nat.le_of_ble_eq_true rfl) rfl ?_
  refine z_if_eq hX 20 dX7_reside_8 (by decide) (fun c3 => ?_) (fun c3 => ?_)
  · have hf := (if_pos c3).symm.trans hf
    refine z_iconst (v := 1) hX dX7_reside_20 (by decide) ?_
    refine z_goto hX 25 dX7_reside_21 (by decide) ?_
    refine z_putI hX 0 52 dX7_reside_25 (by decide) shM_0 rfl rfl zin_X7 tyX7_ok nmX7 (by decide) zm_832 rfl rfl ?_
    obtain ⟨s4, h5, hf⟩ := zlet_ex hf
    refine z_name h5 ?_
    exact t_X7_reside_28 X out hX hQ hnl s4 a0 a1 hf
  have hf := (if_neg c3).symm.trans hf
  refine z_iload_n hX 2 dX7_reside_11 rfl rfl ?_
  refine z_iconst (v := (-1)) hX dX7_reside_12 (by decide) ?_
  refine z_iconst (v := 5) hX dX7_reside_13 (by decide) ?_
  obtain ⟨q6, e7, hf⟩ := zbind hf
  refine z_callS (stk := [.ref (X.ad 0)]) (stk' := [.int q6.1, .ref (X.ad 0)]) hX (c_X7_in X.l q1.2 a1 (-1) 5 q6 e7) zb_X7_in dX7_reside_14 zm_951 rfl rfl rfl ⟨by decide, by decide⟩ ⟨rfl, rfl⟩ (Nat.le_of_ble_eq_true rfl) rfl ?_
  refine z_if_ne hX 24 dX7_reside_17 (by decide) (fun c8 => ?_) (fun c8 => ?_)
  · have hf := (if_neg c8).symm.trans hf
    refine z_iconst (v := 0) hX dX7_reside_24 (by decide) ?_
    refine z_putI hX 0 52 dX7_reside_25 (by decide) shM_0 rfl rfl zin_X7 tyX7_ok nmX7 (by decide) zm_832 rfl rfl ?_
    obtain ⟨s9, h10, hf⟩ := zlet_ex hf
    refine z_name h10 ?_
    exact t_X7_reside_28 X out hX hQ hnl s9 a0 a1 hf
  have hf := (if_pos c8).symm.trans hf
  refine z_iconst (v := 1) hX dX7_reside_20 (by decide) ?_
  refine z_goto hX 25 dX7_reside_21 (by decide) ?_
  refine z_putI hX 0 52 dX7_reside_25 (by decide) shM_0 rfl rfl zin_X7 tyX7_ok nmX7 (by decide) zm_832 rfl rfl ?_
  obtain ⟨s11, h12, hf⟩ := zlet_ex hf
  refine z_name h12 ?_
  exact t_X7_reside_28 X out hX hQ hnl s11 a0 a1 hf
theorem zb_X7_reside : zCal yX7_reside cX7_reside 4 (some .int) 2 := ⟨zm_987, (zwl_in zm_988 rfl), zm_8, zm_989, by decide, by decide, rfl⟩
theorem c_X7_reside (l : Launch) (st : zSt) (a0 : Int32) (a1 : Int32) (out : Int32 × zSt) (hf : f_X7_reside st a0 a1 = some out) : zMet l yX7_reside cX7_reside 4 (some .int) zr_X7_reside 42 shM (fun ad => [.ref (ad 0), .int a0, .int a1]) st (fun ad => some (.int out.1)) out.2 :=
  zmet_of (by decide +kernel) (fun _ => Nat.le_of_ble_eq_true rfl) (fun X _ hnl hX hQ => t_X7_reside X out hX hQ hnl st a0 a1 hf)
abbrev zr_X7_hoursOf : Room := { frames := 0, cells := 0, slots := 0, locals := 0 }
def f_X7_hoursOf (st : zSt) (a0 : Int32) : Option (Int32 × zSt) := (if zin a0 24 then (if zin (st.1 17 a0.toNatClampNeg) 4 then (if zin a0 24 then (if ¬ (st.1 6 (st.1 17 a0.toNatClampNeg).toNatClampNeg) = 0 then some (((((st.1 21 a0.toNatClampNeg) + (st.1 6 (st.1 17 a0.toNatClampNeg).toNatClampNeg)) - 1) / (st.1 6 (st.1 17 a0.toNatClampNeg).toNatClampNeg)), st) else none) else none) else none) else none)
set_option maxHeartbeats 4000000 in
set_option maxRecDepth 100000 in
theorem t_X7_hoursOf (X : zCx) (out : Int32 × zSt) (hX : zOk X RX7 cX7_hoursOf zr_X7_hoursOf) (hQ : zPost X 42 shM (some .int) (some (.int out.1)) out.2) (hnl : X.nL = 3) (st : zSt) (a0 : Int32) (hf : f_X7_hoursOf st a0 = some out) : zG 42 shM X st 0 [(0, .ref (X.ad 0)), (1, .int a0)] [] := by
  unfold f_X7_hoursOf at hf
  refine z_aload_n hX 0 dX7_hoursOf_0 rfl rfl ?_
  refine z_getR hX 0 7 6 dX7_hoursOf_1 (by decide) shM_0 rfl rfl zin_X7 (by decide) zm_787 ?_
  refine z_aload_n hX 0 dX7_hoursOf_4 rfl rfl ?_
  refine z_getR hX 0 20 17 dX7_hoursOf_5 (by decide) shM_0 rfl rfl zin_X7 (by decide) zm_800 ?_
  refine z_iload_n hX 1 dX7_hoursOf_8 rfl rfl ?_
  obtain ⟨i1, hf⟩ := zifd hf
  refine z_iald hX 17 dX7_hoursOf_9 (by decide) shM_17 i1 ?_
  obtain ⟨i2, hf⟩ := zifd hf
  refine z_iald hX 6 dX7_hoursOf_10 (by decide) shM_6 i2 ?_
  refine z_istore_n hX [(0, .ref (X.ad 0)), (1, .int a0), (2, .int (st.1 6 (st.1 17 a0.toNatClampNeg).toNatClampNeg))] dX7_hoursOf_11 rfl (by rw [hnl]; decide) [1, 2, 0] rfl ?_
  refine z_aload_n hX 0 dX7_hoursOf_12 rfl rfl ?_
  refine z_getR hX 0 24 21 dX7_hoursOf_13 (by decide) shM_0 rfl rfl zin_X7 (by decide) zm_804 ?_
  refine z_iload_n hX 1 dX7_hoursOf_16 rfl rfl ?_
  obtain ⟨i3, hf⟩ := zifd hf
  refine z_iald hX 21 dX7_hoursOf_17 (by decide) shM_21 i3 ?_
  refine z_iload_n hX 2 dX7_hoursOf_18 rfl rfl ?_
  refine z_iadd hX dX7_hoursOf_19 ?_
  refine z_iconst (v := 1) hX dX7_hoursOf_20 (by decide) ?_
  refine z_isub hX dX7_hoursOf_21 ?_
  refine z_iload_n hX 2 dX7_hoursOf_22 rfl rfl ?_
  obtain ⟨i4, hf⟩ := zifd hf
  refine z_idiv hX dX7_hoursOf_23 i4 ?_
  obtain rfl := Option.some.inj hf
  exact z_iret hX hQ dX7_hoursOf_24 rfl
theorem zb_X7_hoursOf : zCal yX7_hoursOf cX7_hoursOf 3 (some .int) 1 := ⟨zm_1008, (zws_X7_hoursOf), zm_8, zm_1009, by decide, by decide, rfl⟩
theorem c_X7_hoursOf (l : Launch) (st : zSt) (a0 : Int32) (out : Int32 × zSt) (hf : f_X7_hoursOf st a0 = some out) : zMet l yX7_hoursOf cX7_hoursOf 3 (some .int) zr_X7_hoursOf 42 shM (fun ad => [.ref (ad 0), .int a0]) st (fun ad => some (.int out.1)) out.2 :=
  zmet_of (by decide +kernel) (fun _ => Nat.le_of_ble_eq_true rfl) (fun X _ hnl hX hQ => t_X7_hoursOf X out hX hQ hnl st a0 hf)
abbrev zr_X7_endOf : Room := { frames := 1, cells := 0, slots := 0, locals := 22 }
def f_X7_endOf (st : zSt) (a0 : Int32) : Option (Int32 × zSt) := (if zin a0 24 then ((f_X7_hoursOf st a0).bind fun q2 => some (((st.1 20 a0.toNatClampNeg) + q2.1), q2.2)) else none)
set_option maxHeartbeats 4000000 in
set_option maxRecDepth 100000 in
theorem t_X7_endOf (X : zCx) (out : Int32 × zSt) (hX : zOk X RX7 cX7_endOf zr_X7_endOf) (hQ : zPost X 42 shM (some .int) (some (.int out.1)) out.2) (hnl : X.nL = 2) (st : zSt) (a0 : Int32) (hf : f_X7_endOf st a0 = some out) : zG 42 shM X st 0 [(0, .ref (X.ad 0)), (1, .int a0)] [] := by
  unfold f_X7_endOf at hf
  refine z_aload_n hX 0 dX7_endOf_0 rfl rfl ?_
  refine z_getR hX 0 23 20 dX7_endOf_1 (by decide) shM_0 rfl rfl zin_X7 (by decide) zm_803 ?_
  refine z_iload_n hX 1 dX7_endOf_4 rfl rfl ?_
  obtain ⟨i1, hf⟩ := zifd hf
  refine z_iald hX 20 dX7_endOf_5 (by decide) shM_20 i1 ?_
  refine z_aload_n hX 0 dX7_endOf_6 rfl rfl ?_
  refine z_iload_n hX 1 dX7_endOf_7 rfl rfl ?_
  obtain ⟨q2, e3, hf⟩ := zbind hf
  refine z_callV (stk := [.int (st.1 20 a0.toNatClampNeg)]) (stk' := [.int q2.1, .int (st.1 20 a0.toNatClampNeg)]) hX (c_X7_hoursOf X.l st a0 q2 e3) zb_X7_hoursOf 0 dX7_endOf_8 zm_1006 (by decide) shM_0 rfl rfl rfl rfl ⟨by decide, by decide⟩ ⟨rfl, rfl⟩ (Nat.le_of_ble_eq_true rfl) rfl ?_
  refine z_iadd hX dX7_endOf_11 ?_
  obtain rfl := Option.some.inj hf
  exact z_iret hX hQ dX7_endOf_12 rfl
theorem zb_X7_endOf : zCal yX7_endOf cX7_endOf 2 (some .int) 1 := ⟨zm_1004, (zws_X7_endOf), zm_8, zm_1005, by decide, by decide, rfl⟩
theorem c_X7_endOf (l : Launch) (st : zSt) (a0 : Int32) (out : Int32 × zSt) (hf : f_X7_endOf st a0 = some out) : zMet l yX7_endOf cX7_endOf 2 (some .int) zr_X7_endOf 42 shM (fun ad => [.ref (ad 0), .int a0]) st (fun ad => some (.int out.1)) out.2 :=
  zmet_of (by decide +kernel) (fun _ => Nat.le_of_ble_eq_true rfl) (fun X _ hnl hX hQ => t_X7_endOf X out hX hQ hnl st a0 hf)
abbrev zr_X7_placeIn : Room := { frames := 2, cells := 0, slots := 0, locals := 43 }
def f_X7_placeIn_13  : Nat → zSt → Int32 → Int32 → Int32 → Int32 → Int32 → Option (Int32 × zSt)
  | 0, _, _, _, _, _, _ => none
  | n + 1, st, v1, v2, v3, v4, v5 => (if (st.1 0 19) ≤ v5 then some (v3, st) else (if zin v5 24 then (if (st.1 17 v5.toNatClampNeg) = v1 then (if zin v5 24 then (if (st.1 22 v5.toNatClampNeg) = 2 then (if zin v5 24 then (if v2 < (st.1 20 v5.toNatClampNeg) then f_X7_placeIn_13 n st v1 v2 v3 v4 (v5 + 1) else (if zin v5 24 then (if (st.1 20 v5.toNatClampNeg) ≤ v4 then f_X7_placeIn_13 n st v1 v2 v3 v4 (v5 + 1) else (if zin v5 24 then ((f_X7_endOf st v5).bind fun q12 => (if q12.1 ≤ v2 then (if zin v5 24 then f_X7_placeIn_13 n q12.2 v1 v2 (q12.2.1 19 v5.toNatClampNeg) (st.1 20 v5.toNatClampNeg) (v5 + 1) else none) else f_X7_placeIn_13 n q12.2 v1 v2 (-1) (st.1 20 v5.toNatClampNeg) (v5 + 1))) else none)) else none)) else none) else f_X7_placeIn_13 n st v1 v2 v3 v4 (v5 + 1)) else none) else f_X7_placeIn_13 n st v1 v2 v3 v4 (v5 + 1)) else none))
def f_X7_placeIn (st : zSt) (a0 : Int32) (a1 : Int32) : Option (Int32 × zSt) := (if zin a0 4 then f_X7_placeIn_13 64 st a0 a1 (st.1 1 a0.toNatClampNeg) (-1) 0 else none)
set_option maxHeartbeats 4000000 in
set_option maxRecDepth 100000 in
theorem t_X7_placeIn_13 (X : zCx) (out : Int32 × zSt) (hX : zOk X RX7 cX7_placeIn zr_X7_placeIn) (hQ : zPost X 42 shM (some .int) (some (.int out.1)) out.2) (hnl : X.nL = 6) : ∀ (n : Nat) (st : zSt) (v1 : Int32) (v2 : Int32) (v3 : Int32) (v4 : Int32) (v5 : Int32), f_X7_placeIn_13  n st v1 v2 v3 v4 v5 = some out → zG 42 shM X st 13 [(0, .ref (X.ad 0)), (1, .int v1), (2, .int v2), (3, .int v3), (4, .int v4), (5, .int v5)] [] := by
  intro n
  induction n with
  | zero => intro st v1 v2 v3 v4 v5 hf; rw [f_X7_placeIn_13] at hf; exact (znone hf).elim
  | succ n ih =>
    intro st v1 v2 v3 v4 v5 hf
    rw [f_X7_placeIn_13] at hf
    refine z_iload hX 5 dX7_placeIn_13 rfl ?_
    refine z_aload_n hX 0 dX7_placeIn_15 rfl rfl ?_
    refine z_getI hX 0 19 dX7_placeIn_16 (by decide) shM_0 rfl rfl zin_X7 (by decide) zm_799 ?_
    refine z_icmp_ge hX 104 dX7_placeIn_19 (by decide) (fun c2 => ?_) (fun c2 => ?_)
    · have hf := (if_pos c2).symm.trans hf
      refine z_iload_n hX 3 dX7_placeIn_104 rfl rfl ?_
      obtain rfl := Option.some.inj hf
      exact z_iret hX hQ dX7_placeIn_105 rfl
    have hf := (if_neg c2).symm.trans hf
    refine z_aload_n hX 0 dX7_placeIn_22 rfl rfl ?_
    refine z_getR hX 0 20 17 dX7_placeIn_23 (by decide) shM_0 rfl rfl zin_X7 (by decide) zm_800 ?_
    refine z_iload hX 5 dX7_placeIn_26 rfl ?_
    obtain ⟨i3, hf⟩ := zifd hf
    refine z_iald hX 17 dX7_placeIn_28 (by decide) shM_17 i3 ?_
    refine z_iload_n hX 1 dX7_placeIn_29 rfl rfl ?_
    refine z_icmp_ne hX 98 dX7_placeIn_30 (by decide) (fun c4 => ?_) (fun c4 => ?_)
    · have hf := (if_neg c4).symm.trans hf
      refine z_iinc (j := 5) (v := 1) hX [(0, .ref (X.ad 0)), (1, .int v1), (2, .int v2), (3, .int v3), (4, .int v4), (5, .int (v5 + 1))] dX7_placeIn_98 rfl (by decide) (by rw [hnl]; decide) [1, 2, 3, 4, 5, 0] rfl ?_
      refine z_goto hX 13 dX7_placeIn_101 (by decide) ?_
      exact ih st v1 v2 v3 v4 (v5 + 1) hf
    have hf := (if_pos c4).symm.trans hf
    refine z_aload_n hX 0 dX7_placeIn_33 rfl rfl ?_
    refine z_getR hX 0 25 22 dX7_placeIn_34 (by decide) shM_0 rfl rfl zin_X7 (by decide) zm_805 ?_
    refine z_iload hX 5 dX7_placeIn_37 rfl ?_
    obtain ⟨i5, hf⟩ := zifd hf
    refine z_iald hX 22 dX7_placeIn_39 (by decide) shM_22 i5 ?_
    refine z_iconst (v := 2) hX dX7_placeIn_40 (by decide) ?_
    refine z_icmp_ne hX 98 dX7_placeIn_41 (by decide) (fun c6 => ?_) (fun c6 => ?_)
    · have hf := (if_neg c6).symm.trans hf
      refine z_iinc (j := 5) (v := 1) hX [(0, .ref (X.ad 0)), (1, .int v1), (2, .int v2), (3, .int v3), (4, .int v4), (5, .int (v5 + 1))] dX7_placeIn_98 rfl (by decide) (by rw [hnl]; decide) [1, 2, 3, 4, 5, 0] rfl ?_
      refine z_goto hX 13 dX7_placeIn_101 (by decide) ?_
      exact ih st v1 v2 v3 v4 (v5 + 1) hf
    have hf := (if_pos c6).symm.trans hf
    refine z_aload_n hX 0 dX7_placeIn_44 rfl rfl ?_
    refine z_getR hX 0 23 20 dX7_placeIn_45 (by decide) shM_0 rfl rfl zin_X7 (by decide) zm_803 ?_
    refine z_iload hX 5 dX7_placeIn_48 rfl ?_
    obtain ⟨i7, hf⟩ := zifd hf
    refine z_iald hX 20 dX7_placeIn_50 (by decide) shM_20 i7 ?_
    refine z_iload_n hX 2 dX7_placeIn_51 rfl rfl ?_
    refine z_icmp_gt hX 98 dX7_placeIn_52 (by decide) (fun c8 => ?_) (fun c8 => ?_)
    · have hf := (if_pos c8).symm.trans hf
      refine z_iinc (j := 5) (v := 1) hX [(0, .ref (X.ad 0)), (1, .int v1), (2, .int v2), (3, .int v3), (4, .int v4), (5, .int (v5 + 1))] dX7_placeIn_98 rfl (by decide) (by rw [hnl]; decide) [1, 2, 3, 4, 5, 0] rfl ?_
      refine z_goto hX 13 dX7_placeIn_101 (by decide) ?_
      exact ih st v1 v2 v3 v4 (v5 + 1) hf
    have hf := (if_neg c8).symm.trans hf
    refine z_aload_n hX 0 dX7_placeIn_55 rfl rfl ?_
    refine z_getR hX 0 23 20 dX7_placeIn_56 (by decide) shM_0 rfl rfl zin_X7 (by decide) zm_803 ?_
    refine z_iload hX 5 dX7_placeIn_59 rfl ?_
    obtain ⟨i9, hf⟩ := zifd hf
    refine z_iald hX 20 dX7_placeIn_61 (by decide) shM_20 i9 ?_
    refine z_iload hX 4 dX7_placeIn_62 rfl ?_
    refine z_icmp_le hX 98 dX7_placeIn_64 (by decide) (fun c10 => ?_) (fun c10 => ?_)
    · have hf := (if_pos c10).symm.trans hf
      refine z_iinc (j := 5) (v := 1) hX [(0, .ref (X.ad 0)), (1, .int v1), (2, .int v2), (3, .int v3), (4, .int v4), (5, .int (v5 + 1))] dX7_placeIn_98 rfl (by decide) (by rw [hnl]; decide) [1, 2, 3, 4, 5, 0] rfl ?_
      refine z_goto hX 13 dX7_placeIn_101 (by decide) ?_
      exact ih st v1 v2 v3 v4 (v5 + 1) hf
    have hf := (if_neg c10).symm.trans hf
    refine z_aload_n hX 0 dX7_placeIn_67 rfl rfl ?_
    refine z_getR hX 0 23 20 dX7_placeIn_68 (by decide) shM_0 rfl rfl zin_X7 (by decide) zm_803 ?_
    refine z_iload hX 5 dX7_placeIn_71 rfl ?_
    obtain ⟨i11, hf⟩ := zifd hf
    refine z_iald hX 20 dX7_placeIn_73 (by decide) shM_20 i11 ?_
    refine z_istore hX [(0, .ref (X.ad 0)), (1, .int v1), (2, .int v2), (3, .int v3), (4, .int (st.1 20 v5.toNatClampNeg)), (5, .int v5)] dX7_placeIn_74 (by rw [hnl]; decide) [1, 2, 3, 4, 0, 5] rfl ?_
    refine z_iload_n hX 2 dX7_placeIn_76 rfl rfl ?_
    refine z_aload_n hX 0 dX7_placeIn_77 rfl rfl ?_
    refine z_iload hX 5 dX7_placeIn_78 rfl ?_
    obtain ⟨q12, e13, hf⟩ := zbind hf
    refine z_callV (stk := [.int v2]) (stk' := [.int q12.1, .int v2]) hX (c_X7_endOf X.l st v5 q12 e13) zb_X7_endOf 0 dX7_placeIn_80 zm_1002 (by decide) shM_0 rfl rfl rfl rfl ⟨by decide, by decide⟩ ⟨rfl, rfl⟩ (Nat.le_of_ble_eq_true rfl) rfl ?_
    refine z_icmp_ge hX 90 dX7_placeIn_83 (by decide) (fun c14 => ?_) (fun c14 => ?_)
    · have hf := (if_pos c14).symm.trans hf
      refine z_aload_n hX 0 dX7_placeIn_90 rfl rfl ?_
      refine z_getR hX 0 22 19 dX7_placeIn_91 (by decide) shM_0 rfl rfl zin_X7 (by decide) zm_802 ?_
      refine z_iload hX 5 dX7_placeIn_94 rfl ?_
      obtain ⟨i15, hf⟩ := zifd hf
      refine z_iald hX 19 dX7_placeIn_96 (by decide) shM_19 i15 ?_
      refine z_istore_n hX [(0, .ref (X.ad 0)), (1, .int v1), (2, .int v2), (3, .int (q12.2.1 19 v5.toNatClampNeg)), (4, .int (st.1 20 v5.toNatClampNeg)), (5, .int v5)] dX7_placeIn_97 rfl (by rw [hnl]; decide) [1, 2, 3, 0, 4, 5] rfl ?_
      refine z_iinc (j := 5) (v := 1) hX [(0, .ref (X.ad 0)), (1, .int v1), (2, .int v2), (3, .int (q12.2.1 19 v5.toNatClampNeg)), (4, .int (st.1 20 v5.toNatClampNeg)), (5, .int (v5 + 1))] dX7_placeIn_98 rfl (by decide) (by rw [hnl]; decide) [1, 2, 3, 4, 5, 0] rfl ?_
      refine z_goto hX 13 dX7_placeIn_101 (by decide) ?_
      exact ih q12.2 v1 v2 (q12.2.1 19 v5.toNatClampNeg) (st.1 20 v5.toNatClampNeg) (v5 + 1) hf
    have hf := (if_neg c14).symm.trans hf
    refine z_iconst (v := (-1)) hX dX7_placeIn_86 (by decide) ?_
    refine z_goto hX 97 dX7_placeIn_87 (by decide) ?_
    refine z_istore_n hX [(0, .ref (X.ad 0)), (1, .int v1), (2, .int v2), (3, .int (-1)), (4, .int (st.1 20 v5.toNatClampNeg)), (5, .int v5)] dX7_placeIn_97 rfl (by rw [hnl]; decide) [1, 2, 3, 0, 4, 5] rfl ?_
    refine z_iinc (j := 5) (v := 1) hX [(0, .ref (X.ad 0)), (1, .int v1), (2, .int v2), (3, .int (-1)), (4, .int (st.1 20 v5.toNatClampNeg)), (5, .int (v5 + 1))] dX7_placeIn_98 rfl (by decide) (by rw [hnl]; decide) [1, 2, 3, 4, 5, 0] rfl ?_
    refine z_goto hX 13 dX7_placeIn_101 (by decide) ?_
    exact ih q12.2 v1 v2 (-1) (st.1 20 v5.toNatClampNeg) (v5 + 1) hf
set_option maxHeartbeats 4000000 in
set_option maxRecDepth 100000 in
theorem t_X7_placeIn (X : zCx) (out : Int32 × zSt) (hX : zOk X RX7 cX7_placeIn zr_X7_placeIn) (hQ : zPost X 42 shM (some .int) (some (.int out.1)) out.2) (hnl : X.nL = 6) (st : zSt) (a0 : Int32) (a1 : Int32) (hf : f_X7_placeIn st a0 a1 = some out) : zG 42 shM X st 0 [(0, .ref (X.ad 0)), (1, .int a0), (2, .int a1)] [] := by
  unfold f_X7_placeIn at hf
  refine z_aload_n hX 0 dX7_placeIn_0 rfl rfl ?_
  refine z_getR hX 0 2 1 dX7_placeIn_1 (by decide) shM_0 rfl rfl zin_X7 (by decide) zm_782 ?_
  refine z_iload_n hX 1 dX7_placeIn_4 rfl rfl ?_
  obtain ⟨i1, hf⟩ := zifd hf
  refine z_iald hX 1 dX7_placeIn_5 (by decide) shM_1 i1 ?_
  refine z_istore_n hX [(0, .ref (X.ad 0)), (1, .int a0), (2, .int a1), (3, .int (st.1 1 a0.toNatClampNeg))] dX7_placeIn_6 rfl (by rw [hnl]; decide) [1, 2, 3, 0] rfl ?_
  refine z_iconst (v := (-1)) hX dX7_placeIn_7 (by decide) ?_
  refine z_istore hX [(0, .ref (X.ad 0)), (1, .int a0), (2, .int a1), (3, .int (st.1 1 a0.toNatClampNeg)), (4, .int (-1))] dX7_placeIn_8 (by rw [hnl]; decide) [1, 2, 3, 4, 0] rfl ?_
  refine z_iconst (v := 0) hX dX7_placeIn_10 (by decide) ?_
  refine z_istore hX [(0, .ref (X.ad 0)), (1, .int a0), (2, .int a1), (3, .int (st.1 1 a0.toNatClampNeg)), (4, .int (-1)), (5, .int 0)] dX7_placeIn_11 (by rw [hnl]; decide) [1, 2, 3, 4, 5, 0] rfl ?_
  exact t_X7_placeIn_13 X out hX hQ hnl 64 st a0 a1 (st.1 1 a0.toNatClampNeg) (-1) 0 hf
theorem zb_X7_placeIn : zCal yX7_placeIn cX7_placeIn 6 (some .int) 2 := ⟨zm_1000, (zws_X7_placeIn), zm_8, zm_1001, by decide, by decide, rfl⟩
theorem c_X7_placeIn (l : Launch) (st : zSt) (a0 : Int32) (a1 : Int32) (out : Int32 × zSt) (hf : f_X7_placeIn st a0 a1 = some out) : zMet l yX7_placeIn cX7_placeIn 6 (some .int) zr_X7_placeIn 42 shM (fun ad => [.ref (ad 0), .int a0, .int a1]) st (fun ad => some (.int out.1)) out.2 :=
  zmet_of (by decide +kernel) (fun _ => Nat.le_of_ble_eq_true rfl) (fun X _ hnl hX hQ => t_X7_placeIn X out hX hQ hnl st a0 a1 hf)
abbrev zr_X7_lastOf : Room := { frames := 0, cells := 0, slots := 0, locals := 0 }
def f_X7_lastOf_64 (K4 : zSt → Int32 → Int32 → Int32 → Option (Int32 × zSt)) (st : zSt) (v1 : Int32) (v3 : Int32) : Option (Int32 × zSt) := K4 st v1 v3 (v3 + 1)
def f_X7_lastOf_39 (K4 : zSt → Int32 → Int32 → Int32 → Option (Int32 × zSt)) (st : zSt) (v1 : Int32) (v2 : Int32) (v3 : Int32) (v4 : Int32) : Option (Int32 × zSt) := (if v4 = 0 then K4 st v1 v2 (v3 + 1) else (if v2 = (-1) then f_X7_lastOf_64 K4 st v1 v3 else (if zin v3 24 then (if zin v2 24 then (if (st.1 20 v3.toNatClampNeg) < (st.1 20 v2.toNatClampNeg) then K4 st v1 v2 (v3 + 1) else f_X7_lastOf_64 K4 st v1 v3) else none) else none)))
def f_X7_lastOf_36 (K4 : zSt → Int32 → Int32 → Int32 → Option (Int32 × zSt)) (st : zSt) (v1 : Int32) (v2 : Int32) (v3 : Int32) : Option (Int32 × zSt) := f_X7_lastOf_39 K4 st v1 v2 v3 0
def f_X7_lastOf_4  : Nat → zSt → Int32 → Int32 → Int32 → Option (Int32 × zSt)
  | 0, _, _, _, _ => none
  | n + 1, st, v1, v2, v3 => (if (st.1 0 19) ≤ v3 then some (v2, st) else (if zin v3 24 then (if (st.1 17 v3.toNatClampNeg) = v1 then (if zin v3 24 then (if (st.1 22 v3.toNatClampNeg) = 1 then f_X7_lastOf_36 (fun st v1 v2 v3 => f_X7_lastOf_4 n st v1 v2 v3) st v1 v2 v3 else f_X7_lastOf_39 (fun st v1 v2 v3 => f_X7_lastOf_4 n st v1 v2 v3) st v1 v2 v3 1) else none) else f_X7_lastOf_36 (fun st v1 v2 v3 => f_X7_lastOf_4 n st v1 v2 v3) st v1 v2 v3) else none))
def f_X7_lastOf (st : zSt) (a0 : Int32) : Option (Int32 × zSt) := f_X7_lastOf_4 64 st a0 (-1) 0
set_option maxHeartbeats 4000000 in
set_option maxRecDepth 100000 in
theorem t_X7_lastOf_64 (X : zCx) (out : Int32 × zSt) (hX : zOk X RX7 cX7_lastOf zr_X7_lastOf) (hQ : zPost X 42 shM (some .int) (some (.int out.1)) out.2) (hnl : X.nL = 5) (K4 : zSt → Int32 → Int32 → Int32 → Option (Int32 × zSt)) (hK4 : ∀ (st : zSt) (v1 : Int32) (v2 : Int32) (v3 : Int32), K4 st v1 v2 v3 = some out → zG 42 shM X st 4 [(0, .ref (X.ad 0)), (1, .int v1), (2, .int v2), (3, .int v3)] []) (st : zSt) (v1 : Int32) (v3 : Int32) (hf : f_X7_lastOf_64 K4 st v1 v3 = some out) : zG 42 shM X st 64 [(0, .ref (X.ad 0)), (1, .int v1), (3, .int v3)] [] := by
  unfold f_X7_lastOf_64 at hf
  refine z_iload_n hX 2 dX7_lastOf_64 rfl rfl ?_
  refine z_goto hX 69 dX7_lastOf_65 (by decide) ?_
  refine z_istore_n hX [(0, .ref (X.ad 0)), (1, .int v1), (2, .int v3), (3, .int v3)] dX7_lastOf_69 rfl (by rw [hnl]; decide) [1, 2, 0, 3] rfl ?_
  refine z_iinc (j := 3) (v := 1) hX [(0, .ref (X.ad 0)), (1, .int v1), (2, .int v3), (3, .int (v3 + 1))] dX7_lastOf_70 rfl (by decide) (by rw [hnl]; decide) [1, 2, 3, 0] rfl ?_
  refine z_goto hX 4 dX7_lastOf_73 (by decide) ?_
  exact hK4 st v1 v3 (v3 + 1) hf
set_option maxHeartbeats 4000000 in
set_option maxRecDepth 100000 in
theorem t_X7_lastOf_39 (X : zCx) (out : Int32 × zSt) (hX : zOk X RX7 cX7_lastOf zr_X7_lastOf) (hQ : zPost X 42 shM (some .int) (some (.int out.1)) out.2) (hnl : X.nL = 5) (K4 : zSt → Int32 → Int32 → Int32 → Option (Int32 × zSt)) (hK4 : ∀ (st : zSt) (v1 : Int32) (v2 : Int32) (v3 : Int32), K4 st v1 v2 v3 = some out → zG 42 shM X st 4 [(0, .ref (X.ad 0)), (1, .int v1), (2, .int v2), (3, .int v3)] []) (st : zSt) (v1 : Int32) (v2 : Int32) (v3 : Int32) (v4 : Int32) (hf : f_X7_lastOf_39 K4 st v1 v2 v3 v4 = some out) : zG 42 shM X st 39 [(0, .ref (X.ad 0)), (1, .int v1), (2, .int v2), (3, .int v3), (4, .int v4)] [] := by
  unfold f_X7_lastOf_39 at hf
  refine z_iload hX 4 dX7_lastOf_39 rfl ?_
  refine z_if_eq hX 68 dX7_lastOf_41 (by decide) (fun c6 => ?_) (fun c6 => ?_)
  · have hf := (if_pos c6).symm.trans hf
    refine z_iload_n hX 2 dX7_lastOf_68 rfl rfl ?_
    refine z_istore_n hX [(0, .ref (X.ad 0)), (1, .int v1), (2, .int v2), (3, .int v3), (4, .int v4)] dX7_lastOf_69 rfl (by rw [hnl]; decide) [1, 2, 0, 3, 4] rfl ?_
    refine z_iinc (j := 3) (v := 1) hX [(0, .ref (X.ad 0)), (1, .int v1), (2, .int v2), (3, .int (v3 + 1)), (4, .int v4)] dX7_lastOf_70 rfl (by decide) (by rw [hnl]; decide) [1, 2, 3, 0, 4] rfl ?_
    refine z_goto hX 4 dX7_lastOf_73 (by decide) ?_
    refine z_locals [0, 1, 2, 3] [(0, .ref (X.ad 0)), (1, .int v1), (2, .int v2), (3, .int (v3 + 1))] rfl ?_
    exact hK4 st v1 v2 (v3 + 1) hf
  have hf := (if_neg c6).symm.trans hf
  refine z_iload_n hX 2 dX7_lastOf_44 rfl rfl ?_
  refine z_iconst (v := (-1)) hX dX7_lastOf_45 (by decide) ?_
  refine z_icmp_eq hX 64 dX7_lastOf_46 (by decide) (fun c7 => ?_) (fun c7 => ?_)
  · have hf := (if_pos c7).symm.trans hf
    refine z_locals [0, 1, 3] [(0, .ref (X.ad 0)), (1, .int v1), (3, .int v3)] rfl ?_
    exact t_X7_lastOf_64 X out hX hQ hnl K4 hK4 st v1 v3 hf
  have hf := (if_neg c7).symm.trans hf
  refine z_aload_n hX 0 dX7_lastOf_49 rfl rfl ?_
  refine z_getR hX 0 23 20 dX7_lastOf_50 (by decide) shM_0 rfl rfl zin_X7 (by decide) zm_803 ?_
  refine z_iload_n hX 3 dX7_lastOf_53 rfl rfl ?_
  obtain ⟨i8, hf⟩ := zifd hf
  refine z_iald hX 20 dX7_lastOf_54 (by decide) shM_20 i8 ?_
  refine z_aload_n hX 0 dX7_lastOf_55 rfl rfl ?_
  refine z_getR hX 0 23 20 dX7_lastOf_56 (by decide) shM_0 rfl rfl zin_X7 (by decide) zm_803 ?_
  refine z_iload_n hX 2 dX7_lastOf_59 rfl rfl ?_
  obtain ⟨i9, hf⟩ := zifd hf
  refine z_iald hX 20 dX7_lastOf_60 (by decide) shM_20 i9 ?_
  refine z_icmp_lt hX 68 dX7_lastOf_61 (by decide) (fun c10 => ?_) (fun c10 => ?_)
  · have hf := (if_pos c10).symm.trans hf
    refine z_iload_n hX 2 dX7_lastOf_68 rfl rfl ?_
    refine z_istore_n hX [(0, .ref (X.ad 0)), (1, .int v1), (2, .int v2), (3, .int v3), (4, .int v4)] dX7_lastOf_69 rfl (by rw [hnl]; decide) [1, 2, 0, 3, 4] rfl ?_
    refine z_iinc (j := 3) (v := 1) hX [(0, .ref (X.ad 0)), (1, .int v1), (2, .int v2), (3, .int (v3 + 1)), (4, .int v4)] dX7_lastOf_70 rfl (by decide) (by rw [hnl]; decide) [1, 2, 3, 0, 4] rfl ?_
    refine z_goto hX 4 dX7_lastOf_73 (by decide) ?_
    refine z_locals [0, 1, 2, 3] [(0, .ref (X.ad 0)), (1, .int v1), (2, .int v2), (3, .int (v3 + 1))] rfl ?_
    exact hK4 st v1 v2 (v3 + 1) hf
  have hf := (if_neg c10).symm.trans hf
  refine z_locals [0, 1, 3] [(0, .ref (X.ad 0)), (1, .int v1), (3, .int v3)] rfl ?_
  exact t_X7_lastOf_64 X out hX hQ hnl K4 hK4 st v1 v3 hf
set_option maxHeartbeats 4000000 in
set_option maxRecDepth 100000 in
theorem t_X7_lastOf_36 (X : zCx) (out : Int32 × zSt) (hX : zOk X RX7 cX7_lastOf zr_X7_lastOf) (hQ : zPost X 42 shM (some .int) (some (.int out.1)) out.2) (hnl : X.nL = 5) (K4 : zSt → Int32 → Int32 → Int32 → Option (Int32 × zSt)) (hK4 : ∀ (st : zSt) (v1 : Int32) (v2 : Int32) (v3 : Int32), K4 st v1 v2 v3 = some out → zG 42 shM X st 4 [(0, .ref (X.ad 0)), (1, .int v1), (2, .int v2), (3, .int v3)] []) (st : zSt) (v1 : Int32) (v2 : Int32) (v3 : Int32) (hf : f_X7_lastOf_36 K4 st v1 v2 v3 = some out) : zG 42 shM X st 36 [(0, .ref (X.ad 0)), (1, .int v1), (2, .int v2), (3, .int v3)] [] := by
  unfold f_X7_lastOf_36 at hf
  refine z_iconst (v := 0) hX dX7_lastOf_36 (by decide) ?_
  refine z_istore hX [(0, .ref (X.ad 0)), (1, .int v1), (2, .int v2), (3, .int v3), (4, .int 0)] dX7_lastOf_37 (by rw [hnl]; decide) [1, 2, 3, 4, 0] rfl ?_
  exact t_X7_lastOf_39 X out hX hQ hnl K4 hK4 st v1 v2 v3 0 hf
set_option maxHeartbeats 4000000 in
set_option maxRecDepth 100000 in
theorem t_X7_lastOf_4 (X : zCx) (out : Int32 × zSt) (hX : zOk X RX7 cX7_lastOf zr_X7_lastOf) (hQ : zPost X 42 shM (some .int) (some (.int out.1)) out.2) (hnl : X.nL = 5) : ∀ (n : Nat) (st : zSt) (v1 : Int32) (v2 : Int32) (v3 : Int32), f_X7_lastOf_4  n st v1 v2 v3 = some out → zG 42 shM X st 4 [(0, .ref (X.ad 0)), (1, .int v1), (2, .int v2), (3, .int v3)] [] := by
  intro n
  induction n with
  | zero => intro st v1 v2 v3 hf; rw [f_X7_lastOf_4] at hf; exact (znone hf).elim
  | succ n ih =>
    intro st v1 v2 v3 hf
    rw [f_X7_lastOf_4] at hf
    refine z_iload_n hX 3 dX7_lastOf_4 rfl rfl ?_
    refine z_aload_n hX 0 dX7_lastOf_5 rfl rfl ?_
    refine z_getI hX 0 19 dX7_lastOf_6 (by decide) shM_0 rfl rfl zin_X7 (by decide) zm_799 ?_
    refine z_icmp_ge hX 76 dX7_lastOf_9 (by decide) (fun c1 => ?_) (fun c1 => ?_)
    · have hf := (if_pos c1).symm.trans hf
      refine z_iload_n hX 2 dX7_lastOf_76 rfl rfl ?_
      obtain rfl := Option.some.inj hf
      exact z_iret hX hQ dX7_lastOf_77 rfl
    have hf := (if_neg c1).symm.trans hf
    refine z_aload_n hX 0 dX7_lastOf_12 rfl rfl ?_
    refine z_getR hX 0 20 17 dX7_lastOf_13 (by decide) shM_0 rfl rfl zin_X7 (by decide) zm_800 ?_
    refine z_iload_n hX 3 dX7_lastOf_16 rfl rfl ?_
    obtain ⟨i2, hf⟩ := zifd hf
    refine z_iald hX 17 dX7_lastOf_17 (by decide) shM_17 i2 ?_
    refine z_iload_n hX 1 dX7_lastOf_18 rfl rfl ?_
    refine z_icmp_ne hX 36 dX7_lastOf_19 (by decide) (fun c3 => ?_) (fun c3 => ?_)
    · have hf := (if_neg c3).symm.trans hf
      exact t_X7_lastOf_36 X out hX hQ hnl (fun st v1 v2 v3 => f_X7_lastOf_4 n st v1 v2 v3) ih st v1 v2 v3 hf
    have hf := (if_pos c3).symm.trans hf
    refine z_aload_n hX 0 dX7_lastOf_22 rfl rfl ?_
    refine z_getR hX 0 25 22 dX7_lastOf_23 (by decide) shM_0 rfl rfl zin_X7 (by decide) zm_805 ?_
    refine z_iload_n hX 3 dX7_lastOf_26 rfl rfl ?_
    obtain ⟨i4, hf⟩ := zifd hf
    refine z_iald hX 22 dX7_lastOf_27 (by decide) shM_22 i4 ?_
    refine z_iconst (v := 1) hX dX7_lastOf_28 (by decide) ?_
    refine z_icmp_eq hX 36 dX7_lastOf_29 (by decide) (fun c5 => ?_) (fun c5 => ?_)
    · have hf := (if_pos c5).symm.trans hf
      exact t_X7_lastOf_36 X out hX hQ hnl (fun st v1 v2 v3 => f_X7_lastOf_4 n st v1 v2 v3) ih st v1 v2 v3 hf
    have hf := (if_neg c5).symm.trans hf
    refine z_iconst (v := 1) hX dX7_lastOf_32 (by decide) ?_
    refine z_goto hX 37 dX7_lastOf_33 (by decide) ?_
    refine z_istore hX [(0, .ref (X.ad 0)), (1, .int v1), (2, .int v2), (3, .int v3), (4, .int 1)] dX7_lastOf_37 (by rw [hnl]; decide) [1, 2, 3, 4, 0] rfl ?_
    exact t_X7_lastOf_39 X out hX hQ hnl (fun st v1 v2 v3 => f_X7_lastOf_4 n st v1 v2 v3) ih st v1 v2 v3 1 hf
set_option maxHeartbeats 4000000 in
set_option maxRecDepth 100000 in
theorem t_X7_lastOf (X : zCx) (out : Int32 × zSt) (hX : zOk X RX7 cX7_lastOf zr_X7_lastOf) (hQ : zPost X 42 shM (some .int) (some (.int out.1)) out.2) (hnl : X.nL = 5) (st : zSt) (a0 : Int32) (hf : f_X7_lastOf st a0 = some out) : zG 42 shM X st 0 [(0, .ref (X.ad 0)), (1, .int a0)] [] := by
  unfold f_X7_lastOf at hf
  refine z_iconst (v := (-1)) hX dX7_lastOf_0 (by decide) ?_
  refine z_istore_n hX [(0, .ref (X.ad 0)), (1, .int a0), (2, .int (-1))] dX7_lastOf_1 rfl (by rw [hnl]; decide) [1, 2, 0] rfl ?_
  refine z_iconst (v := 0) hX dX7_lastOf_2 (by decide) ?_
  refine z_istore_n hX [(0, .ref (X.ad 0)), (1, .int a0), (2, .int (-1)), (3, .int 0)] dX7_lastOf_3 rfl (by rw [hnl]; decide) [1, 2, 3, 0] rfl ?_
  exact t_X7_lastOf_4 X out hX hQ hnl 64 st a0 (-1) 0 hf
theorem zb_X7_lastOf : zCal yX7_lastOf cX7_lastOf 5 (some .int) 1 := ⟨zm_996, (zws_X7_lastOf), zm_8, zm_997, by decide, by decide, rfl⟩
theorem c_X7_lastOf (l : Launch) (st : zSt) (a0 : Int32) (out : Int32 × zSt) (hf : f_X7_lastOf st a0 = some out) : zMet l yX7_lastOf cX7_lastOf 5 (some .int) zr_X7_lastOf 42 shM (fun ad => [.ref (ad 0), .int a0]) st (fun ad => some (.int out.1)) out.2 :=
  zmet_of (by decide +kernel) (fun _ => Nat.le_of_ble_eq_true rfl) (fun X _ hnl hX hQ => t_X7_lastOf X out hX hQ hnl st a0 hf)
abbrev zr_X7_makes : Room := { frames := 0, cells := 0, slots := 0, locals := 0 }
def f_X7_makes (st : zSt) (a0 : Int32) (a1 : Int32) (a2 : Int32) (a3 : Int32) (a4 : Int32) : Option (Int32 × zSt) := (if zin (st.1 0 19) 24 then (zlet (zwI st 17 (st.1 0 19).toNatClampNeg a0) fun s2 => (if zin (s2.1 0 19) 24 then (zlet (zwI s2 18 (s2.1 0 19).toNatClampNeg a1) fun s5 => (if zin (s5.1 0 19) 24 then (zlet (zwI s5 19 (s5.1 0 19).toNatClampNeg a2) fun s8 => (if zin (s8.1 0 19) 24 then (zlet (zwI s8 20 (s8.1 0 19).toNatClampNeg a3) fun s11 => (if zin (s11.1 0 19) 24 then (zlet (zwI s11 21 (s11.1 0 19).toNatClampNeg a4) fun s14 => (if zin (s14.1 0 19) 24 then (zlet (zwI s14 22 (s14.1 0 19).toNatClampNeg 0) fun s17 => (zlet (zwI s17 0 19 ((s17.1 0 19) + 1)) fun s19 => some (((s19.1 0 19) - 1), s19))) else none)) else none)) else none)) else none)) else none)) else none)
set_option maxHeartbeats 4000000 in
set_option maxRecDepth 100000 in
theorem t_X7_makes (X : zCx) (out : Int32 × zSt) (hX : zOk X RX7 cX7_makes zr_X7_makes) (hQ : zPost X 42 shM (some .int) (some (.int out.1)) out.2) (hnl : X.nL = 6) (st : zSt) (a0 : Int32) (a1 : Int32) (a2 : Int32) (a3 : Int32) (a4 : Int32) (hf : f_X7_makes st a0 a1 a2 a3 a4 = some out) : zG 42 shM X st 0 [(0, .ref (X.ad 0)), (1, .int a0), (2, .int a1), (3, .int a2), (4, .int a3), (5, .int a4)] [] := by
  unfold f_X7_makes at hf
  refine z_aload_n hX 0 dX7_makes_0 rfl rfl ?_
  refine z_getR hX 0 20 17 dX7_makes_1 (by decide) shM_0 rfl rfl zin_X7 (by decide) zm_800 ?_
  refine z_aload_n hX 0 dX7_makes_4 rfl rfl ?_
  refine z_getI hX 0 19 dX7_makes_5 (by decide) shM_0 rfl rfl zin_X7 (by decide) zm_799 ?_
  refine z_iload_n hX 1 dX7_makes_8 rfl rfl ?_
  obtain ⟨i1, hf⟩ := zifd hf
  refine z_iast hX 17 dX7_makes_9 (by decide) shM_17 i1 ?_
  obtain ⟨s2, h3, hf⟩ := zlet_ex hf
  refine z_name h3 ?_
  refine z_aload_n hX 0 dX7_makes_10 rfl rfl ?_
  refine z_getR hX 0 21 18 dX7_makes_11 (by decide) shM_0 rfl rfl zin_X7 (by decide) zm_801 ?_
  refine z_aload_n hX 0 dX7_makes_14 rfl rfl ?_
  refine z_getI hX 0 19 dX7_makes_15 (by decide) shM_0 rfl rfl zin_X7 (by decide) zm_799 ?_
  refine z_iload_n hX 2 dX7_makes_18 rfl rfl ?_
  obtain ⟨i4, hf⟩ := zifd hf
  refine z_iast hX 18 dX7_makes_19 (by decide) shM_18 i4 ?_
  obtain ⟨s5, h6, hf⟩ := zlet_ex hf
  refine z_name h6 ?_
  refine z_aload_n hX 0 dX7_makes_20 rfl rfl ?_
  refine z_getR hX 0 22 19 dX7_makes_21 (by decide) shM_0 rfl rfl zin_X7 (by decide) zm_802 ?_
  refine z_aload_n hX 0 dX7_makes_24 rfl rfl ?_
  refine z_getI hX 0 19 dX7_makes_25 (by decide) shM_0 rfl rfl zin_X7 (by decide) zm_799 ?_
  refine z_iload_n hX 3 dX7_makes_28 rfl rfl ?_
  obtain ⟨i7, hf⟩ := zifd hf
  refine z_iast hX 19 dX7_makes_29 (by decide) shM_19 i7 ?_
  obtain ⟨s8, h9, hf⟩ := zlet_ex hf
  refine z_name h9 ?_
  refine z_aload_n hX 0 dX7_makes_30 rfl rfl ?_
  refine z_getR hX 0 23 20 dX7_makes_31 (by decide) shM_0 rfl rfl zin_X7 (by decide) zm_803 ?_
  refine z_aload_n hX 0 dX7_makes_34 rfl rfl ?_
  refine z_getI hX 0 19 dX7_makes_35 (by decide) shM_0 rfl rfl zin_X7 (by decide) zm_799 ?_
  refine z_iload hX 4 dX7_makes_38 rfl ?_
  obtain ⟨i10, hf⟩ := zifd hf
  refine z_iast hX 20 dX7_makes_40 (by decide) shM_20 i10 ?_
  obtain ⟨s11, h12, hf⟩ := zlet_ex hf
  refine z_name h12 ?_
  refine z_aload_n hX 0 dX7_makes_41 rfl rfl ?_
  refine z_getR hX 0 24 21 dX7_makes_42 (by decide) shM_0 rfl rfl zin_X7 (by decide) zm_804 ?_
  refine z_aload_n hX 0 dX7_makes_45 rfl rfl ?_
  refine z_getI hX 0 19 dX7_makes_46 (by decide) shM_0 rfl rfl zin_X7 (by decide) zm_799 ?_
  refine z_iload hX 5 dX7_makes_49 rfl ?_
  obtain ⟨i13, hf⟩ := zifd hf
  refine z_iast hX 21 dX7_makes_51 (by decide) shM_21 i13 ?_
  obtain ⟨s14, h15, hf⟩ := zlet_ex hf
  refine z_name h15 ?_
  refine z_aload_n hX 0 dX7_makes_52 rfl rfl ?_
  refine z_getR hX 0 25 22 dX7_makes_53 (by decide) shM_0 rfl rfl zin_X7 (by decide) zm_805 ?_
  refine z_aload_n hX 0 dX7_makes_56 rfl rfl ?_
  refine z_getI hX 0 19 dX7_makes_57 (by decide) shM_0 rfl rfl zin_X7 (by decide) zm_799 ?_
  refine z_iconst (v := 0) hX dX7_makes_60 (by decide) ?_
  obtain ⟨i16, hf⟩ := zifd hf
  refine z_iast hX 22 dX7_makes_61 (by decide) shM_22 i16 ?_
  obtain ⟨s17, h18, hf⟩ := zlet_ex hf
  refine z_name h18 ?_
  refine z_aload_n hX 0 dX7_makes_62 rfl rfl ?_
  refine z_dup hX dX7_makes_63 rfl ?_
  refine z_getI hX 0 19 dX7_makes_64 (by decide) shM_0 rfl rfl zin_X7 (by decide) zm_799 ?_
  refine z_iconst (v := 1) hX dX7_makes_67 (by decide) ?_
  refine z_iadd hX dX7_makes_68 ?_
  refine z_putI hX 0 19 dX7_makes_69 (by decide) shM_0 rfl rfl zin_X7 tyX7_ok nmX7 (by decide) zm_799 rfl rfl ?_
  obtain ⟨s19, h20, hf⟩ := zlet_ex hf
  refine z_name h20 ?_
  refine z_aload_n hX 0 dX7_makes_72 rfl rfl ?_
  refine z_getI hX 0 19 dX7_makes_73 (by decide) shM_0 rfl rfl zin_X7 (by decide) zm_799 ?_
  refine z_iconst (v := 1) hX dX7_makes_76 (by decide) ?_
  refine z_isub hX dX7_makes_77 ?_
  obtain rfl := Option.some.inj hf
  exact z_iret hX hQ dX7_makes_78 rfl
theorem zb_X7_makes : zCal yX7_makes cX7_makes 6 (some .int) 5 := ⟨zm_1012, (zws_X7_makes), zm_8, zm_1013, by decide, by decide, rfl⟩
theorem c_X7_makes (l : Launch) (st : zSt) (a0 : Int32) (a1 : Int32) (a2 : Int32) (a3 : Int32) (a4 : Int32) (out : Int32 × zSt) (hf : f_X7_makes st a0 a1 a2 a3 a4 = some out) : zMet l yX7_makes cX7_makes 6 (some .int) zr_X7_makes 42 shM (fun ad => [.ref (ad 0), .int a0, .int a1, .int a2, .int a3, .int a4]) st (fun ad => some (.int out.1)) out.2 :=
  zmet_of (by decide +kernel) (fun _ => Nat.le_of_ble_eq_true rfl) (fun X _ hnl hX hQ => t_X7_makes X out hX hQ hnl st a0 a1 a2 a3 a4 hf)
abbrev zr_X7_plan : Room := { frames := 3, cells := 0, slots := 0, locals := 68 }
def f_X7_plan_137  (st : zSt) (v1 : Int32) (v2 : Int32) (v3 : Int32) (v4 : Int32) (v6 : Int32) : Option (Int32 × zSt) := (if (st.1 0 52) ≤ 0 then ((f_X7_makes st v1 v6 v2 v3 v4).bind fun q50 => some (q50.1, q50.2)) else some (0, st))
def f_X7_plan_67  (st : zSt) (v1 : Int32) (v2 : Int32) (v3 : Int32) (v4 : Int32) (v5 : Int32) (v6 : Int32) : Option (Int32 × zSt) := ((f_X7_in st v3 (st.1 0 0) 10000).bind fun q20 => (if q20.1 = 0 then (zlet (zwI q20.2 0 52 2) fun s23 => f_X7_plan_137 s23 v1 v2 v3 v4 v6) else ((f_X7_in q20.2 v4 1 400).bind fun q25 => (if q25.1 = 0 then (zlet (zwI q25.2 0 52 2) fun s28 => f_X7_plan_137 s28 v1 v2 v3 v4 v6) else (if v2 = v6 then (zlet (zwI q25.2 0 52 2) fun s47 => f_X7_plan_137 s47 v1 v2 v3 v4 v6) else (if v5 = (-1) then (if (q25.2.1 0 19) = 24 then (zlet (zwI q25.2 0 52 3) fun s35 => f_X7_plan_137 s35 v1 v2 v3 v4 v6) else (zlet (zwI q25.2 0 52 0) fun s33 => f_X7_plan_137 s33 v1 v2 v3 v4 v6)) else ((f_X7_endOf q25.2 v5).bind fun q37 => (if v3 < q37.1 then (zlet (zwI q37.2 0 52 3) fun s40 => f_X7_plan_137 s40 v1 v2 v3 v4 v6) else (if (q37.2.1 0 19) = 24 then (zlet (zwI q37.2 0 52 3) fun s45 => f_X7_plan_137 s45 v1 v2 v3 v4 v6) else (zlet (zwI q37.2 0 52 0) fun s43 => f_X7_plan_137 s43 v1 v2 v3 v4 v6))))))))))
def f_X7_plan_24  (st : zSt) (v1 : Int32) (v2 : Int32) (v3 : Int32) (v4 : Int32) : Option (Int32 × zSt) := (if (st.1 0 52) ≤ 0 then ((f_X7_lastOf st v1).bind fun q14 => (if q14.1 = (-1) then ((f_X7_placeIn q14.2 v1 (q14.2.1 0 0)).bind fun q18 => f_X7_plan_67 q18.2 v1 v2 v3 v4 q14.1 q18.1) else (if zin q14.1 24 then f_X7_plan_67 q14.2 v1 v2 v3 v4 q14.1 (q14.2.1 19 q14.1.toNatClampNeg) else none))) else some (0, st))
def f_X7_plan (st : zSt) (a0 : Int32) (a1 : Int32) (a2 : Int32) (a3 : Int32) : Option (Int32 × zSt) := ((f_X7_isShip st a0).bind fun q1 => (if q1.1 = 0 then (zlet (zwI q1.2 0 52 1) fun s4 => f_X7_plan_24 s4 a0 a1 a2 a3) else ((f_X7_isIsland q1.2 a1).bind fun q6 => (if q6.1 = 0 then (zlet (zwI q6.2 0 52 1) fun s11 => f_X7_plan_24 s11 a0 a1 a2 a3) else (zlet (zwI q6.2 0 52 0) fun s9 => f_X7_plan_24 s9 a0 a1 a2 a3)))))
set_option maxHeartbeats 4000000 in
set_option maxRecDepth 100000 in
theorem t_X7_plan_137 (X : zCx) (out : Int32 × zSt) (hX : zOk X RX7 cX7_plan zr_X7_plan) (hQ : zPost X 42 shM (some .int) (some (.int out.1)) out.2) (hnl : X.nL = 7) (st : zSt) (v1 : Int32) (v2 : Int32) (v3 : Int32) (v4 : Int32) (v6 : Int32) (hf : f_X7_plan_137  st v1 v2 v3 v4 v6 = some out) : zG 42 shM X st 137 [(0, .ref (X.ad 0)), (1, .int v1), (2, .int v2), (3, .int v3), (4, .int v4), (6, .int v6)] [] := by
  unfold f_X7_plan_137 at hf
  refine z_aload_n hX 0 dX7_plan_137 rfl rfl ?_
  refine z_getI hX 0 52 dX7_plan_138 (by decide) shM_0 rfl rfl zin_X7 (by decide) zm_832 ?_
  refine z_if_le hX 148 dX7_plan_141 (by decide) (fun c49 => ?_) (fun c49 => ?_)
  · have hf := (if_pos c49).symm.trans hf
    refine z_aload_n hX 0 dX7_plan_148 rfl rfl ?_
    refine z_iload_n hX 1 dX7_plan_149 rfl rfl ?_
    refine z_iload hX 5 dX7_plan_150 rfl ?_
    refine z_iload_n hX 2 dX7_plan_152 rfl rfl ?_
    refine z_iload_n hX 3 dX7_plan_153 rfl rfl ?_
    refine z_iload hX 4 dX7_plan_154 rfl ?_
    obtain ⟨q50, e51, hf⟩ := zbind hf
    refine z_callV (stk := []) (stk' := [.int q50.1]) hX (c_X7_makes X.l st v1 v6 v2 v3 v4 q50 e51) zb_X7_makes 0 dX7_plan_156 zm_1010 (by decide) shM_0 rfl rfl rfl rfl ⟨by decide, by decide⟩ ⟨rfl, rfl⟩ (Nat.le_of_ble_eq_true rfl) rfl ?_
    obtain rfl := Option.some.inj hf
    exact z_iret hX hQ dX7_plan_159 rfl
  have hf := (if_neg c49).symm.trans hf
  refine z_iconst (v := 0) hX dX7_plan_144 (by decide) ?_
  refine z_goto hX 159 dX7_plan_145 (by decide) ?_
  obtain rfl := Option.some.inj hf
  exact z_iret hX hQ dX7_plan_159 rfl
set_option maxHeartbeats 4000000 in
set_option maxRecDepth 100000 in
theorem t_X7_plan_67 (X : zCx) (out : Int32 × zSt) (hX : zOk X RX7 cX7_plan zr_X7_plan) (hQ : zPost X 42 shM (some .int) (some (.int out.1)) out.2) (hnl : X.nL = 7) (st : zSt) (v1 : Int32) (v2 : Int32) (v3 : Int32) (v4 : Int32) (v5 : Int32) (v6 : Int32) (hf : f_X7_plan_67  st v1 v2 v3 v4 v5 v6 = some out) : zG 42 shM X st 67 [(0, .ref (X.ad 0)), (1, .int v1), (2, .int v2), (3, .int v3), (4, .int v4), (5, .int v5), (6, .int v6)] [] := by
  unfold f_X7_plan_67 at hf
  refine z_aload_n hX 0 dX7_plan_67 rfl rfl ?_
  refine z_iload_n hX 3 dX7_plan_68 rfl rfl ?_
  refine z_aload_n hX 0 dX7_plan_69 rfl rfl ?_
  refine z_getI hX 0 0 dX7_plan_70 (by decide) shM_0 rfl rfl zin_X7 (by decide) zm_780 ?_
  refine z_sipush (v := 10000) hX dX7_plan_73 (by decide) ?_
  obtain ⟨q20, e21, hf⟩ := zbind hf
  refine z_callS (stk := [.ref (X.ad 0)]) (stk' := [.int q20.1, .ref (X.ad 0)]) hX (c_X7_in X.l st v3 (st.1 0 0) 10000 q20 e21) zb_X7_in dX7_plan_76 zm_951 rfl rfl rfl ⟨by decide, by decide⟩ ⟨rfl, rfl⟩ (Nat.le_of_ble_eq_true rfl) rfl ?_
  refine z_if_eq hX 100 dX7_plan_79 (by decide) (fun c22 => ?_) (fun c22 => ?_)
  · have hf := (if_pos c22).symm.trans hf
    refine z_iconst (v := 2) hX dX7_plan_100 (by decide) ?_
    refine z_goto hX 134 dX7_plan_101 (by decide) ?_
    refine z_putI hX 0 52 dX7_plan_134 (by decide) shM_0 rfl rfl zin_X7 tyX7_ok nmX7 (by decide) zm_832 rfl rfl ?_
    obtain ⟨s23, h24, hf⟩ := zlet_ex hf
    refine z_name h24 ?_
    refine z_locals [0, 1, 2, 3, 4, 6] [(0, .ref (X.ad 0)), (1, .int v1), (2, .int v2), (3, .int v3), (4, .int v4), (6, .int v6)] rfl ?_
    exact t_X7_plan_137 X out hX hQ hnl s23 v1 v2 v3 v4 v6 hf
  have hf := (if_neg c22).symm.trans hf
  refine z_iload hX 4 dX7_plan_82 rfl ?_
  refine z_iconst (v := 1) hX dX7_plan_84 (by decide) ?_
  refine z_sipush (v := 400) hX dX7_plan_85 (by decide) ?_
  obtain ⟨q25, e26, hf⟩ := zbind hf
  refine z_callS (stk := [.ref (X.ad 0)]) (stk' := [.int q25.1, .ref (X.ad 0)]) hX (c_X7_in X.l q20.2 v4 1 400 q25 e26) zb_X7_in dX7_plan_88 zm_951 rfl rfl rfl ⟨by decide, by decide⟩ ⟨rfl, rfl⟩ (Nat.le_of_ble_eq_true rfl) rfl ?_
  refine z_if_eq hX 100 dX7_plan_91 (by decide) (fun c27 => ?_) (fun c27 => ?_)
  · have hf := (if_pos c27).symm.trans hf
    refine z_iconst (v := 2) hX dX7_plan_100 (by decide) ?_
    refine z_goto hX 134 dX7_plan_101 (by decide) ?_
    refine z_putI hX 0 52 dX7_plan_134 (by decide) shM_0 rfl rfl zin_X7 tyX7_ok nmX7 (by decide) zm_832 rfl rfl ?_
    obtain ⟨s28, h29, hf⟩ := zlet_ex hf
    refine z_name h29 ?_
    refine z_locals [0, 1, 2, 3, 4, 6] [(0, .ref (X.ad 0)), (1, .int v1), (2, .int v2), (3, .int v3), (4, .int v4), (6, .int v6)] rfl ?_
    exact t_X7_plan_137 X out hX hQ hnl s28 v1 v2 v3 v4 v6 hf
  have hf := (if_neg c27).symm.trans hf
  refine z_iload_n hX 2 dX7_plan_94 rfl rfl ?_
  refine z_iload hX 6 dX7_plan_95 rfl ?_
  refine z_icmp_ne hX 104 dX7_plan_97 (by decide) (fun c30 => ?_) (fun c30 => ?_)
  · have hf := (if_neg c30).symm.trans hf
    refine z_iload hX 5 dX7_plan_104 rfl ?_
    refine z_iconst (v := (-1)) hX dX7_plan_106 (by decide) ?_
    refine z_icmp_eq hX 120 dX7_plan_107 (by decide) (fun c31 => ?_) (fun c31 => ?_)
    · have hf := (if_pos c31).symm.trans hf
      refine z_aload_n hX 0 dX7_plan_120 rfl rfl ?_
      refine z_getI hX 0 19 dX7_plan_121 (by decide) shM_0 rfl rfl zin_X7 (by decide) zm_799 ?_
      refine z_bipush (v := 24) hX dX7_plan_124 (by decide) ?_
      refine z_icmp_ne hX 133 dX7_plan_126 (by decide) (fun c32 => ?_) (fun c32 => ?_)
      · have hf := (if_neg c32).symm.trans hf
        refine z_iconst (v := 0) hX dX7_plan_133 (by decide) ?_
        refine z_putI hX 0 52 dX7_plan_134 (by decide) shM_0 rfl rfl zin_X7 tyX7_ok nmX7 (by decide) zm_832 rfl rfl ?_
        obtain ⟨s33, h34, hf⟩ := zlet_ex hf
        refine z_name h34 ?_
        refine z_locals [0, 1, 2, 3, 4, 6] [(0, .ref (X.ad 0)), (1, .int v1), (2, .int v2), (3, .int v3), (4, .int v4), (6, .int v6)] rfl ?_
        exact t_X7_plan_137 X out hX hQ hnl s33 v1 v2 v3 v4 v6 hf
      have hf := (if_pos c32).symm.trans hf
      refine z_iconst (v := 3) hX dX7_plan_129 (by decide) ?_
      refine z_goto hX 134 dX7_plan_130 (by decide) ?_
      refine z_putI hX 0 52 dX7_plan_134 (by decide) shM_0 rfl rfl zin_X7 tyX7_ok nmX7 (by decide) zm_832 rfl rfl ?_
      obtain ⟨s35, h36, hf⟩ := zlet_ex hf
      refine z_name h36 ?_
      refine z_locals [0, 1, 2, 3, 4, 6] [(0, .ref (X.ad 0)), (1, .int v1), (2, .int v2), (3, .int v3), (4, .int v4), (6, .int v6)] rfl ?_
      exact t_X7_plan_137 X out hX hQ hnl s35 v1 v2 v3 v4 v6 hf
    have hf := (if_neg c31).symm.trans hf
    refine z_aload_n hX 0 dX7_plan_110 rfl rfl ?_
    refine z_iload hX 5 dX7_plan_111 rfl ?_
    obtain ⟨q37, e38, hf⟩ := zbind hf
    refine z_callV (stk := [.ref (X.ad 0)]) (stk' := [.int q37.1, .ref (X.ad 0)]) hX (c_X7_endOf X.l q25.2 v5 q37 e38) zb_X7_endOf 0 dX7_plan_113 zm_1002 (by decide) shM_0 rfl rfl rfl rfl ⟨by decide, by decide⟩ ⟨rfl, rfl⟩ (Nat.le_of_ble_eq_true rfl) rfl ?_
    refine z_iload_n hX 3 dX7_plan_116 rfl rfl ?_
    refine z_icmp_gt hX 129 dX7_plan_117 (by decide) (fun c39 => ?_) (fun c39 => ?_)
    · have hf := (if_pos c39).symm.trans hf
      refine z_iconst (v := 3) hX dX7_plan_129 (by decide) ?_
      refine z_goto hX 134 dX7_plan_130 (by decide) ?_
      refine z_putI hX 0 52 dX7_plan_134 (by decide) shM_0 rfl rfl zin_X7 tyX7_ok nmX7 (by decide) zm_832 rfl rfl ?_
      obtain ⟨s40, h41, hf⟩ := zlet_ex hf
      refine z_name h41 ?_
      refine z_locals [0, 1, 2, 3, 4, 6] [(0, .ref (X.ad 0)), (1, .int v1), (2, .int v2), (3, .int v3), (4, .int v4), (6, .int v6)] rfl ?_
      exact t_X7_plan_137 X out hX hQ hnl s40 v1 v2 v3 v4 v6 hf
    have hf := (if_neg c39).symm.trans hf
    refine z_aload_n hX 0 dX7_plan_120 rfl rfl ?_
    refine z_getI hX 0 19 dX7_plan_121 (by decide) shM_0 rfl rfl zin_X7 (by decide) zm_799 ?_
    refine z_bipush (v := 24) hX dX7_plan_124 (by decide) ?_
    refine z_icmp_ne hX 133 dX7_plan_126 (by decide) (fun c42 => ?_) (fun c42 => ?_)
    · have hf := (if_neg c42).symm.trans hf
      refine z_iconst (v := 0) hX dX7_plan_133 (by decide) ?_
      refine z_putI hX 0 52 dX7_plan_134 (by decide) shM_0 rfl rfl zin_X7 tyX7_ok nmX7 (by decide) zm_832 rfl rfl ?_
      obtain ⟨s43, h44, hf⟩ := zlet_ex hf
      refine z_name h44 ?_
      refine z_locals [0, 1, 2, 3, 4, 6] [(0, .ref (X.ad 0)), (1, .int v1), (2, .int v2), (3, .int v3), (4, .int v4), (6, .int v6)] rfl ?_
      exact t_X7_plan_137 X out hX hQ hnl s43 v1 v2 v3 v4 v6 hf
    have hf := (if_pos c42).symm.trans hf
    refine z_iconst (v := 3) hX dX7_plan_129 (by decide) ?_
    refine z_goto hX 134 dX7_plan_130 (by decide) ?_
    refine z_putI hX 0 52 dX7_plan_134 (by decide) shM_0 rfl rfl zin_X7 tyX7_ok nmX7 (by decide) zm_832 rfl rfl ?_
    obtain ⟨s45, h46, hf⟩ := zlet_ex hf
    refine z_name h46 ?_
    refine z_locals [0, 1, 2, 3, 4, 6] [(0, .ref (X.ad 0)), (1, .int v1), (2, .int v2), (3, .int v3), (4, .int v4), (6, .int v6)] rfl ?_
    exact t_X7_plan_137 X out hX hQ hnl s45 v1 v2 v3 v4 v6 hf
  have hf := (if_pos c30).symm.trans hf
  refine z_iconst (v := 2) hX dX7_plan_100 (by decide) ?_
  refine z_goto hX 134 dX7_plan_101 (by decide) ?_
  refine z_putI hX 0 52 dX7_plan_134 (by decide) shM_0 rfl rfl zin_X7 tyX7_ok nmX7 (by decide) zm_832 rfl rfl ?_
  obtain ⟨s47, h48, hf⟩ := zlet_ex hf
  refine z_name h48 ?_
  refine z_locals [0, 1, 2, 3, 4, 6] [(0, .ref (X.ad 0)), (1, .int v1), (2, .int v2), (3, .int v3), (4, .int v4), (6, .int v6)] rfl ?_
  exact t_X7_plan_137 X out hX hQ hnl s47 v1 v2 v3 v4 v6 hf
set_option maxHeartbeats 4000000 in
set_option maxRecDepth 100000 in
theorem t_X7_plan_24 (X : zCx) (out : Int32 × zSt) (hX : zOk X RX7 cX7_plan zr_X7_plan) (hQ : zPost X 42 shM (some .int) (some (.int out.1)) out.2) (hnl : X.nL = 7) (st : zSt) (v1 : Int32) (v2 : Int32) (v3 : Int32) (v4 : Int32) (hf : f_X7_plan_24  st v1 v2 v3 v4 = some out) : zG 42 shM X st 24 [(0, .ref (X.ad 0)), (1, .int v1), (2, .int v2), (3, .int v3), (4, .int v4)] [] := by
  unfold f_X7_plan_24 at hf
  refine z_aload_n hX 0 dX7_plan_24 rfl rfl ?_
  refine z_getI hX 0 52 dX7_plan_25 (by decide) shM_0 rfl rfl zin_X7 (by decide) zm_832 ?_
  refine z_if_le hX 33 dX7_plan_28 (by decide) (fun c13 => ?_) (fun c13 => ?_)
  · have hf := (if_pos c13).symm.trans hf
    refine z_aload_n hX 0 dX7_plan_33 rfl rfl ?_
    refine z_iload_n hX 1 dX7_plan_34 rfl rfl ?_
    obtain ⟨q14, e15, hf⟩ := zbind hf
    refine z_callV (stk := []) (stk' := [.int q14.1]) hX (c_X7_lastOf X.l st v1 q14 e15) zb_X7_lastOf 0 dX7_plan_35 zm_994 (by decide) shM_0 rfl rfl rfl rfl ⟨by decide, by decide⟩ ⟨rfl, rfl⟩ (Nat.le_of_ble_eq_true rfl) rfl ?_
    refine z_istore hX [(0, .ref (X.ad 0)), (1, .int v1), (2, .int v2), (3, .int v3), (4, .int v4), (5, .int q14.1)] dX7_plan_38 (by rw [hnl]; decide) [1, 2, 3, 4, 5, 0] rfl ?_
    refine z_iload hX 5 dX7_plan_40 rfl ?_
    refine z_iconst (v := (-1)) hX dX7_plan_42 (by decide) ?_
    refine z_icmp_ne hX 58 dX7_plan_43 (by decide) (fun c16 => ?_) (fun c16 => ?_)
    · have hf := (if_neg c16).symm.trans hf
      refine z_aload_n hX 0 dX7_plan_58 rfl rfl ?_
      refine z_getR hX 0 22 19 dX7_plan_59 (by decide) shM_0 rfl rfl zin_X7 (by decide) zm_802 ?_
      refine z_iload hX 5 dX7_plan_62 rfl ?_
      obtain ⟨i17, hf⟩ := zifd hf
      refine z_iald hX 19 dX7_plan_64 (by decide) shM_19 i17 ?_
      refine z_istore hX [(0, .ref (X.ad 0)), (1, .int v1), (2, .int v2), (3, .int v3), (4, .int v4), (5, .int q14.1), (6, .int (q14.2.1 19 q14.1.toNatClampNeg))] dX7_plan_65 (by rw [hnl]; decide) [1, 2, 3, 4, 5, 6, 0] rfl ?_
      exact t_X7_plan_67 X out hX hQ hnl q14.2 v1 v2 v3 v4 q14.1 (q14.2.1 19 q14.1.toNatClampNeg) hf
    have hf := (if_pos c16).symm.trans hf
    refine z_aload_n hX 0 dX7_plan_46 rfl rfl ?_
    refine z_iload_n hX 1 dX7_plan_47 rfl rfl ?_
    refine z_aload_n hX 0 dX7_plan_48 rfl rfl ?_
    refine z_getI hX 0 0 dX7_plan_49 (by decide) shM_0 rfl rfl zin_X7 (by decide) zm_780 ?_
    obtain ⟨q18, e19, hf⟩ := zbind hf
    refine z_callV (stk := []) (stk' := [.int q18.1]) hX (c_X7_placeIn X.l q14.2 v1 (q14.2.1 0 0) q18 e19) zb_X7_placeIn 0 dX7_plan_52 zm_998 (by decide) shM_0 rfl rfl rfl rfl ⟨by decide, by decide⟩ ⟨rfl, rfl⟩ (Nat.le_of_ble_eq_true rfl) rfl ?_
    refine z_goto hX 65 dX7_plan_55 (by decide) ?_
    refine z_istore hX [(0, .ref (X.ad 0)), (1, .int v1), (2, .int v2), (3, .int v3), (4, .int v4), (5, .int q14.1), (6, .int q18.1)] dX7_plan_65 (by rw [hnl]; decide) [1, 2, 3, 4, 5, 6, 0] rfl ?_
    exact t_X7_plan_67 X out hX hQ hnl q18.2 v1 v2 v3 v4 q14.1 q18.1 hf
  have hf := (if_neg c13).symm.trans hf
  refine z_iconst (v := 0) hX dX7_plan_31 (by decide) ?_
  obtain rfl := Option.some.inj hf
  exact z_iret hX hQ dX7_plan_32 rfl
set_option maxHeartbeats 4000000 in
set_option maxRecDepth 100000 in
theorem t_X7_plan (X : zCx) (out : Int32 × zSt) (hX : zOk X RX7 cX7_plan zr_X7_plan) (hQ : zPost X 42 shM (some .int) (some (.int out.1)) out.2) (hnl : X.nL = 7) (st : zSt) (a0 : Int32) (a1 : Int32) (a2 : Int32) (a3 : Int32) (hf : f_X7_plan st a0 a1 a2 a3 = some out) : zG 42 shM X st 0 [(0, .ref (X.ad 0)), (1, .int a0), (2, .int a1), (3, .int a2), (4, .int a3)] [] := by
  unfold f_X7_plan at hf
  refine z_aload_n hX 0 dX7_plan_0 rfl rfl ?_
  refine z_aload_n hX 0 dX7_plan_1 rfl rfl ?_
  refine z_iload_n hX 1 dX7_plan_2 rfl rfl ?_
  obtain ⟨q1, e2, hf⟩ := zbind hf
  refine z_callV (stk := [.ref (X.ad 0)]) (stk' := [.int q1.1, .ref (X.ad 0)]) hX (c_X7_isShip X.l st a0 q1 e2) zb_X7_isShip 0 dX7_plan_3 zm_958 (by decide) shM_0 rfl rfl rfl rfl ⟨by decide, by decide⟩ ⟨rfl, rfl⟩ (Nat.le_of_ble_eq_true rfl) rfl ?_
  refine z_if_eq hX 16 dX7_plan_6 (by decide) (fun c3 => ?_) (fun c3 => ?_)
  · have hf := (if_pos c3).symm.trans hf
    refine z_iconst (v := 1) hX dX7_plan_16 (by decide) ?_
    refine z_goto hX 21 dX7_plan_17 (by decide) ?_
    refine z_putI hX 0 52 dX7_plan_21 (by decide) shM_0 rfl rfl zin_X7 tyX7_ok nmX7 (by decide) zm_832 rfl rfl ?_
    obtain ⟨s4, h5, hf⟩ := zlet_ex hf
    refine z_name h5 ?_
    exact t_X7_plan_24 X out hX hQ hnl s4 a0 a1 a2 a3 hf
  have hf := (if_neg c3).symm.trans hf
  refine z_iload_n hX 2 dX7_plan_9 rfl rfl ?_
  obtain ⟨q6, e7, hf⟩ := zbind hf
  refine z_callS (stk := [.ref (X.ad 0)]) (stk' := [.int q6.1, .ref (X.ad 0)]) hX (c_X7_isIsland X.l q1.2 a1 q6 e7) zb_X7_isIsland dX7_plan_10 zm_948 rfl rfl rfl ⟨by decide, by decide⟩ ⟨rfl, rfl⟩ (Nat.le_of_ble_eq_true rfl) rfl ?_
  refine z_if_ne hX 20 dX7_plan_13 (by decide) (fun c8 => ?_) (fun c8 => ?_)
  · have hf := (if_neg c8).symm.trans hf
    refine z_iconst (v := 0) hX dX7_plan_20 (by decide) ?_
    refine z_putI hX 0 52 dX7_plan_21 (by decide) shM_0 rfl rfl zin_X7 tyX7_ok nmX7 (by decide) zm_832 rfl rfl ?_
    obtain ⟨s9, h10, hf⟩ := zlet_ex hf
    refine z_name h10 ?_
    exact t_X7_plan_24 X out hX hQ hnl s9 a0 a1 a2 a3 hf
  have hf := (if_pos c8).symm.trans hf
  refine z_iconst (v := 1) hX dX7_plan_16 (by decide) ?_
  refine z_goto hX 21 dX7_plan_17 (by decide) ?_
  refine z_putI hX 0 52 dX7_plan_21 (by decide) shM_0 rfl rfl zin_X7 tyX7_ok nmX7 (by decide) zm_832 rfl rfl ?_
  obtain ⟨s11, h12, hf⟩ := zlet_ex hf
  refine z_name h12 ?_
  exact t_X7_plan_24 X out hX hQ hnl s11 a0 a1 a2 a3 hf
theorem zb_X7_plan : zCal yX7_plan cX7_plan 7 (some .int) 4 := ⟨zm_991, (zwl_in zm_992 rfl), zm_8, zm_993, by decide, by decide, rfl⟩
theorem c_X7_plan (l : Launch) (st : zSt) (a0 : Int32) (a1 : Int32) (a2 : Int32) (a3 : Int32) (out : Int32 × zSt) (hf : f_X7_plan st a0 a1 a2 a3 = some out) : zMet l yX7_plan cX7_plan 7 (some .int) zr_X7_plan 42 shM (fun ad => [.ref (ad 0), .int a0, .int a1, .int a2, .int a3]) st (fun ad => some (.int out.1)) out.2 :=
  zmet_of (by decide +kernel) (fun _ => Nat.le_of_ble_eq_true rfl) (fun X _ hnl hX hQ => t_X7_plan X out hX hQ hnl st a0 a1 a2 a3 hf)
abbrev zr_X7_goesOver : Room := { frames := 0, cells := 0, slots := 0, locals := 0 }
def f_X7_goesOver_136  (st : zSt) (v1 : Int32) : Option (Unit × zSt) := (if zin v1 40 then (zlet (zwL st 0 49 ((st.2 0 49) - (((st.1 34 v1.toNatClampNeg)).toInt64))) fun s22 => (if zin v1 40 then (zlet (zwL s22 0 50 ((s22.2 0 50) - (((s22.1 35 v1.toNatClampNeg)).toInt64))) fun s25 => (if zin v1 40 then (zlet (zwI s25 34 v1.toNatClampNeg 0) fun s28 => (if zin v1 40 then (zlet (zwI s28 35 v1.toNatClampNeg 0) fun s31 => (if zin v1 40 then (zlet (zwI s31 28 v1.toNatClampNeg 0) fun s34 => some ((), s34)) else none)) else none)) else none)) else none)) else none)
def f_X7_goesOver_98 (K14 : zSt → Int32 → Int32 → Int32 → Int32 → Option (Unit × zSt)) (st : zSt) (v1 : Int32) (v2 : Int32) (v4 : Int32) : Option (Unit × zSt) := K14 st v1 v2 v4 (v4 + 1)
def f_X7_goesOver_72 (K14 : zSt → Int32 → Int32 → Int32 → Int32 → Option (Unit × zSt)) (st : zSt) (v1 : Int32) (v2 : Int32) (v3 : Int32) (v4 : Int32) (v5 : Int32) : Option (Unit × zSt) := (if v5 = 0 then K14 st v1 v2 v3 (v4 + 1) else (if v3 = (-1) then f_X7_goesOver_98 K14 st v1 v2 v4 else (if zin v4 24 then (if zin v3 24 then (if (st.1 20 v3.toNatClampNeg) ≤ (st.1 20 v4.toNatClampNeg) then K14 st v1 v2 v3 (v4 + 1) else f_X7_goesOver_98 K14 st v1 v2 v4) else none) else none)))
def f_X7_goesOver_69 (K14 : zSt → Int32 → Int32 → Int32 → Int32 → Option (Unit × zSt)) (st : zSt) (v1 : Int32) (v2 : Int32) (v3 : Int32) (v4 : Int32) : Option (Unit × zSt) := f_X7_goesOver_72 K14 st v1 v2 v3 v4 0
def f_X7_goesOver_14  : Nat → zSt → Int32 → Int32 → Int32 → Int32 → Option (Unit × zSt)
  | 0, _, _, _, _, _ => none
  | n + 1, st, v1, v2, v3, v4 => (if (st.1 0 19) ≤ v4 then (if zin v1 40 then (if zin v1 40 then (zlet (zwI st 36 v1.toNatClampNeg ((st.1 36 v1.toNatClampNeg) + 1)) fun s5 => (if v3 = (-1) then f_X7_goesOver_136 s5 v1 else (if zin v1 40 then (if (s5.1 36 v1.toNatClampNeg) = 3 then f_X7_goesOver_136 s5 v1 else (if zin v1 40 then (zlet (zwI s5 28 v1.toNatClampNeg (v3 + 1)) fun s11 => some ((), s11)) else none)) else none))) else none) else none) else (if zin v4 24 then (if (st.1 22 v4.toNatClampNeg) = 0 then (if zin v4 24 then (if zin v2 24 then (if (st.1 18 v4.toNatClampNeg) = (st.1 18 v2.toNatClampNeg) then (if zin v4 24 then (if zin v2 24 then (if (st.1 19 v4.toNatClampNeg) = (st.1 19 v2.toNatClampNeg) then f_X7_goesOver_72 (fun st v1 v2 v3 v4 => f_X7_goesOver_14 n st v1 v2 v3 v4) st v1 v2 v3 v4 1 else f_X7_goesOver_69 (fun st v1 v2 v3 v4 => f_X7_goesOver_14 n st v1 v2 v3 v4) st v1 v2 v3 v4) else none) else none) else f_X7_goesOver_69 (fun st v1 v2 v3 v4 => f_X7_goesOver_14 n st v1 v2 v3 v4) st v1 v2 v3 v4) else none) else none) else f_X7_goesOver_69 (fun st v1 v2 v3 v4 => f_X7_goesOver_14 n st v1 v2 v3 v4) st v1 v2 v3 v4) else none))
def f_X7_goesOver (st : zSt) (a0 : Int32) : Option (Unit × zSt) := (if zin a0 40 then f_X7_goesOver_14 64 st a0 ((st.1 28 a0.toNatClampNeg) - 1) (-1) 0 else none)
set_option maxHeartbeats 4000000 in
set_option maxRecDepth 100000 in
theorem t_X7_goesOver_136 (X : zCx) (out : Unit × zSt) (hX : zOk X RX7 cX7_goesOver zr_X7_goesOver) (hQ : zPost X 42 shM none (none) out.2) (hnl : X.nL = 6) (st : zSt) (v1 : Int32) (hf : f_X7_goesOver_136  st v1 = some out) : zG 42 shM X st 136 [(0, .ref (X.ad 0)), (1, .int v1)] [] := by
  unfold f_X7_goesOver_136 at hf
  refine z_aload_n hX 0 dX7_goesOver_136 rfl rfl ?_
  refine z_dup hX dX7_goesOver_137 rfl ?_
  refine z_getL hX 0 49 dX7_goesOver_138 (by decide) shM_0 rfl rfl zin_X7 (by decide) zm_829 ?_
  refine z_aload_n hX 0 dX7_goesOver_141 rfl rfl ?_
  refine z_getR hX 0 38 34 dX7_goesOver_142 (by decide) shM_0 rfl rfl zin_X7 (by decide) zm_818 ?_
  refine z_iload_n hX 1 dX7_goesOver_145 rfl rfl ?_
  obtain ⟨i21, hf⟩ := zifd hf
  refine z_iald hX 34 dX7_goesOver_146 (by decide) shM_34 i21 ?_
  refine z_i2l hX dX7_goesOver_147 ?_
  refine z_lsub hX dX7_goesOver_148 ?_
  refine z_putL hX 0 49 dX7_goesOver_149 (by decide) shM_0 rfl rfl zin_X7 tyX7_ok nmX7 (by decide) zm_829 rfl rfl ?_
  obtain ⟨s22, h23, hf⟩ := zlet_ex hf
  refine z_name h23 ?_
  refine z_aload_n hX 0 dX7_goesOver_152 rfl rfl ?_
  refine z_dup hX dX7_goesOver_153 rfl ?_
  refine z_getL hX 0 50 dX7_goesOver_154 (by decide) shM_0 rfl rfl zin_X7 (by decide) zm_830 ?_
  refine z_aload_n hX 0 dX7_goesOver_157 rfl rfl ?_
  refine z_getR hX 0 39 35 dX7_goesOver_158 (by decide) shM_0 rfl rfl zin_X7 (by decide) zm_819 ?_
  refine z_iload_n hX 1 dX7_goesOver_161 rfl rfl ?_
  obtain ⟨i24, hf⟩ := zifd hf
  refine z_iald hX 35 dX7_goesOver_162 (by decide) shM_35 i24 ?_
  refine z_i2l hX dX7_goesOver_163 ?_
  refine z_lsub hX dX7_goesOver_164 ?_
  refine z_putL hX 0 50 dX7_goesOver_165 (by decide) shM_0 rfl rfl zin_X7 tyX7_ok nmX7 (by decide) zm_830 rfl rfl ?_
  obtain ⟨s25, h26, hf⟩ := zlet_ex hf
  refine z_name h26 ?_
  refine z_aload_n hX 0 dX7_goesOver_168 rfl rfl ?_
  refine z_getR hX 0 38 34 dX7_goesOver_169 (by decide) shM_0 rfl rfl zin_X7 (by decide) zm_818 ?_
  refine z_iload_n hX 1 dX7_goesOver_172 rfl rfl ?_
  refine z_iconst (v := 0) hX dX7_goesOver_173 (by decide) ?_
  obtain ⟨i27, hf⟩ := zifd hf
  refine z_iast hX 34 dX7_goesOver_174 (by decide) shM_34 i27 ?_
  obtain ⟨s28, h29, hf⟩ := zlet_ex hf
  refine z_name h29 ?_
  refine z_aload_n hX 0 dX7_goesOver_175 rfl rfl ?_
  refine z_getR hX 0 39 35 dX7_goesOver_176 (by decide) shM_0 rfl rfl zin_X7 (by decide) zm_819 ?_
  refine z_iload_n hX 1 dX7_goesOver_179 rfl rfl ?_
  refine z_iconst (v := 0) hX dX7_goesOver_180 (by decide) ?_
  obtain ⟨i30, hf⟩ := zifd hf
  refine z_iast hX 35 dX7_goesOver_181 (by decide) shM_35 i30 ?_
  obtain ⟨s31, h32, hf⟩ := zlet_ex hf
  refine z_name h32 ?_
  refine z_aload_n hX 0 dX7_goesOver_182 rfl rfl ?_
  refine z_getR hX 0 32 28 dX7_goesOver_183 (by decide) shM_0 rfl rfl zin_X7 (by decide) zm_812 ?_
  refine z_iload_n hX 1 dX7_goesOver_186 rfl rfl ?_
  refine z_iconst (v := 0) hX dX7_goesOver_187 (by decide) ?_
  obtain ⟨i33, hf⟩ := zifd hf
  refine z_iast hX 28 dX7_goesOver_188 (by decide) shM_28 i33 ?_
  obtain ⟨s34, h35, hf⟩ := zlet_ex hf
  refine z_name h35 ?_
  refine z_goto hX 201 dX7_goesOver_189 (by decide) ?_
  obtain rfl := Option.some.inj hf
  exact z_vret hX hQ dX7_goesOver_201
set_option maxHeartbeats 4000000 in
set_option maxRecDepth 100000 in
theorem t_X7_goesOver_98 (X : zCx) (out : Unit × zSt) (hX : zOk X RX7 cX7_goesOver zr_X7_goesOver) (hQ : zPost X 42 shM none (none) out.2) (hnl : X.nL = 6) (K14 : zSt → Int32 → Int32 → Int32 → Int32 → Option (Unit × zSt)) (hK14 : ∀ (st : zSt) (v1 : Int32) (v2 : Int32) (v3 : Int32) (v4 : Int32), K14 st v1 v2 v3 v4 = some out → zG 42 shM X st 14 [(0, .ref (X.ad 0)), (1, .int v1), (2, .int v2), (3, .int v3), (4, .int v4)] []) (st : zSt) (v1 : Int32) (v2 : Int32) (v4 : Int32) (hf : f_X7_goesOver_98 K14 st v1 v2 v4 = some out) : zG 42 shM X st 98 [(0, .ref (X.ad 0)), (1, .int v1), (2, .int v2), (4, .int v4)] [] := by
  unfold f_X7_goesOver_98 at hf
  refine z_iload hX 3 dX7_goesOver_98 rfl ?_
  refine z_goto hX 104 dX7_goesOver_100 (by decide) ?_
  refine z_istore_n hX [(0, .ref (X.ad 0)), (1, .int v1), (2, .int v2), (3, .int v4), (4, .int v4)] dX7_goesOver_104 rfl (by rw [hnl]; decide) [1, 2, 3, 0, 4] rfl ?_
  refine z_iinc (j := 4) (v := 1) hX [(0, .ref (X.ad 0)), (1, .int v1), (2, .int v2), (3, .int v4), (4, .int (v4 + 1))] dX7_goesOver_105 rfl (by decide) (by rw [hnl]; decide) [1, 2, 3, 4, 0] rfl ?_
  refine z_goto hX 14 dX7_goesOver_108 (by decide) ?_
  exact hK14 st v1 v2 v4 (v4 + 1) hf
set_option maxHeartbeats 4000000 in
set_option maxRecDepth 100000 in
theorem t_X7_goesOver_72 (X : zCx) (out : Unit × zSt) (hX : zOk X RX7 cX7_goesOver zr_X7_goesOver) (hQ : zPost X 42 shM none (none) out.2) (hnl : X.nL = 6) (K14 : zSt → Int32 → Int32 → Int32 → Int32 → Option (Unit × zSt)) (hK14 : ∀ (st : zSt) (v1 : Int32) (v2 : Int32) (v3 : Int32) (v4 : Int32), K14 st v1 v2 v3 v4 = some out → zG 42 shM X st 14 [(0, .ref (X.ad 0)), (1, .int v1), (2, .int v2), (3, .int v3), (4, .int v4)] []) (st : zSt) (v1 : Int32) (v2 : Int32) (v3 : Int32) (v4 : Int32) (v5 : Int32) (hf : f_X7_goesOver_72 K14 st v1 v2 v3 v4 v5 = some out) : zG 42 shM X st 72 [(0, .ref (X.ad 0)), (1, .int v1), (2, .int v2), (3, .int v3), (4, .int v4), (5, .int v5)] [] := by
  unfold f_X7_goesOver_72 at hf
  refine z_iload hX 5 dX7_goesOver_72 rfl ?_
  refine z_if_eq hX 103 dX7_goesOver_74 (by decide) (fun c36 => ?_) (fun c36 => ?_)
  · have hf := (if_pos c36).symm.trans hf
    refine z_iload_n hX 3 dX7_goesOver_103 rfl rfl ?_
    refine z_istore_n hX [(0, .ref (X.ad 0)), (1, .int v1), (2, .int v2), (3, .int v3), (4, .int v4), (5, .int v5)] dX7_goesOver_104 rfl (by rw [hnl]; decide) [1, 2, 3, 0, 4, 5] rfl ?_
    refine z_iinc (j := 4) (v := 1) hX [(0, .ref (X.ad 0)), (1, .int v1), (2, .int v2), (3, .int v3), (4, .int (v4 + 1)), (5, .int v5)] dX7_goesOver_105 rfl (by decide) (by rw [hnl]; decide) [1, 2, 3, 4, 0, 5] rfl ?_
    refine z_goto hX 14 dX7_goesOver_108 (by decide) ?_
    refine z_locals [0, 1, 2, 3, 4] [(0, .ref (X.ad 0)), (1, .int v1), (2, .int v2), (3, .int v3), (4, .int (v4 + 1))] rfl ?_
    exact hK14 st v1 v2 v3 (v4 + 1) hf
  have hf := (if_neg c36).symm.trans hf
  refine z_iload_n hX 3 dX7_goesOver_77 rfl rfl ?_
  refine z_iconst (v := (-1)) hX dX7_goesOver_78 (by decide) ?_
  refine z_icmp_eq hX 98 dX7_goesOver_79 (by decide) (fun c37 => ?_) (fun c37 => ?_)
  · have hf := (if_pos c37).symm.trans hf
    refine z_locals [0, 1, 2, 4] [(0, .ref (X.ad 0)), (1, .int v1), (2, .int v2), (4, .int v4)] rfl ?_
    exact t_X7_goesOver_98 X out hX hQ hnl K14 hK14 st v1 v2 v4 hf
  have hf := (if_neg c37).symm.trans hf
  refine z_aload_n hX 0 dX7_goesOver_82 rfl rfl ?_
  refine z_getR hX 0 23 20 dX7_goesOver_83 (by decide) shM_0 rfl rfl zin_X7 (by decide) zm_803 ?_
  refine z_iload hX 4 dX7_goesOver_86 rfl ?_
  obtain ⟨i38, hf⟩ := zifd hf
  refine z_iald hX 20 dX7_goesOver_88 (by decide) shM_20 i38 ?_
  refine z_aload_n hX 0 dX7_goesOver_89 rfl rfl ?_
  refine z_getR hX 0 23 20 dX7_goesOver_90 (by decide) shM_0 rfl rfl zin_X7 (by decide) zm_803 ?_
  refine z_iload_n hX 3 dX7_goesOver_93 rfl rfl ?_
  obtain ⟨i39, hf⟩ := zifd hf
  refine z_iald hX 20 dX7_goesOver_94 (by decide) shM_20 i39 ?_
  refine z_icmp_ge hX 103 dX7_goesOver_95 (by decide) (fun c40 => ?_) (fun c40 => ?_)
  · have hf := (if_pos c40).symm.trans hf
    refine z_iload_n hX 3 dX7_goesOver_103 rfl rfl ?_
    refine z_istore_n hX [(0, .ref (X.ad 0)), (1, .int v1), (2, .int v2), (3, .int v3), (4, .int v4), (5, .int v5)] dX7_goesOver_104 rfl (by rw [hnl]; decide) [1, 2, 3, 0, 4, 5] rfl ?_
    refine z_iinc (j := 4) (v := 1) hX [(0, .ref (X.ad 0)), (1, .int v1), (2, .int v2), (3, .int v3), (4, .int (v4 + 1)), (5, .int v5)] dX7_goesOver_105 rfl (by decide) (by rw [hnl]; decide) [1, 2, 3, 4, 0, 5] rfl ?_
    refine z_goto hX 14 dX7_goesOver_108 (by decide) ?_
    refine z_locals [0, 1, 2, 3, 4] [(0, .ref (X.ad 0)), (1, .int v1), (2, .int v2), (3, .int v3), (4, .int (v4 + 1))] rfl ?_
    exact hK14 st v1 v2 v3 (v4 + 1) hf
  have hf := (if_neg c40).symm.trans hf
  refine z_locals [0, 1, 2, 4] [(0, .ref (X.ad 0)), (1, .int v1), (2, .int v2), (4, .int v4)] rfl ?_
  exact t_X7_goesOver_98 X out hX hQ hnl K14 hK14 st v1 v2 v4 hf
set_option maxHeartbeats 4000000 in
set_option maxRecDepth 100000 in
theorem t_X7_goesOver_69 (X : zCx) (out : Unit × zSt) (hX : zOk X RX7 cX7_goesOver zr_X7_goesOver) (hQ : zPost X 42 shM none (none) out.2) (hnl : X.nL = 6) (K14 : zSt → Int32 → Int32 → Int32 → Int32 → Option (Unit × zSt)) (hK14 : ∀ (st : zSt) (v1 : Int32) (v2 : Int32) (v3 : Int32) (v4 : Int32), K14 st v1 v2 v3 v4 = some out → zG 42 shM X st 14 [(0, .ref (X.ad 0)), (1, .int v1), (2, .int v2), (3, .int v3), (4, .int v4)] []) (st : zSt) (v1 : Int32) (v2 : Int32) (v3 : Int32) (v4 : Int32) (hf : f_X7_goesOver_69 K14 st v1 v2 v3 v4 = some out) : zG 42 shM X st 69 [(0, .ref (X.ad 0)), (1, .int v1), (2, .int v2), (3, .int v3), (4, .int v4)] [] := by
  unfold f_X7_goesOver_69 at hf
  refine z_iconst (v := 0) hX dX7_goesOver_69 (by decide) ?_
  refine z_istore hX [(0, .ref (X.ad 0)), (1, .int v1), (2, .int v2), (3, .int v3), (4, .int v4), (5, .int 0)] dX7_goesOver_70 (by rw [hnl]; decide) [1, 2, 3, 4, 5, 0] rfl ?_
  exact t_X7_goesOver_72 X out hX hQ hnl K14 hK14 st v1 v2 v3 v4 0 hf
set_option maxHeartbeats 4000000 in
set_option maxRecDepth 100000 in
theorem t_X7_goesOver_14 (X : zCx) (out : Unit × zSt) (hX : zOk X RX7 cX7_goesOver zr_X7_goesOver) (hQ : zPost X 42 shM none (none) out.2) (hnl : X.nL = 6) : ∀ (n : Nat) (st : zSt) (v1 : Int32) (v2 : Int32) (v3 : Int32) (v4 : Int32), f_X7_goesOver_14  n st v1 v2 v3 v4 = some out → zG 42 shM X st 14 [(0, .ref (X.ad 0)), (1, .int v1), (2, .int v2), (3, .int v3), (4, .int v4)] [] := by
  intro n
  induction n with
  | zero => intro st v1 v2 v3 v4 hf; rw [f_X7_goesOver_14] at hf; exact (znone hf).elim
  | succ n ih =>
    intro st v1 v2 v3 v4 hf
    rw [f_X7_goesOver_14] at hf
    refine z_iload hX 4 dX7_goesOver_14 rfl ?_
    refine z_aload_n hX 0 dX7_goesOver_16 rfl rfl ?_
    refine z_getI hX 0 19 dX7_goesOver_17 (by decide) shM_0 rfl rfl zin_X7 (by decide) zm_799 ?_
    refine z_icmp_ge hX 111 dX7_goesOver_20 (by decide) (fun c2 => ?_) (fun c2 => ?_)
    · have hf := (if_pos c2).symm.trans hf
      refine z_aload_n hX 0 dX7_goesOver_111 rfl rfl ?_
      refine z_getR hX 0 40 36 dX7_goesOver_112 (by decide) shM_0 rfl rfl zin_X7 (by decide) zm_820 ?_
      refine z_iload_n hX 1 dX7_goesOver_115 rfl rfl ?_
      refine z_dup2 hX dX7_goesOver_116 rfl rfl ?_
      obtain ⟨i3, hf⟩ := zifd hf
      refine z_iald hX 36 dX7_goesOver_117 (by decide) shM_36 i3 ?_
      refine z_iconst (v := 1) hX dX7_goesOver_118 (by decide) ?_
      refine z_iadd hX dX7_goesOver_119 ?_
      obtain ⟨i4, hf⟩ := zifd hf
      refine z_iast hX 36 dX7_goesOver_120 (by decide) shM_36 i4 ?_
      obtain ⟨s5, h6, hf⟩ := zlet_ex hf
      refine z_name h6 ?_
      refine z_iload_n hX 3 dX7_goesOver_121 rfl rfl ?_
      refine z_iconst (v := (-1)) hX dX7_goesOver_122 (by decide) ?_
      refine z_icmp_eq hX 136 dX7_goesOver_123 (by decide) (fun c7 => ?_) (fun c7 => ?_)
      · have hf := (if_pos c7).symm.trans hf
        refine z_locals [0, 1] [(0, .ref (X.ad 0)), (1, .int v1)] rfl ?_
        exact t_X7_goesOver_136 X out hX hQ hnl s5 v1 hf
      have hf := (if_neg c7).symm.trans hf
      refine z_aload_n hX 0 dX7_goesOver_126 rfl rfl ?_
      refine z_getR hX 0 40 36 dX7_goesOver_127 (by decide) shM_0 rfl rfl zin_X7 (by decide) zm_820 ?_
      refine z_iload_n hX 1 dX7_goesOver_130 rfl rfl ?_
      obtain ⟨i8, hf⟩ := zifd hf
      refine z_iald hX 36 dX7_goesOver_131 (by decide) shM_36 i8 ?_
      refine z_iconst (v := 3) hX dX7_goesOver_132 (by decide) ?_
      refine z_icmp_ne hX 192 dX7_goesOver_133 (by decide) (fun c9 => ?_) (fun c9 => ?_)
      · have hf := (if_neg c9).symm.trans hf
        refine z_aload_n hX 0 dX7_goesOver_192 rfl rfl ?_
        refine z_getR hX 0 32 28 dX7_goesOver_193 (by decide) shM_0 rfl rfl zin_X7 (by decide) zm_812 ?_
        refine z_iload_n hX 1 dX7_goesOver_196 rfl rfl ?_
        refine z_iload_n hX 3 dX7_goesOver_197 rfl rfl ?_
        refine z_iconst (v := 1) hX dX7_goesOver_198 (by decide) ?_
        refine z_iadd hX dX7_goesOver_199 ?_
        obtain ⟨i10, hf⟩ := zifd hf
        refine z_iast hX 28 dX7_goesOver_200 (by decide) shM_28 i10 ?_
        obtain ⟨s11, h12, hf⟩ := zlet_ex hf
        refine z_name h12 ?_
        obtain rfl := Option.some.inj hf
        exact z_vret hX hQ dX7_goesOver_201
      have hf := (if_pos c9).symm.trans hf
      refine z_locals [0, 1] [(0, .ref (X.ad 0)), (1, .int v1)] rfl ?_
      exact t_X7_goesOver_136 X out hX hQ hnl s5 v1 hf
    have hf := (if_neg c2).symm.trans hf
    refine z_aload_n hX 0 dX7_goesOver_23 rfl rfl ?_
    refine z_getR hX 0 25 22 dX7_goesOver_24 (by decide) shM_0 rfl rfl zin_X7 (by decide) zm_805 ?_
    refine z_iload hX 4 dX7_goesOver_27 rfl ?_
    obtain ⟨i13, hf⟩ := zifd hf
    refine z_iald hX 22 dX7_goesOver_29 (by decide) shM_22 i13 ?_
    refine z_if_ne hX 69 dX7_goesOver_30 (by decide) (fun c14 => ?_) (fun c14 => ?_)
    · have hf := (if_neg c14).symm.trans hf
      exact t_X7_goesOver_69 X out hX hQ hnl (fun st v1 v2 v3 v4 => f_X7_goesOver_14 n st v1 v2 v3 v4) ih st v1 v2 v3 v4 hf
    have hf := (if_pos c14).symm.trans hf
    refine z_aload_n hX 0 dX7_goesOver_33 rfl rfl ?_
    refine z_getR hX 0 21 18 dX7_goesOver_34 (by decide) shM_0 rfl rfl zin_X7 (by decide) zm_801 ?_
    refine z_iload hX 4 dX7_goesOver_37 rfl ?_
    obtain ⟨i15, hf⟩ := zifd hf
    refine z_iald hX 18 dX7_goesOver_39 (by decide) shM_18 i15 ?_
    refine z_aload_n hX 0 dX7_goesOver_40 rfl rfl ?_
    refine z_getR hX 0 21 18 dX7_goesOver_41 (by decide) shM_0 rfl rfl zin_X7 (by decide) zm_801 ?_
    refine z_iload_n hX 2 dX7_goesOver_44 rfl rfl ?_
    obtain ⟨i16, hf⟩ := zifd hf
    refine z_iald hX 18 dX7_goesOver_45 (by decide) shM_18 i16 ?_
    refine z_icmp_ne hX 69 dX7_goesOver_46 (by decide) (fun c17 => ?_) (fun c17 => ?_)
    · have hf := (if_neg c17).symm.trans hf
      exact t_X7_goesOver_69 X out hX hQ hnl (fun st v1 v2 v3 v4 => f_X7_goesOver_14 n st v1 v2 v3 v4) ih st v1 v2 v3 v4 hf
    have hf := (if_pos c17).symm.trans hf
    refine z_aload_n hX 0 dX7_goesOver_49 rfl rfl ?_
    refine z_getR hX 0 22 19 dX7_goesOver_50 (by decide) shM_0 rfl rfl zin_X7 (by decide) zm_802 ?_
    refine z_iload hX 4 dX7_goesOver_53 rfl ?_
    obtain ⟨i18, hf⟩ := zifd hf
    refine z_iald hX 19 dX7_goesOver_55 (by decide) shM_19 i18 ?_
    refine z_aload_n hX 0 dX7_goesOver_56 rfl rfl ?_
    refine z_getR hX 0 22 19 dX7_goesOver_57 (by decide) shM_0 rfl rfl zin_X7 (by decide) zm_802 ?_
    refine z_iload_n hX 2 dX7_goesOver_60 rfl rfl ?_
    obtain ⟨i19, hf⟩ := zifd hf
    refine z_iald hX 19 dX7_goesOver_61 (by decide) shM_19 i19 ?_
    refine z_icmp_ne hX 69 dX7_goesOver_62 (by decide) (fun c20 => ?_) (fun c20 => ?_)
    · have hf := (if_neg c20).symm.trans hf
      exact t_X7_goesOver_69 X out hX hQ hnl (fun st v1 v2 v3 v4 => f_X7_goesOver_14 n st v1 v2 v3 v4) ih st v1 v2 v3 v4 hf
    have hf := (if_pos c20).symm.trans hf
    refine z_iconst (v := 1) hX dX7_goesOver_65 (by decide) ?_
    refine z_goto hX 70 dX7_goesOver_66 (by decide) ?_
    refine z_istore hX [(0, .ref (X.ad 0)), (1, .int v1), (2, .int v2), (3, .int v3), (4, .int v4), (5, .int 1)] dX7_goesOver_70 (by rw [hnl]; decide) [1, 2, 3, 4, 5, 0] rfl ?_
    exact t_X7_goesOver_72 X out hX hQ hnl (fun st v1 v2 v3 v4 => f_X7_goesOver_14 n st v1 v2 v3 v4) ih st v1 v2 v3 v4 1 hf
set_option maxHeartbeats 4000000 in
set_option maxRecDepth 100000 in
theorem t_X7_goesOver (X : zCx) (out : Unit × zSt) (hX : zOk X RX7 cX7_goesOver zr_X7_goesOver) (hQ : zPost X 42 shM none (none) out.2) (hnl : X.nL = 6) (st : zSt) (a0 : Int32) (hf : f_X7_goesOver st a0 = some out) : zG 42 shM X st 0 [(0, .ref (X.ad 0)), (1, .int a0)] [] := by
  unfold f_X7_goesOver at hf
  refine z_aload_n hX 0 dX7_goesOver_0 rfl rfl ?_
  refine z_getR hX 0 32 28 dX7_goesOver_1 (by decide) shM_0 rfl rfl zin_X7 (by decide) zm_812 ?_
  refine z_iload_n hX 1 dX7_goesOver_4 rfl rfl ?_
  obtain ⟨i1, hf⟩ := zifd hf
  refine z_iald hX 28 dX7_goesOver_5 (by decide) shM_28 i1 ?_
  refine z_iconst (v := 1) hX dX7_goesOver_6 (by decide) ?_
  refine z_isub hX dX7_goesOver_7 ?_
  refine z_istore_n hX [(0, .ref (X.ad 0)), (1, .int a0), (2, .int ((st.1 28 a0.toNatClampNeg) - 1))] dX7_goesOver_8 rfl (by rw [hnl]; decide) [1, 2, 0] rfl ?_
  refine z_iconst (v := (-1)) hX dX7_goesOver_9 (by decide) ?_
  refine z_istore_n hX [(0, .ref (X.ad 0)), (1, .int a0), (2, .int ((st.1 28 a0.toNatClampNeg) - 1)), (3, .int (-1))] dX7_goesOver_10 rfl (by rw [hnl]; decide) [1, 2, 3, 0] rfl ?_
  refine z_iconst (v := 0) hX dX7_goesOver_11 (by decide) ?_
  refine z_istore hX [(0, .ref (X.ad 0)), (1, .int a0), (2, .int ((st.1 28 a0.toNatClampNeg) - 1)), (3, .int (-1)), (4, .int 0)] dX7_goesOver_12 (by rw [hnl]; decide) [1, 2, 3, 4, 0] rfl ?_
  exact t_X7_goesOver_14 X out hX hQ hnl 64 st a0 ((st.1 28 a0.toNatClampNeg) - 1) (-1) 0 hf
theorem zb_X7_goesOver : zCal yX7_goesOver cX7_goesOver 6 none 1 := ⟨zm_1028, (zws_X7_goesOver), zm_8, zm_1029, by decide, by decide, rfl⟩
theorem c_X7_goesOver (l : Launch) (st : zSt) (a0 : Int32) (out : Unit × zSt) (hf : f_X7_goesOver st a0 = some out) : zMet l yX7_goesOver cX7_goesOver 6 none zr_X7_goesOver 42 shM (fun ad => [.ref (ad 0), .int a0]) st (fun ad => none) out.2 :=
  zmet_of (by decide +kernel) (fun _ => Nat.le_of_ble_eq_true rfl) (fun X _ hnl hX hQ => t_X7_goesOver X out hX hQ hnl st a0 hf)
abbrev zr_X7_empties : Room := { frames := 1, cells := 0, slots := 0, locals := 25 }
def f_X7_empties_4  : Nat → zSt → Int32 → Int32 → Int32 → Option (Int32 × zSt)
  | 0, _, _, _, _ => none
  | n + 1, st, v1, v2, v3 => (if (st.1 0 30) ≤ v3 then some (v2, st) else (if zin v3 40 then (if (st.1 28 v3.toNatClampNeg) = (v1 + 1) then (if zin v3 40 then (if (st.1 37 v3.toNatClampNeg) = 0 then ((f_X7_goesOver st v3).bind fun q6 => f_X7_empties_4 n q6.2 v1 (v2 + 1) (v3 + 1)) else f_X7_empties_4 n st v1 v2 (v3 + 1)) else none) else f_X7_empties_4 n st v1 v2 (v3 + 1)) else none))
def f_X7_empties (st : zSt) (a0 : Int32) : Option (Int32 × zSt) := f_X7_empties_4 64 st a0 0 0
set_option maxHeartbeats 4000000 in
set_option maxRecDepth 100000 in
theorem t_X7_empties_4 (X : zCx) (out : Int32 × zSt) (hX : zOk X RX7 cX7_empties zr_X7_empties) (hQ : zPost X 42 shM (some .int) (some (.int out.1)) out.2) (hnl : X.nL = 4) : ∀ (n : Nat) (st : zSt) (v1 : Int32) (v2 : Int32) (v3 : Int32), f_X7_empties_4  n st v1 v2 v3 = some out → zG 42 shM X st 4 [(0, .ref (X.ad 0)), (1, .int v1), (2, .int v2), (3, .int v3)] [] := by
  intro n
  induction n with
  | zero => intro st v1 v2 v3 hf; rw [f_X7_empties_4] at hf; exact (znone hf).elim
  | succ n ih =>
    intro st v1 v2 v3 hf
    rw [f_X7_empties_4] at hf
    refine z_iload_n hX 3 dX7_empties_4 rfl rfl ?_
    refine z_aload_n hX 0 dX7_empties_5 rfl rfl ?_
    refine z_getI hX 0 30 dX7_empties_6 (by decide) shM_0 rfl rfl zin_X7 (by decide) zm_810 ?_
    refine z_icmp_ge hX 47 dX7_empties_9 (by decide) (fun c1 => ?_) (fun c1 => ?_)
    · have hf := (if_pos c1).symm.trans hf
      refine z_iload_n hX 2 dX7_empties_47 rfl rfl ?_
      obtain rfl := Option.some.inj hf
      exact z_iret hX hQ dX7_empties_48 rfl
    have hf := (if_neg c1).symm.trans hf
    refine z_aload_n hX 0 dX7_empties_12 rfl rfl ?_
    refine z_getR hX 0 32 28 dX7_empties_13 (by decide) shM_0 rfl rfl zin_X7 (by decide) zm_812 ?_
    refine z_iload_n hX 3 dX7_empties_16 rfl rfl ?_
    obtain ⟨i2, hf⟩ := zifd hf
    refine z_iald hX 28 dX7_empties_17 (by decide) shM_28 i2 ?_
    refine z_iload_n hX 1 dX7_empties_18 rfl rfl ?_
    refine z_iconst (v := 1) hX dX7_empties_19 (by decide) ?_
    refine z_iadd hX dX7_empties_20 ?_
    refine z_icmp_ne hX 41 dX7_empties_21 (by decide) (fun c3 => ?_) (fun c3 => ?_)
    · have hf := (if_neg c3).symm.trans hf
      refine z_iinc (j := 3) (v := 1) hX [(0, .ref (X.ad 0)), (1, .int v1), (2, .int v2), (3, .int (v3 + 1))] dX7_empties_41 rfl (by decide) (by rw [hnl]; decide) [1, 2, 3, 0] rfl ?_
      refine z_goto hX 4 dX7_empties_44 (by decide) ?_
      exact ih st v1 v2 (v3 + 1) hf
    have hf := (if_pos c3).symm.trans hf
    refine z_aload_n hX 0 dX7_empties_24 rfl rfl ?_
    refine z_getR hX 0 41 37 dX7_empties_25 (by decide) shM_0 rfl rfl zin_X7 (by decide) zm_821 ?_
    refine z_iload_n hX 3 dX7_empties_28 rfl rfl ?_
    obtain ⟨i4, hf⟩ := zifd hf
    refine z_iald hX 37 dX7_empties_29 (by decide) shM_37 i4 ?_
    refine z_if_ne hX 41 dX7_empties_30 (by decide) (fun c5 => ?_) (fun c5 => ?_)
    · have hf := (if_neg c5).symm.trans hf
      refine z_iinc (j := 3) (v := 1) hX [(0, .ref (X.ad 0)), (1, .int v1), (2, .int v2), (3, .int (v3 + 1))] dX7_empties_41 rfl (by decide) (by rw [hnl]; decide) [1, 2, 3, 0] rfl ?_
      refine z_goto hX 4 dX7_empties_44 (by decide) ?_
      exact ih st v1 v2 (v3 + 1) hf
    have hf := (if_pos c5).symm.trans hf
    refine z_aload_n hX 0 dX7_empties_33 rfl rfl ?_
    refine z_iload_n hX 3 dX7_empties_34 rfl rfl ?_
    obtain ⟨q6, e7, hf⟩ := zbind hf
    refine z_callV (stk := []) (stk' := []) hX (c_X7_goesOver X.l st v3 q6 e7) zb_X7_goesOver 0 dX7_empties_35 zm_1026 (by decide) shM_0 rfl rfl rfl rfl ⟨by decide, by decide⟩ ⟨rfl, rfl⟩ (Nat.le_of_ble_eq_true rfl) rfl ?_
    refine z_iinc (j := 2) (v := 1) hX [(0, .ref (X.ad 0)), (1, .int v1), (2, .int (v2 + 1)), (3, .int v3)] dX7_empties_38 rfl (by decide) (by rw [hnl]; decide) [1, 2, 0, 3] rfl ?_
    refine z_iinc (j := 3) (v := 1) hX [(0, .ref (X.ad 0)), (1, .int v1), (2, .int (v2 + 1)), (3, .int (v3 + 1))] dX7_empties_41 rfl (by decide) (by rw [hnl]; decide) [1, 2, 3, 0] rfl ?_
    refine z_goto hX 4 dX7_empties_44 (by decide) ?_
    exact ih q6.2 v1 (v2 + 1) (v3 + 1) hf
set_option maxHeartbeats 4000000 in
set_option maxRecDepth 100000 in
theorem t_X7_empties (X : zCx) (out : Int32 × zSt) (hX : zOk X RX7 cX7_empties zr_X7_empties) (hQ : zPost X 42 shM (some .int) (some (.int out.1)) out.2) (hnl : X.nL = 4) (st : zSt) (a0 : Int32) (hf : f_X7_empties st a0 = some out) : zG 42 shM X st 0 [(0, .ref (X.ad 0)), (1, .int a0)] [] := by
  unfold f_X7_empties at hf
  refine z_iconst (v := 0) hX dX7_empties_0 (by decide) ?_
  refine z_istore_n hX [(0, .ref (X.ad 0)), (1, .int a0), (2, .int 0)] dX7_empties_1 rfl (by rw [hnl]; decide) [1, 2, 0] rfl ?_
  refine z_iconst (v := 0) hX dX7_empties_2 (by decide) ?_
  refine z_istore_n hX [(0, .ref (X.ad 0)), (1, .int a0), (2, .int 0), (3, .int 0)] dX7_empties_3 rfl (by rw [hnl]; decide) [1, 2, 3, 0] rfl ?_
  exact t_X7_empties_4 X out hX hQ hnl 64 st a0 0 0 hf
theorem zb_X7_empties : zCal yX7_empties cX7_empties 4 (some .int) 1 := ⟨zm_1024, (zws_X7_empties), zm_8, zm_1025, by decide, by decide, rfl⟩
theorem c_X7_empties (l : Launch) (st : zSt) (a0 : Int32) (out : Int32 × zSt) (hf : f_X7_empties st a0 = some out) : zMet l yX7_empties cX7_empties 4 (some .int) zr_X7_empties 42 shM (fun ad => [.ref (ad 0), .int a0]) st (fun ad => some (.int out.1)) out.2 :=
  zmet_of (by decide +kernel) (fun _ => Nat.le_of_ble_eq_true rfl) (fun X _ hnl hX hQ => t_X7_empties X out hX hQ hnl st a0 hf)
abbrev zr_X7_cancel : Room := { frames := 2, cells := 0, slots := 0, locals := 48 }
def f_X7_cancel_28  (st : zSt) (v1 : Int32) : Option (Int32 × zSt) := (if (st.1 0 52) ≤ 0 then (if zin v1 24 then (zlet (zwI st 22 v1.toNatClampNeg 1) fun s12 => (if zin v1 24 then (zlet (zwI s12 23 v1.toNatClampNeg 7) fun s15 => ((f_X7_empties s15 v1).bind fun q17 => some (q17.1, q17.2))) else none)) else none) else some (0, st))
def f_X7_cancel (st : zSt) (a0 : Int32) : Option (Int32 × zSt) := ((f_X7_hasSailing st a0).bind fun q1 => (if q1.1 = 0 then some (0, q1.2) else (if zin a0 24 then (if (q1.2.1 22 a0.toNatClampNeg) = 0 then (zlet (zwI q1.2 0 52 0) fun s8 => f_X7_cancel_28 s8 a0) else (zlet (zwI q1.2 0 52 2) fun s6 => f_X7_cancel_28 s6 a0)) else none)))
set_option maxHeartbeats 4000000 in
set_option maxRecDepth 100000 in
theorem t_X7_cancel_28 (X : zCx) (out : Int32 × zSt) (hX : zOk X RX7 cX7_cancel zr_X7_cancel) (hQ : zPost X 42 shM (some .int) (some (.int out.1)) out.2) (hnl : X.nL = 2) (st : zSt) (v1 : Int32) (hf : f_X7_cancel_28  st v1 = some out) : zG 42 shM X st 28 [(0, .ref (X.ad 0)), (1, .int v1)] [] := by
  unfold f_X7_cancel_28 at hf
  refine z_aload_n hX 0 dX7_cancel_28 rfl rfl ?_
  refine z_getI hX 0 52 dX7_cancel_29 (by decide) shM_0 rfl rfl zin_X7 (by decide) zm_832 ?_
  refine z_if_le hX 37 dX7_cancel_32 (by decide) (fun c10 => ?_) (fun c10 => ?_)
  · have hf := (if_pos c10).symm.trans hf
    refine z_aload_n hX 0 dX7_cancel_37 rfl rfl ?_
    refine z_getR hX 0 25 22 dX7_cancel_38 (by decide) shM_0 rfl rfl zin_X7 (by decide) zm_805 ?_
    refine z_iload_n hX 1 dX7_cancel_41 rfl rfl ?_
    refine z_iconst (v := 1) hX dX7_cancel_42 (by decide) ?_
    obtain ⟨i11, hf⟩ := zifd hf
    refine z_iast hX 22 dX7_cancel_43 (by decide) shM_22 i11 ?_
    obtain ⟨s12, h13, hf⟩ := zlet_ex hf
    refine z_name h13 ?_
    refine z_aload_n hX 0 dX7_cancel_44 rfl rfl ?_
    refine z_getR hX 0 26 23 dX7_cancel_45 (by decide) shM_0 rfl rfl zin_X7 (by decide) zm_806 ?_
    refine z_iload_n hX 1 dX7_cancel_48 rfl rfl ?_
    refine z_bipush (v := 7) hX dX7_cancel_49 (by decide) ?_
    obtain ⟨i14, hf⟩ := zifd hf
    refine z_iast hX 23 dX7_cancel_51 (by decide) shM_23 i14 ?_
    obtain ⟨s15, h16, hf⟩ := zlet_ex hf
    refine z_name h16 ?_
    refine z_aload_n hX 0 dX7_cancel_52 rfl rfl ?_
    refine z_iload_n hX 1 dX7_cancel_53 rfl rfl ?_
    obtain ⟨q17, e18, hf⟩ := zbind hf
    refine z_callV (stk := []) (stk' := [.int q17.1]) hX (c_X7_empties X.l s15 v1 q17 e18) zb_X7_empties 0 dX7_cancel_54 zm_1022 (by decide) shM_0 rfl rfl rfl rfl ⟨by decide, by decide⟩ ⟨rfl, rfl⟩ (Nat.le_of_ble_eq_true rfl) rfl ?_
    obtain rfl := Option.some.inj hf
    exact z_iret hX hQ dX7_cancel_57 rfl
  have hf := (if_neg c10).symm.trans hf
  refine z_iconst (v := 0) hX dX7_cancel_35 (by decide) ?_
  obtain rfl := Option.some.inj hf
  exact z_iret hX hQ dX7_cancel_36 rfl
set_option maxHeartbeats 4000000 in
set_option maxRecDepth 100000 in
theorem t_X7_cancel (X : zCx) (out : Int32 × zSt) (hX : zOk X RX7 cX7_cancel zr_X7_cancel) (hQ : zPost X 42 shM (some .int) (some (.int out.1)) out.2) (hnl : X.nL = 2) (st : zSt) (a0 : Int32) (hf : f_X7_cancel st a0 = some out) : zG 42 shM X st 0 [(0, .ref (X.ad 0)), (1, .int a0)] [] := by
  unfold f_X7_cancel at hf
  refine z_aload_n hX 0 dX7_cancel_0 rfl rfl ?_
  refine z_iload_n hX 1 dX7_cancel_1 rfl rfl ?_
  obtain ⟨q1, e2, hf⟩ := zbind hf
  refine z_callV (stk := []) (stk' := [.int q1.1]) hX (c_X7_hasSailing X.l st a0 q1 e2) zb_X7_hasSailing 0 dX7_cancel_2 zm_1018 (by decide) shM_0 rfl rfl rfl rfl ⟨by decide, by decide⟩ ⟨rfl, rfl⟩ (Nat.le_of_ble_eq_true rfl) rfl ?_
  refine z_if_ne hX 10 dX7_cancel_5 (by decide) (fun c3 => ?_) (fun c3 => ?_)
  · have hf := (if_neg c3).symm.trans hf
    refine z_aload_n hX 0 dX7_cancel_10 rfl rfl ?_
    refine z_aload_n hX 0 dX7_cancel_11 rfl rfl ?_
    refine z_getR hX 0 25 22 dX7_cancel_12 (by decide) shM_0 rfl rfl zin_X7 (by decide) zm_805 ?_
    refine z_iload_n hX 1 dX7_cancel_15 rfl rfl ?_
    obtain ⟨i4, hf⟩ := zifd hf
    refine z_iald hX 22 dX7_cancel_16 (by decide) shM_22 i4 ?_
    refine z_if_ne hX 24 dX7_cancel_17 (by decide) (fun c5 => ?_) (fun c5 => ?_)
    · have hf := (if_neg c5).symm.trans hf
      refine z_iconst (v := 2) hX dX7_cancel_24 (by decide) ?_
      refine z_putI hX 0 52 dX7_cancel_25 (by decide) shM_0 rfl rfl zin_X7 tyX7_ok nmX7 (by decide) zm_832 rfl rfl ?_
      obtain ⟨s6, h7, hf⟩ := zlet_ex hf
      refine z_name h7 ?_
      exact t_X7_cancel_28 X out hX hQ hnl s6 a0 hf
    have hf := (if_pos c5).symm.trans hf
    refine z_iconst (v := 0) hX dX7_cancel_20 (by decide) ?_
    refine z_goto hX 25 dX7_cancel_21 (by decide) ?_
    refine z_putI hX 0 52 dX7_cancel_25 (by decide) shM_0 rfl rfl zin_X7 tyX7_ok nmX7 (by decide) zm_832 rfl rfl ?_
    obtain ⟨s8, h9, hf⟩ := zlet_ex hf
    refine z_name h9 ?_
    exact t_X7_cancel_28 X out hX hQ hnl s8 a0 hf
  have hf := (if_pos c3).symm.trans hf
  refine z_iconst (v := 0) hX dX7_cancel_8 (by decide) ?_
  obtain rfl := Option.some.inj hf
  exact z_iret hX hQ dX7_cancel_9 rfl
theorem zb_X7_cancel : zCal yX7_cancel cX7_cancel 2 (some .int) 1 := ⟨zm_1015, (zwl_in zm_1016 rfl), zm_8, zm_1017, by decide, by decide, rfl⟩
theorem c_X7_cancel (l : Launch) (st : zSt) (a0 : Int32) (out : Int32 × zSt) (hf : f_X7_cancel st a0 = some out) : zMet l yX7_cancel cX7_cancel 2 (some .int) zr_X7_cancel 42 shM (fun ad => [.ref (ad 0), .int a0]) st (fun ad => some (.int out.1)) out.2 :=
  zmet_of (by decide +kernel) (fun _ => Nat.le_of_ble_eq_true rfl) (fun X _ hnl hX hQ => t_X7_cancel X out hX hQ hnl st a0 hf)
abbrev zr_X7_replace : Room := { frames := 3, cells := 0, slots := 0, locals := 68 }
def f_X7_replace_193  (st : zSt) (v1 : Int32) (v2 : Int32) : Option (Int32 × zSt) := (if (st.1 0 52) ≤ 0 then (if zin v1 24 then (zlet (zwI st 24 v1.toNatClampNeg 1) fun s46 => (if zin v1 24 then (if zin v1 24 then (if zin v1 24 then ((f_X7_makes s46 v2 (s46.1 18 v1.toNatClampNeg) (s46.1 19 v1.toNatClampNeg) (s46.1 0 0) (s46.1 21 v1.toNatClampNeg)).bind fun q51 => some (q51.1, q51.2)) else none) else none) else none)) else none) else some (0, st))
def f_X7_replace_159 (K100 : zSt → Int32 → Int32 → Int32 → Int32 → Option (Int32 × zSt)) (st : zSt) (v1 : Int32) (v2 : Int32) (v4 : Int32) : Option (Int32 × zSt) := K100 st v1 v2 1 (v4 + 1)
def f_X7_replace_100  : Nat → zSt → Int32 → Int32 → Int32 → Int32 → Option (Int32 × zSt)
  | 0, _, _, _, _, _ => none
  | n + 1, st, v1, v2, v3, v4 => (if (st.1 0 19) ≤ v4 then (if v3 = 0 then (zlet (zwI st 0 52 2) fun s27 => f_X7_replace_193 s27 v1 v2) else (if 24 ≤ (st.1 0 19) then (zlet (zwI st 0 52 2) fun s30 => f_X7_replace_193 s30 v1 v2) else (zlet (zwI st 0 52 0) fun s32 => f_X7_replace_193 s32 v1 v2))) else (if v3 = 0 then f_X7_replace_100 n st v1 v2 0 (v4 + 1) else (if zin v4 24 then (if (st.1 17 v4.toNatClampNeg) = v2 then (if zin v4 24 then (if (st.1 22 v4.toNatClampNeg) = 1 then f_X7_replace_159 (fun st v1 v2 v3 v4 => f_X7_replace_100 n st v1 v2 v3 v4) st v1 v2 v4 else (if zin v4 24 then (if (st.1 22 v4.toNatClampNeg) = 2 then ((f_X7_endOf st v4).bind fun q41 => (if (q41.2.1 0 0) < q41.1 then f_X7_replace_100 n q41.2 v1 v2 0 (v4 + 1) else f_X7_replace_159 (fun st v1 v2 v3 v4 => f_X7_replace_100 n st v1 v2 v3 v4) q41.2 v1 v2 v4)) else f_X7_replace_100 n st v1 v2 0 (v4 + 1)) else none)) else none) else f_X7_replace_159 (fun st v1 v2 v3 v4 => f_X7_replace_100 n st v1 v2 v3 v4) st v1 v2 v4) else none)))
def f_X7_replace_31  (st : zSt) (v1 : Int32) (v2 : Int32) : Option (Int32 × zSt) := (if (st.1 0 52) ≤ 0 then (if zin v1 24 then (if (st.1 22 v1.toNatClampNeg) = 1 then (if zin v1 24 then (if (st.1 24 v1.toNatClampNeg) = 0 then ((f_X7_hinders st (2 + v2) (st.1 0 0)).bind fun q18 => (if q18.1 = 0 then ((f_X7_placeIn q18.2 v2 (q18.2.1 0 0)).bind fun q21 => (if zin v1 24 then (if q21.1 = (q21.2.1 18 v1.toNatClampNeg) then f_X7_replace_100 64 q21.2 v1 v2 1 0 else f_X7_replace_100 64 q21.2 v1 v2 0 0) else none)) else f_X7_replace_100 64 q18.2 v1 v2 0 0)) else f_X7_replace_100 64 st v1 v2 0 0) else none) else f_X7_replace_100 64 st v1 v2 0 0) else none) else some (0, st))
def f_X7_replace (st : zSt) (a0 : Int32) (a1 : Int32) : Option (Int32 × zSt) := ((f_X7_in st a0 0 ((st.1 0 19) - 1)).bind fun q1 => (if q1.1 = 0 then (zlet (zwI q1.2 0 52 1) fun s4 => f_X7_replace_31 s4 a0 a1) else ((f_X7_isShip q1.2 a1).bind fun q6 => (if q6.1 = 0 then (zlet (zwI q6.2 0 52 1) fun s11 => f_X7_replace_31 s11 a0 a1) else (zlet (zwI q6.2 0 52 0) fun s9 => f_X7_replace_31 s9 a0 a1)))))
set_option maxHeartbeats 4000000 in
set_option maxRecDepth 100000 in
theorem t_X7_replace_193 (X : zCx) (out : Int32 × zSt) (hX : zOk X RX7 cX7_replace zr_X7_replace) (hQ : zPost X 42 shM (some .int) (some (.int out.1)) out.2) (hnl : X.nL = 5) (st : zSt) (v1 : Int32) (v2 : Int32) (hf : f_X7_replace_193  st v1 v2 = some out) : zG 42 shM X st 193 [(0, .ref (X.ad 0)), (1, .int v1), (2, .int v2)] [] := by
  unfold f_X7_replace_193 at hf
  refine z_aload_n hX 0 dX7_replace_193 rfl rfl ?_
  refine z_getI hX 0 52 dX7_replace_194 (by decide) shM_0 rfl rfl zin_X7 (by decide) zm_832 ?_
  refine z_if_le hX 202 dX7_replace_197 (by decide) (fun c44 => ?_) (fun c44 => ?_)
  · have hf := (if_pos c44).symm.trans hf
    refine z_aload_n hX 0 dX7_replace_202 rfl rfl ?_
    refine z_getR hX 0 27 24 dX7_replace_203 (by decide) shM_0 rfl rfl zin_X7 (by decide) zm_807 ?_
    refine z_iload_n hX 1 dX7_replace_206 rfl rfl ?_
    refine z_iconst (v := 1) hX dX7_replace_207 (by decide) ?_
    obtain ⟨i45, hf⟩ := zifd hf
    refine z_iast hX 24 dX7_replace_208 (by decide) shM_24 i45 ?_
    obtain ⟨s46, h47, hf⟩ := zlet_ex hf
    refine z_name h47 ?_
    refine z_aload_n hX 0 dX7_replace_209 rfl rfl ?_
    refine z_iload_n hX 2 dX7_replace_210 rfl rfl ?_
    refine z_aload_n hX 0 dX7_replace_211 rfl rfl ?_
    refine z_getR hX 0 21 18 dX7_replace_212 (by decide) shM_0 rfl rfl zin_X7 (by decide) zm_801 ?_
    refine z_iload_n hX 1 dX7_replace_215 rfl rfl ?_
    obtain ⟨i48, hf⟩ := zifd hf
    refine z_iald hX 18 dX7_replace_216 (by decide) shM_18 i48 ?_
    refine z_aload_n hX 0 dX7_replace_217 rfl rfl ?_
    refine z_getR hX 0 22 19 dX7_replace_218 (by decide) shM_0 rfl rfl zin_X7 (by decide) zm_802 ?_
    refine z_iload_n hX 1 dX7_replace_221 rfl rfl ?_
    obtain ⟨i49, hf⟩ := zifd hf
    refine z_iald hX 19 dX7_replace_222 (by decide) shM_19 i49 ?_
    refine z_aload_n hX 0 dX7_replace_223 rfl rfl ?_
    refine z_getI hX 0 0 dX7_replace_224 (by decide) shM_0 rfl rfl zin_X7 (by decide) zm_780 ?_
    refine z_aload_n hX 0 dX7_replace_227 rfl rfl ?_
    refine z_getR hX 0 24 21 dX7_replace_228 (by decide) shM_0 rfl rfl zin_X7 (by decide) zm_804 ?_
    refine z_iload_n hX 1 dX7_replace_231 rfl rfl ?_
    obtain ⟨i50, hf⟩ := zifd hf
    refine z_iald hX 21 dX7_replace_232 (by decide) shM_21 i50 ?_
    obtain ⟨q51, e52, hf⟩ := zbind hf
    refine z_callV (stk := []) (stk' := [.int q51.1]) hX (c_X7_makes X.l s46 v2 (s46.1 18 v1.toNatClampNeg) (s46.1 19 v1.toNatClampNeg) (s46.1 0 0) (s46.1 21 v1.toNatClampNeg) q51 e52) zb_X7_makes 0 dX7_replace_233 zm_1010 (by decide) shM_0 rfl rfl rfl rfl ⟨by decide, by decide⟩ ⟨rfl, rfl⟩ (Nat.le_of_ble_eq_true rfl) rfl ?_
    obtain rfl := Option.some.inj hf
    exact z_iret hX hQ dX7_replace_236 rfl
  have hf := (if_neg c44).symm.trans hf
  refine z_iconst (v := 0) hX dX7_replace_200 (by decide) ?_
  obtain rfl := Option.some.inj hf
  exact z_iret hX hQ dX7_replace_201 rfl
set_option maxHeartbeats 4000000 in
set_option maxRecDepth 100000 in
theorem t_X7_replace_159 (X : zCx) (out : Int32 × zSt) (hX : zOk X RX7 cX7_replace zr_X7_replace) (hQ : zPost X 42 shM (some .int) (some (.int out.1)) out.2) (hnl : X.nL = 5) (K100 : zSt → Int32 → Int32 → Int32 → Int32 → Option (Int32 × zSt)) (hK100 : ∀ (st : zSt) (v1 : Int32) (v2 : Int32) (v3 : Int32) (v4 : Int32), K100 st v1 v2 v3 v4 = some out → zG 42 shM X st 100 [(0, .ref (X.ad 0)), (1, .int v1), (2, .int v2), (3, .int v3), (4, .int v4)] []) (st : zSt) (v1 : Int32) (v2 : Int32) (v4 : Int32) (hf : f_X7_replace_159 K100 st v1 v2 v4 = some out) : zG 42 shM X st 159 [(0, .ref (X.ad 0)), (1, .int v1), (2, .int v2), (4, .int v4)] [] := by
  unfold f_X7_replace_159 at hf
  refine z_iconst (v := 1) hX dX7_replace_159 (by decide) ?_
  refine z_goto hX 164 dX7_replace_160 (by decide) ?_
  refine z_istore_n hX [(0, .ref (X.ad 0)), (1, .int v1), (2, .int v2), (3, .int 1), (4, .int v4)] dX7_replace_164 rfl (by rw [hnl]; decide) [1, 2, 3, 0, 4] rfl ?_
  refine z_iinc (j := 4) (v := 1) hX [(0, .ref (X.ad 0)), (1, .int v1), (2, .int v2), (3, .int 1), (4, .int (v4 + 1))] dX7_replace_165 rfl (by decide) (by rw [hnl]; decide) [1, 2, 3, 4, 0] rfl ?_
  refine z_goto hX 100 dX7_replace_168 (by decide) ?_
  exact hK100 st v1 v2 1 (v4 + 1) hf
set_option maxHeartbeats 4000000 in
set_option maxRecDepth 100000 in
theorem t_X7_replace_100 (X : zCx) (out : Int32 × zSt) (hX : zOk X RX7 cX7_replace zr_X7_replace) (hQ : zPost X 42 shM (some .int) (some (.int out.1)) out.2) (hnl : X.nL = 5) : ∀ (n : Nat) (st : zSt) (v1 : Int32) (v2 : Int32) (v3 : Int32) (v4 : Int32), f_X7_replace_100  n st v1 v2 v3 v4 = some out → zG 42 shM X st 100 [(0, .ref (X.ad 0)), (1, .int v1), (2, .int v2), (3, .int v3), (4, .int v4)] [] := by
  intro n
  induction n with
  | zero => intro st v1 v2 v3 v4 hf; rw [f_X7_replace_100] at hf; exact (znone hf).elim
  | succ n ih =>
    intro st v1 v2 v3 v4 hf
    rw [f_X7_replace_100] at hf
    refine z_iload hX 4 dX7_replace_100 rfl ?_
    refine z_aload_n hX 0 dX7_replace_102 rfl rfl ?_
    refine z_getI hX 0 19 dX7_replace_103 (by decide) shM_0 rfl rfl zin_X7 (by decide) zm_799 ?_
    refine z_icmp_ge hX 171 dX7_replace_106 (by decide) (fun c25 => ?_) (fun c25 => ?_)
    · have hf := (if_pos c25).symm.trans hf
      refine z_aload_n hX 0 dX7_replace_171 rfl rfl ?_
      refine z_iload_n hX 3 dX7_replace_172 rfl rfl ?_
      refine z_if_eq hX 189 dX7_replace_173 (by decide) (fun c26 => ?_) (fun c26 => ?_)
      · have hf := (if_pos c26).symm.trans hf
        refine z_iconst (v := 2) hX dX7_replace_189 (by decide) ?_
        refine z_putI hX 0 52 dX7_replace_190 (by decide) shM_0 rfl rfl zin_X7 tyX7_ok nmX7 (by decide) zm_832 rfl rfl ?_
        obtain ⟨s27, h28, hf⟩ := zlet_ex hf
        refine z_name h28 ?_
        refine z_locals [0, 1, 2] [(0, .ref (X.ad 0)), (1, .int v1), (2, .int v2)] rfl ?_
        exact t_X7_replace_193 X out hX hQ hnl s27 v1 v2 hf
      have hf := (if_neg c26).symm.trans hf
      refine z_aload_n hX 0 dX7_replace_176 rfl rfl ?_
      refine z_getI hX 0 19 dX7_replace_177 (by decide) shM_0 rfl rfl zin_X7 (by decide) zm_799 ?_
      refine z_bipush (v := 24) hX dX7_replace_180 (by decide) ?_
      refine z_icmp_ge hX 189 dX7_replace_182 (by decide) (fun c29 => ?_) (fun c29 => ?_)
      · have hf := (if_pos c29).symm.trans hf
        refine z_iconst (v := 2) hX dX7_replace_189 (by decide) ?_
        refine z_putI hX 0 52 dX7_replace_190 (by decide) shM_0 rfl rfl zin_X7 tyX7_ok nmX7 (by decide) zm_832 rfl rfl ?_
        obtain ⟨s30, h31, hf⟩ := zlet_ex hf
        refine z_name h31 ?_
        refine z_locals [0, 1, 2] [(0, .ref (X.ad 0)), (1, .int v1), (2, .int v2)] rfl ?_
        exact t_X7_replace_193 X out hX hQ hnl s30 v1 v2 hf
      have hf := (if_neg c29).symm.trans hf
      refine z_iconst (v := 0) hX dX7_replace_185 (by decide) ?_
      refine z_goto hX 190 dX7_replace_186 (by decide) ?_
      refine z_putI hX 0 52 dX7_replace_190 (by decide) shM_0 rfl rfl zin_X7 tyX7_ok nmX7 (by decide) zm_832 rfl rfl ?_
      obtain ⟨s32, h33, hf⟩ := zlet_ex hf
      refine z_name h33 ?_
      refine z_locals [0, 1, 2] [(0, .ref (X.ad 0)), (1, .int v1), (2, .int v2)] rfl ?_
      exact t_X7_replace_193 X out hX hQ hnl s32 v1 v2 hf
    have hf := (if_neg c25).symm.trans hf
    refine z_iload_n hX 3 dX7_replace_109 rfl rfl ?_
    refine z_if_eq hX 163 dX7_replace_110 (by decide) (fun c34 => ?_) (fun c34 => ?_)
    · have hf := (if_pos c34).symm.trans hf
      refine z_iconst (v := 0) hX dX7_replace_163 (by decide) ?_
      refine z_istore_n hX [(0, .ref (X.ad 0)), (1, .int v1), (2, .int v2), (3, .int 0), (4, .int v4)] dX7_replace_164 rfl (by rw [hnl]; decide) [1, 2, 3, 0, 4] rfl ?_
      refine z_iinc (j := 4) (v := 1) hX [(0, .ref (X.ad 0)), (1, .int v1), (2, .int v2), (3, .int 0), (4, .int (v4 + 1))] dX7_replace_165 rfl (by decide) (by rw [hnl]; decide) [1, 2, 3, 4, 0] rfl ?_
      refine z_goto hX 100 dX7_replace_168 (by decide) ?_
      exact ih st v1 v2 0 (v4 + 1) hf
    have hf := (if_neg c34).symm.trans hf
    refine z_aload_n hX 0 dX7_replace_113 rfl rfl ?_
    refine z_getR hX 0 20 17 dX7_replace_114 (by decide) shM_0 rfl rfl zin_X7 (by decide) zm_800 ?_
    refine z_iload hX 4 dX7_replace_117 rfl ?_
    obtain ⟨i35, hf⟩ := zifd hf
    refine z_iald hX 17 dX7_replace_119 (by decide) shM_17 i35 ?_
    refine z_iload_n hX 2 dX7_replace_120 rfl rfl ?_
    refine z_icmp_ne hX 159 dX7_replace_121 (by decide) (fun c36 => ?_) (fun c36 => ?_)
    · have hf := (if_neg c36).symm.trans hf
      refine z_locals [0, 1, 2, 4] [(0, .ref (X.ad 0)), (1, .int v1), (2, .int v2), (4, .int v4)] rfl ?_
      exact t_X7_replace_159 X out hX hQ hnl (fun st v1 v2 v3 v4 => f_X7_replace_100 n st v1 v2 v3 v4) ih st v1 v2 v4 hf
    have hf := (if_pos c36).symm.trans hf
    refine z_aload_n hX 0 dX7_replace_124 rfl rfl ?_
    refine z_getR hX 0 25 22 dX7_replace_125 (by decide) shM_0 rfl rfl zin_X7 (by decide) zm_805 ?_
    refine z_iload hX 4 dX7_replace_128 rfl ?_
    obtain ⟨i37, hf⟩ := zifd hf
    refine z_iald hX 22 dX7_replace_130 (by decide) shM_22 i37 ?_
    refine z_iconst (v := 1) hX dX7_replace_131 (by decide) ?_
    refine z_icmp_eq hX 159 dX7_replace_132 (by decide) (fun c38 => ?_) (fun c38 => ?_)
    · have hf := (if_pos c38).symm.trans hf
      refine z_locals [0, 1, 2, 4] [(0, .ref (X.ad 0)), (1, .int v1), (2, .int v2), (4, .int v4)] rfl ?_
      exact t_X7_replace_159 X out hX hQ hnl (fun st v1 v2 v3 v4 => f_X7_replace_100 n st v1 v2 v3 v4) ih st v1 v2 v4 hf
    have hf := (if_neg c38).symm.trans hf
    refine z_aload_n hX 0 dX7_replace_135 rfl rfl ?_
    refine z_getR hX 0 25 22 dX7_replace_136 (by decide) shM_0 rfl rfl zin_X7 (by decide) zm_805 ?_
    refine z_iload hX 4 dX7_replace_139 rfl ?_
    obtain ⟨i39, hf⟩ := zifd hf
    refine z_iald hX 22 dX7_replace_141 (by decide) shM_22 i39 ?_
    refine z_iconst (v := 2) hX dX7_replace_142 (by decide) ?_
    refine z_icmp_ne hX 163 dX7_replace_143 (by decide) (fun c40 => ?_) (fun c40 => ?_)
    · have hf := (if_neg c40).symm.trans hf
      refine z_iconst (v := 0) hX dX7_replace_163 (by decide) ?_
      refine z_istore_n hX [(0, .ref (X.ad 0)), (1, .int v1), (2, .int v2), (3, .int 0), (4, .int v4)] dX7_replace_164 rfl (by rw [hnl]; decide) [1, 2, 3, 0, 4] rfl ?_
      refine z_iinc (j := 4) (v := 1) hX [(0, .ref (X.ad 0)), (1, .int v1), (2, .int v2), (3, .int 0), (4, .int (v4 + 1))] dX7_replace_165 rfl (by decide) (by rw [hnl]; decide) [1, 2, 3, 4, 0] rfl ?_
      refine z_goto hX 100 dX7_replace_168 (by decide) ?_
      exact ih st v1 v2 0 (v4 + 1) hf
    have hf := (if_pos c40).symm.trans hf
    refine z_aload_n hX 0 dX7_replace_146 rfl rfl ?_
    refine z_iload hX 4 dX7_replace_147 rfl ?_
    obtain ⟨q41, e42, hf⟩ := zbind hf
    refine z_callV (stk := []) (stk' := [.int q41.1]) hX (c_X7_endOf X.l st v4 q41 e42) zb_X7_endOf 0 dX7_replace_149 zm_1002 (by decide) shM_0 rfl rfl rfl rfl ⟨by decide, by decide⟩ ⟨rfl, rfl⟩ (Nat.le_of_ble_eq_true rfl) rfl ?_
    refine z_aload_n hX 0 dX7_replace_152 rfl rfl ?_
    refine z_getI hX 0 0 dX7_replace_153 (by decide) shM_0 rfl rfl zin_X7 (by decide) zm_780 ?_
    refine z_icmp_gt hX 163 dX7_replace_156 (by decide) (fun c43 => ?_) (fun c43 => ?_)
    · have hf := (if_pos c43).symm.trans hf
      refine z_iconst (v := 0) hX dX7_replace_163 (by decide) ?_
      refine z_istore_n hX [(0, .ref (X.ad 0)), (1, .int v1), (2, .int v2), (3, .int 0), (4, .int v4)] dX7_replace_164 rfl (by rw [hnl]; decide) [1, 2, 3, 0, 4] rfl ?_
      refine z_iinc (j := 4) (v := 1) hX [(0, .ref (X.ad 0)), (1, .int v1), (2, .int v2), (3, .int 0), (4, .int (v4 + 1))] dX7_replace_165 rfl (by decide) (by rw [hnl]; decide) [1, 2, 3, 4, 0] rfl ?_
      refine z_goto hX 100 dX7_replace_168 (by decide) ?_
      exact ih q41.2 v1 v2 0 (v4 + 1) hf
    have hf := (if_neg c43).symm.trans hf
    refine z_locals [0, 1, 2, 4] [(0, .ref (X.ad 0)), (1, .int v1), (2, .int v2), (4, .int v4)] rfl ?_
    exact t_X7_replace_159 X out hX hQ hnl (fun st v1 v2 v3 v4 => f_X7_replace_100 n st v1 v2 v3 v4) ih q41.2 v1 v2 v4 hf
set_option maxHeartbeats 4000000 in
set_option maxRecDepth 100000 in
theorem t_X7_replace_31 (X : zCx) (out : Int32 × zSt) (hX : zOk X RX7 cX7_replace zr_X7_replace) (hQ : zPost X 42 shM (some .int) (some (.int out.1)) out.2) (hnl : X.nL = 5) (st : zSt) (v1 : Int32) (v2 : Int32) (hf : f_X7_replace_31  st v1 v2 = some out) : zG 42 shM X st 31 [(0, .ref (X.ad 0)), (1, .int v1), (2, .int v2)] [] := by
  unfold f_X7_replace_31 at hf
  refine z_aload_n hX 0 dX7_replace_31 rfl rfl ?_
  refine z_getI hX 0 52 dX7_replace_32 (by decide) shM_0 rfl rfl zin_X7 (by decide) zm_832 ?_
  refine z_if_le hX 40 dX7_replace_35 (by decide) (fun c13 => ?_) (fun c13 => ?_)
  · have hf := (if_pos c13).symm.trans hf
    refine z_aload_n hX 0 dX7_replace_40 rfl rfl ?_
    refine z_getR hX 0 25 22 dX7_replace_41 (by decide) shM_0 rfl rfl zin_X7 (by decide) zm_805 ?_
    refine z_iload_n hX 1 dX7_replace_44 rfl rfl ?_
    obtain ⟨i14, hf⟩ := zifd hf
    refine z_iald hX 22 dX7_replace_45 (by decide) shM_22 i14 ?_
    refine z_iconst (v := 1) hX dX7_replace_46 (by decide) ?_
    refine z_icmp_ne hX 95 dX7_replace_47 (by decide) (fun c15 => ?_) (fun c15 => ?_)
    · have hf := (if_neg c15).symm.trans hf
      refine z_iconst (v := 0) hX dX7_replace_95 (by decide) ?_
      refine z_istore_n hX [(0, .ref (X.ad 0)), (1, .int v1), (2, .int v2), (3, .int 0)] dX7_replace_96 rfl (by rw [hnl]; decide) [1, 2, 3, 0] rfl ?_
      refine z_iconst (v := 0) hX dX7_replace_97 (by decide) ?_
      refine z_istore hX [(0, .ref (X.ad 0)), (1, .int v1), (2, .int v2), (3, .int 0), (4, .int 0)] dX7_replace_98 (by rw [hnl]; decide) [1, 2, 3, 4, 0] rfl ?_
      exact t_X7_replace_100 X out hX hQ hnl 64 st v1 v2 0 0 hf
    have hf := (if_pos c15).symm.trans hf
    refine z_aload_n hX 0 dX7_replace_50 rfl rfl ?_
    refine z_getR hX 0 27 24 dX7_replace_51 (by decide) shM_0 rfl rfl zin_X7 (by decide) zm_807 ?_
    refine z_iload_n hX 1 dX7_replace_54 rfl rfl ?_
    obtain ⟨i16, hf⟩ := zifd hf
    refine z_iald hX 24 dX7_replace_55 (by decide) shM_24 i16 ?_
    refine z_if_ne hX 95 dX7_replace_56 (by decide) (fun c17 => ?_) (fun c17 => ?_)
    · have hf := (if_neg c17).symm.trans hf
      refine z_iconst (v := 0) hX dX7_replace_95 (by decide) ?_
      refine z_istore_n hX [(0, .ref (X.ad 0)), (1, .int v1), (2, .int v2), (3, .int 0)] dX7_replace_96 rfl (by rw [hnl]; decide) [1, 2, 3, 0] rfl ?_
      refine z_iconst (v := 0) hX dX7_replace_97 (by decide) ?_
      refine z_istore hX [(0, .ref (X.ad 0)), (1, .int v1), (2, .int v2), (3, .int 0), (4, .int 0)] dX7_replace_98 (by rw [hnl]; decide) [1, 2, 3, 4, 0] rfl ?_
      exact t_X7_replace_100 X out hX hQ hnl 64 st v1 v2 0 0 hf
    have hf := (if_pos c17).symm.trans hf
    refine z_aload_n hX 0 dX7_replace_59 rfl rfl ?_
    refine z_iconst (v := 2) hX dX7_replace_60 (by decide) ?_
    refine z_iload_n hX 2 dX7_replace_61 rfl rfl ?_
    refine z_iadd hX dX7_replace_62 ?_
    refine z_aload_n hX 0 dX7_replace_63 rfl rfl ?_
    refine z_getI hX 0 0 dX7_replace_64 (by decide) shM_0 rfl rfl zin_X7 (by decide) zm_780 ?_
    obtain ⟨q18, e19, hf⟩ := zbind hf
    refine z_callV (stk := []) (stk' := [.int q18.1]) hX (c_X7_hinders X.l st (2 + v2) (st.1 0 0) q18 e19) zb_X7_hinders 0 dX7_replace_67 zm_1034 (by decide) shM_0 rfl rfl rfl rfl ⟨by decide, by decide⟩ ⟨rfl, rfl⟩ (Nat.le_of_ble_eq_true rfl) rfl ?_
    refine z_if_ne hX 95 dX7_replace_70 (by decide) (fun c20 => ?_) (fun c20 => ?_)
    · have hf := (if_neg c20).symm.trans hf
      refine z_iconst (v := 0) hX dX7_replace_95 (by decide) ?_
      refine z_istore_n hX [(0, .ref (X.ad 0)), (1, .int v1), (2, .int v2), (3, .int 0)] dX7_replace_96 rfl (by rw [hnl]; decide) [1, 2, 3, 0] rfl ?_
      refine z_iconst (v := 0) hX dX7_replace_97 (by decide) ?_
      refine z_istore hX [(0, .ref (X.ad 0)), (1, .int v1), (2, .int v2), (3, .int 0), (4, .int 0)] dX7_replace_98 (by rw [hnl]; decide) [1, 2, 3, 4, 0] rfl ?_
      exact t_X7_replace_100 X out hX hQ hnl 64 q18.2 v1 v2 0 0 hf
    have hf := (if_pos c20).symm.trans hf
    refine z_aload_n hX 0 dX7_replace_73 rfl rfl ?_
    refine z_iload_n hX 2 dX7_replace_74 rfl rfl ?_
    refine z_aload_n hX 0 dX7_replace_75 rfl rfl ?_
    refine z_getI hX 0 0 dX7_replace_76 (by decide) shM_0 rfl rfl zin_X7 (by decide) zm_780 ?_
    obtain ⟨q21, e22, hf⟩ := zbind hf
    refine z_callV (stk := []) (stk' := [.int q21.1]) hX (c_X7_placeIn X.l q18.2 v2 (q18.2.1 0 0) q21 e22) zb_X7_placeIn 0 dX7_replace_79 zm_998 (by decide) shM_0 rfl rfl rfl rfl ⟨by decide, by decide⟩ ⟨rfl, rfl⟩ (Nat.le_of_ble_eq_true rfl) rfl ?_
    refine z_aload_n hX 0 dX7_replace_82 rfl rfl ?_
    refine z_getR hX 0 21 18 dX7_replace_83 (by decide) shM_0 rfl rfl zin_X7 (by decide) zm_801 ?_
    refine z_iload_n hX 1 dX7_replace_86 rfl rfl ?_
    obtain ⟨i23, hf⟩ := zifd hf
    refine z_iald hX 18 dX7_replace_87 (by decide) shM_18 i23 ?_
    refine z_icmp_ne hX 95 dX7_replace_88 (by decide) (fun c24 => ?_) (fun c24 => ?_)
    · have hf := (if_neg c24).symm.trans hf
      refine z_iconst (v := 0) hX dX7_replace_95 (by decide) ?_
      refine z_istore_n hX [(0, .ref (X.ad 0)), (1, .int v1), (2, .int v2), (3, .int 0)] dX7_replace_96 rfl (by rw [hnl]; decide) [1, 2, 3, 0] rfl ?_
      refine z_iconst (v := 0) hX dX7_replace_97 (by decide) ?_
      refine z_istore hX [(0, .ref (X.ad 0)), (1, .int v1), (2, .int v2), (3, .int 0), (4, .int 0)] dX7_replace_98 (by rw [hnl]; decide) [1, 2, 3, 4, 0] rfl ?_
      exact t_X7_replace_100 X out hX hQ hnl 64 q21.2 v1 v2 0 0 hf
    have hf := (if_pos c24).symm.trans hf
    refine z_iconst (v := 1) hX dX7_replace_91 (by decide) ?_
    refine z_goto hX 96 dX7_replace_92 (by decide) ?_
    refine z_istore_n hX [(0, .ref (X.ad 0)), (1, .int v1), (2, .int v2), (3, .int 1)] dX7_replace_96 rfl (by rw [hnl]; decide) [1, 2, 3, 0] rfl ?_
    refine z_iconst (v := 0) hX dX7_replace_97 (by decide) ?_
    refine z_istore hX [(0, .ref (X.ad 0)), (1, .int v1), (2, .int v2), (3, .int 1), (4, .int 0)] dX7_replace_98 (by rw [hnl]; decide) [1, 2, 3, 4, 0] rfl ?_
    exact t_X7_replace_100 X out hX hQ hnl 64 q21.2 v1 v2 1 0 hf
  have hf := (if_neg c13).symm.trans hf
  refine z_iconst (v := 0) hX dX7_replace_38 (by decide) ?_
  obtain rfl := Option.some.inj hf
  exact z_iret hX hQ dX7_replace_39 rfl
set_option maxHeartbeats 4000000 in
set_option maxRecDepth 100000 in
theorem t_X7_replace (X : zCx) (out : Int32 × zSt) (hX : zOk X RX7 cX7_replace zr_X7_replace) (hQ : zPost X 42 shM (some .int) (some (.int out.1)) out.2) (hnl : X.nL = 5) (st : zSt) (a0 : Int32) (a1 : Int32) (hf : f_X7_replace st a0 a1 = some out) : zG 42 shM X st 0 [(0, .ref (X.ad 0)), (1, .int a0), (2, .int a1)] [] := by
  unfold f_X7_replace at hf
  refine z_aload_n hX 0 dX7_replace_0 rfl rfl ?_
  refine z_iload_n hX 1 dX7_replace_1 rfl rfl ?_
  refine z_iconst (v := 0) hX dX7_replace_2 (by decide) ?_
  refine z_aload_n hX 0 dX7_replace_3 rfl rfl ?_
  refine z_getI hX 0 19 dX7_replace_4 (by decide) shM_0 rfl rfl zin_X7 (by decide) zm_799 ?_
  refine z_iconst (v := 1) hX dX7_replace_7 (by decide) ?_
  refine z_isub hX dX7_replace_8 ?_
  obtain ⟨q1, e2, hf⟩ := zbind hf
  refine z_callS (stk := [.ref (X.ad 0)]) (stk' := [.int q1.1, .ref (X.ad 0)]) hX (c_X7_in X.l st a0 0 ((st.1 0 19) - 1) q1 e2) zb_X7_in dX7_replace_9 zm_951 rfl rfl rfl ⟨by decide, by decide⟩ ⟨rfl, rfl⟩ (Nat.le_of_ble_eq_true rfl) rfl ?_
  refine z_if_eq hX 23 dX7_replace_12 (by decide) (fun c3 => ?_) (fun c3 => ?_)
  · have hf := (if_pos c3).symm.trans hf
    refine z_iconst (v := 1) hX dX7_replace_23 (by decide) ?_
    refine z_goto hX 28 dX7_replace_24 (by decide) ?_
    refine z_putI hX 0 52 dX7_replace_28 (by decide) shM_0 rfl rfl zin_X7 tyX7_ok nmX7 (by decide) zm_832 rfl rfl ?_
    obtain ⟨s4, h5, hf⟩ := zlet_ex hf
    refine z_name h5 ?_
    exact t_X7_replace_31 X out hX hQ hnl s4 a0 a1 hf
  have hf := (if_neg c3).symm.trans hf
  refine z_aload_n hX 0 dX7_replace_15 rfl rfl ?_
  refine z_iload_n hX 2 dX7_replace_16 rfl rfl ?_
  obtain ⟨q6, e7, hf⟩ := zbind hf
  refine z_callV (stk := [.ref (X.ad 0)]) (stk' := [.int q6.1, .ref (X.ad 0)]) hX (c_X7_isShip X.l q1.2 a1 q6 e7) zb_X7_isShip 0 dX7_replace_17 zm_958 (by decide) shM_0 rfl rfl rfl rfl ⟨by decide, by decide⟩ ⟨rfl, rfl⟩ (Nat.le_of_ble_eq_true rfl) rfl ?_
  refine z_if_ne hX 27 dX7_replace_20 (by decide) (fun c8 => ?_) (fun c8 => ?_)
  · have hf := (if_neg c8).symm.trans hf
    refine z_iconst (v := 0) hX dX7_replace_27 (by decide) ?_
    refine z_putI hX 0 52 dX7_replace_28 (by decide) shM_0 rfl rfl zin_X7 tyX7_ok nmX7 (by decide) zm_832 rfl rfl ?_
    obtain ⟨s9, h10, hf⟩ := zlet_ex hf
    refine z_name h10 ?_
    exact t_X7_replace_31 X out hX hQ hnl s9 a0 a1 hf
  have hf := (if_pos c8).symm.trans hf
  refine z_iconst (v := 1) hX dX7_replace_23 (by decide) ?_
  refine z_goto hX 28 dX7_replace_24 (by decide) ?_
  refine z_putI hX 0 52 dX7_replace_28 (by decide) shM_0 rfl rfl zin_X7 tyX7_ok nmX7 (by decide) zm_832 rfl rfl ?_
  obtain ⟨s11, h12, hf⟩ := zlet_ex hf
  refine z_name h12 ?_
  exact t_X7_replace_31 X out hX hQ hnl s11 a0 a1 hf
theorem zb_X7_replace : zCal yX7_replace cX7_replace 5 (some .int) 2 := ⟨zm_1031, (zwl_in zm_1032 rfl), zm_8, zm_1033, by decide, by decide, rfl⟩
theorem c_X7_replace (l : Launch) (st : zSt) (a0 : Int32) (a1 : Int32) (out : Int32 × zSt) (hf : f_X7_replace st a0 a1 = some out) : zMet l yX7_replace cX7_replace 5 (some .int) zr_X7_replace 42 shM (fun ad => [.ref (ad 0), .int a0, .int a1]) st (fun ad => some (.int out.1)) out.2 :=
  zmet_of (by decide +kernel) (fun _ => Nat.le_of_ble_eq_true rfl) (fun X _ hnl hX hQ => t_X7_replace X out hX hQ hnl st a0 a1 hf)
