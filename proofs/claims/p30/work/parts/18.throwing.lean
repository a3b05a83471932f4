/-! methods that throw, walked by program: fx_.. what is thrown, cx_.. the contract -/
abbrev zrx_X6_demandIndex : Room := { frames := 6, cells := 1, slots := 6, locals := 90 }
def fx_X6_demandIndex (st : zSt) (a0 : Int32) (a1 : Int32) : Option (Nat × zSt) := (if a0 < 0 then some (1, st) else (if a0 < a1 then none else some (1, st)))
set_option maxHeartbeats 4000000 in
set_option maxRecDepth 100000 in
theorem tx_X6_demandIndex (X : zCx) (out : Nat × zSt) (hXX : zOkX X RX6 cX6_demandIndex zrx_X6_demandIndex) (hQ : zPostX X 98 shC out.1 out.2) (hnl : X.nL = 2) (st : zSt) (a0 : Int32) (a1 : Int32) (hf : fx_X6_demandIndex st a0 a1 = some out) : zG 98 shC X st 0 [(0, .int a0), (1, .int a1)] [] := by
  unfold fx_X6_demandIndex at hf
  have hX := hXX.1
  refine z_iload_n hX 0 dX6_demandIndex_0 rfl rfl ?_
  refine z_if_lt hX 9 dX6_demandIndex_1 (by decide) (fun c1 => ?_) (fun c1 => ?_)
  · have hf := (if_pos c1).symm.trans hf
    obtain rfl := Option.some.inj hf
    exact z_throw (k := 1) hXX hQ (by decide) (by decide) zm_309 zm_11 zat_1 dX6_demandIndex_9 dX6_demandIndex_12 dX6_demandIndex_13 dX6_demandIndex_16 ⟨by decide, Nat.le_of_ble_eq_true rfl⟩
  have hf := (if_neg c1).symm.trans hf
  refine z_iload_n hX 0 dX6_demandIndex_4 rfl rfl ?_
  refine z_iload_n hX 1 dX6_demandIndex_5 rfl rfl ?_
  refine z_icmp_lt hX 17 dX6_demandIndex_6 (by decide) (fun c2 => ?_) (fun c2 => ?_)
  · have hf := (if_pos c2).symm.trans hf
    exact (znone hf).elim
  have hf := (if_neg c2).symm.trans hf
  obtain rfl := Option.some.inj hf
  exact z_throw (k := 1) hXX hQ (by decide) (by decide) zm_309 zm_11 zat_1 dX6_demandIndex_9 dX6_demandIndex_12 dX6_demandIndex_13 dX6_demandIndex_16 ⟨by decide, Nat.le_of_ble_eq_true rfl⟩
theorem cx_X6_demandIndex (l : Launch) (hfl : l.stackTraces = false) (st : zSt) (a0 : Int32) (a1 : Int32) (out : Nat × zSt) (hf : fx_X6_demandIndex st a0 a1 = some out) : zMx l yX6_demandIndex cX6_demandIndex 2 none zrx_X6_demandIndex 98 shC (fun ad => [.int a0, .int a1]) st out.1 out.2 :=
  zmx_of hfl (by decide) (fun _ => Nat.le_of_ble_eq_true rfl) (by decide) (fun X _ hnl hX hQ => tx_X6_demandIndex X out hX hQ hnl st a0 a1 hf)
abbrev zrx_X6_demandArgument : Room := { frames := 6, cells := 1, slots := 6, locals := 90 }
def fx_X6_demandArgument (st : zSt) (a0 : Int32) : Option (Nat × zSt) := (if a0 = 0 then some (2, st) else none)
set_option maxHeartbeats 4000000 in
set_option maxRecDepth 100000 in
theorem tx_X6_demandArgument (X : zCx) (out : Nat × zSt) (hXX : zOkX X RX6 cX6_demandArgument zrx_X6_demandArgument) (hQ : zPostX X 98 shC out.1 out.2) (hnl : X.nL = 1) (st : zSt) (a0 : Int32) (hf : fx_X6_demandArgument st a0 = some out) : zG 98 shC X st 0 [(0, .int a0)] [] := by
  unfold fx_X6_demandArgument at hf
  have hX := hXX.1
  refine z_iload_n hX 0 dX6_demandArgument_0 rfl rfl ?_
  refine z_if_ne hX 12 dX6_demandArgument_1 (by decide) (fun c1 => ?_) (fun c1 => ?_)
  · have hf := (if_neg c1).symm.trans hf
    exact (znone hf).elim
  have hf := (if_pos c1).symm.trans hf
  obtain rfl := Option.some.inj hf
  exact z_throw (k := 2) hXX hQ (by decide) (by decide) zm_379 zm_12 zat_2 dX6_demandArgument_4 dX6_demandArgument_7 dX6_demandArgument_8 dX6_demandArgument_11 ⟨by decide, Nat.le_of_ble_eq_true rfl⟩
theorem cx_X6_demandArgument (l : Launch) (hfl : l.stackTraces = false) (st : zSt) (a0 : Int32) (out : Nat × zSt) (hf : fx_X6_demandArgument st a0 = some out) : zMx l yX6_demandArgument cX6_demandArgument 1 none zrx_X6_demandArgument 98 shC (fun ad => [.int a0]) st out.1 out.2 :=
  zmx_of hfl (by decide) (fun _ => Nat.le_of_ble_eq_true rfl) (by decide) (fun X _ hnl hX hQ => tx_X6_demandArgument X out hX hQ hnl st a0 hf)
abbrev zrx_X6_demandState : Room := { frames := 6, cells := 1, slots := 6, locals := 90 }
def fx_X6_demandState (st : zSt) (a0 : Int32) : Option (Nat × zSt) := (if a0 = 0 then some (3, st) else none)
set_option maxHeartbeats 4000000 in
set_option maxRecDepth 100000 in
theorem tx_X6_demandState (X : zCx) (out : Nat × zSt) (hXX : zOkX X RX6 cX6_demandState zrx_X6_demandState) (hQ : zPostX X 98 shC out.1 out.2) (hnl : X.nL = 1) (st : zSt) (a0 : Int32) (hf : fx_X6_demandState st a0 = some out) : zG 98 shC X st 0 [(0, .int a0)] [] := by
  unfold fx_X6_demandState at hf
  have hX := hXX.1
  refine z_iload_n hX 0 dX6_demandState_0 rfl rfl ?_
  refine z_if_ne hX 12 dX6_demandState_1 (by decide) (fun c1 => ?_) (fun c1 => ?_)
  · have hf := (if_neg c1).symm.trans hf
    exact (znone hf).elim
  have hf := (if_pos c1).symm.trans hf
  obtain rfl := Option.some.inj hf
  exact z_throw (k := 3) hXX hQ (by decide) (by decide) zm_397 zm_13 zat_3 dX6_demandState_4 dX6_demandState_7 dX6_demandState_8 dX6_demandState_11 ⟨by decide, Nat.le_of_ble_eq_true rfl⟩
theorem cx_X6_demandState (l : Launch) (hfl : l.stackTraces = false) (st : zSt) (a0 : Int32) (out : Nat × zSt) (hf : fx_X6_demandState st a0 = some out) : zMx l yX6_demandState cX6_demandState 1 none zrx_X6_demandState 98 shC (fun ad => [.int a0]) st out.1 out.2 :=
  zmx_of hfl (by decide) (fun _ => Nat.le_of_ble_eq_true rfl) (by decide) (fun X _ hnl hX hQ => tx_X6_demandState X out hX hQ hnl st a0 hf)
abbrev zrx_X6_knownShip : Room := { frames := 7, cells := 1, slots := 6, locals := 111 }
def fx_X6_knownShip (st : zSt) (a0 : Int32) : Option (Nat × zSt) := (zorx (fx_X6_demandIndex st a0 (st.1 0 11)) ((f_X6_demandIndex st a0 (st.1 0 11)).bind fun q1 => none))
set_option maxHeartbeats 4000000 in
set_option maxRecDepth 100000 in
theorem tx_X6_knownShip (X : zCx) (out : Nat × zSt) (hXX : zOkX X RX6 cX6_knownShip zrx_X6_knownShip) (hQ : zPostX X 98 shC out.1 out.2) (hnl : X.nL = 2) (st : zSt) (a0 : Int32) (hf : fx_X6_knownShip st a0 = some out) : zG 98 shC X st 0 [(0, .ref (X.ad 0)), (1, .int a0)] [] := by
  unfold fx_X6_knownShip at hf
  have hX := hXX.1
  refine z_iload_n hX 1 dX6_knownShip_0 rfl rfl ?_
  refine z_aload_n hX 0 dX6_knownShip_1 rfl rfl ?_
  refine z_getI hX 0 11 dX6_knownShip_2 (by decide) shC_0 rfl rfl zin_X6 (by decide) zm_264 ?_
  rcases zorx_ex hf with x3 | ⟨_, hf⟩
  · exact z_xS (stk := []) hXX hQ (cx_X6_demandIndex X.l hXX.2.2.2.1 st a0 (st.1 0 11) _ x3) zb_X6_demandIndex dX6_knownShip_5 zm_306 rfl rfl rfl ⟨by decide, by decide⟩ ⟨rfl, rfl⟩ (Nat.le_of_ble_eq_true rfl)
  obtain ⟨q1, e2, hf⟩ := zbind hf
  refine z_callS (stk := []) (stk' := []) hX (c_X6_demandIndex X.l st a0 (st.1 0 11) q1 e2) zb_X6_demandIndex dX6_knownShip_5 zm_306 rfl rfl rfl ⟨by decide, by decide⟩ ⟨rfl, rfl⟩ (Nat.le_of_ble_eq_true rfl) rfl ?_
  exact (znone hf).elim
theorem cx_X6_knownShip (l : Launch) (hfl : l.stackTraces = false) (st : zSt) (a0 : Int32) (out : Nat × zSt) (hf : fx_X6_knownShip st a0 = some out) : zMx l yX6_knownShip cX6_knownShip 2 (some (.object "ArchipelagoFerries$Ship")) zrx_X6_knownShip 98 shC (fun ad => [.ref (ad 0), .int a0]) st out.1 out.2 :=
  zmx_of hfl (by decide) (fun _ => Nat.le_of_ble_eq_true rfl) (by decide) (fun X _ hnl hX hQ => tx_X6_knownShip X out hX hQ hnl st a0 hf)
abbrev zrx_X6_knownSailing : Room := { frames := 7, cells := 1, slots := 6, locals := 111 }
def fx_X6_knownSailing (st : zSt) (a0 : Int32) : Option (Nat × zSt) := (zorx (fx_X6_demandIndex st a0 (st.1 0 13)) ((f_X6_demandIndex st a0 (st.1 0 13)).bind fun q1 => none))
set_option maxHeartbeats 4000000 in
set_option maxRecDepth 100000 in
theorem tx_X6_knownSailing (X : zCx) (out : Nat × zSt) (hXX : zOkX X RX6 cX6_knownSailing zrx_X6_knownSailing) (hQ : zPostX X 98 shC out.1 out.2) (hnl : X.nL = 2) (st : zSt) (a0 : Int32) (hf : fx_X6_knownSailing st a0 = some out) : zG 98 shC X st 0 [(0, .ref (X.ad 0)), (1, .int a0)] [] := by
  unfold fx_X6_knownSailing at hf
  have hX := hXX.1
  refine z_iload_n hX 1 dX6_knownSailing_0 rfl rfl ?_
  refine z_aload_n hX 0 dX6_knownSailing_1 rfl rfl ?_
  refine z_getI hX 0 13 dX6_knownSailing_2 (by decide) shC_0 rfl rfl zin_X6 (by decide) zm_266 ?_
  rcases zorx_ex hf with x3 | ⟨_, hf⟩
  · exact z_xS (stk := []) hXX hQ (cx_X6_demandIndex X.l hXX.2.2.2.1 st a0 (st.1 0 13) _ x3) zb_X6_demandIndex dX6_knownSailing_5 zm_306 rfl rfl rfl ⟨by decide, by decide⟩ ⟨rfl, rfl⟩ (Nat.le_of_ble_eq_true rfl)
  obtain ⟨q1, e2, hf⟩ := zbind hf
  refine z_callS (stk := []) (stk' := []) hX (c_X6_demandIndex X.l st a0 (st.1 0 13) q1 e2) zb_X6_demandIndex dX6_knownSailing_5 zm_306 rfl rfl rfl ⟨by decide, by decide⟩ ⟨rfl, rfl⟩ (Nat.le_of_ble_eq_true rfl) rfl ?_
  exact (znone hf).elim
theorem cx_X6_knownSailing (l : Launch) (hfl : l.stackTraces = false) (st : zSt) (a0 : Int32) (out : Nat × zSt) (hf : fx_X6_knownSailing st a0 = some out) : zMx l yX6_knownSailing cX6_knownSailing 2 (some (.object "ArchipelagoFerries$Sailing")) zrx_X6_knownSailing 98 shC (fun ad => [.ref (ad 0), .int a0]) st out.1 out.2 :=
  zmx_of hfl (by decide) (fun _ => Nat.le_of_ble_eq_true rfl) (by decide) (fun X _ hnl hX hQ => tx_X6_knownSailing X out hX hQ hnl st a0 hf)
abbrev zrx_X6_knownBooking : Room := { frames := 7, cells := 1, slots := 6, locals := 111 }
def fx_X6_knownBooking (st : zSt) (a0 : Int32) : Option (Nat × zSt) := (zorx (fx_X6_demandIndex st a0 (st.1 0 14)) ((f_X6_demandIndex st a0 (st.1 0 14)).bind fun q1 => none))
set_option maxHeartbeats 4000000 in
set_option maxRecDepth 100000 in
theorem tx_X6_knownBooking (X : zCx) (out : Nat × zSt) (hXX : zOkX X RX6 cX6_knownBooking zrx_X6_knownBooking) (hQ : zPostX X 98 shC out.1 out.2) (hnl : X.nL = 2) (st : zSt) (a0 : Int32) (hf : fx_X6_knownBooking st a0 = some out) : zG 98 shC X st 0 [(0, .ref (X.ad 0)), (1, .int a0)] [] := by
  unfold fx_X6_knownBooking at hf
  have hX := hXX.1
  refine z_iload_n hX 1 dX6_knownBooking_0 rfl rfl ?_
  refine z_aload_n hX 0 dX6_knownBooking_1 rfl rfl ?_
  refine z_getI hX 0 14 dX6_knownBooking_2 (by decide) shC_0 rfl rfl zin_X6 (by decide) zm_267 ?_
  rcases zorx_ex hf with x3 | ⟨_, hf⟩
  · exact z_xS (stk := []) hXX hQ (cx_X6_demandIndex X.l hXX.2.2.2.1 st a0 (st.1 0 14) _ x3) zb_X6_demandIndex dX6_knownBooking_5 zm_306 rfl rfl rfl ⟨by decide, by decide⟩ ⟨rfl, rfl⟩ (Nat.le_of_ble_eq_true rfl)
  obtain ⟨q1, e2, hf⟩ := zbind hf
  refine z_callS (stk := []) (stk' := []) hX (c_X6_demandIndex X.l st a0 (st.1 0 14) q1 e2) zb_X6_demandIndex dX6_knownBooking_5 zm_306 rfl rfl rfl ⟨by decide, by decide⟩ ⟨rfl, rfl⟩ (Nat.le_of_ble_eq_true rfl) rfl ?_
  exact (znone hf).elim
theorem cx_X6_knownBooking (l : Launch) (hfl : l.stackTraces = false) (st : zSt) (a0 : Int32) (out : Nat × zSt) (hf : fx_X6_knownBooking st a0 = some out) : zMx l yX6_knownBooking cX6_knownBooking 2 (some (.object "ArchipelagoFerries$Booking")) zrx_X6_knownBooking 98 shC (fun ad => [.ref (ad 0), .int a0]) st out.1 out.2 :=
  zmx_of hfl (by decide) (fun _ => Nat.le_of_ble_eq_true rfl) (by decide) (fun X _ hnl hX hQ => tx_X6_knownBooking X out hX hQ hnl st a0 hf)
abbrev zrx_X6_spanFor : Room := { frames := 8, cells := 1, slots := 6, locals := 132 }
def fx_X6_spanFor_23  (st : zSt) (v1 : Int32) : Option (Nat × zSt) := none
def fx_X6_spanFor (st : zSt) (a0 : Int32) (a1 : Int32) : Option (Nat × zSt) := (if a0 = 2 then (zorx (fx_X6_knownShip st a1) ((f_X6_knownShip st a1).bind fun q4 => none)) else (if a0 = 0 then fx_X6_spanFor_23 st a0 else (if a0 = 1 then fx_X6_spanFor_23 st a0 else some (2, st))))
set_option maxHeartbeats 4000000 in
set_option maxRecDepth 100000 in
theorem tx_X6_spanFor_23 (X : zCx) (out : Nat × zSt) (hXX : zOkX X RX6 cX6_spanFor zrx_X6_spanFor) (hQ : zPostX X 98 shC out.1 out.2) (hnl : X.nL = 3) (st : zSt) (v1 : Int32) (hf : fx_X6_spanFor_23  st v1 = some out) : zG 98 shC X st 23 [(0, .ref (X.ad 0)), (1, .int v1)] [] := by
  unfold fx_X6_spanFor_23 at hf
  have hX := hXX.1
  refine z_iconst (v := 1) hX dX6_spanFor_23 (by decide) ?_
  refine z_goto hX 28 dX6_spanFor_24 (by decide) ?_
  refine z_callS (stk := []) (stk' := []) hX (c_X6_demandArgument X.l st 1 ((), st) rfl) zb_X6_demandArgument dX6_spanFor_28 zm_376 rfl rfl rfl ⟨by decide, by decide⟩ ⟨rfl, rfl⟩ (Nat.le_of_ble_eq_true rfl) rfl ?_
  exact (znone hf).elim
set_option maxHeartbeats 4000000 in
set_option maxRecDepth 100000 in
theorem tx_X6_spanFor (X : zCx) (out : Nat × zSt) (hXX : zOkX X RX6 cX6_spanFor zrx_X6_spanFor) (hQ : zPostX X 98 shC out.1 out.2) (hnl : X.nL = 3) (st : zSt) (a0 : Int32) (a1 : Int32) (hf : fx_X6_spanFor st a0 a1 = some out) : zG 98 shC X st 0 [(0, .ref (X.ad 0)), (1, .int a0), (2, .int a1)] [] := by
  unfold fx_X6_spanFor at hf
  have hX := hXX.1
  refine z_iload_n hX 1 dX6_spanFor_0 rfl rfl ?_
  refine z_iconst (v := 2) hX dX6_spanFor_1 (by decide) ?_
  refine z_icmp_ne hX 14 dX6_spanFor_2 (by decide) (fun c1 => ?_) (fun c1 => ?_)
  · have hf := (if_neg c1).symm.trans hf
    refine z_iload_n hX 1 dX6_spanFor_14 rfl rfl ?_
    refine z_if_eq hX 23 dX6_spanFor_15 (by decide) (fun c2 => ?_) (fun c2 => ?_)
    · have hf := (if_pos c2).symm.trans hf
      refine z_locals [0, 1] [(0, .ref (X.ad 0)), (1, .int a0)] rfl ?_
      exact tx_X6_spanFor_23 X out hXX hQ hnl st a0 hf
    have hf := (if_neg c2).symm.trans hf
    refine z_iload_n hX 1 dX6_spanFor_18 rfl rfl ?_
    refine z_iconst (v := 1) hX dX6_spanFor_19 (by decide) ?_
    refine z_icmp_ne hX 27 dX6_spanFor_20 (by decide) (fun c3 => ?_) (fun c3 => ?_)
    · have hf := (if_neg c3).symm.trans hf
      refine z_iconst (v := 0) hX dX6_spanFor_27 (by decide) ?_
      obtain rfl := Option.some.inj hf
      exact z_xS (stk := []) hXX hQ (cx_X6_demandArgument X.l hXX.2.2.2.1 st 0 (2, st) (by unfold fx_X6_demandArgument; exact if_pos rfl)) zb_X6_demandArgument dX6_spanFor_28 zm_376 rfl rfl rfl ⟨by decide, by decide⟩ ⟨rfl, rfl⟩ (Nat.le_of_ble_eq_true rfl)
    have hf := (if_pos c3).symm.trans hf
    refine z_locals [0, 1] [(0, .ref (X.ad 0)), (1, .int a0)] rfl ?_
    exact tx_X6_spanFor_23 X out hXX hQ hnl st a0 hf
  have hf := (if_pos c1).symm.trans hf
  refine z_aload_n hX 0 dX6_spanFor_5 rfl rfl ?_
  refine z_iload_n hX 2 dX6_spanFor_6 rfl rfl ?_
  rcases zorx_ex hf with x6 | ⟨_, hf⟩
  · exact z_xV (stk := []) hXX hQ (cx_X6_knownShip X.l hXX.2.2.2.1 st a1 _ x6) zb_X6_knownShip 0 dX6_spanFor_7 zm_412 (by decide) shC_0 rfl rfl rfl rfl ⟨by decide, by decide⟩ ⟨rfl, rfl⟩ (Nat.le_of_ble_eq_true rfl)
  obtain ⟨q4, e5, hf⟩ := zbind hf
  refine z_callV (stk := []) (stk' := [.ref (X.ad q4.1)]) hX (c_X6_knownShip X.l st a1 q4 e5) zb_X6_knownShip 0 dX6_spanFor_7 zm_412 (by decide) shC_0 rfl rfl rfl rfl ⟨by decide, by decide⟩ ⟨rfl, rfl⟩ (Nat.le_of_ble_eq_true rfl) rfl ?_
  exact (znone hf).elim
theorem cx_X6_spanFor (l : Launch) (hfl : l.stackTraces = false) (st : zSt) (a0 : Int32) (a1 : Int32) (out : Nat × zSt) (hf : fx_X6_spanFor st a0 a1 = some out) : zMx l yX6_spanFor cX6_spanFor 3 (some (.object "ArchipelagoFerries$Span")) zrx_X6_spanFor 98 shC (fun ad => [.ref (ad 0), .int a0, .int a1]) st out.1 out.2 :=
  zmx_of hfl (by decide) (fun _ => Nat.le_of_ble_eq_true rfl) (by decide) (fun X _ hnl hX hQ => tx_X6_spanFor X out hX hQ hnl st a0 a1 hf)
abbrev zrx_X6_ship : Room := { frames := 7, cells := 1, slots := 6, locals := 111 }
def fx_X6_ship_64  (st : zSt) (v1 : Int32) (v2 : Int32) (v3 : Int32) (v4 : Int32) (v5 : Int32) (v6 : Int32) : Option (Nat × zSt) := some (2, st)
def fx_X6_ship (st : zSt) (a0 : Int32) (a1 : Int32) (a2 : Int32) (a3 : Int32) (a4 : Int32) (a5 : Int32) : Option (Nat × zSt) := (zorx (fx_X6_demandIndex st a0 6) ((f_X6_demandIndex st a0 6).bind fun q1 => ((f_X6_isWithin q1.2 a1 1 4).bind fun q4 => (if q4.1 = 0 then fx_X6_ship_64 q4.2 a0 a1 a2 a3 a4 a5 else ((f_X6_isWithin q4.2 a2 10 100).bind fun q7 => (if q7.1 = 0 then fx_X6_ship_64 q7.2 a0 a1 a2 a3 a4 a5 else ((f_X6_isWithin q7.2 a3 1 1000).bind fun q10 => (if q10.1 = 0 then fx_X6_ship_64 q10.2 a0 a1 a2 a3 a4 a5 else ((f_X6_isWithin q10.2 a4 1 9).bind fun q13 => (if q13.1 = 0 then fx_X6_ship_64 q13.2 a0 a1 a2 a3 a4 a5 else ((f_X6_isWithin q13.2 a5 1 40).bind fun q16 => (if q16.1 = 0 then fx_X6_ship_64 q16.2 a0 a1 a2 a3 a4 a5 else (if 4 ≤ (q16.2.1 0 11) then some (3, q16.2) else none)))))))))))))
set_option maxHeartbeats 4000000 in
set_option maxRecDepth 100000 in
theorem tx_X6_ship_64 (X : zCx) (out : Nat × zSt) (hXX : zOkX X RX6 cX6_ship zrx_X6_ship) (hQ : zPostX X 98 shC out.1 out.2) (hnl : X.nL = 9) (st : zSt) (v1 : Int32) (v2 : Int32) (v3 : Int32) (v4 : Int32) (v5 : Int32) (v6 : Int32) (hf : fx_X6_ship_64  st v1 v2 v3 v4 v5 v6 = some out) : zG 98 shC X st 64 [(0, .ref (X.ad 0)), (1, .int v1), (2, .int v2), (3, .int v3), (4, .int v4), (5, .int v5), (6, .int v6)] [] := by
  unfold fx_X6_ship_64 at hf
  have hX := hXX.1
  refine z_iconst (v := 0) hX dX6_ship_64 (by decide) ?_
  obtain rfl := Option.some.inj hf
  exact z_xS (stk := []) hXX hQ (cx_X6_demandArgument X.l hXX.2.2.2.1 st 0 (2, st) (by unfold fx_X6_demandArgument; exact if_pos rfl)) zb_X6_demandArgument dX6_ship_65 zm_376 rfl rfl rfl ⟨by decide, by decide⟩ ⟨rfl, rfl⟩ (Nat.le_of_ble_eq_true rfl)
set_option maxHeartbeats 4000000 in
set_option maxRecDepth 100000 in
theorem tx_X6_ship (X : zCx) (out : Nat × zSt) (hXX : zOkX X RX6 cX6_ship zrx_X6_ship) (hQ : zPostX X 98 shC out.1 out.2) (hnl : X.nL = 9) (st : zSt) (a0 : Int32) (a1 : Int32) (a2 : Int32) (a3 : Int32) (a4 : Int32) (a5 : Int32) (hf : fx_X6_ship st a0 a1 a2 a3 a4 a5 = some out) : zG 98 shC X st 0 [(0, .ref (X.ad 0)), (1, .int a0), (2, .int a1), (3, .int a2), (4, .int a3), (5, .int a4), (6, .int a5)] [] := by
  unfold fx_X6_ship at hf
  have hX := hXX.1
  refine z_iload_n hX 1 dX6_ship_0 rfl rfl ?_
  refine z_bipush (v := 6) hX dX6_ship_1 (by decide) ?_
  rcases zorx_ex hf with x3 | ⟨_, hf⟩
  · exact z_xS (stk := []) hXX hQ (cx_X6_demandIndex X.l hXX.2.2.2.1 st a0 6 _ x3) zb_X6_demandIndex dX6_ship_3 zm_306 rfl rfl rfl ⟨by decide, by decide⟩ ⟨rfl, rfl⟩ (Nat.le_of_ble_eq_true rfl)
  obtain ⟨q1, e2, hf⟩ := zbind hf
  refine z_callS (stk := []) (stk' := []) hX (c_X6_demandIndex X.l st a0 6 q1 e2) zb_X6_demandIndex dX6_ship_3 zm_306 rfl rfl rfl ⟨by decide, by decide⟩ ⟨rfl, rfl⟩ (Nat.le_of_ble_eq_true rfl) rfl ?_
  refine z_iload_n hX 2 dX6_ship_6 rfl rfl ?_
  refine z_iconst (v := 1) hX dX6_ship_7 (by decide) ?_
  refine z_iconst (v := 4) hX dX6_ship_8 (by decide) ?_
  obtain ⟨q4, e5, hf⟩ := zbind hf
  refine z_callS (stk := []) (stk' := [.int q4.1]) hX (c_X6_isWithin X.l q1.2 a1 1 4 q4 e5) zb_X6_isWithin dX6_ship_9 zm_373 rfl rfl rfl ⟨by decide, by decide⟩ ⟨rfl, rfl⟩ (Nat.le_of_ble_eq_true rfl) rfl ?_
  refine z_if_eq hX 64 dX6_ship_12 (by decide) (fun c6 => ?_) (fun c6 => ?_)
  · have hf := (if_pos c6).symm.trans hf
    exact tx_X6_ship_64 X out hXX hQ hnl q4.2 a0 a1 a2 a3 a4 a5 hf
  have hf := (if_neg c6).symm.trans hf
  refine z_iload_n hX 3 dX6_ship_15 rfl rfl ?_
  refine z_bipush (v := 10) hX dX6_ship_16 (by decide) ?_
  refine z_bipush (v := 100) hX dX6_ship_18 (by decide) ?_
  obtain ⟨q7, e8, hf⟩ := zbind hf
  refine z_callS (stk := []) (stk' := [.int q7.1]) hX (c_X6_isWithin X.l q4.2 a2 10 100 q7 e8) zb_X6_isWithin dX6_ship_20 zm_373 rfl rfl rfl ⟨by decide, by decide⟩ ⟨rfl, rfl⟩ (Nat.le_of_ble_eq_true rfl) rfl ?_
  refine z_if_eq hX 64 dX6_ship_23 (by decide) (fun c9 => ?_) (fun c9 => ?_)
  · have hf := (if_pos c9).symm.trans hf
    exact tx_X6_ship_64 X out hXX hQ hnl q7.2 a0 a1 a2 a3 a4 a5 hf
  have hf := (if_neg c9).symm.trans hf
  refine z_iload hX 4 dX6_ship_26 rfl ?_
  refine z_iconst (v := 1) hX dX6_ship_28 (by decide) ?_
  refine z_sipush (v := 1000) hX dX6_ship_29 (by decide) ?_
  obtain ⟨q10, e11, hf⟩ := zbind hf
  refine z_callS (stk := []) (stk' := [.int q10.1]) hX (c_X6_isWithin X.l q7.2 a3 1 1000 q10 e11) zb_X6_isWithin dX6_ship_32 zm_373 rfl rfl rfl ⟨by decide, by decide⟩ ⟨rfl, rfl⟩ (Nat.le_of_ble_eq_true rfl) rfl ?_
  refine z_if_eq hX 64 dX6_ship_35 (by decide) (fun c12 => ?_) (fun c12 => ?_)
  · have hf := (if_pos c12).symm.trans hf
    exact tx_X6_ship_64 X out hXX hQ hnl q10.2 a0 a1 a2 a3 a4 a5 hf
  have hf := (if_neg c12).symm.trans hf
  refine z_iload hX 5 dX6_ship_38 rfl ?_
  refine z_iconst (v := 1) hX dX6_ship_40 (by decide) ?_
  refine z_bipush (v := 9) hX dX6_ship_41 (by decide) ?_
  obtain ⟨q13, e14, hf⟩ := zbind hf
  refine z_callS (stk := []) (stk' := [.int q13.1]) hX (c_X6_isWithin X.l q10.2 a4 1 9 q13 e14) zb_X6_isWithin dX6_ship_43 zm_373 rfl rfl rfl ⟨by decide, by decide⟩ ⟨rfl, rfl⟩ (Nat.le_of_ble_eq_true rfl) rfl ?_
  refine z_if_eq hX 64 dX6_ship_46 (by decide) (fun c15 => ?_) (fun c15 => ?_)
  · have hf := (if_pos c15).symm.trans hf
    exact tx_X6_ship_64 X out hXX hQ hnl q13.2 a0 a1 a2 a3 a4 a5 hf
  have hf := (if_neg c15).symm.trans hf
  refine z_iload hX 6 dX6_ship_49 rfl ?_
  refine z_iconst (v := 1) hX dX6_ship_51 (by decide) ?_
  refine z_bipush (v := 40) hX dX6_ship_52 (by decide) ?_
  obtain ⟨q16, e17, hf⟩ := zbind hf
  refine z_callS (stk := []) (stk' := [.int q16.1]) hX (c_X6_isWithin X.l q13.2 a5 1 40 q16 e17) zb_X6_isWithin dX6_ship_54 zm_373 rfl rfl rfl ⟨by decide, by decide⟩ ⟨rfl, rfl⟩ (Nat.le_of_ble_eq_true rfl) rfl ?_
  refine z_if_eq hX 64 dX6_ship_57 (by decide) (fun c18 => ?_) (fun c18 => ?_)
  · have hf := (if_pos c18).symm.trans hf
    exact tx_X6_ship_64 X out hXX hQ hnl q16.2 a0 a1 a2 a3 a4 a5 hf
  have hf := (if_neg c18).symm.trans hf
  refine z_iconst (v := 1) hX dX6_ship_60 (by decide) ?_
  refine z_goto hX 65 dX6_ship_61 (by decide) ?_
  refine z_callS (stk := []) (stk' := []) hX (c_X6_demandArgument X.l q16.2 1 ((), q16.2) rfl) zb_X6_demandArgument dX6_ship_65 zm_376 rfl rfl rfl ⟨by decide, by decide⟩ ⟨rfl, rfl⟩ (Nat.le_of_ble_eq_true rfl) rfl ?_
  refine z_aload_n hX 0 dX6_ship_68 rfl rfl ?_
  refine z_getI hX 0 11 dX6_ship_69 (by decide) shC_0 rfl rfl zin_X6 (by decide) zm_264 ?_
  refine z_iconst (v := 4) hX dX6_ship_72 (by decide) ?_
  refine z_icmp_ge hX 80 dX6_ship_73 (by decide) (fun c21 => ?_) (fun c21 => ?_)
  · have hf := (if_pos c21).symm.trans hf
    refine z_iconst (v := 0) hX dX6_ship_80 (by decide) ?_
    obtain rfl := Option.some.inj hf
    exact z_xS (stk := []) hXX hQ (cx_X6_demandState X.l hXX.2.2.2.1 q16.2 0 (3, q16.2) (by unfold fx_X6_demandState; exact if_pos rfl)) zb_X6_demandState dX6_ship_81 zm_394 rfl rfl rfl ⟨by decide, by decide⟩ ⟨rfl, rfl⟩ (Nat.le_of_ble_eq_true rfl)
  have hf := (if_neg c21).symm.trans hf
  refine z_iconst (v := 1) hX dX6_ship_76 (by decide) ?_
  refine z_goto hX 81 dX6_ship_77 (by decide) ?_
  refine z_callS (stk := []) (stk' := []) hX (c_X6_demandState X.l q16.2 1 ((), q16.2) rfl) zb_X6_demandState dX6_ship_81 zm_394 rfl rfl rfl ⟨by decide, by decide⟩ ⟨rfl, rfl⟩ (Nat.le_of_ble_eq_true rfl) rfl ?_
  exact (znone hf).elim
theorem cx_X6_ship (l : Launch) (hfl : l.stackTraces = false) (st : zSt) (a0 : Int32) (a1 : Int32) (a2 : Int32) (a3 : Int32) (a4 : Int32) (a5 : Int32) (out : Nat × zSt) (hf : fx_X6_ship st a0 a1 a2 a3 a4 a5 = some out) : zMx l yX6_ship cX6_ship 9 (some .int) zrx_X6_ship 98 shC (fun ad => [.ref (ad 0), .int a0, .int a1, .int a2, .int a3, .int a4, .int a5]) st out.1 out.2 :=
  zmx_of hfl (by decide) (fun _ => Nat.le_of_ble_eq_true rfl) (by decide) (fun X _ hnl hX hQ => tx_X6_ship X out hX hQ hnl st a0 a1 a2 a3 a4 a5 hf)
abbrev zrx_X6_fill : Room := { frames := 8, cells := 1, slots := 6, locals := 132 }
def fx_X6_fill (st : zSt) (a0 : Int32) (a1 : Int32) : Option (Nat × zSt) := (zorx (fx_X6_knownShip st a0) ((f_X6_knownShip st a0).bind fun q1 => ((f_X6_isWithin q1.2 a1 1 1000).bind fun q4 => (zorx (fx_X6_demandArgument q4.2 q4.1) ((f_X6_demandArgument q4.2 q4.1).bind fun q6 => (if 1000 < ((q6.2.1 q1.1 6) + a1) then some (3, q6.2) else none))))))
set_option maxHeartbeats 4000000 in
set_option maxRecDepth 100000 in
theorem tx_X6_fill (X : zCx) (out : Nat × zSt) (hXX : zOkX X RX6 cX6_fill zrx_X6_fill) (hQ : zPostX X 98 shC out.1 out.2) (hnl : X.nL = 4) (st : zSt) (a0 : Int32) (a1 : Int32) (hf : fx_X6_fill st a0 a1 = some out) : zG 98 shC X st 0 [(0, .ref (X.ad 0)), (1, .int a0), (2, .int a1)] [] := by
  unfold fx_X6_fill at hf
  have hX := hXX.1
  refine z_aload_n hX 0 dX6_fill_0 rfl rfl ?_
  refine z_iload_n hX 1 dX6_fill_1 rfl rfl ?_
  rcases zorx_ex hf with x3 | ⟨_, hf⟩
  · exact z_xV (stk := []) hXX hQ (cx_X6_knownShip X.l hXX.2.2.2.1 st a0 _ x3) zb_X6_knownShip 0 dX6_fill_2 zm_412 (by decide) shC_0 rfl rfl rfl rfl ⟨by decide, by decide⟩ ⟨rfl, rfl⟩ (Nat.le_of_ble_eq_true rfl)
  obtain ⟨q1, e2, hf⟩ := zbind hf
  refine z_callV (stk := []) (stk' := [.ref (X.ad q1.1)]) hX (c_X6_knownShip X.l st a0 q1 e2) zb_X6_knownShip 0 dX6_fill_2 zm_412 (by decide) shC_0 rfl rfl rfl rfl ⟨by decide, by decide⟩ ⟨rfl, rfl⟩ (Nat.le_of_ble_eq_true rfl) rfl ?_
  refine z_astore_n hX [(0, .ref (X.ad 0)), (1, .int a0), (2, .int a1), (3, .ref (X.ad q1.1))] dX6_fill_5 rfl (by rw [hnl]; decide) [1, 2, 3, 0] rfl ?_
  refine z_iload_n hX 2 dX6_fill_6 rfl rfl ?_
  refine z_iconst (v := 1) hX dX6_fill_7 (by decide) ?_
  refine z_sipush (v := 1000) hX dX6_fill_8 (by decide) ?_
  obtain ⟨q4, e5, hf⟩ := zbind hf
  refine z_callS (stk := []) (stk' := [.int q4.1]) hX (c_X6_isWithin X.l q1.2 a1 1 1000 q4 e5) zb_X6_isWithin dX6_fill_11 zm_373 rfl rfl rfl ⟨by decide, by decide⟩ ⟨rfl, rfl⟩ (Nat.le_of_ble_eq_true rfl) rfl ?_
  rcases zorx_ex hf with x8 | ⟨_, hf⟩
  · exact z_xS (stk := []) hXX hQ (cx_X6_demandArgument X.l hXX.2.2.2.1 q4.2 q4.1 _ x8) zb_X6_demandArgument dX6_fill_14 zm_376 rfl rfl rfl ⟨by decide, by decide⟩ ⟨rfl, rfl⟩ (Nat.le_of_ble_eq_true rfl)
  obtain ⟨q6, e7, hf⟩ := zbind hf
  refine z_callS (stk := []) (stk' := []) hX (c_X6_demandArgument X.l q4.2 q4.1 q6 e7) zb_X6_demandArgument dX6_fill_14 zm_376 rfl rfl rfl ⟨by decide, by decide⟩ ⟨rfl, rfl⟩ (Nat.le_of_ble_eq_true rfl) rfl ?_
  refine z_aload_n hX 3 dX6_fill_17 rfl rfl ?_
  refine z_getIN hX q1.1 6 dX6_fill_18 (zlt_Ship (rr_X6_knownShip e2)) (zsh_Ship (rr_X6_knownShip e2)) rfl rfl zin_X4 (by decide) zm_106 ?_
  refine z_iload_n hX 2 dX6_fill_21 rfl rfl ?_
  refine z_iadd hX dX6_fill_22 ?_
  refine z_sipush (v := 1000) hX dX6_fill_23 (by decide) ?_
  refine z_icmp_gt hX 33 dX6_fill_26 (by decide) (fun c9 => ?_) (fun c9 => ?_)
  · have hf := (if_pos c9).symm.trans hf
    refine z_iconst (v := 0) hX dX6_fill_33 (by decide) ?_
    obtain rfl := Option.some.inj hf
    exact z_xS (stk := []) hXX hQ (cx_X6_demandState X.l hXX.2.2.2.1 q6.2 0 (3, q6.2) (by unfold fx_X6_demandState; exact if_pos rfl)) zb_X6_demandState dX6_fill_34 zm_394 rfl rfl rfl ⟨by decide, by decide⟩ ⟨rfl, rfl⟩ (Nat.le_of_ble_eq_true rfl)
  have hf := (if_neg c9).symm.trans hf
  refine z_iconst (v := 1) hX dX6_fill_29 (by decide) ?_
  refine z_goto hX 34 dX6_fill_30 (by decide) ?_
  refine z_callS (stk := []) (stk' := []) hX (c_X6_demandState X.l q6.2 1 ((), q6.2) rfl) zb_X6_demandState dX6_fill_34 zm_394 rfl rfl rfl ⟨by decide, by decide⟩ ⟨rfl, rfl⟩ (Nat.le_of_ble_eq_true rfl) rfl ?_
  exact (znone hf).elim
theorem cx_X6_fill (l : Launch) (hfl : l.stackTraces = false) (st : zSt) (a0 : Int32) (a1 : Int32) (out : Nat × zSt) (hf : fx_X6_fill st a0 a1 = some out) : zMx l yX6_fill cX6_fill 4 (some .int) zrx_X6_fill 98 shC (fun ad => [.ref (ad 0), .int a0, .int a1]) st out.1 out.2 :=
  zmx_of hfl (by decide) (fun _ => Nat.le_of_ble_eq_true rfl) (by decide) (fun X _ hnl hX hQ => tx_X6_fill X out hX hQ hnl st a0 a1 hf)
abbrev zrx_X6_crew : Room := { frames := 7, cells := 1, slots := 6, locals := 111 }
def fx_X6_crew_34  (st : zSt) (v1 : Int32) (v2 : Int32) (v3 : Int32) : Option (Nat × zSt) := some (2, st)
def fx_X6_crew (st : zSt) (a0 : Int32) (a1 : Int32) (a2 : Int32) : Option (Nat × zSt) := (zorx (fx_X6_demandIndex st a0 (st.1 0 11)) ((f_X6_demandIndex st a0 (st.1 0 11)).bind fun q1 => ((f_X6_isWithin q1.2 a1 0 500).bind fun q4 => (if q4.1 = 0 then fx_X6_crew_34 q4.2 a0 a1 a2 else ((f_X6_isWithin q4.2 a2 a1 500).bind fun q7 => (if q7.1 = 0 then fx_X6_crew_34 q7.2 a0 a1 a2 else (if 6 ≤ (q7.2.1 0 12) then some (3, q7.2) else none)))))))
set_option maxHeartbeats 4000000 in
set_option maxRecDepth 100000 in
theorem tx_X6_crew_34 (X : zCx) (out : Nat × zSt) (hXX : zOkX X RX6 cX6_crew zrx_X6_crew) (hQ : zPostX X 98 shC out.1 out.2) (hnl : X.nL = 6) (st : zSt) (v1 : Int32) (v2 : Int32) (v3 : Int32) (hf : fx_X6_crew_34  st v1 v2 v3 = some out) : zG 98 shC X st 34 [(0, .ref (X.ad 0)), (1, .int v1), (2, .int v2), (3, .int v3)] [] := by
  unfold fx_X6_crew_34 at hf
  have hX := hXX.1
  refine z_iconst (v := 0) hX dX6_crew_34 (by decide) ?_
  obtain rfl := Option.some.inj hf
  exact z_xS (stk := []) hXX hQ (cx_X6_demandArgument X.l hXX.2.2.2.1 st 0 (2, st) (by unfold fx_X6_demandArgument; exact if_pos rfl)) zb_X6_demandArgument dX6_crew_35 zm_376 rfl rfl rfl ⟨by decide, by decide⟩ ⟨rfl, rfl⟩ (Nat.le_of_ble_eq_true rfl)
set_option maxHeartbeats 4000000 in
set_option maxRecDepth 100000 in
theorem tx_X6_crew (X : zCx) (out : Nat × zSt) (hXX : zOkX X RX6 cX6_crew zrx_X6_crew) (hQ : zPostX X 98 shC out.1 out.2) (hnl : X.nL = 6) (st : zSt) (a0 : Int32) (a1 : Int32) (a2 : Int32) (hf : fx_X6_crew st a0 a1 a2 = some out) : zG 98 shC X st 0 [(0, .ref (X.ad 0)), (1, .int a0), (2, .int a1), (3, .int a2)] [] := by
  unfold fx_X6_crew at hf
  have hX := hXX.1
  refine z_iload_n hX 1 dX6_crew_0 rfl rfl ?_
  refine z_aload_n hX 0 dX6_crew_1 rfl rfl ?_
  refine z_getI hX 0 11 dX6_crew_2 (by decide) shC_0 rfl rfl zin_X6 (by decide) zm_264 ?_
  rcases zorx_ex hf with x3 | ⟨_, hf⟩
  · exact z_xS (stk := []) hXX hQ (cx_X6_demandIndex X.l hXX.2.2.2.1 st a0 (st.1 0 11) _ x3) zb_X6_demandIndex dX6_crew_5 zm_306 rfl rfl rfl ⟨by decide, by decide⟩ ⟨rfl, rfl⟩ (Nat.le_of_ble_eq_true rfl)
  obtain ⟨q1, e2, hf⟩ := zbind hf
  refine z_callS (stk := []) (stk' := []) hX (c_X6_demandIndex X.l st a0 (st.1 0 11) q1 e2) zb_X6_demandIndex dX6_crew_5 zm_306 rfl rfl rfl ⟨by decide, by decide⟩ ⟨rfl, rfl⟩ (Nat.le_of_ble_eq_true rfl) rfl ?_
  refine z_iload_n hX 2 dX6_crew_8 rfl rfl ?_
  refine z_iconst (v := 0) hX dX6_crew_9 (by decide) ?_
  refine z_sipush (v := 500) hX dX6_crew_10 (by decide) ?_
  obtain ⟨q4, e5, hf⟩ := zbind hf
  refine z_callS (stk := []) (stk' := [.int q4.1]) hX (c_X6_isWithin X.l q1.2 a1 0 500 q4 e5) zb_X6_isWithin dX6_crew_13 zm_373 rfl rfl rfl ⟨by decide, by decide⟩ ⟨rfl, rfl⟩ (Nat.le_of_ble_eq_true rfl) rfl ?_
  refine z_if_eq hX 34 dX6_crew_16 (by decide) (fun c6 => ?_) (fun c6 => ?_)
  · have hf := (if_pos c6).symm.trans hf
    exact tx_X6_crew_34 X out hXX hQ hnl q4.2 a0 a1 a2 hf
  have hf := (if_neg c6).symm.trans hf
  refine z_iload_n hX 3 dX6_crew_19 rfl rfl ?_
  refine z_iload_n hX 2 dX6_crew_20 rfl rfl ?_
  refine z_sipush (v := 500) hX dX6_crew_21 (by decide) ?_
  obtain ⟨q7, e8, hf⟩ := zbind hf
  refine z_callS (stk := []) (stk' := [.int q7.1]) hX (c_X6_isWithin X.l q4.2 a2 a1 500 q7 e8) zb_X6_isWithin dX6_crew_24 zm_373 rfl rfl rfl ⟨by decide, by decide⟩ ⟨rfl, rfl⟩ (Nat.le_of_ble_eq_true rfl) rfl ?_
  refine z_if_eq hX 34 dX6_crew_27 (by decide) (fun c9 => ?_) (fun c9 => ?_)
  · have hf := (if_pos c9).symm.trans hf
    exact tx_X6_crew_34 X out hXX hQ hnl q7.2 a0 a1 a2 hf
  have hf := (if_neg c9).symm.trans hf
  refine z_iconst (v := 1) hX dX6_crew_30 (by decide) ?_
  refine z_goto hX 35 dX6_crew_31 (by decide) ?_
  refine z_callS (stk := []) (stk' := []) hX (c_X6_demandArgument X.l q7.2 1 ((), q7.2) rfl) zb_X6_demandArgument dX6_crew_35 zm_376 rfl rfl rfl ⟨by decide, by decide⟩ ⟨rfl, rfl⟩ (Nat.le_of_ble_eq_true rfl) rfl ?_
  refine z_aload_n hX 0 dX6_crew_38 rfl rfl ?_
  refine z_getI hX 0 12 dX6_crew_39 (by decide) shC_0 rfl rfl zin_X6 (by decide) zm_265 ?_
  refine z_bipush (v := 6) hX dX6_crew_42 (by decide) ?_
  refine z_icmp_ge hX 51 dX6_crew_44 (by decide) (fun c12 => ?_) (fun c12 => ?_)
  · have hf := (if_pos c12).symm.trans hf
    refine z_iconst (v := 0) hX dX6_crew_51 (by decide) ?_
    obtain rfl := Option.some.inj hf
    exact z_xS (stk := []) hXX hQ (cx_X6_demandState X.l hXX.2.2.2.1 q7.2 0 (3, q7.2) (by unfold fx_X6_demandState; exact if_pos rfl)) zb_X6_demandState dX6_crew_52 zm_394 rfl rfl rfl ⟨by decide, by decide⟩ ⟨rfl, rfl⟩ (Nat.le_of_ble_eq_true rfl)
  have hf := (if_neg c12).symm.trans hf
  refine z_iconst (v := 1) hX dX6_crew_47 (by decide) ?_
  refine z_goto hX 52 dX6_crew_48 (by decide) ?_
  refine z_callS (stk := []) (stk' := []) hX (c_X6_demandState X.l q7.2 1 ((), q7.2) rfl) zb_X6_demandState dX6_crew_52 zm_394 rfl rfl rfl ⟨by decide, by decide⟩ ⟨rfl, rfl⟩ (Nat.le_of_ble_eq_true rfl) rfl ?_
  exact (znone hf).elim
theorem cx_X6_crew (l : Launch) (hfl : l.stackTraces = false) (st : zSt) (a0 : Int32) (a1 : Int32) (a2 : Int32) (out : Nat × zSt) (hf : fx_X6_crew st a0 a1 a2 = some out) : zMx l yX6_crew cX6_crew 6 (some .int) zrx_X6_crew 98 shC (fun ad => [.ref (ad 0), .int a0, .int a1, .int a2]) st out.1 out.2 :=
  zmx_of hfl (by decide) (fun _ => Nat.le_of_ble_eq_true rfl) (by decide) (fun X _ hnl hX hQ => tx_X6_crew X out hX hQ hnl st a0 a1 a2 hf)
abbrev zrx_X6_hinder : Room := { frames := 9, cells := 1, slots := 6, locals := 154 }
def fx_X6_hinder_35  (st : zSt) (v3 : Int32) (v4 : Int32) (r5 : Nat) : Option (Nat × zSt) := some (2, st)
def fx_X6_hinder (st : zSt) (a0 : Int32) (a1 : Int32) (a2 : Int32) (a3 : Int32) : Option (Nat × zSt) := (zorx (fx_X6_spanFor st a0 a1) ((f_X6_spanFor st a0 a1).bind fun q1 => ((f_X6_isWithin q1.2 a2 0 10000).bind fun q4 => (if q4.1 = 0 then fx_X6_hinder_35 q4.2 a2 a3 q1.1 else ((f_X6_isWithin q4.2 a3 a2 10000).bind fun q7 => (if q7.1 = 0 then fx_X6_hinder_35 q7.2 a2 a3 q1.1 else none))))))
set_option maxHeartbeats 4000000 in
set_option maxRecDepth 100000 in
theorem tx_X6_hinder_35 (X : zCx) (out : Nat × zSt) (hXX : zOkX X RX6 cX6_hinder zrx_X6_hinder) (hQ : zPostX X 98 shC out.1 out.2) (hnl : X.nL = 6) (st : zSt) (v3 : Int32) (v4 : Int32) (r5 : Nat) (hr5 : zkSpan r5) (hf : fx_X6_hinder_35  st v3 v4 r5 = some out) : zG 98 shC X st 35 [(3, .int v3), (4, .int v4), (5, .ref (X.ad r5))] [] := by
  unfold fx_X6_hinder_35 at hf
  have hX := hXX.1
  refine z_iconst (v := 0) hX dX6_hinder_35 (by decide) ?_
  obtain rfl := Option.some.inj hf
  exact z_xS (stk := []) hXX hQ (cx_X6_demandArgument X.l hXX.2.2.2.1 st 0 (2, st) (by unfold fx_X6_demandArgument; exact if_pos rfl)) zb_X6_demandArgument dX6_hinder_36 zm_376 rfl rfl rfl ⟨by decide, by decide⟩ ⟨rfl, rfl⟩ (Nat.le_of_ble_eq_true rfl)
set_option maxHeartbeats 4000000 in
set_option maxRecDepth 100000 in
theorem tx_X6_hinder (X : zCx) (out : Nat × zSt) (hXX : zOkX X RX6 cX6_hinder zrx_X6_hinder) (hQ : zPostX X 98 shC out.1 out.2) (hnl : X.nL = 6) (st : zSt) (a0 : Int32) (a1 : Int32) (a2 : Int32) (a3 : Int32) (hf : fx_X6_hinder st a0 a1 a2 a3 = some out) : zG 98 shC X st 0 [(0, .ref (X.ad 0)), (1, .int a0), (2, .int a1), (3, .int a2), (4, .int a3)] [] := by
  unfold fx_X6_hinder at hf
  have hX := hXX.1
  refine z_aload_n hX 0 dX6_hinder_0 rfl rfl ?_
  refine z_iload_n hX 1 dX6_hinder_1 rfl rfl ?_
  refine z_iload_n hX 2 dX6_hinder_2 rfl rfl ?_
  rcases zorx_ex hf with x3 | ⟨_, hf⟩
  · exact z_xV (stk := []) hXX hQ (cx_X6_spanFor X.l hXX.2.2.2.1 st a0 a1 _ x3) zb_X6_spanFor 0 dX6_hinder_3 zm_436 (by decide) shC_0 rfl rfl rfl rfl ⟨by decide, by decide⟩ ⟨rfl, rfl⟩ (Nat.le_of_ble_eq_true rfl)
  obtain ⟨q1, e2, hf⟩ := zbind hf
  refine z_callV (stk := []) (stk' := [.ref (X.ad q1.1)]) hX (c_X6_spanFor X.l st a0 a1 q1 e2) zb_X6_spanFor 0 dX6_hinder_3 zm_436 (by decide) shC_0 rfl rfl rfl rfl ⟨by decide, by decide⟩ ⟨rfl, rfl⟩ (Nat.le_of_ble_eq_true rfl) rfl ?_
  refine z_astore hX [(0, .ref (X.ad 0)), (1, .int a0), (2, .int a1), (3, .int a2), (4, .int a3), (5, .ref (X.ad q1.1))] dX6_hinder_6 (by rw [hnl]; decide) [1, 2, 3, 4, 5, 0] rfl ?_
  refine z_iload_n hX 3 dX6_hinder_8 rfl rfl ?_
  refine z_iconst (v := 0) hX dX6_hinder_9 (by decide) ?_
  refine z_sipush (v := 10000) hX dX6_hinder_10 (by decide) ?_
  obtain ⟨q4, e5, hf⟩ := zbind hf
  refine z_callS (stk := []) (stk' := [.int q4.1]) hX (c_X6_isWithin X.l q1.2 a2 0 10000 q4 e5) zb_X6_isWithin dX6_hinder_13 zm_373 rfl rfl rfl ⟨by decide, by decide⟩ ⟨rfl, rfl⟩ (Nat.le_of_ble_eq_true rfl) rfl ?_
  refine z_if_eq hX 35 dX6_hinder_16 (by decide) (fun c6 => ?_) (fun c6 => ?_)
  · have hf := (if_pos c6).symm.trans hf
    refine z_locals [3, 4, 5] [(3, .int a2), (4, .int a3), (5, .ref (X.ad q1.1))] rfl ?_
    exact tx_X6_hinder_35 X out hXX hQ hnl q4.2 a2 a3 q1.1 (rr_X6_spanFor e2) hf
  have hf := (if_neg c6).symm.trans hf
  refine z_iload hX 4 dX6_hinder_19 rfl ?_
  refine z_iload_n hX 3 dX6_hinder_21 rfl rfl ?_
  refine z_sipush (v := 10000) hX dX6_hinder_22 (by decide) ?_
  obtain ⟨q7, e8, hf⟩ := zbind hf
  refine z_callS (stk := []) (stk' := [.int q7.1]) hX (c_X6_isWithin X.l q4.2 a3 a2 10000 q7 e8) zb_X6_isWithin dX6_hinder_25 zm_373 rfl rfl rfl ⟨by decide, by decide⟩ ⟨rfl, rfl⟩ (Nat.le_of_ble_eq_true rfl) rfl ?_
  refine z_if_eq hX 35 dX6_hinder_28 (by decide) (fun c9 => ?_) (fun c9 => ?_)
  · have hf := (if_pos c9).symm.trans hf
    refine z_locals [3, 4, 5] [(3, .int a2), (4, .int a3), (5, .ref (X.ad q1.1))] rfl ?_
    exact tx_X6_hinder_35 X out hXX hQ hnl q7.2 a2 a3 q1.1 (rr_X6_spanFor e2) hf
  have hf := (if_neg c9).symm.trans hf
  refine z_iconst (v := 1) hX dX6_hinder_31 (by decide) ?_
  refine z_goto hX 36 dX6_hinder_32 (by decide) ?_
  refine z_callS (stk := []) (stk' := []) hX (c_X6_demandArgument X.l q7.2 1 ((), q7.2) rfl) zb_X6_demandArgument dX6_hinder_36 zm_376 rfl rfl rfl ⟨by decide, by decide⟩ ⟨rfl, rfl⟩ (Nat.le_of_ble_eq_true rfl) rfl ?_
  exact (znone hf).elim
theorem cx_X6_hinder (l : Launch) (hfl : l.stackTraces = false) (st : zSt) (a0 : Int32) (a1 : Int32) (a2 : Int32) (a3 : Int32) (out : Nat × zSt) (hf : fx_X6_hinder st a0 a1 a2 a3 = some out) : zMx l yX6_hinder cX6_hinder 6 none zrx_X6_hinder 98 shC (fun ad => [.ref (ad 0), .int a0, .int a1, .int a2, .int a3]) st out.1 out.2 :=
  zmx_of hfl (by decide) (fun _ => Nat.le_of_ble_eq_true rfl) (by decide) (fun X _ hnl hX hQ => tx_X6_hinder X out hX hQ hnl st a0 a1 a2 a3 hf)
abbrev zrx_X6_bus : Room := { frames := 7, cells := 1, slots := 6, locals := 111 }
def fx_X6_bus_31  (st : zSt) (v1 : Int32) (v2 : Int32) (v3 : Int32) : Option (Nat × zSt) := some (2, st)
def fx_X6_bus (st : zSt) (a0 : Int32) (a1 : Int32) (a2 : Int32) : Option (Nat × zSt) := (zorx (fx_X6_demandIndex st a0 6) ((f_X6_demandIndex st a0 6).bind fun q1 => ((f_X6_isWithin q1.2 a1 1 12).bind fun q4 => (if q4.1 = 0 then fx_X6_bus_31 q4.2 a0 a1 a2 else ((f_X6_isWithin q4.2 a2 0 (a1 - 1)).bind fun q7 => (if q7.1 = 0 then fx_X6_bus_31 q7.2 a0 a1 a2 else none))))))
set_option maxHeartbeats 4000000 in
set_option maxRecDepth 100000 in
theorem tx_X6_bus_31 (X : zCx) (out : Nat × zSt) (hXX : zOkX X RX6 cX6_bus zrx_X6_bus) (hQ : zPostX X 98 shC out.1 out.2) (hnl : X.nL = 4) (st : zSt) (v1 : Int32) (v2 : Int32) (v3 : Int32) (hf : fx_X6_bus_31  st v1 v2 v3 = some out) : zG 98 shC X st 31 [(0, .ref (X.ad 0)), (1, .int v1), (2, .int v2), (3, .int v3)] [] := by
  unfold fx_X6_bus_31 at hf
  have hX := hXX.1
  refine z_iconst (v := 0) hX dX6_bus_31 (by decide) ?_
  obtain rfl := Option.some.inj hf
  exact z_xS (stk := []) hXX hQ (cx_X6_demandArgument X.l hXX.2.2.2.1 st 0 (2, st) (by unfold fx_X6_demandArgument; exact if_pos rfl)) zb_X6_demandArgument dX6_bus_32 zm_376 rfl rfl rfl ⟨by decide, by decide⟩ ⟨rfl, rfl⟩ (Nat.le_of_ble_eq_true rfl)
set_option maxHeartbeats 4000000 in
set_option maxRecDepth 100000 in
theorem tx_X6_bus (X : zCx) (out : Nat × zSt) (hXX : zOkX X RX6 cX6_bus zrx_X6_bus) (hQ : zPostX X 98 shC out.1 out.2) (hnl : X.nL = 4) (st : zSt) (a0 : Int32) (a1 : Int32) (a2 : Int32) (hf : fx_X6_bus st a0 a1 a2 = some out) : zG 98 shC X st 0 [(0, .ref (X.ad 0)), (1, .int a0), (2, .int a1), (3, .int a2)] [] := by
  unfold fx_X6_bus at hf
  have hX := hXX.1
  refine z_iload_n hX 1 dX6_bus_0 rfl rfl ?_
  refine z_bipush (v := 6) hX dX6_bus_1 (by decide) ?_
  rcases zorx_ex hf with x3 | ⟨_, hf⟩
  · exact z_xS (stk := []) hXX hQ (cx_X6_demandIndex X.l hXX.2.2.2.1 st a0 6 _ x3) zb_X6_demandIndex dX6_bus_3 zm_306 rfl rfl rfl ⟨by decide, by decide⟩ ⟨rfl, rfl⟩ (Nat.le_of_ble_eq_true rfl)
  obtain ⟨q1, e2, hf⟩ := zbind hf
  refine z_callS (stk := []) (stk' := []) hX (c_X6_demandIndex X.l st a0 6 q1 e2) zb_X6_demandIndex dX6_bus_3 zm_306 rfl rfl rfl ⟨by decide, by decide⟩ ⟨rfl, rfl⟩ (Nat.le_of_ble_eq_true rfl) rfl ?_
  refine z_iload_n hX 2 dX6_bus_6 rfl rfl ?_
  refine z_iconst (v := 1) hX dX6_bus_7 (by decide) ?_
  refine z_bipush (v := 12) hX dX6_bus_8 (by decide) ?_
  obtain ⟨q4, e5, hf⟩ := zbind hf
  refine z_callS (stk := []) (stk' := [.int q4.1]) hX (c_X6_isWithin X.l q1.2 a1 1 12 q4 e5) zb_X6_isWithin dX6_bus_10 zm_373 rfl rfl rfl ⟨by decide, by decide⟩ ⟨rfl, rfl⟩ (Nat.le_of_ble_eq_true rfl) rfl ?_
  refine z_if_eq hX 31 dX6_bus_13 (by decide) (fun c6 => ?_) (fun c6 => ?_)
  · have hf := (if_pos c6).symm.trans hf
    exact tx_X6_bus_31 X out hXX hQ hnl q4.2 a0 a1 a2 hf
  have hf := (if_neg c6).symm.trans hf
  refine z_iload_n hX 3 dX6_bus_16 rfl rfl ?_
  refine z_iconst (v := 0) hX dX6_bus_17 (by decide) ?_
  refine z_iload_n hX 2 dX6_bus_18 rfl rfl ?_
  refine z_iconst (v := 1) hX dX6_bus_19 (by decide) ?_
  refine z_isub hX dX6_bus_20 ?_
  obtain ⟨q7, e8, hf⟩ := zbind hf
  refine z_callS (stk := []) (stk' := [.int q7.1]) hX (c_X6_isWithin X.l q4.2 a2 0 (a1 - 1) q7 e8) zb_X6_isWithin dX6_bus_21 zm_373 rfl rfl rfl ⟨by decide, by decide⟩ ⟨rfl, rfl⟩ (Nat.le_of_ble_eq_true rfl) rfl ?_
  refine z_if_eq hX 31 dX6_bus_24 (by decide) (fun c9 => ?_) (fun c9 => ?_)
  · have hf := (if_pos c9).symm.trans hf
    exact tx_X6_bus_31 X out hXX hQ hnl q7.2 a0 a1 a2 hf
  have hf := (if_neg c9).symm.trans hf
  refine z_iconst (v := 1) hX dX6_bus_27 (by decide) ?_
  refine z_goto hX 32 dX6_bus_28 (by decide) ?_
  refine z_callS (stk := []) (stk' := []) hX (c_X6_demandArgument X.l q7.2 1 ((), q7.2) rfl) zb_X6_demandArgument dX6_bus_32 zm_376 rfl rfl rfl ⟨by decide, by decide⟩ ⟨rfl, rfl⟩ (Nat.le_of_ble_eq_true rfl) rfl ?_
  exact (znone hf).elim
theorem cx_X6_bus (l : Launch) (hfl : l.stackTraces = false) (st : zSt) (a0 : Int32) (a1 : Int32) (a2 : Int32) (out : Nat × zSt) (hf : fx_X6_bus st a0 a1 a2 = some out) : zMx l yX6_bus cX6_bus 4 none zrx_X6_bus 98 shC (fun ad => [.ref (ad 0), .int a0, .int a1, .int a2]) st out.1 out.2 :=
  zmx_of hfl (by decide) (fun _ => Nat.le_of_ble_eq_true rfl) (by decide) (fun X _ hnl hX hQ => tx_X6_bus X out hX hQ hnl st a0 a1 a2 hf)
abbrev zrx_X6_reside : Room := { frames := 7, cells := 1, slots := 6, locals := 111 }
def fx_X6_reside_17  (st : zSt) (v1 : Int32) (v2 : Int32) : Option (Nat × zSt) := none
def fx_X6_reside (st : zSt) (a0 : Int32) (a1 : Int32) : Option (Nat × zSt) := (zorx (fx_X6_demandIndex st a0 10) ((f_X6_demandIndex st a0 10).bind fun q1 => (if a1 = (-1) then fx_X6_reside_17 q1.2 a0 a1 else (zorx (fx_X6_demandIndex q1.2 a1 6) ((f_X6_demandIndex q1.2 a1 6).bind fun q5 => fx_X6_reside_17 q5.2 a0 a1)))))
set_option maxHeartbeats 4000000 in
set_option maxRecDepth 100000 in
theorem tx_X6_reside_17 (X : zCx) (out : Nat × zSt) (hXX : zOkX X RX6 cX6_reside zrx_X6_reside) (hQ : zPostX X 98 shC out.1 out.2) (hnl : X.nL = 4) (st : zSt) (v1 : Int32) (v2 : Int32) (hf : fx_X6_reside_17  st v1 v2 = some out) : zG 98 shC X st 17 [(0, .ref (X.ad 0)), (1, .int v1), (2, .int v2)] [] := by
  unfold fx_X6_reside_17 at hf
  have hX := hXX.1
  exact (znone hf).elim
set_option maxHeartbeats 4000000 in
set_option maxRecDepth 100000 in
theorem tx_X6_reside (X : zCx) (out : Nat × zSt) (hXX : zOkX X RX6 cX6_reside zrx_X6_reside) (hQ : zPostX X 98 shC out.1 out.2) (hnl : X.nL = 4) (st : zSt) (a0 : Int32) (a1 : Int32) (hf : fx_X6_reside st a0 a1 = some out) : zG 98 shC X st 0 [(0, .ref (X.ad 0)), (1, .int a0), (2, .int a1)] [] := by
  unfold fx_X6_reside at hf
  have hX := hXX.1
  refine z_iload_n hX 1 dX6_reside_0 rfl rfl ?_
  refine z_bipush (v := 10) hX dX6_reside_1 (by decide) ?_
  rcases zorx_ex hf with x3 | ⟨_, hf⟩
  · exact z_xS (stk := []) hXX hQ (cx_X6_demandIndex X.l hXX.2.2.2.1 st a0 10 _ x3) zb_X6_demandIndex dX6_reside_3 zm_306 rfl rfl rfl ⟨by decide, by decide⟩ ⟨rfl, rfl⟩ (Nat.le_of_ble_eq_true rfl)
  obtain ⟨q1, e2, hf⟩ := zbind hf
  refine z_callS (stk := []) (stk' := []) hX (c_X6_demandIndex X.l st a0 10 q1 e2) zb_X6_demandIndex dX6_reside_3 zm_306 rfl rfl rfl ⟨by decide, by decide⟩ ⟨rfl, rfl⟩ (Nat.le_of_ble_eq_true rfl) rfl ?_
  refine z_iload_n hX 2 dX6_reside_6 rfl rfl ?_
  refine z_iconst (v := (-1)) hX dX6_reside_7 (by decide) ?_
  refine z_icmp_eq hX 17 dX6_reside_8 (by decide) (fun c4 => ?_) (fun c4 => ?_)
  · have hf := (if_pos c4).symm.trans hf
    exact tx_X6_reside_17 X out hXX hQ hnl q1.2 a0 a1 hf
  have hf := (if_neg c4).symm.trans hf
  refine z_iload_n hX 2 dX6_reside_11 rfl rfl ?_
  refine z_bipush (v := 6) hX dX6_reside_12 (by decide) ?_
  rcases zorx_ex hf with x7 | ⟨_, hf⟩
  · exact z_xS (stk := []) hXX hQ (cx_X6_demandIndex X.l hXX.2.2.2.1 q1.2 a1 6 _ x7) zb_X6_demandIndex dX6_reside_14 zm_306 rfl rfl rfl ⟨by decide, by decide⟩ ⟨rfl, rfl⟩ (Nat.le_of_ble_eq_true rfl)
  obtain ⟨q5, e6, hf⟩ := zbind hf
  refine z_callS (stk := []) (stk' := []) hX (c_X6_demandIndex X.l q1.2 a1 6 q5 e6) zb_X6_demandIndex dX6_reside_14 zm_306 rfl rfl rfl ⟨by decide, by decide⟩ ⟨rfl, rfl⟩ (Nat.le_of_ble_eq_true rfl) rfl ?_
  exact tx_X6_reside_17 X out hXX hQ hnl q5.2 a0 a1 hf
theorem cx_X6_reside (l : Launch) (hfl : l.stackTraces = false) (st : zSt) (a0 : Int32) (a1 : Int32) (out : Nat × zSt) (hf : fx_X6_reside st a0 a1 = some out) : zMx l yX6_reside cX6_reside 4 (some .int) zrx_X6_reside 98 shC (fun ad => [.ref (ad 0), .int a0, .int a1]) st out.1 out.2 :=
  zmx_of hfl (by decide) (fun _ => Nat.le_of_ble_eq_true rfl) (by decide) (fun X _ hnl hX hQ => tx_X6_reside X out hX hQ hnl st a0 a1 hf)
abbrev zrx_X6_plan : Room := { frames := 8, cells := 1, slots := 6, locals := 132 }
def fx_X6_plan_125  (st : zSt) (v1 : Int32) (v2 : Int32) (v3 : Int32) (v4 : Int32) (v7 : Int32) : Option (Nat × zSt) := some (3, st)
def fx_X6_plan_102  (st : zSt) (v1 : Int32) (v2 : Int32) (v3 : Int32) (v4 : Int32) (v7 : Int32) (v8 : Int32) : Option (Nat × zSt) := some (2, st)
def fx_X6_plan_66  (st : zSt) (v1 : Int32) (v2 : Int32) (v3 : Int32) (v4 : Int32) (v7 : Int32) (v8 : Int32) : Option (Nat × zSt) := ((f_X6_isWithin st v3 (st.1 0 15) 10000).bind fun q15 => (if q15.1 = 0 then fx_X6_plan_102 q15.2 v1 v2 v3 v4 v7 v8 else ((f_X6_isWithin q15.2 v4 1 400).bind fun q18 => (if q18.1 = 0 then fx_X6_plan_102 q18.2 v1 v2 v3 v4 v7 v8 else (if v2 = v7 then fx_X6_plan_102 q18.2 v1 v2 v3 v4 v7 v8 else (if v3 < v8 then fx_X6_plan_125 q18.2 v1 v2 v3 v4 v7 else (if 24 ≤ (q18.2.1 0 13) then fx_X6_plan_125 q18.2 v1 v2 v3 v4 v7 else none)))))))
def fx_X6_plan_45  (st : zSt) (v1 : Int32) (v2 : Int32) (v3 : Int32) (v4 : Int32) (v6 : Int32) (v7 : Int32) : Option (Nat × zSt) := (if v6 = (-1) then fx_X6_plan_66 st v1 v2 v3 v4 v7 0 else ((f_X6_knownSailing st v6).bind fun q13 => fx_X6_plan_66 q13.2 v1 v2 v3 v4 v7 (q13.2.1 q13.1 4)))
def fx_X6_plan (st : zSt) (a0 : Int32) (a1 : Int32) (a2 : Int32) (a3 : Int32) : Option (Nat × zSt) := (zorx (fx_X6_knownShip st a0) ((f_X6_knownShip st a0).bind fun q1 => (zorx (fx_X6_demandIndex q1.2 a1 6) ((f_X6_demandIndex q1.2 a1 6).bind fun q4 => ((f_X6_lastSailing q4.2 a0).bind fun q7 => (if q7.1 = (-1) then fx_X6_plan_45 q7.2 a0 a1 a2 a3 q7.1 (q7.2.1 q1.1 0) else ((f_X6_knownSailing q7.2 q7.1).bind fun q10 => fx_X6_plan_45 q10.2 a0 a1 a2 a3 q7.1 (q10.2.1 q10.1 2))))))))
set_option maxHeartbeats 4000000 in
set_option maxRecDepth 100000 in
theorem tx_X6_plan_125 (X : zCx) (out : Nat × zSt) (hXX : zOkX X RX6 cX6_plan zrx_X6_plan) (hQ : zPostX X 98 shC out.1 out.2) (hnl : X.nL = 9) (st : zSt) (v1 : Int32) (v2 : Int32) (v3 : Int32) (v4 : Int32) (v7 : Int32) (hf : fx_X6_plan_125  st v1 v2 v3 v4 v7 = some out) : zG 98 shC X st 125 [(0, .ref (X.ad 0)), (1, .int v1), (2, .int v2), (3, .int v3), (4, .int v4), (7, .int v7)] [] := by
  unfold fx_X6_plan_125 at hf
  have hX := hXX.1
  refine z_iconst (v := 0) hX dX6_plan_125 (by decide) ?_
  obtain rfl := Option.some.inj hf
  exact z_xS (stk := []) hXX hQ (cx_X6_demandState X.l hXX.2.2.2.1 st 0 (3, st) (by unfold fx_X6_demandState; exact if_pos rfl)) zb_X6_demandState dX6_plan_126 zm_394 rfl rfl rfl ⟨by decide, by decide⟩ ⟨rfl, rfl⟩ (Nat.le_of_ble_eq_true rfl)
set_option maxHeartbeats 4000000 in
set_option maxRecDepth 100000 in
theorem tx_X6_plan_102 (X : zCx) (out : Nat × zSt) (hXX : zOkX X RX6 cX6_plan zrx_X6_plan) (hQ : zPostX X 98 shC out.1 out.2) (hnl : X.nL = 9) (st : zSt) (v1 : Int32) (v2 : Int32) (v3 : Int32) (v4 : Int32) (v7 : Int32) (v8 : Int32) (hf : fx_X6_plan_102  st v1 v2 v3 v4 v7 v8 = some out) : zG 98 shC X st 102 [(0, .ref (X.ad 0)), (1, .int v1), (2, .int v2), (3, .int v3), (4, .int v4), (7, .int v7), (8, .int v8)] [] := by
  unfold fx_X6_plan_102 at hf
  have hX := hXX.1
  refine z_iconst (v := 0) hX dX6_plan_102 (by decide) ?_
  obtain rfl := Option.some.inj hf
  exact z_xS (stk := []) hXX hQ (cx_X6_demandArgument X.l hXX.2.2.2.1 st 0 (2, st) (by unfold fx_X6_demandArgument; exact if_pos rfl)) zb_X6_demandArgument dX6_plan_103 zm_376 rfl rfl rfl ⟨by decide, by decide⟩ ⟨rfl, rfl⟩ (Nat.le_of_ble_eq_true rfl)
set_option maxHeartbeats 4000000 in
set_option maxRecDepth 100000 in
theorem tx_X6_plan_66 (X : zCx) (out : Nat × zSt) (hXX : zOkX X RX6 cX6_plan zrx_X6_plan) (hQ : zPostX X 98 shC out.1 out.2) (hnl : X.nL = 9) (st : zSt) (v1 : Int32) (v2 : Int32) (v3 : Int32) (v4 : Int32) (v7 : Int32) (v8 : Int32) (hf : fx_X6_plan_66  st v1 v2 v3 v4 v7 v8 = some out) : zG 98 shC X st 66 [(0, .ref (X.ad 0)), (1, .int v1), (2, .int v2), (3, .int v3), (4, .int v4), (7, .int v7), (8, .int v8)] [] := by
  unfold fx_X6_plan_66 at hf
  have hX := hXX.1
  refine z_iload_n hX 3 dX6_plan_66 rfl rfl ?_
  refine z_aload_n hX 0 dX6_plan_67 rfl rfl ?_
  refine z_getI hX 0 15 dX6_plan_68 (by decide) shC_0 rfl rfl zin_X6 (by decide) zm_268 ?_
  refine z_sipush (v := 10000) hX dX6_plan_71 (by decide) ?_
  obtain ⟨q15, e16, hf⟩ := zbind hf
  refine z_callS (stk := []) (stk' := [.int q15.1]) hX (c_X6_isWithin X.l st v3 (st.1 0 15) 10000 q15 e16) zb_X6_isWithin dX6_plan_74 zm_373 rfl rfl rfl ⟨by decide, by decide⟩ ⟨rfl, rfl⟩ (Nat.le_of_ble_eq_true rfl) rfl ?_
  refine z_if_eq hX 102 dX6_plan_77 (by decide) (fun c17 => ?_) (fun c17 => ?_)
  · have hf := (if_pos c17).symm.trans hf
    exact tx_X6_plan_102 X out hXX hQ hnl q15.2 v1 v2 v3 v4 v7 v8 hf
  have hf := (if_neg c17).symm.trans hf
  refine z_iload hX 4 dX6_plan_80 rfl ?_
  refine z_iconst (v := 1) hX dX6_plan_82 (by decide) ?_
  refine z_sipush (v := 400) hX dX6_plan_83 (by decide) ?_
  obtain ⟨q18, e19, hf⟩ := zbind hf
  refine z_callS (stk := []) (stk' := [.int q18.1]) hX (c_X6_isWithin X.l q15.2 v4 1 400 q18 e19) zb_X6_isWithin dX6_plan_86 zm_373 rfl rfl rfl ⟨by decide, by decide⟩ ⟨rfl, rfl⟩ (Nat.le_of_ble_eq_true rfl) rfl ?_
  refine z_if_eq hX 102 dX6_plan_89 (by decide) (fun c20 => ?_) (fun c20 => ?_)
  · have hf := (if_pos c20).symm.trans hf
    exact tx_X6_plan_102 X out hXX hQ hnl q18.2 v1 v2 v3 v4 v7 v8 hf
  have hf := (if_neg c20).symm.trans hf
  refine z_iload_n hX 2 dX6_plan_92 rfl rfl ?_
  refine z_iload hX 5 dX6_plan_93 rfl ?_
  refine z_icmp_eq hX 102 dX6_plan_95 (by decide) (fun c21 => ?_) (fun c21 => ?_)
  · have hf := (if_pos c21).symm.trans hf
    exact tx_X6_plan_102 X out hXX hQ hnl q18.2 v1 v2 v3 v4 v7 v8 hf
  have hf := (if_neg c21).symm.trans hf
  refine z_iconst (v := 1) hX dX6_plan_98 (by decide) ?_
  refine z_goto hX 103 dX6_plan_99 (by decide) ?_
  refine z_callS (stk := []) (stk' := []) hX (c_X6_demandArgument X.l q18.2 1 ((), q18.2) rfl) zb_X6_demandArgument dX6_plan_103 zm_376 rfl rfl rfl ⟨by decide, by decide⟩ ⟨rfl, rfl⟩ (Nat.le_of_ble_eq_true rfl) rfl ?_
  refine z_iload hX 6 dX6_plan_106 rfl ?_
  refine z_iload_n hX 3 dX6_plan_108 rfl rfl ?_
  refine z_icmp_gt hX 125 dX6_plan_109 (by decide) (fun c24 => ?_) (fun c24 => ?_)
  · have hf := (if_pos c24).symm.trans hf
    refine z_locals [0, 1, 2, 3, 4, 5] [(0, .ref (X.ad 0)), (1, .int v1), (2, .int v2), (3, .int v3), (4, .int v4), (7, .int v7)] rfl ?_
    exact tx_X6_plan_125 X out hXX hQ hnl q18.2 v1 v2 v3 v4 v7 hf
  have hf := (if_neg c24).symm.trans hf
  refine z_aload_n hX 0 dX6_plan_112 rfl rfl ?_
  refine z_getI hX 0 13 dX6_plan_113 (by decide) shC_0 rfl rfl zin_X6 (by decide) zm_266 ?_
  refine z_bipush (v := 24) hX dX6_plan_116 (by decide) ?_
  refine z_icmp_ge hX 125 dX6_plan_118 (by decide) (fun c25 => ?_) (fun c25 => ?_)
  · have hf := (if_pos c25).symm.trans hf
    refine z_locals [0, 1, 2, 3, 4, 5] [(0, .ref (X.ad 0)), (1, .int v1), (2, .int v2), (3, .int v3), (4, .int v4), (7, .int v7)] rfl ?_
    exact tx_X6_plan_125 X out hXX hQ hnl q18.2 v1 v2 v3 v4 v7 hf
  have hf := (if_neg c25).symm.trans hf
  refine z_iconst (v := 1) hX dX6_plan_121 (by decide) ?_
  refine z_goto hX 126 dX6_plan_122 (by decide) ?_
  refine z_callS (stk := []) (stk' := []) hX (c_X6_demandState X.l q18.2 1 ((), q18.2) rfl) zb_X6_demandState dX6_plan_126 zm_394 rfl rfl rfl ⟨by decide, by decide⟩ ⟨rfl, rfl⟩ (Nat.le_of_ble_eq_true rfl) rfl ?_
  exact (znone hf).elim
set_option maxHeartbeats 4000000 in
set_option maxRecDepth 100000 in
theorem tx_X6_plan_45 (X : zCx) (out : Nat × zSt) (hXX : zOkX X RX6 cX6_plan zrx_X6_plan) (hQ : zPostX X 98 shC out.1 out.2) (hnl : X.nL = 9) (st : zSt) (v1 : Int32) (v2 : Int32) (v3 : Int32) (v4 : Int32) (v6 : Int32) (v7 : Int32) (hf : fx_X6_plan_45  st v1 v2 v3 v4 v6 v7 = some out) : zG 98 shC X st 45 [(0, .ref (X.ad 0)), (1, .int v1), (2, .int v2), (3, .int v3), (4, .int v4), (6, .int v6), (7, .int v7)] [] := by
  unfold fx_X6_plan_45 at hf
  have hX := hXX.1
  refine z_iload hX 5 dX6_plan_45 rfl ?_
  refine z_iconst (v := (-1)) hX dX6_plan_47 (by decide) ?_
  refine z_icmp_ne hX 55 dX6_plan_48 (by decide) (fun c12 => ?_) (fun c12 => ?_)
  · have hf := (if_neg c12).symm.trans hf
    refine z_aload_n hX 0 dX6_plan_55 rfl rfl ?_
    refine z_iload hX 5 dX6_plan_56 rfl ?_
    obtain ⟨q13, e14, hf⟩ := zbind hf
    refine z_callV (stk := []) (stk' := [.ref (X.ad q13.1)]) hX (c_X6_knownSailing X.l st v6 q13 e14) zb_X6_knownSailing 0 dX6_plan_58 zm_456 (by decide) shC_0 rfl rfl rfl rfl ⟨by decide, by decide⟩ ⟨rfl, rfl⟩ (Nat.le_of_ble_eq_true rfl) rfl ?_
    refine z_getIN hX q13.1 4 dX6_plan_61 (zlt_Sailing (rr_X6_knownSailing e14)) (zsh_Sailing (rr_X6_knownSailing e14)) rfl rfl zin_X3 (by decide) zm_156 ?_
    refine z_istore hX [(0, .ref (X.ad 0)), (1, .int v1), (2, .int v2), (3, .int v3), (4, .int v4), (6, .int v6), (7, .int v7), (8, .int (q13.2.1 q13.1 4))] dX6_plan_64 (by rw [hnl]; decide) [1, 2, 3, 4, 5, 6, 7, 0] rfl ?_
    refine z_locals [0, 1, 2, 3, 4, 6, 7] [(0, .ref (X.ad 0)), (1, .int v1), (2, .int v2), (3, .int v3), (4, .int v4), (7, .int v7), (8, .int (q13.2.1 q13.1 4))] rfl ?_
    exact tx_X6_plan_66 X out hXX hQ hnl q13.2 v1 v2 v3 v4 v7 (q13.2.1 q13.1 4) hf
  have hf := (if_pos c12).symm.trans hf
  refine z_iconst (v := 0) hX dX6_plan_51 (by decide) ?_
  refine z_goto hX 64 dX6_plan_52 (by decide) ?_
  refine z_istore hX [(0, .ref (X.ad 0)), (1, .int v1), (2, .int v2), (3, .int v3), (4, .int v4), (6, .int v6), (7, .int v7), (8, .int 0)] dX6_plan_64 (by rw [hnl]; decide) [1, 2, 3, 4, 5, 6, 7, 0] rfl ?_
  refine z_locals [0, 1, 2, 3, 4, 6, 7] [(0, .ref (X.ad 0)), (1, .int v1), (2, .int v2), (3, .int v3), (4, .int v4), (7, .int v7), (8, .int 0)] rfl ?_
  exact tx_X6_plan_66 X out hXX hQ hnl st v1 v2 v3 v4 v7 0 hf
set_option maxHeartbeats 4000000 in
set_option maxRecDepth 100000 in
theorem tx_X6_plan (X : zCx) (out : Nat × zSt) (hXX : zOkX X RX6 cX6_plan zrx_X6_plan) (hQ : zPostX X 98 shC out.1 out.2) (hnl : X.nL = 9) (st : zSt) (a0 : Int32) (a1 : Int32) (a2 : Int32) (a3 : Int32) (hf : fx_X6_plan st a0 a1 a2 a3 = some out) : zG 98 shC X st 0 [(0, .ref (X.ad 0)), (1, .int a0), (2, .int a1), (3, .int a2), (4, .int a3)] [] := by
  unfold fx_X6_plan at hf
  have hX := hXX.1
  refine z_aload_n hX 0 dX6_plan_0 rfl rfl ?_
  refine z_iload_n hX 1 dX6_plan_1 rfl rfl ?_
  rcases zorx_ex hf with x3 | ⟨_, hf⟩
  · exact z_xV (stk := []) hXX hQ (cx_X6_knownShip X.l hXX.2.2.2.1 st a0 _ x3) zb_X6_knownShip 0 dX6_plan_2 zm_412 (by decide) shC_0 rfl rfl rfl rfl ⟨by decide, by decide⟩ ⟨rfl, rfl⟩ (Nat.le_of_ble_eq_true rfl)
  obtain ⟨q1, e2, hf⟩ := zbind hf
  refine z_callV (stk := []) (stk' := [.ref (X.ad q1.1)]) hX (c_X6_knownShip X.l st a0 q1 e2) zb_X6_knownShip 0 dX6_plan_2 zm_412 (by decide) shC_0 rfl rfl rfl rfl ⟨by decide, by decide⟩ ⟨rfl, rfl⟩ (Nat.le_of_ble_eq_true rfl) rfl ?_
  refine z_astore hX [(0, .ref (X.ad 0)), (1, .int a0), (2, .int a1), (3, .int a2), (4, .int a3), (5, .ref (X.ad q1.1))] dX6_plan_5 (by rw [hnl]; decide) [1, 2, 3, 4, 5, 0] rfl ?_
  refine z_iload_n hX 2 dX6_plan_7 rfl rfl ?_
  refine z_bipush (v := 6) hX dX6_plan_8 (by decide) ?_
  rcases zorx_ex hf with x6 | ⟨_, hf⟩
  · exact z_xS (stk := []) hXX hQ (cx_X6_demandIndex X.l hXX.2.2.2.1 q1.2 a1 6 _ x6) zb_X6_demandIndex dX6_plan_10 zm_306 rfl rfl rfl ⟨by decide, by decide⟩ ⟨rfl, rfl⟩ (Nat.le_of_ble_eq_true rfl)
  obtain ⟨q4, e5, hf⟩ := zbind hf
  refine z_callS (stk := []) (stk' := []) hX (c_X6_demandIndex X.l q1.2 a1 6 q4 e5) zb_X6_demandIndex dX6_plan_10 zm_306 rfl rfl rfl ⟨by decide, by decide⟩ ⟨rfl, rfl⟩ (Nat.le_of_ble_eq_true rfl) rfl ?_
  refine z_aload_n hX 0 dX6_plan_13 rfl rfl ?_
  refine z_iload_n hX 1 dX6_plan_14 rfl rfl ?_
  obtain ⟨q7, e8, hf⟩ := zbind hf
  refine z_callV (stk := []) (stk' := [.int q7.1]) hX (c_X6_lastSailing X.l q4.2 a0 q7 e8) zb_X6_lastSailing 0 dX6_plan_15 zm_608 (by decide) shC_0 rfl rfl rfl rfl ⟨by decide, by decide⟩ ⟨rfl, rfl⟩ (Nat.le_of_ble_eq_true rfl) rfl ?_
  refine z_istore hX [(0, .ref (X.ad 0)), (1, .int a0), (2, .int a1), (3, .int a2), (4, .int a3), (5, .ref (X.ad q1.1)), (6, .int q7.1)] dX6_plan_18 (by rw [hnl]; decide) [1, 2, 3, 4, 5, 6, 0] rfl ?_
  refine z_iload hX 6 dX6_plan_20 rfl ?_
  refine z_iconst (v := (-1)) hX dX6_plan_22 (by decide) ?_
  refine z_icmp_ne hX 34 dX6_plan_23 (by decide) (fun c9 => ?_) (fun c9 => ?_)
  · have hf := (if_neg c9).symm.trans hf
    refine z_aload_n hX 0 dX6_plan_34 rfl rfl ?_
    refine z_iload hX 6 dX6_plan_35 rfl ?_
    obtain ⟨q10, e11, hf⟩ := zbind hf
    refine z_callV (stk := []) (stk' := [.ref (X.ad q10.1)]) hX (c_X6_knownSailing X.l q7.2 q7.1 q10 e11) zb_X6_knownSailing 0 dX6_plan_37 zm_456 (by decide) shC_0 rfl rfl rfl rfl ⟨by decide, by decide⟩ ⟨rfl, rfl⟩ (Nat.le_of_ble_eq_true rfl) rfl ?_
    refine z_getIN hX q10.1 2 dX6_plan_40 (zlt_Sailing (rr_X6_knownSailing e11)) (zsh_Sailing (rr_X6_knownSailing e11)) rfl rfl zin_X3 (by decide) zm_152 ?_
    refine z_istore hX [(0, .ref (X.ad 0)), (1, .int a0), (2, .int a1), (3, .int a2), (4, .int a3), (5, .ref (X.ad q1.1)), (6, .int q7.1), (7, .int (q10.2.1 q10.1 2))] dX6_plan_43 (by rw [hnl]; decide) [1, 2, 3, 4, 5, 6, 7, 0] rfl ?_
    refine z_locals [0, 1, 2, 3, 4, 6, 7] [(0, .ref (X.ad 0)), (1, .int a0), (2, .int a1), (3, .int a2), (4, .int a3), (6, .int q7.1), (7, .int (q10.2.1 q10.1 2))] rfl ?_
    exact tx_X6_plan_45 X out hXX hQ hnl q10.2 a0 a1 a2 a3 q7.1 (q10.2.1 q10.1 2) hf
  have hf := (if_pos c9).symm.trans hf
  refine z_aload hX 5 dX6_plan_26 rfl ?_
  refine z_getIN hX q1.1 0 dX6_plan_28 (zlt_Ship (rr_X6_knownShip e2)) (zsh_Ship (rr_X6_knownShip e2)) rfl rfl zin_X4 (by decide) zm_91 ?_
  refine z_goto hX 43 dX6_plan_31 (by decide) ?_
  refine z_istore hX [(0, .ref (X.ad 0)), (1, .int a0), (2, .int a1), (3, .int a2), (4, .int a3), (5, .ref (X.ad q1.1)), (6, .int q7.1), (7, .int (q7.2.1 q1.1 0))] dX6_plan_43 (by rw [hnl]; decide) [1, 2, 3, 4, 5, 6, 7, 0] rfl ?_
  refine z_locals [0, 1, 2, 3, 4, 6, 7] [(0, .ref (X.ad 0)), (1, .int a0), (2, .int a1), (3, .int a2), (4, .int a3), (6, .int q7.1), (7, .int (q7.2.1 q1.1 0))] rfl ?_
  exact tx_X6_plan_45 X out hXX hQ hnl q7.2 a0 a1 a2 a3 q7.1 (q7.2.1 q1.1 0) hf
theorem cx_X6_plan (l : Launch) (hfl : l.stackTraces = false) (st : zSt) (a0 : Int32) (a1 : Int32) (a2 : Int32) (a3 : Int32) (out : Nat × zSt) (hf : fx_X6_plan st a0 a1 a2 a3 = some out) : zMx l yX6_plan cX6_plan 9 (some .int) zrx_X6_plan 98 shC (fun ad => [.ref (ad 0), .int a0, .int a1, .int a2, .int a3]) st out.1 out.2 :=
  zmx_of hfl (by decide) (fun _ => Nat.le_of_ble_eq_true rfl) (by decide) (fun X _ hnl hX hQ => tx_X6_plan X out hX hQ hnl st a0 a1 a2 a3 hf)
abbrev zrx_X6_cancel : Room := { frames := 8, cells := 1, slots := 6, locals := 132 }
def fx_X6_cancel (st : zSt) (a0 : Int32) : Option (Nat × zSt) := (zorx (fx_X6_knownSailing st a0) ((f_X6_knownSailing st a0).bind fun q1 => (if (q1.2.1 q1.1 6) = 0 then none else some (3, q1.2))))
set_option maxHeartbeats 4000000 in
set_option maxRecDepth 100000 in
theorem tx_X6_cancel (X : zCx) (out : Nat × zSt) (hXX : zOkX X RX6 cX6_cancel zrx_X6_cancel) (hQ : zPostX X 98 shC out.1 out.2) (hnl : X.nL = 3) (st : zSt) (a0 : Int32) (hf : fx_X6_cancel st a0 = some out) : zG 98 shC X st 0 [(0, .ref (X.ad 0)), (1, .int a0)] [] := by
  unfold fx_X6_cancel at hf
  have hX := hXX.1
  refine z_aload_n hX 0 dX6_cancel_0 rfl rfl ?_
  refine z_iload_n hX 1 dX6_cancel_1 rfl rfl ?_
  rcases zorx_ex hf with x3 | ⟨_, hf⟩
  · exact z_xV (stk := []) hXX hQ (cx_X6_knownSailing X.l hXX.2.2.2.1 st a0 _ x3) zb_X6_knownSailing 0 dX6_cancel_2 zm_456 (by decide) shC_0 rfl rfl rfl rfl ⟨by decide, by decide⟩ ⟨rfl, rfl⟩ (Nat.le_of_ble_eq_true rfl)
  obtain ⟨q1, e2, hf⟩ := zbind hf
  refine z_callV (stk := []) (stk' := [.ref (X.ad q1.1)]) hX (c_X6_knownSailing X.l st a0 q1 e2) zb_X6_knownSailing 0 dX6_cancel_2 zm_456 (by decide) shC_0 rfl rfl rfl rfl ⟨by decide, by decide⟩ ⟨rfl, rfl⟩ (Nat.le_of_ble_eq_true rfl) rfl ?_
  refine z_astore_n hX [(0, .ref (X.ad 0)), (1, .int a0), (2, .ref (X.ad q1.1))] dX6_cancel_5 rfl (by rw [hnl]; decide) [1, 2, 0] rfl ?_
  refine z_aload_n hX 2 dX6_cancel_6 rfl rfl ?_
  refine z_getIN hX q1.1 6 dX6_cancel_7 (zlt_Sailing (rr_X6_knownSailing e2)) (zsh_Sailing (rr_X6_knownSailing e2)) rfl rfl zin_X3 (by decide) zm_160 ?_
  refine z_if_ne hX 17 dX6_cancel_10 (by decide) (fun c4 => ?_) (fun c4 => ?_)
  · have hf := (if_neg c4).symm.trans hf
    refine z_iconst (v := 0) hX dX6_cancel_17 (by decide) ?_
    obtain rfl := Option.some.inj hf
    exact z_xS (stk := []) hXX hQ (cx_X6_demandState X.l hXX.2.2.2.1 q1.2 0 (3, q1.2) (by unfold fx_X6_demandState; exact if_pos rfl)) zb_X6_demandState dX6_cancel_18 zm_394 rfl rfl rfl ⟨by decide, by decide⟩ ⟨rfl, rfl⟩ (Nat.le_of_ble_eq_true rfl)
  have hf := (if_pos c4).symm.trans hf
  refine z_iconst (v := 1) hX dX6_cancel_13 (by decide) ?_
  refine z_goto hX 18 dX6_cancel_14 (by decide) ?_
  refine z_callS (stk := []) (stk' := []) hX (c_X6_demandState X.l q1.2 1 ((), q1.2) rfl) zb_X6_demandState dX6_cancel_18 zm_394 rfl rfl rfl ⟨by decide, by decide⟩ ⟨rfl, rfl⟩ (Nat.le_of_ble_eq_true rfl) rfl ?_
  exact (znone hf).elim
theorem cx_X6_cancel (l : Launch) (hfl : l.stackTraces = false) (st : zSt) (a0 : Int32) (out : Nat × zSt) (hf : fx_X6_cancel st a0 = some out) : zMx l yX6_cancel cX6_cancel 3 (some .int) zrx_X6_cancel 98 shC (fun ad => [.ref (ad 0), .int a0]) st out.1 out.2 :=
  zmx_of hfl (by decide) (fun _ => Nat.le_of_ble_eq_true rfl) (by decide) (fun X _ hnl hX hQ => tx_X6_cancel X out hX hQ hnl st a0 hf)
abbrev zrx_X6_replace : Room := { frames := 8, cells := 1, slots := 6, locals := 132 }
def fx_X6_replace_80  (st : zSt) (v2 : Int32) (r3 : Nat) : Option (Nat × zSt) := some (3, st)
def fx_X6_replace (st : zSt) (a0 : Int32) (a1 : Int32) : Option (Nat × zSt) := (zorx (fx_X6_knownSailing st a0) ((f_X6_knownSailing st a0).bind fun q1 => (zorx (fx_X6_knownShip q1.2 a1) ((f_X6_knownShip q1.2 a1).bind fun q4 => (if (q4.2.1 q1.1 6) = 1 then (if (q4.2.1 q1.1 10) = 0 then ((f_X6_isFree q4.2 a1).bind fun q9 => (if q9.1 = 0 then fx_X6_replace_80 q9.2 a1 q1.1 else ((f_X6_whereWas q9.2 a1 (q9.2.1 0 15)).bind fun q12 => (if q12.1 = (q12.2.1 q1.1 1) then ((f_X5_has q12.2 (q4.1 + 4) (q12.2.1 0 15)).bind fun q15 => (if q15.1 = 0 then (if 24 ≤ (q15.2.1 0 13) then fx_X6_replace_80 q15.2 a1 q1.1 else none) else fx_X6_replace_80 q15.2 a1 q1.1)) else fx_X6_replace_80 q12.2 a1 q1.1)))) else fx_X6_replace_80 q4.2 a1 q1.1) else fx_X6_replace_80 q4.2 a1 q1.1)))))
set_option maxHeartbeats 4000000 in
set_option maxRecDepth 100000 in
theorem tx_X6_replace_80 (X : zCx) (out : Nat × zSt) (hXX : zOkX X RX6 cX6_replace zrx_X6_replace) (hQ : zPostX X 98 shC out.1 out.2) (hnl : X.nL = 5) (st : zSt) (v2 : Int32) (r3 : Nat) (hr3 : zkSailing r3) (hf : fx_X6_replace_80  st v2 r3 = some out) : zG 98 shC X st 80 [(0, .ref (X.ad 0)), (2, .int v2), (3, .ref (X.ad r3))] [] := by
  unfold fx_X6_replace_80 at hf
  have hX := hXX.1
  refine z_iconst (v := 0) hX dX6_replace_80 (by decide) ?_
  obtain rfl := Option.some.inj hf
  exact z_xS (stk := []) hXX hQ (cx_X6_demandState X.l hXX.2.2.2.1 st 0 (3, st) (by unfold fx_X6_demandState; exact if_pos rfl)) zb_X6_demandState dX6_replace_81 zm_394 rfl rfl rfl ⟨by decide, by decide⟩ ⟨rfl, rfl⟩ (Nat.le_of_ble_eq_true rfl)
set_option maxHeartbeats 4000000 in
set_option maxRecDepth 100000 in
theorem tx_X6_replace (X : zCx) (out : Nat × zSt) (hXX : zOkX X RX6 cX6_replace zrx_X6_replace) (hQ : zPostX X 98 shC out.1 out.2) (hnl : X.nL = 5) (st : zSt) (a0 : Int32) (a1 : Int32) (hf : fx_X6_replace st a0 a1 = some out) : zG 98 shC X st 0 [(0, .ref (X.ad 0)), (1, .int a0), (2, .int a1)] [] := by
  unfold fx_X6_replace at hf
  have hX := hXX.1
  refine z_aload_n hX 0 dX6_replace_0 rfl rfl ?_
  refine z_iload_n hX 1 dX6_replace_1 rfl rfl ?_
  rcases zorx_ex hf with x3 | ⟨_, hf⟩
  · exact z_xV (stk := []) hXX hQ (cx_X6_knownSailing X.l hXX.2.2.2.1 st a0 _ x3) zb_X6_knownSailing 0 dX6_replace_2 zm_456 (by decide) shC_0 rfl rfl rfl rfl ⟨by decide, by decide⟩ ⟨rfl, rfl⟩ (Nat.le_of_ble_eq_true rfl)
  obtain ⟨q1, e2, hf⟩ := zbind hf
  refine z_callV (stk := []) (stk' := [.ref (X.ad q1.1)]) hX (c_X6_knownSailing X.l st a0 q1 e2) zb_X6_knownSailing 0 dX6_replace_2 zm_456 (by decide) shC_0 rfl rfl rfl rfl ⟨by decide, by decide⟩ ⟨rfl, rfl⟩ (Nat.le_of_ble_eq_true rfl) rfl ?_
  refine z_astore_n hX [(0, .ref (X.ad 0)), (1, .int a0), (2, .int a1), (3, .ref (X.ad q1.1))] dX6_replace_5 rfl (by rw [hnl]; decide) [1, 2, 3, 0] rfl ?_
  refine z_aload_n hX 0 dX6_replace_6 rfl rfl ?_
  refine z_iload_n hX 2 dX6_replace_7 rfl rfl ?_
  rcases zorx_ex hf with x6 | ⟨_, hf⟩
  · exact z_xV (stk := []) hXX hQ (cx_X6_knownShip X.l hXX.2.2.2.1 q1.2 a1 _ x6) zb_X6_knownShip 0 dX6_replace_8 zm_412 (by decide) shC_0 rfl rfl rfl rfl ⟨by decide, by decide⟩ ⟨rfl, rfl⟩ (Nat.le_of_ble_eq_true rfl)
  obtain ⟨q4, e5, hf⟩ := zbind hf
  refine z_callV (stk := []) (stk' := [.ref (X.ad q4.1)]) hX (c_X6_knownShip X.l q1.2 a1 q4 e5) zb_X6_knownShip 0 dX6_replace_8 zm_412 (by decide) shC_0 rfl rfl rfl rfl ⟨by decide, by decide⟩ ⟨rfl, rfl⟩ (Nat.le_of_ble_eq_true rfl) rfl ?_
  refine z_astore hX [(0, .ref (X.ad 0)), (1, .int a0), (2, .int a1), (3, .ref (X.ad q1.1)), (4, .ref (X.ad q4.1))] dX6_replace_11 (by rw [hnl]; decide) [1, 2, 3, 4, 0] rfl ?_
  refine z_aload_n hX 3 dX6_replace_13 rfl rfl ?_
  refine z_getIN hX q1.1 6 dX6_replace_14 (zlt_Sailing (rr_X6_knownSailing e2)) (zsh_Sailing (rr_X6_knownSailing e2)) rfl rfl zin_X3 (by decide) zm_160 ?_
  refine z_iconst (v := 1) hX dX6_replace_17 (by decide) ?_
  refine z_icmp_ne hX 80 dX6_replace_18 (by decide) (fun c7 => ?_) (fun c7 => ?_)
  · have hf := (if_neg c7).symm.trans hf
    refine z_locals [0, 2, 3] [(0, .ref (X.ad 0)), (2, .int a1), (3, .ref (X.ad q1.1))] rfl ?_
    exact tx_X6_replace_80 X out hXX hQ hnl q4.2 a1 q1.1 (rr_X6_knownSailing e2) hf
  have hf := (if_pos c7).symm.trans hf
  refine z_aload_n hX 3 dX6_replace_21 rfl rfl ?_
  refine z_getIN hX q1.1 10 dX6_replace_22 (zlt_Sailing (rr_X6_knownSailing e2)) (zsh_Sailing (rr_X6_knownSailing e2)) rfl rfl zin_X3 (by decide) zm_168 ?_
  refine z_if_ne hX 80 dX6_replace_25 (by decide) (fun c8 => ?_) (fun c8 => ?_)
  · have hf := (if_neg c8).symm.trans hf
    refine z_locals [0, 2, 3] [(0, .ref (X.ad 0)), (2, .int a1), (3, .ref (X.ad q1.1))] rfl ?_
    exact tx_X6_replace_80 X out hXX hQ hnl q4.2 a1 q1.1 (rr_X6_knownSailing e2) hf
  have hf := (if_pos c8).symm.trans hf
  refine z_aload_n hX 0 dX6_replace_28 rfl rfl ?_
  refine z_iload_n hX 2 dX6_replace_29 rfl rfl ?_
  obtain ⟨q9, e10, hf⟩ := zbind hf
  refine z_callV (stk := []) (stk' := [.int q9.1]) hX (c_X6_isFree X.l q4.2 a1 q9 e10) zb_X6_isFree 0 dX6_replace_30 zm_631 (by decide) shC_0 rfl rfl rfl rfl ⟨by decide, by decide⟩ ⟨rfl, rfl⟩ (Nat.le_of_ble_eq_true rfl) rfl ?_
  refine z_if_eq hX 80 dX6_replace_33 (by decide) (fun c11 => ?_) (fun c11 => ?_)
  · have hf := (if_pos c11).symm.trans hf
    refine z_locals [0, 2, 3] [(0, .ref (X.ad 0)), (2, .int a1), (3, .ref (X.ad q1.1))] rfl ?_
    exact tx_X6_replace_80 X out hXX hQ hnl q9.2 a1 q1.1 (rr_X6_knownSailing e2) hf
  have hf := (if_neg c11).symm.trans hf
  refine z_aload_n hX 0 dX6_replace_36 rfl rfl ?_
  refine z_iload_n hX 2 dX6_replace_37 rfl rfl ?_
  refine z_aload_n hX 0 dX6_replace_38 rfl rfl ?_
  refine z_getI hX 0 15 dX6_replace_39 (by decide) shC_0 rfl rfl zin_X6 (by decide) zm_268 ?_
  obtain ⟨q12, e13, hf⟩ := zbind hf
  refine z_callV (stk := []) (stk' := [.int q12.1]) hX (c_X6_whereWas X.l q9.2 a1 (q9.2.1 0 15) q12 e13) zb_X6_whereWas 0 dX6_replace_42 zm_464 (by decide) shC_0 rfl rfl rfl rfl ⟨by decide, by decide⟩ ⟨rfl, rfl⟩ (Nat.le_of_ble_eq_true rfl) rfl ?_
  refine z_aload_n hX 3 dX6_replace_45 rfl rfl ?_
  refine z_getIN hX q1.1 1 dX6_replace_46 (zlt_Sailing (rr_X6_knownSailing e2)) (zsh_Sailing (rr_X6_knownSailing e2)) rfl rfl zin_X3 (by decide) zm_150 ?_
  refine z_icmp_ne hX 80 dX6_replace_49 (by decide) (fun c14 => ?_) (fun c14 => ?_)
  · have hf := (if_neg c14).symm.trans hf
    refine z_locals [0, 2, 3] [(0, .ref (X.ad 0)), (2, .int a1), (3, .ref (X.ad q1.1))] rfl ?_
    exact tx_X6_replace_80 X out hXX hQ hnl q12.2 a1 q1.1 (rr_X6_knownSailing e2) hf
  have hf := (if_pos c14).symm.trans hf
  refine z_aload hX 4 dX6_replace_52 rfl ?_
  refine z_getRN hX q4.1 7 (q4.1 + 4) dX6_replace_54 (zlt_Ship (rr_X6_knownShip e5)) (zsh_Ship (rr_X6_knownShip e5)) rfl rfl zin_X4 (by decide) zm_108 ?_
  refine z_aload_n hX 0 dX6_replace_57 rfl rfl ?_
  refine z_getI hX 0 15 dX6_replace_58 (by decide) shC_0 rfl rfl zin_X6 (by decide) zm_268 ?_
  obtain ⟨q15, e16, hf⟩ := zbind hf
  refine z_callVN (stk := []) (stk' := [.int q15.1]) hX (c_X5_has X.l q12.2 (q4.1 + 4) (q12.2.1 0 15) (zsp_out (rr_X6_knownShip e5)) q15 e16) zb_X5_has (q4.1 + 4) dX6_replace_61 zm_468 (zlt_Span (zsp_out (rr_X6_knownShip e5))) (zsh_Span (zsp_out (rr_X6_knownShip e5))) rfl rfl rfl rfl ⟨by decide, by decide⟩ ⟨rfl, rfl⟩ (Nat.le_of_ble_eq_true rfl) rfl ?_
  refine z_if_ne hX 80 dX6_replace_64 (by decide) (fun c17 => ?_) (fun c17 => ?_)
  · have hf := (if_neg c17).symm.trans hf
    refine z_locals [0, 2, 3] [(0, .ref (X.ad 0)), (2, .int a1), (3, .ref (X.ad q1.1))] rfl ?_
    exact tx_X6_replace_80 X out hXX hQ hnl q15.2 a1 q1.1 (rr_X6_knownSailing e2) hf
  have hf := (if_pos c17).symm.trans hf
  refine z_aload_n hX 0 dX6_replace_67 rfl rfl ?_
  refine z_getI hX 0 13 dX6_replace_68 (by decide) shC_0 rfl rfl zin_X6 (by decide) zm_266 ?_
  refine z_bipush (v := 24) hX dX6_replace_71 (by decide) ?_
  refine z_icmp_ge hX 80 dX6_replace_73 (by decide) (fun c18 => ?_) (fun c18 => ?_)
  · have hf := (if_pos c18).symm.trans hf
    refine z_locals [0, 2, 3] [(0, .ref (X.ad 0)), (2, .int a1), (3, .ref (X.ad q1.1))] rfl ?_
    exact tx_X6_replace_80 X out hXX hQ hnl q15.2 a1 q1.1 (rr_X6_knownSailing e2) hf
  have hf := (if_neg c18).symm.trans hf
  refine z_iconst (v := 1) hX dX6_replace_76 (by decide) ?_
  refine z_goto hX 81 dX6_replace_77 (by decide) ?_
  refine z_callS (stk := []) (stk' := []) hX (c_X6_demandState X.l q15.2 1 ((), q15.2) rfl) zb_X6_demandState dX6_replace_81 zm_394 rfl rfl rfl ⟨by decide, by decide⟩ ⟨rfl, rfl⟩ (Nat.le_of_ble_eq_true rfl) rfl ?_
  exact (znone hf).elim
theorem cx_X6_replace (l : Launch) (hfl : l.stackTraces = false) (st : zSt) (a0 : Int32) (a1 : Int32) (out : Nat × zSt) (hf : fx_X6_replace st a0 a1 = some out) : zMx l yX6_replace cX6_replace 5 (some .int) zrx_X6_replace 98 shC (fun ad => [.ref (ad 0), .int a0, .int a1]) st out.1 out.2 :=
  zmx_of hfl (by decide) (fun _ => Nat.le_of_ble_eq_true rfl) (by decide) (fun X _ hnl hX hQ => tx_X6_replace X out hX hQ hnl st a0 a1 hf)
abbrev zrx_X6_pass : Room := { frames := 7, cells := 1, slots := 6, locals := 110 }
def fx_X6_pass (st : zSt) (a0 : Int32) : Option (Nat × zSt) := ((f_X6_isWithin st a0 1 48).bind fun q1 => (zorx (fx_X6_demandArgument q1.2 q1.1) ((f_X6_demandArgument q1.2 q1.1).bind fun q3 => (if 9000 < ((q3.2.1 0 15) + a0) then some (3, q3.2) else none))))
set_option maxHeartbeats 4000000 in
set_option maxRecDepth 100000 in
theorem tx_X6_pass (X : zCx) (out : Nat × zSt) (hXX : zOkX X RX6 cX6_pass zrx_X6_pass) (hQ : zPostX X 98 shC out.1 out.2) (hnl : X.nL = 4) (st : zSt) (a0 : Int32) (hf : fx_X6_pass st a0 = some out) : zG 98 shC X st 0 [(0, .ref (X.ad 0)), (1, .int a0)] [] := by
  unfold fx_X6_pass at hf
  have hX := hXX.1
  refine z_iload_n hX 1 dX6_pass_0 rfl rfl ?_
  refine z_iconst (v := 1) hX dX6_pass_1 (by decide) ?_
  refine z_bipush (v := 48) hX dX6_pass_2 (by decide) ?_
  obtain ⟨q1, e2, hf⟩ := zbind hf
  refine z_callS (stk := []) (stk' := [.int q1.1]) hX (c_X6_isWithin X.l st a0 1 48 q1 e2) zb_X6_isWithin dX6_pass_4 zm_373 rfl rfl rfl ⟨by decide, by decide⟩ ⟨rfl, rfl⟩ (Nat.le_of_ble_eq_true rfl) rfl ?_
  rcases zorx_ex hf with x5 | ⟨_, hf⟩
  · exact z_xS (stk := []) hXX hQ (cx_X6_demandArgument X.l hXX.2.2.2.1 q1.2 q1.1 _ x5) zb_X6_demandArgument dX6_pass_7 zm_376 rfl rfl rfl ⟨by decide, by decide⟩ ⟨rfl, rfl⟩ (Nat.le_of_ble_eq_true rfl)
  obtain ⟨q3, e4, hf⟩ := zbind hf
  refine z_callS (stk := []) (stk' := []) hX (c_X6_demandArgument X.l q1.2 q1.1 q3 e4) zb_X6_demandArgument dX6_pass_7 zm_376 rfl rfl rfl ⟨by decide, by decide⟩ ⟨rfl, rfl⟩ (Nat.le_of_ble_eq_true rfl) rfl ?_
  refine z_aload_n hX 0 dX6_pass_10 rfl rfl ?_
  refine z_getI hX 0 15 dX6_pass_11 (by decide) shC_0 rfl rfl zin_X6 (by decide) zm_268 ?_
  refine z_iload_n hX 1 dX6_pass_14 rfl rfl ?_
  refine z_iadd hX dX6_pass_15 ?_
  refine z_sipush (v := 9000) hX dX6_pass_16 (by decide) ?_
  refine z_icmp_gt hX 26 dX6_pass_19 (by decide) (fun c6 => ?_) (fun c6 => ?_)
  · have hf := (if_pos c6).symm.trans hf
    refine z_iconst (v := 0) hX dX6_pass_26 (by decide) ?_
    obtain rfl := Option.some.inj hf
    exact z_xS (stk := []) hXX hQ (cx_X6_demandState X.l hXX.2.2.2.1 q3.2 0 (3, q3.2) (by unfold fx_X6_demandState; exact if_pos rfl)) zb_X6_demandState dX6_pass_27 zm_394 rfl rfl rfl ⟨by decide, by decide⟩ ⟨rfl, rfl⟩ (Nat.le_of_ble_eq_true rfl)
  have hf := (if_neg c6).symm.trans hf
  refine z_iconst (v := 1) hX dX6_pass_22 (by decide) ?_
  refine z_goto hX 27 dX6_pass_23 (by decide) ?_
  refine z_callS (stk := []) (stk' := []) hX (c_X6_demandState X.l q3.2 1 ((), q3.2) rfl) zb_X6_demandState dX6_pass_27 zm_394 rfl rfl rfl ⟨by decide, by decide⟩ ⟨rfl, rfl⟩ (Nat.le_of_ble_eq_true rfl) rfl ?_
  exact (znone hf).elim
theorem cx_X6_pass (l : Launch) (hfl : l.stackTraces = false) (st : zSt) (a0 : Int32) (out : Nat × zSt) (hf : fx_X6_pass st a0 = some out) : zMx l yX6_pass cX6_pass 4 (some .int) zrx_X6_pass 98 shC (fun ad => [.ref (ad 0), .int a0]) st out.1 out.2 :=
  zmx_of hfl (by decide) (fun _ => Nat.le_of_ble_eq_true rfl) (by decide) (fun X _ hnl hX hQ => tx_X6_pass X out hX hQ hnl st a0 hf)
abbrev zrx_X6_state : Room := { frames := 8, cells := 1, slots := 6, locals := 132 }
def fx_X6_state (st : zSt) (a0 : Int32) : Option (Nat × zSt) := (zorx (fx_X6_knownSailing st a0) ((f_X6_knownSailing st a0).bind fun q1 => none))
set_option maxHeartbeats 4000000 in
set_option maxRecDepth 100000 in
theorem tx_X6_state (X : zCx) (out : Nat × zSt) (hXX : zOkX X RX6 cX6_state zrx_X6_state) (hQ : zPostX X 98 shC out.1 out.2) (hnl : X.nL = 3) (st : zSt) (a0 : Int32) (hf : fx_X6_state st a0 = some out) : zG 98 shC X st 0 [(0, .ref (X.ad 0)), (1, .int a0)] [] := by
  unfold fx_X6_state at hf
  have hX := hXX.1
  refine z_aload_n hX 0 dX6_state_0 rfl rfl ?_
  refine z_iload_n hX 1 dX6_state_1 rfl rfl ?_
  rcases zorx_ex hf with x3 | ⟨_, hf⟩
  · exact z_xV (stk := []) hXX hQ (cx_X6_knownSailing X.l hXX.2.2.2.1 st a0 _ x3) zb_X6_knownSailing 0 dX6_state_2 zm_456 (by decide) shC_0 rfl rfl rfl rfl ⟨by decide, by decide⟩ ⟨rfl, rfl⟩ (Nat.le_of_ble_eq_true rfl)
  obtain ⟨q1, e2, hf⟩ := zbind hf
  refine z_callV (stk := []) (stk' := [.ref (X.ad q1.1)]) hX (c_X6_knownSailing X.l st a0 q1 e2) zb_X6_knownSailing 0 dX6_state_2 zm_456 (by decide) shC_0 rfl rfl rfl rfl ⟨by decide, by decide⟩ ⟨rfl, rfl⟩ (Nat.le_of_ble_eq_true rfl) rfl ?_
  exact (znone hf).elim
theorem cx_X6_state (l : Launch) (hfl : l.stackTraces = false) (st : zSt) (a0 : Int32) (out : Nat × zSt) (hf : fx_X6_state st a0 = some out) : zMx l yX6_state cX6_state 3 (some .int) zrx_X6_state 98 shC (fun ad => [.ref (ad 0), .int a0]) st out.1 out.2 :=
  zmx_of hfl (by decide) (fun _ => Nat.le_of_ble_eq_true rfl) (by decide) (fun X _ hnl hX hQ => tx_X6_state X out hX hQ hnl st a0 hf)
abbrev zrx_X6_ends : Room := { frames := 8, cells := 1, slots := 6, locals := 132 }
def fx_X6_ends (st : zSt) (a0 : Int32) : Option (Nat × zSt) := (zorx (fx_X6_knownSailing st a0) ((f_X6_knownSailing st a0).bind fun q1 => none))
set_option maxHeartbeats 4000000 in
set_option maxRecDepth 100000 in
theorem tx_X6_ends (X : zCx) (out : Nat × zSt) (hXX : zOkX X RX6 cX6_ends zrx_X6_ends) (hQ : zPostX X 98 shC out.1 out.2) (hnl : X.nL = 2) (st : zSt) (a0 : Int32) (hf : fx_X6_ends st a0 = some out) : zG 98 shC X st 0 [(0, .ref (X.ad 0)), (1, .int a0)] [] := by
  unfold fx_X6_ends at hf
  have hX := hXX.1
  refine z_aload_n hX 0 dX6_ends_0 rfl rfl ?_
  refine z_iload_n hX 1 dX6_ends_1 rfl rfl ?_
  rcases zorx_ex hf with x3 | ⟨_, hf⟩
  · exact z_xV (stk := []) hXX hQ (cx_X6_knownSailing X.l hXX.2.2.2.1 st a0 _ x3) zb_X6_knownSailing 0 dX6_ends_2 zm_456 (by decide) shC_0 rfl rfl rfl rfl ⟨by decide, by decide⟩ ⟨rfl, rfl⟩ (Nat.le_of_ble_eq_true rfl)
  obtain ⟨q1, e2, hf⟩ := zbind hf
  refine z_callV (stk := []) (stk' := [.ref (X.ad q1.1)]) hX (c_X6_knownSailing X.l st a0 q1 e2) zb_X6_knownSailing 0 dX6_ends_2 zm_456 (by decide) shC_0 rfl rfl rfl rfl ⟨by decide, by decide⟩ ⟨rfl, rfl⟩ (Nat.le_of_ble_eq_true rfl) rfl ?_
  exact (znone hf).elim
theorem cx_X6_ends (l : Launch) (hfl : l.stackTraces = false) (st : zSt) (a0 : Int32) (out : Nat × zSt) (hf : fx_X6_ends st a0 = some out) : zMx l yX6_ends cX6_ends 2 (some .int) zrx_X6_ends 98 shC (fun ad => [.ref (ad 0), .int a0]) st out.1 out.2 :=
  zmx_of hfl (by decide) (fun _ => Nat.le_of_ble_eq_true rfl) (by decide) (fun X _ hnl hX hQ => tx_X6_ends X out hX hQ hnl st a0 hf)
abbrev zrx_X6_busAfter : Room := { frames := 8, cells := 1, slots := 6, locals := 132 }
def fx_X6_busAfter (st : zSt) (a0 : Int32) : Option (Nat × zSt) := (zorx (fx_X6_knownSailing st a0) ((f_X6_knownSailing st a0).bind fun q1 => (zorx (fx_X6_demandIndex q1.2 (q1.2.1 q1.1 2) 6) ((f_X6_demandIndex q1.2 (q1.2.1 q1.1 2) 6).bind fun q4 => none))))
set_option maxHeartbeats 4000000 in
set_option maxRecDepth 100000 in
theorem tx_X6_busAfter (X : zCx) (out : Nat × zSt) (hXX : zOkX X RX6 cX6_busAfter zrx_X6_busAfter) (hQ : zPostX X 98 shC out.1 out.2) (hnl : X.nL = 4) (st : zSt) (a0 : Int32) (hf : fx_X6_busAfter st a0 = some out) : zG 98 shC X st 0 [(0, .ref (X.ad 0)), (1, .int a0)] [] := by
  unfold fx_X6_busAfter at hf
  have hX := hXX.1
  refine z_aload_n hX 0 dX6_busAfter_0 rfl rfl ?_
  refine z_iload_n hX 1 dX6_busAfter_1 rfl rfl ?_
  rcases zorx_ex hf with x3 | ⟨_, hf⟩
  · exact z_xV (stk := []) hXX hQ (cx_X6_knownSailing X.l hXX.2.2.2.1 st a0 _ x3) zb_X6_knownSailing 0 dX6_busAfter_2 zm_456 (by decide) shC_0 rfl rfl rfl rfl ⟨by decide, by decide⟩ ⟨rfl, rfl⟩ (Nat.le_of_ble_eq_true rfl)
  obtain ⟨q1, e2, hf⟩ := zbind hf
  refine z_callV (stk := []) (stk' := [.ref (X.ad q1.1)]) hX (c_X6_knownSailing X.l st a0 q1 e2) zb_X6_knownSailing 0 dX6_busAfter_2 zm_456 (by decide) shC_0 rfl rfl rfl rfl ⟨by decide, by decide⟩ ⟨rfl, rfl⟩ (Nat.le_of_ble_eq_true rfl) rfl ?_
  refine z_astore_n hX [(0, .ref (X.ad 0)), (1, .int a0), (2, .ref (X.ad q1.1))] dX6_busAfter_5 rfl (by rw [hnl]; decide) [1, 2, 0] rfl ?_
  refine z_aload_n hX 2 dX6_busAfter_6 rfl rfl ?_
  refine z_getIN hX q1.1 2 dX6_busAfter_7 (zlt_Sailing (rr_X6_knownSailing e2)) (zsh_Sailing (rr_X6_knownSailing e2)) rfl rfl zin_X3 (by decide) zm_152 ?_
  refine z_bipush (v := 6) hX dX6_busAfter_10 (by decide) ?_
  rcases zorx_ex hf with x6 | ⟨_, hf⟩
  · exact z_xS (stk := []) hXX hQ (cx_X6_demandIndex X.l hXX.2.2.2.1 q1.2 (q1.2.1 q1.1 2) 6 _ x6) zb_X6_demandIndex dX6_busAfter_12 zm_306 rfl rfl rfl ⟨by decide, by decide⟩ ⟨rfl, rfl⟩ (Nat.le_of_ble_eq_true rfl)
  obtain ⟨q4, e5, hf⟩ := zbind hf
  refine z_callS (stk := []) (stk' := []) hX (c_X6_demandIndex X.l q1.2 (q1.2.1 q1.1 2) 6 q4 e5) zb_X6_demandIndex dX6_busAfter_12 zm_306 rfl rfl rfl ⟨by decide, by decide⟩ ⟨rfl, rfl⟩ (Nat.le_of_ble_eq_true rfl) rfl ?_
  exact (znone hf).elim
theorem cx_X6_busAfter (l : Launch) (hfl : l.stackTraces = false) (st : zSt) (a0 : Int32) (out : Nat × zSt) (hf : fx_X6_busAfter st a0 = some out) : zMx l yX6_busAfter cX6_busAfter 4 (some .int) zrx_X6_busAfter 98 shC (fun ad => [.ref (ad 0), .int a0]) st out.1 out.2 :=
  zmx_of hfl (by decide) (fun _ => Nat.le_of_ble_eq_true rfl) (by decide) (fun X _ hnl hX hQ => tx_X6_busAfter X out hX hQ hnl st a0 hf)
abbrev zrx_X6_place : Room := { frames := 7, cells := 1, slots := 6, locals := 111 }
def fx_X6_place (st : zSt) (a0 : Int32) : Option (Nat × zSt) := (zorx (fx_X6_demandIndex st a0 (st.1 0 11)) ((f_X6_demandIndex st a0 (st.1 0 11)).bind fun q1 => none))
set_option maxHeartbeats 4000000 in
set_option maxRecDepth 100000 in
theorem tx_X6_place (X : zCx) (out : Nat × zSt) (hXX : zOkX X RX6 cX6_place zrx_X6_place) (hQ : zPostX X 98 shC out.1 out.2) (hnl : X.nL = 2) (st : zSt) (a0 : Int32) (hf : fx_X6_place st a0 = some out) : zG 98 shC X st 0 [(0, .ref (X.ad 0)), (1, .int a0)] [] := by
  unfold fx_X6_place at hf
  have hX := hXX.1
  refine z_iload_n hX 1 dX6_place_0 rfl rfl ?_
  refine z_aload_n hX 0 dX6_place_1 rfl rfl ?_
  refine z_getI hX 0 11 dX6_place_2 (by decide) shC_0 rfl rfl zin_X6 (by decide) zm_264 ?_
  rcases zorx_ex hf with x3 | ⟨_, hf⟩
  · exact z_xS (stk := []) hXX hQ (cx_X6_demandIndex X.l hXX.2.2.2.1 st a0 (st.1 0 11) _ x3) zb_X6_demandIndex dX6_place_5 zm_306 rfl rfl rfl ⟨by decide, by decide⟩ ⟨rfl, rfl⟩ (Nat.le_of_ble_eq_true rfl)
  obtain ⟨q1, e2, hf⟩ := zbind hf
  refine z_callS (stk := []) (stk' := []) hX (c_X6_demandIndex X.l st a0 (st.1 0 11) q1 e2) zb_X6_demandIndex dX6_place_5 zm_306 rfl rfl rfl ⟨by decide, by decide⟩ ⟨rfl, rfl⟩ (Nat.le_of_ble_eq_true rfl) rfl ?_
  exact (znone hf).elim
theorem cx_X6_place (l : Launch) (hfl : l.stackTraces = false) (st : zSt) (a0 : Int32) (out : Nat × zSt) (hf : fx_X6_place st a0 = some out) : zMx l yX6_place cX6_place 2 (some .int) zrx_X6_place 98 shC (fun ad => [.ref (ad 0), .int a0]) st out.1 out.2 :=
  zmx_of hfl (by decide) (fun _ => Nat.le_of_ble_eq_true rfl) (by decide) (fun X _ hnl hX hQ => tx_X6_place X out hX hQ hnl st a0 hf)
abbrev zrx_X6_placeByLine : Room := { frames := 7, cells := 1, slots := 6, locals := 111 }
def fx_X6_placeByLine (st : zSt) (a0 : Int32) (a1 : Int32) : Option (Nat × zSt) := (zorx (fx_X6_demandIndex st a0 (st.1 0 11)) ((f_X6_demandIndex st a0 (st.1 0 11)).bind fun q1 => ((f_X6_isWithin q1.2 a1 0 (q1.2.1 0 15)).bind fun q4 => (zorx (fx_X6_demandArgument q4.2 q4.1) ((f_X6_demandArgument q4.2 q4.1).bind fun q6 => none)))))
set_option maxHeartbeats 4000000 in
set_option maxRecDepth 100000 in
theorem tx_X6_placeByLine (X : zCx) (out : Nat × zSt) (hXX : zOkX X RX6 cX6_placeByLine zrx_X6_placeByLine) (hQ : zPostX X 98 shC out.1 out.2) (hnl : X.nL = 3) (st : zSt) (a0 : Int32) (a1 : Int32) (hf : fx_X6_placeByLine st a0 a1 = some out) : zG 98 shC X st 0 [(0, .ref (X.ad 0)), (1, .int a0), (2, .int a1)] [] := by
  unfold fx_X6_placeByLine at hf
  have hX := hXX.1
  refine z_iload_n hX 1 dX6_placeByLine_0 rfl rfl ?_
  refine z_aload_n hX 0 dX6_placeByLine_1 rfl rfl ?_
  refine z_getI hX 0 11 dX6_placeByLine_2 (by decide) shC_0 rfl rfl zin_X6 (by decide) zm_264 ?_
  rcases zorx_ex hf with x3 | ⟨_, hf⟩
  · exact z_xS (stk := []) hXX hQ (cx_X6_demandIndex X.l hXX.2.2.2.1 st a0 (st.1 0 11) _ x3) zb_X6_demandIndex dX6_placeByLine_5 zm_306 rfl rfl rfl ⟨by decide, by decide⟩ ⟨rfl, rfl⟩ (Nat.le_of_ble_eq_true rfl)
  obtain ⟨q1, e2, hf⟩ := zbind hf
  refine z_callS (stk := []) (stk' := []) hX (c_X6_demandIndex X.l st a0 (st.1 0 11) q1 e2) zb_X6_demandIndex dX6_placeByLine_5 zm_306 rfl rfl rfl ⟨by decide, by decide⟩ ⟨rfl, rfl⟩ (Nat.le_of_ble_eq_true rfl) rfl ?_
  refine z_iload_n hX 2 dX6_placeByLine_8 rfl rfl ?_
  refine z_iconst (v := 0) hX dX6_placeByLine_9 (by decide) ?_
  refine z_aload_n hX 0 dX6_placeByLine_10 rfl rfl ?_
  refine z_getI hX 0 15 dX6_placeByLine_11 (by decide) shC_0 rfl rfl zin_X6 (by decide) zm_268 ?_
  obtain ⟨q4, e5, hf⟩ := zbind hf
  refine z_callS (stk := []) (stk' := [.int q4.1]) hX (c_X6_isWithin X.l q1.2 a1 0 (q1.2.1 0 15) q4 e5) zb_X6_isWithin dX6_placeByLine_14 zm_373 rfl rfl rfl ⟨by decide, by decide⟩ ⟨rfl, rfl⟩ (Nat.le_of_ble_eq_true rfl) rfl ?_
  rcases zorx_ex hf with x8 | ⟨_, hf⟩
  · exact z_xS (stk := []) hXX hQ (cx_X6_demandArgument X.l hXX.2.2.2.1 q4.2 q4.1 _ x8) zb_X6_demandArgument dX6_placeByLine_17 zm_376 rfl rfl rfl ⟨by decide, by decide⟩ ⟨rfl, rfl⟩ (Nat.le_of_ble_eq_true rfl)
  obtain ⟨q6, e7, hf⟩ := zbind hf
  refine z_callS (stk := []) (stk' := []) hX (c_X6_demandArgument X.l q4.2 q4.1 q6 e7) zb_X6_demandArgument dX6_placeByLine_17 zm_376 rfl rfl rfl ⟨by decide, by decide⟩ ⟨rfl, rfl⟩ (Nat.le_of_ble_eq_true rfl) rfl ?_
  exact (znone hf).elim
theorem cx_X6_placeByLine (l : Launch) (hfl : l.stackTraces = false) (st : zSt) (a0 : Int32) (a1 : Int32) (out : Nat × zSt) (hf : fx_X6_placeByLine st a0 a1 = some out) : zMx l yX6_placeByLine cX6_placeByLine 3 (some .int) zrx_X6_placeByLine 98 shC (fun ad => [.ref (ad 0), .int a0, .int a1]) st out.1 out.2 :=
  zmx_of hfl (by decide) (fun _ => Nat.le_of_ble_eq_true rfl) (by decide) (fun X _ hnl hX hQ => tx_X6_placeByLine X out hX hQ hnl st a0 a1 hf)
abbrev zrx_X6_fuel : Room := { frames := 8, cells := 1, slots := 6, locals := 132 }
def fx_X6_fuel (st : zSt) (a0 : Int32) : Option (Nat × zSt) := (zorx (fx_X6_knownShip st a0) ((f_X6_knownShip st a0).bind fun q1 => none))
set_option maxHeartbeats 4000000 in
set_option maxRecDepth 100000 in
theorem tx_X6_fuel (X : zCx) (out : Nat × zSt) (hXX : zOkX X RX6 cX6_fuel zrx_X6_fuel) (hQ : zPostX X 98 shC out.1 out.2) (hnl : X.nL = 2) (st : zSt) (a0 : Int32) (hf : fx_X6_fuel st a0 = some out) : zG 98 shC X st 0 [(0, .ref (X.ad 0)), (1, .int a0)] [] := by
  unfold fx_X6_fuel at hf
  have hX := hXX.1
  refine z_aload_n hX 0 dX6_fuel_0 rfl rfl ?_
  refine z_iload_n hX 1 dX6_fuel_1 rfl rfl ?_
  rcases zorx_ex hf with x3 | ⟨_, hf⟩
  · exact z_xV (stk := []) hXX hQ (cx_X6_knownShip X.l hXX.2.2.2.1 st a0 _ x3) zb_X6_knownShip 0 dX6_fuel_2 zm_412 (by decide) shC_0 rfl rfl rfl rfl ⟨by decide, by decide⟩ ⟨rfl, rfl⟩ (Nat.le_of_ble_eq_true rfl)
  obtain ⟨q1, e2, hf⟩ := zbind hf
  refine z_callV (stk := []) (stk' := [.ref (X.ad q1.1)]) hX (c_X6_knownShip X.l st a0 q1 e2) zb_X6_knownShip 0 dX6_fuel_2 zm_412 (by decide) shC_0 rfl rfl rfl rfl ⟨by decide, by decide⟩ ⟨rfl, rfl⟩ (Nat.le_of_ble_eq_true rfl) rfl ?_
  exact (znone hf).elim
theorem cx_X6_fuel (l : Launch) (hfl : l.stackTraces = false) (st : zSt) (a0 : Int32) (out : Nat × zSt) (hf : fx_X6_fuel st a0 = some out) : zMx l yX6_fuel cX6_fuel 2 (some .int) zrx_X6_fuel 98 shC (fun ad => [.ref (ad 0), .int a0]) st out.1 out.2 :=
  zmx_of hfl (by decide) (fun _ => Nat.le_of_ble_eq_true rfl) (by decide) (fun X _ hnl hX hQ => tx_X6_fuel X out hX hQ hnl st a0 hf)
abbrev zrx_X6_book : Room := { frames := 8, cells := 1, slots := 6, locals := 132 }
def fx_X6_book_47  (st : zSt) (v1 : Int32) (v2 : Int32) (v3 : Int32) (v4 : Int32) (v5 : Int32) (v6 : Int32) (r7 : Nat) : Option (Nat × zSt) := some (3, st)
def fx_X6_book (st : zSt) (a0 : Int32) (a1 : Int32) (a2 : Int32) (a3 : Int32) (a4 : Int32) (a5 : Int32) : Option (Nat × zSt) := (zorx (fx_X6_demandIndex st a0 10) ((f_X6_demandIndex st a0 10).bind fun q1 => (zorx (fx_X6_knownSailing q1.2 a1) ((f_X6_knownSailing q1.2 a1).bind fun q4 => ((f_X6_isBookable q4.2 a2 a3 a4 a5).bind fun q7 => (zorx (fx_X6_demandArgument q7.2 q7.1) ((f_X6_demandArgument q7.2 q7.1).bind fun q9 => (if (q9.2.1 q4.1 6) = 0 then (if 40 ≤ (q9.2.1 0 14) then fx_X6_book_47 q9.2 a0 a1 a2 a3 a4 a5 q4.1 else none) else fx_X6_book_47 q9.2 a0 a1 a2 a3 a4 a5 q4.1))))))))
set_option maxHeartbeats 4000000 in
set_option maxRecDepth 100000 in
theorem tx_X6_book_47 (X : zCx) (out : Nat × zSt) (hXX : zOkX X RX6 cX6_book zrx_X6_book) (hQ : zPostX X 98 shC out.1 out.2) (hnl : X.nL = 10) (st : zSt) (v1 : Int32) (v2 : Int32) (v3 : Int32) (v4 : Int32) (v5 : Int32) (v6 : Int32) (r7 : Nat) (hr7 : zkSailing r7) (hf : fx_X6_book_47  st v1 v2 v3 v4 v5 v6 r7 = some out) : zG 98 shC X st 47 [(0, .ref (X.ad 0)), (1, .int v1), (2, .int v2), (3, .int v3), (4, .int v4), (5, .int v5), (6, .int v6), (7, .ref (X.ad r7))] [] := by
  unfold fx_X6_book_47 at hf
  have hX := hXX.1
  refine z_iconst (v := 0) hX dX6_book_47 (by decide) ?_
  obtain rfl := Option.some.inj hf
  exact z_xS (stk := []) hXX hQ (cx_X6_demandState X.l hXX.2.2.2.1 st 0 (3, st) (by unfold fx_X6_demandState; exact if_pos rfl)) zb_X6_demandState dX6_book_48 zm_394 rfl rfl rfl ⟨by decide, by decide⟩ ⟨rfl, rfl⟩ (Nat.le_of_ble_eq_true rfl)
set_option maxHeartbeats 4000000 in
set_option maxRecDepth 100000 in
theorem tx_X6_book (X : zCx) (out : Nat × zSt) (hXX : zOkX X RX6 cX6_book zrx_X6_book) (hQ : zPostX X 98 shC out.1 out.2) (hnl : X.nL = 10) (st : zSt) (a0 : Int32) (a1 : Int32) (a2 : Int32) (a3 : Int32) (a4 : Int32) (a5 : Int32) (hf : fx_X6_book st a0 a1 a2 a3 a4 a5 = some out) : zG 98 shC X st 0 [(0, .ref (X.ad 0)), (1, .int a0), (2, .int a1), (3, .int a2), (4, .int a3), (5, .int a4), (6, .int a5)] [] := by
  unfold fx_X6_book at hf
  have hX := hXX.1
  refine z_iload_n hX 1 dX6_book_0 rfl rfl ?_
  refine z_bipush (v := 10) hX dX6_book_1 (by decide) ?_
  rcases zorx_ex hf with x3 | ⟨_, hf⟩
  · exact z_xS (stk := []) hXX hQ (cx_X6_demandIndex X.l hXX.2.2.2.1 st a0 10 _ x3) zb_X6_demandIndex dX6_book_3 zm_306 rfl rfl rfl ⟨by decide, by decide⟩ ⟨rfl, rfl⟩ (Nat.le_of_ble_eq_true rfl)
  obtain ⟨q1, e2, hf⟩ := zbind hf
  refine z_callS (stk := []) (stk' := []) hX (c_X6_demandIndex X.l st a0 10 q1 e2) zb_X6_demandIndex dX6_book_3 zm_306 rfl rfl rfl ⟨by decide, by decide⟩ ⟨rfl, rfl⟩ (Nat.le_of_ble_eq_true rfl) rfl ?_
  refine z_aload_n hX 0 dX6_book_6 rfl rfl ?_
  refine z_iload_n hX 2 dX6_book_7 rfl rfl ?_
  rcases zorx_ex hf with x6 | ⟨_, hf⟩
  · exact z_xV (stk := []) hXX hQ (cx_X6_knownSailing X.l hXX.2.2.2.1 q1.2 a1 _ x6) zb_X6_knownSailing 0 dX6_book_8 zm_456 (by decide) shC_0 rfl rfl rfl rfl ⟨by decide, by decide⟩ ⟨rfl, rfl⟩ (Nat.le_of_ble_eq_true rfl)
  obtain ⟨q4, e5, hf⟩ := zbind hf
  refine z_callV (stk := []) (stk' := [.ref (X.ad q4.1)]) hX (c_X6_knownSailing X.l q1.2 a1 q4 e5) zb_X6_knownSailing 0 dX6_book_8 zm_456 (by decide) shC_0 rfl rfl rfl rfl ⟨by decide, by decide⟩ ⟨rfl, rfl⟩ (Nat.le_of_ble_eq_true rfl) rfl ?_
  refine z_astore hX [(0, .ref (X.ad 0)), (1, .int a0), (2, .int a1), (3, .int a2), (4, .int a3), (5, .int a4), (6, .int a5), (7, .ref (X.ad q4.1))] dX6_book_11 (by rw [hnl]; decide) [1, 2, 3, 4, 5, 6, 7, 0] rfl ?_
  refine z_iload_n hX 3 dX6_book_13 rfl rfl ?_
  refine z_iload hX 4 dX6_book_14 rfl ?_
  refine z_iload hX 5 dX6_book_16 rfl ?_
  refine z_iload hX 6 dX6_book_18 rfl ?_
  obtain ⟨q7, e8, hf⟩ := zbind hf
  refine z_callS (stk := []) (stk' := [.int q7.1]) hX (c_X6_isBookable X.l q4.2 a2 a3 a4 a5 q7 e8) zb_X6_isBookable dX6_book_20 zm_642 rfl rfl rfl ⟨by decide, by decide⟩ ⟨rfl, rfl⟩ (Nat.le_of_ble_eq_true rfl) rfl ?_
  rcases zorx_ex hf with x11 | ⟨_, hf⟩
  · exact z_xS (stk := []) hXX hQ (cx_X6_demandArgument X.l hXX.2.2.2.1 q7.2 q7.1 _ x11) zb_X6_demandArgument dX6_book_23 zm_376 rfl rfl rfl ⟨by decide, by decide⟩ ⟨rfl, rfl⟩ (Nat.le_of_ble_eq_true rfl)
  obtain ⟨q9, e10, hf⟩ := zbind hf
  refine z_callS (stk := []) (stk' := []) hX (c_X6_demandArgument X.l q7.2 q7.1 q9 e10) zb_X6_demandArgument dX6_book_23 zm_376 rfl rfl rfl ⟨by decide, by decide⟩ ⟨rfl, rfl⟩ (Nat.le_of_ble_eq_true rfl) rfl ?_
  refine z_aload hX 7 dX6_book_26 rfl ?_
  refine z_getIN hX q4.1 6 dX6_book_28 (zlt_Sailing (rr_X6_knownSailing e5)) (zsh_Sailing (rr_X6_knownSailing e5)) rfl rfl zin_X3 (by decide) zm_160 ?_
  refine z_if_ne hX 47 dX6_book_31 (by decide) (fun c12 => ?_) (fun c12 => ?_)
  · have hf := (if_neg c12).symm.trans hf
    exact tx_X6_book_47 X out hXX hQ hnl q9.2 a0 a1 a2 a3 a4 a5 q4.1 (rr_X6_knownSailing e5) hf
  have hf := (if_pos c12).symm.trans hf
  refine z_aload_n hX 0 dX6_book_34 rfl rfl ?_
  refine z_getI hX 0 14 dX6_book_35 (by decide) shC_0 rfl rfl zin_X6 (by decide) zm_267 ?_
  refine z_bipush (v := 40) hX dX6_book_38 (by decide) ?_
  refine z_icmp_ge hX 47 dX6_book_40 (by decide) (fun c13 => ?_) (fun c13 => ?_)
  · have hf := (if_pos c13).symm.trans hf
    exact tx_X6_book_47 X out hXX hQ hnl q9.2 a0 a1 a2 a3 a4 a5 q4.1 (rr_X6_knownSailing e5) hf
  have hf := (if_neg c13).symm.trans hf
  refine z_iconst (v := 1) hX dX6_book_43 (by decide) ?_
  refine z_goto hX 48 dX6_book_44 (by decide) ?_
  refine z_callS (stk := []) (stk' := []) hX (c_X6_demandState X.l q9.2 1 ((), q9.2) rfl) zb_X6_demandState dX6_book_48 zm_394 rfl rfl rfl ⟨by decide, by decide⟩ ⟨rfl, rfl⟩ (Nat.le_of_ble_eq_true rfl) rfl ?_
  exact (znone hf).elim
theorem cx_X6_book (l : Launch) (hfl : l.stackTraces = false) (st : zSt) (a0 : Int32) (a1 : Int32) (a2 : Int32) (a3 : Int32) (a4 : Int32) (a5 : Int32) (out : Nat × zSt) (hf : fx_X6_book st a0 a1 a2 a3 a4 a5 = some out) : zMx l yX6_book cX6_book 10 (some .int) zrx_X6_book 98 shC (fun ad => [.ref (ad 0), .int a0, .int a1, .int a2, .int a3, .int a4, .int a5]) st out.1 out.2 :=
  zmx_of hfl (by decide) (fun _ => Nat.le_of_ble_eq_true rfl) (by decide) (fun X _ hnl hX hQ => tx_X6_book X out hX hQ hnl st a0 a1 a2 a3 a4 a5 hf)
abbrev zrx_X6_sailingOf : Room := { frames := 8, cells := 1, slots := 6, locals := 132 }
def fx_X6_sailingOf (st : zSt) (a0 : Int32) : Option (Nat × zSt) := (zorx (fx_X6_knownBooking st a0) ((f_X6_knownBooking st a0).bind fun q1 => none))
set_option maxHeartbeats 4000000 in
set_option maxRecDepth 100000 in
theorem tx_X6_sailingOf (X : zCx) (out : Nat × zSt) (hXX : zOkX X RX6 cX6_sailingOf zrx_X6_sailingOf) (hQ : zPostX X 98 shC out.1 out.2) (hnl : X.nL = 2) (st : zSt) (a0 : Int32) (hf : fx_X6_sailingOf st a0 = some out) : zG 98 shC X st 0 [(0, .ref (X.ad 0)), (1, .int a0)] [] := by
  unfold fx_X6_sailingOf at hf
  have hX := hXX.1
  refine z_aload_n hX 0 dX6_sailingOf_0 rfl rfl ?_
  refine z_iload_n hX 1 dX6_sailingOf_1 rfl rfl ?_
  rcases zorx_ex hf with x3 | ⟨_, hf⟩
  · exact z_xV (stk := []) hXX hQ (cx_X6_knownBooking X.l hXX.2.2.2.1 st a0 _ x3) zb_X6_knownBooking 0 dX6_sailingOf_2 zm_503 (by decide) shC_0 rfl rfl rfl rfl ⟨by decide, by decide⟩ ⟨rfl, rfl⟩ (Nat.le_of_ble_eq_true rfl)
  obtain ⟨q1, e2, hf⟩ := zbind hf
  refine z_callV (stk := []) (stk' := [.ref (X.ad q1.1)]) hX (c_X6_knownBooking X.l st a0 q1 e2) zb_X6_knownBooking 0 dX6_sailingOf_2 zm_503 (by decide) shC_0 rfl rfl rfl rfl ⟨by decide, by decide⟩ ⟨rfl, rfl⟩ (Nat.le_of_ble_eq_true rfl) rfl ?_
  exact (znone hf).elim
theorem cx_X6_sailingOf (l : Launch) (hfl : l.stackTraces = false) (st : zSt) (a0 : Int32) (out : Nat × zSt) (hf : fx_X6_sailingOf st a0 = some out) : zMx l yX6_sailingOf cX6_sailingOf 2 (some .int) zrx_X6_sailingOf 98 shC (fun ad => [.ref (ad 0), .int a0]) st out.1 out.2 :=
  zmx_of hfl (by decide) (fun _ => Nat.le_of_ble_eq_true rfl) (by decide) (fun X _ hnl hX hQ => tx_X6_sailingOf X out hX hQ hnl st a0 hf)
abbrev zrx_X6_lane : Room := { frames := 8, cells := 1, slots := 6, locals := 132 }
def fx_X6_lane (st : zSt) (a0 : Int32) : Option (Nat × zSt) := (zorx (fx_X6_knownBooking st a0) ((f_X6_knownBooking st a0).bind fun q1 => none))
set_option maxHeartbeats 4000000 in
set_option maxRecDepth 100000 in
theorem tx_X6_lane (X : zCx) (out : Nat × zSt) (hXX : zOkX X RX6 cX6_lane zrx_X6_lane) (hQ : zPostX X 98 shC out.1 out.2) (hnl : X.nL = 2) (st : zSt) (a0 : Int32) (hf : fx_X6_lane st a0 = some out) : zG 98 shC X st 0 [(0, .ref (X.ad 0)), (1, .int a0)] [] := by
  unfold fx_X6_lane at hf
  have hX := hXX.1
  refine z_aload_n hX 0 dX6_lane_0 rfl rfl ?_
  refine z_iload_n hX 1 dX6_lane_1 rfl rfl ?_
  rcases zorx_ex hf with x3 | ⟨_, hf⟩
  · exact z_xV (stk := []) hXX hQ (cx_X6_knownBooking X.l hXX.2.2.2.1 st a0 _ x3) zb_X6_knownBooking 0 dX6_lane_2 zm_503 (by decide) shC_0 rfl rfl rfl rfl ⟨by decide, by decide⟩ ⟨rfl, rfl⟩ (Nat.le_of_ble_eq_true rfl)
  obtain ⟨q1, e2, hf⟩ := zbind hf
  refine z_callV (stk := []) (stk' := [.ref (X.ad q1.1)]) hX (c_X6_knownBooking X.l st a0 q1 e2) zb_X6_knownBooking 0 dX6_lane_2 zm_503 (by decide) shC_0 rfl rfl rfl rfl ⟨by decide, by decide⟩ ⟨rfl, rfl⟩ (Nat.le_of_ble_eq_true rfl) rfl ?_
  exact (znone hf).elim
theorem cx_X6_lane (l : Launch) (hfl : l.stackTraces = false) (st : zSt) (a0 : Int32) (out : Nat × zSt) (hf : fx_X6_lane st a0 = some out) : zMx l yX6_lane cX6_lane 2 (some .int) zrx_X6_lane 98 shC (fun ad => [.ref (ad 0), .int a0]) st out.1 out.2 :=
  zmx_of hfl (by decide) (fun _ => Nat.le_of_ble_eq_true rfl) (by decide) (fun X _ hnl hX hQ => tx_X6_lane X out hX hQ hnl st a0 hf)
abbrev zrx_X6_paid : Room := { frames := 8, cells := 1, slots := 6, locals := 132 }
def fx_X6_paid (st : zSt) (a0 : Int32) : Option (Nat × zSt) := (zorx (fx_X6_knownBooking st a0) ((f_X6_knownBooking st a0).bind fun q1 => none))
set_option maxHeartbeats 4000000 in
set_option maxRecDepth 100000 in
theorem tx_X6_paid (X : zCx) (out : Nat × zSt) (hXX : zOkX X RX6 cX6_paid zrx_X6_paid) (hQ : zPostX X 98 shC out.1 out.2) (hnl : X.nL = 2) (st : zSt) (a0 : Int32) (hf : fx_X6_paid st a0 = some out) : zG 98 shC X st 0 [(0, .ref (X.ad 0)), (1, .int a0)] [] := by
  unfold fx_X6_paid at hf
  have hX := hXX.1
  refine z_aload_n hX 0 dX6_paid_0 rfl rfl ?_
  refine z_iload_n hX 1 dX6_paid_1 rfl rfl ?_
  rcases zorx_ex hf with x3 | ⟨_, hf⟩
  · exact z_xV (stk := []) hXX hQ (cx_X6_knownBooking X.l hXX.2.2.2.1 st a0 _ x3) zb_X6_knownBooking 0 dX6_paid_2 zm_503 (by decide) shC_0 rfl rfl rfl rfl ⟨by decide, by decide⟩ ⟨rfl, rfl⟩ (Nat.le_of_ble_eq_true rfl)
  obtain ⟨q1, e2, hf⟩ := zbind hf
  refine z_callV (stk := []) (stk' := [.ref (X.ad q1.1)]) hX (c_X6_knownBooking X.l st a0 q1 e2) zb_X6_knownBooking 0 dX6_paid_2 zm_503 (by decide) shC_0 rfl rfl rfl rfl ⟨by decide, by decide⟩ ⟨rfl, rfl⟩ (Nat.le_of_ble_eq_true rfl) rfl ?_
  exact (znone hf).elim
theorem cx_X6_paid (l : Launch) (hfl : l.stackTraces = false) (st : zSt) (a0 : Int32) (out : Nat × zSt) (hf : fx_X6_paid st a0 = some out) : zMx l yX6_paid cX6_paid 2 (some .int) zrx_X6_paid 98 shC (fun ad => [.ref (ad 0), .int a0]) st out.1 out.2 :=
  zmx_of hfl (by decide) (fun _ => Nat.le_of_ble_eq_true rfl) (by decide) (fun X _ hnl hX hQ => tx_X6_paid X out hX hQ hnl st a0 hf)
abbrev zrx_X6_taken : Room := { frames := 7, cells := 1, slots := 6, locals := 111 }
def fx_X6_taken (st : zSt) (a0 : Int32) : Option (Nat × zSt) := (zorx (fx_X6_demandIndex st a0 (st.1 0 13)) ((f_X6_demandIndex st a0 (st.1 0 13)).bind fun q1 => none))
set_option maxHeartbeats 4000000 in
set_option maxRecDepth 100000 in
theorem tx_X6_taken (X : zCx) (out : Nat × zSt) (hXX : zOkX X RX6 cX6_taken zrx_X6_taken) (hQ : zPostX X 98 shC out.1 out.2) (hnl : X.nL = 5) (st : zSt) (a0 : Int32) (hf : fx_X6_taken st a0 = some out) : zG 98 shC X st 0 [(0, .ref (X.ad 0)), (1, .int a0)] [] := by
  unfold fx_X6_taken at hf
  have hX := hXX.1
  refine z_iload_n hX 1 dX6_taken_0 rfl rfl ?_
  refine z_aload_n hX 0 dX6_taken_1 rfl rfl ?_
  refine z_getI hX 0 13 dX6_taken_2 (by decide) shC_0 rfl rfl zin_X6 (by decide) zm_266 ?_
  rcases zorx_ex hf with x3 | ⟨_, hf⟩
  · exact z_xS (stk := []) hXX hQ (cx_X6_demandIndex X.l hXX.2.2.2.1 st a0 (st.1 0 13) _ x3) zb_X6_demandIndex dX6_taken_5 zm_306 rfl rfl rfl ⟨by decide, by decide⟩ ⟨rfl, rfl⟩ (Nat.le_of_ble_eq_true rfl)
  obtain ⟨q1, e2, hf⟩ := zbind hf
  refine z_callS (stk := []) (stk' := []) hX (c_X6_demandIndex X.l st a0 (st.1 0 13) q1 e2) zb_X6_demandIndex dX6_taken_5 zm_306 rfl rfl rfl ⟨by decide, by decide⟩ ⟨rfl, rfl⟩ (Nat.le_of_ble_eq_true rfl) rfl ?_
  exact (znone hf).elim
theorem cx_X6_taken (l : Launch) (hfl : l.stackTraces = false) (st : zSt) (a0 : Int32) (out : Nat × zSt) (hf : fx_X6_taken st a0 = some out) : zMx l yX6_taken cX6_taken 5 (some .int) zrx_X6_taken 98 shC (fun ad => [.ref (ad 0), .int a0]) st out.1 out.2 :=
  zmx_of hfl (by decide) (fun _ => Nat.le_of_ble_eq_true rfl) (by decide) (fun X _ hnl hX hQ => tx_X6_taken X out hX hQ hnl st a0 hf)
abbrev zrx_X6_list : Room := { frames := 8, cells := 1, slots := 6, locals := 132 }
def fx_X6_list (st : zSt) (a0 : Int32) : Option (Nat × zSt) := (zorx (fx_X6_knownSailing st a0) ((f_X6_knownSailing st a0).bind fun q1 => (if (q1.2.1 q1.1 6) = 2 then none else some (4, q1.2))))
set_option maxHeartbeats 4000000 in
set_option maxRecDepth 100000 in
theorem tx_X6_list (X : zCx) (out : Nat × zSt) (hXX : zOkX X RX6 cX6_list zrx_X6_list) (hQ : zPostX X 98 shC out.1 out.2) (hnl : X.nL = 3) (st : zSt) (a0 : Int32) (hf : fx_X6_list st a0 = some out) : zG 98 shC X st 0 [(0, .ref (X.ad 0)), (1, .int a0)] [] := by
  unfold fx_X6_list at hf
  have hX := hXX.1
  refine z_aload_n hX 0 dX6_list_0 rfl rfl ?_
  refine z_iload_n hX 1 dX6_list_1 rfl rfl ?_
  rcases zorx_ex hf with x3 | ⟨_, hf⟩
  · exact z_xV (stk := []) hXX hQ (cx_X6_knownSailing X.l hXX.2.2.2.1 st a0 _ x3) zb_X6_knownSailing 0 dX6_list_2 zm_456 (by decide) shC_0 rfl rfl rfl rfl ⟨by decide, by decide⟩ ⟨rfl, rfl⟩ (Nat.le_of_ble_eq_true rfl)
  obtain ⟨q1, e2, hf⟩ := zbind hf
  refine z_callV (stk := []) (stk' := [.ref (X.ad q1.1)]) hX (c_X6_knownSailing X.l st a0 q1 e2) zb_X6_knownSailing 0 dX6_list_2 zm_456 (by decide) shC_0 rfl rfl rfl rfl ⟨by decide, by decide⟩ ⟨rfl, rfl⟩ (Nat.le_of_ble_eq_true rfl) rfl ?_
  refine z_astore_n hX [(0, .ref (X.ad 0)), (1, .int a0), (2, .ref (X.ad q1.1))] dX6_list_5 rfl (by rw [hnl]; decide) [1, 2, 0] rfl ?_
  refine z_aload_n hX 2 dX6_list_6 rfl rfl ?_
  refine z_getIN hX q1.1 6 dX6_list_7 (zlt_Sailing (rr_X6_knownSailing e2)) (zsh_Sailing (rr_X6_knownSailing e2)) rfl rfl zin_X3 (by decide) zm_160 ?_
  refine z_iconst (v := 2) hX dX6_list_10 (by decide) ?_
  refine z_icmp_eq hX 22 dX6_list_11 (by decide) (fun c4 => ?_) (fun c4 => ?_)
  · have hf := (if_pos c4).symm.trans hf
    exact (znone hf).elim
  have hf := (if_neg c4).symm.trans hf
  obtain rfl := Option.some.inj hf
  exact z_throw (k := 4) hXX hQ (by decide) (by decide) zm_689 zm_15 zat_4 dX6_list_14 dX6_list_17 dX6_list_18 dX6_list_21 ⟨by decide, Nat.le_of_ble_eq_true rfl⟩
theorem cx_X6_list (l : Launch) (hfl : l.stackTraces = false) (st : zSt) (a0 : Int32) (out : Nat × zSt) (hf : fx_X6_list st a0 = some out) : zMx l yX6_list cX6_list 3 (some .int) zrx_X6_list 98 shC (fun ad => [.ref (ad 0), .int a0]) st out.1 out.2 :=
  zmx_of hfl (by decide) (fun _ => Nat.le_of_ble_eq_true rfl) (by decide) (fun X _ hnl hX hQ => tx_X6_list X out hX hQ hnl st a0 hf)
abbrev zrx_X6_account : Room := { frames := 7, cells := 1, slots := 6, locals := 110 }
def fx_X6_account (st : zSt) (a0 : Int32) : Option (Nat × zSt) := ((f_X6_isWithin st a0 0 2).bind fun q1 => (zorx (fx_X6_demandArgument q1.2 q1.1) ((f_X6_demandArgument q1.2 q1.1).bind fun q3 => none)))
set_option maxHeartbeats 4000000 in
set_option maxRecDepth 100000 in
theorem tx_X6_account (X : zCx) (out : Nat × zSt) (hXX : zOkX X RX6 cX6_account zrx_X6_account) (hQ : zPostX X 98 shC out.1 out.2) (hnl : X.nL = 2) (st : zSt) (a0 : Int32) (hf : fx_X6_account st a0 = some out) : zG 98 shC X st 0 [(0, .ref (X.ad 0)), (1, .int a0)] [] := by
  unfold fx_X6_account at hf
  have hX := hXX.1
  refine z_iload_n hX 1 dX6_account_0 rfl rfl ?_
  refine z_iconst (v := 0) hX dX6_account_1 (by decide) ?_
  refine z_iconst (v := 2) hX dX6_account_2 (by decide) ?_
  obtain ⟨q1, e2, hf⟩ := zbind hf
  refine z_callS (stk := []) (stk' := [.int q1.1]) hX (c_X6_isWithin X.l st a0 0 2 q1 e2) zb_X6_isWithin dX6_account_3 zm_373 rfl rfl rfl ⟨by decide, by decide⟩ ⟨rfl, rfl⟩ (Nat.le_of_ble_eq_true rfl) rfl ?_
  rcases zorx_ex hf with x5 | ⟨_, hf⟩
  · exact z_xS (stk := []) hXX hQ (cx_X6_demandArgument X.l hXX.2.2.2.1 q1.2 q1.1 _ x5) zb_X6_demandArgument dX6_account_6 zm_376 rfl rfl rfl ⟨by decide, by decide⟩ ⟨rfl, rfl⟩ (Nat.le_of_ble_eq_true rfl)
  obtain ⟨q3, e4, hf⟩ := zbind hf
  refine z_callS (stk := []) (stk' := []) hX (c_X6_demandArgument X.l q1.2 q1.1 q3 e4) zb_X6_demandArgument dX6_account_6 zm_376 rfl rfl rfl ⟨by decide, by decide⟩ ⟨rfl, rfl⟩ (Nat.le_of_ble_eq_true rfl) rfl ?_
  exact (znone hf).elim
theorem cx_X6_account (l : Launch) (hfl : l.stackTraces = false) (st : zSt) (a0 : Int32) (out : Nat × zSt) (hf : fx_X6_account st a0 = some out) : zMx l yX6_account cX6_account 2 (some .long) zrx_X6_account 98 shC (fun ad => [.ref (ad 0), .int a0]) st out.1 out.2 :=
  zmx_of hfl (by decide) (fun _ => Nat.le_of_ble_eq_true rfl) (by decide) (fun X _ hnl hX hQ => tx_X6_account X out hX hQ hnl st a0 hf)
abbrev zrx_X6_accountAnew : Room := { frames := 7, cells := 1, slots := 6, locals := 110 }
def fx_X6_accountAnew_9  (st : zSt) (v1 : Int32) : Option (Nat × zSt) := none
def fx_X6_accountAnew (st : zSt) (a0 : Int32) : Option (Nat × zSt) := (if a0 = 0 then fx_X6_accountAnew_9 st a0 else (if a0 = 1 then fx_X6_accountAnew_9 st a0 else some (2, st)))
set_option maxHeartbeats 4000000 in
set_option maxRecDepth 100000 in
theorem tx_X6_accountAnew_9 (X : zCx) (out : Nat × zSt) (hXX : zOkX X RX6 cX6_accountAnew zrx_X6_accountAnew) (hQ : zPostX X 98 shC out.1 out.2) (hnl : X.nL = 6) (st : zSt) (v1 : Int32) (hf : fx_X6_accountAnew_9  st v1 = some out) : zG 98 shC X st 9 [(0, .ref (X.ad 0)), (1, .int v1)] [] := by
  unfold fx_X6_accountAnew_9 at hf
  have hX := hXX.1
  refine z_iconst (v := 1) hX dX6_accountAnew_9 (by decide) ?_
  refine z_goto hX 14 dX6_accountAnew_10 (by decide) ?_
  refine z_callS (stk := []) (stk' := []) hX (c_X6_demandArgument X.l st 1 ((), st) rfl) zb_X6_demandArgument dX6_accountAnew_14 zm_376 rfl rfl rfl ⟨by decide, by decide⟩ ⟨rfl, rfl⟩ (Nat.le_of_ble_eq_true rfl) rfl ?_
  exact (znone hf).elim
set_option maxHeartbeats 4000000 in
set_option maxRecDepth 100000 in
theorem tx_X6_accountAnew (X : zCx) (out : Nat × zSt) (hXX : zOkX X RX6 cX6_accountAnew zrx_X6_accountAnew) (hQ : zPostX X 98 shC out.1 out.2) (hnl : X.nL = 6) (st : zSt) (a0 : Int32) (hf : fx_X6_accountAnew st a0 = some out) : zG 98 shC X st 0 [(0, .ref (X.ad 0)), (1, .int a0)] [] := by
  unfold fx_X6_accountAnew at hf
  have hX := hXX.1
  refine z_iload_n hX 1 dX6_accountAnew_0 rfl rfl ?_
  refine z_if_eq hX 9 dX6_accountAnew_1 (by decide) (fun c1 => ?_) (fun c1 => ?_)
  · have hf := (if_pos c1).symm.trans hf
    exact tx_X6_accountAnew_9 X out hXX hQ hnl st a0 hf
  have hf := (if_neg c1).symm.trans hf
  refine z_iload_n hX 1 dX6_accountAnew_4 rfl rfl ?_
  refine z_iconst (v := 1) hX dX6_accountAnew_5 (by decide) ?_
  refine z_icmp_ne hX 13 dX6_accountAnew_6 (by decide) (fun c2 => ?_) (fun c2 => ?_)
  · have hf := (if_neg c2).symm.trans hf
    refine z_iconst (v := 0) hX dX6_accountAnew_13 (by decide) ?_
    obtain rfl := Option.some.inj hf
    exact z_xS (stk := []) hXX hQ (cx_X6_demandArgument X.l hXX.2.2.2.1 st 0 (2, st) (by unfold fx_X6_demandArgument; exact if_pos rfl)) zb_X6_demandArgument dX6_accountAnew_14 zm_376 rfl rfl rfl ⟨by decide, by decide⟩ ⟨rfl, rfl⟩ (Nat.le_of_ble_eq_true rfl)
  have hf := (if_pos c2).symm.trans hf
  exact tx_X6_accountAnew_9 X out hXX hQ hnl st a0 hf
theorem cx_X6_accountAnew (l : Launch) (hfl : l.stackTraces = false) (st : zSt) (a0 : Int32) (out : Nat × zSt) (hf : fx_X6_accountAnew st a0 = some out) : zMx l yX6_accountAnew cX6_accountAnew 6 (some .long) zrx_X6_accountAnew 98 shC (fun ad => [.ref (ad 0), .int a0]) st out.1 out.2 :=
  zmx_of hfl (by decide) (fun _ => Nat.le_of_ble_eq_true rfl) (by decide) (fun X _ hnl hX hQ => tx_X6_accountAnew X out hX hQ hnl st a0 hf)
