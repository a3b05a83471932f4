/-! the law's loop -/
section ZLW
theorem zl_sub {a k : Nat} : nI (k + 7) - 7 = nI k := by
  rw [show nI (k + 7) = nI k + nI 7 from (nI_add k 7).symm]
  exact Int32.add_sub_cancel _ _
theorem zl_lt {a L : Nat} (h : L ≤ a + 6) (ha : a < 100000) (hL : L ≤ 3584) : nI L - 7 < nI a := by
  rcases Nat.lt_or_ge L 7 with h7 | h7
  · have h0 : (0 : Int32) ≤ nI a := nI_pos' (by omega)
    have h1 : nI L - 7 < 0 := by
      rcases (show L = 0 ∨ L = 1 ∨ L = 2 ∨ L = 3 ∨ L = 4 ∨ L = 5 ∨ L = 6 by omega) with rfl | rfl | rfl | rfl | rfl | rfl | rfl <;> decide
    exact Int32.lt_of_lt_of_le h1 h0
  · obtain ⟨k, rfl⟩ : ∃ k, L = k + 7 := ⟨L - 7, by omega⟩
    rw [zl_sub (a := a)]
    exact nI_lt (by omega) (by omega)
theorem zl_nlt {a L : Nat} (h : a + 7 ≤ L) (hL : L ≤ 3584) : ¬ nI L - 7 < nI a := by
  obtain ⟨k, rfl⟩ : ∃ k, L = k + 7 := ⟨L - 7, by omega⟩
  rw [zl_sub (a := a)]
  exact nI_nlt (by omega) (by omega)
variable {own : String} {cc : ByteArray} {rm : Room}
theorem z_tabIn {X : zCx} {ws : va_W} {pc : Nat} {lv : List (Nat × Value)} {stk : List Value} (hX : zOk X own cc rm) {dflt lo hi : Int} {offs : Array Int} {len : Nat} {x : Int32} {off : Int} (tgt : Nat) (hdg : decode cc pc = .ok (.tableswitch dflt lo hi offs, len)) (h1 : ¬ x.toInt < lo) (h2 : ¬ hi < x.toInt) (ho : offs[(x.toInt - lo).toNat]? = some off) (ht : (pc : Int) + off = (tgt : Int)) (kk : zGw X ws tgt lv stk) : zGw X ws pc lv (.int x :: stk) := fun H locs ls hP hD hS hl => lv_tableIn hX.1.1 hX.1.2 hdg h1 h2 ho ht (kk H locs ls hP hD hS hl)
theorem z_tabOut {X : zCx} {ws : va_W} {pc : Nat} {lv : List (Nat × Value)} {stk : List Value} (hX : zOk X own cc rm) {dflt lo hi : Int} {offs : Array Int} {len : Nat} {x : Int32} (tgt : Nat) (hdg : decode cc pc = .ok (.tableswitch dflt lo hi offs, len)) (h : x.toInt < lo ∨ hi < x.toInt) (ht : (pc : Int) + dflt = (tgt : Int)) (kk : zGw X ws tgt lv stk) : zGw X ws pc lv (.int x :: stk) := fun H locs ls hP hD hS hl => lv_tableOut hX.1.1 hX.1.2 hdg h ht (kk H locs ls hP hD hS hl)
set_option maxHeartbeats 4000000 in
theorem zl_turn (X : zCx) (hX : zOk X RL code room_1) (hr : X.cells + 1 ≤ X.R.cells ∧ X.slots + 6 ≤ X.R.slots) (hZ : zXs X.A X.s X.s.heap) (hfl : X.l.stackTraces = false) {b0 L t : Nat} {xs : Nat → Int32} (hs : zScr X b0 L xs) (hnl : X.nL = 8) (ht : 7 * t ≤ 10000) (hL : L ≤ 3584) {adM : Nat → Nat} (stC stM : zSt) (hR : zR stC stM) (EXIT : zG 99 shC (zLC X adM stM) stC 1929 [(0, .ref b0), (1, .ref (X.ad 0)), (2, .ref (adM 0)), (3, .ref (X.ad 98)), (4, .int (nI (7 * t)))] []) (NEXT : 7 * t + 6 < L → ∀ u uM : zSt, zR u uM → zG 99 shC (zLC (zbump X) adM uM) u 1923 [(0, .ref b0), (1, .ref (X.ad 0)), (2, .ref (adM 0)), (3, .ref (X.ad 98)), (4, .int (nI (7 * t)))] []) : zG 99 shC (zLC X adM stM) stC 23 [(0, .ref b0), (1, .ref (X.ad 0)), (2, .ref (adM 0)), (3, .ref (X.ad 98)), (4, .int (nI (7 * t)))] [] := by
  have hXC := zLC_ok (adM := adM) (stM := stM) hX
  refine z_iload hXC 4 dL_law_23 rfl ?_
  refine z_aload_n hXC 0 dL_law_25 rfl rfl ?_
  refine z_slen (L := L) (xs := xs) hXC hs dL_law_26 ?_
  refine z_bipush hXC dL_law_27 (v := 7) (by decide) ?_
  refine z_isub hXC dL_law_29 ?_
  refine z_icmp_gt hXC 1929 dL_law_30 (by decide) (fun _ => EXIT) (fun hc => ?_)
  have h7 : 7 * t + 6 < L := Nat.lt_of_not_le fun q => hc (zl_lt q (by omega) hL)
  have NX := NEXT h7
  clear NEXT EXIT
  refine z_aload_n hXC 0 dL_law_33 rfl rfl ?_
  refine z_iload hXC 4 dL_law_34 rfl ?_
  refine z_sld (L := L) (xs := xs) (v := xs (nI (7 * t)).toNatClampNeg) hXC hs dL_law_36 (vp_in_nI (by omega) (by omega)) rfl ?_
  refine z_bipush hXC dL_law_37 (v := 31) (by decide) ?_
  refine z_iand hXC dL_law_39 ?_
  generalize xs (nI (7 * t)).toNatClampNeg &&& 31 = v
  by_cases hv : v.toInt < 0 ∨ 26 < v.toInt
  · refine z_tabOut hXC 1923 dL_law_40 hv (by decide) ?_
    exact z_widen (X := zLC X adM stM) (NX stC stM hR)
  · obtain ⟨k, hk⟩ : ∃ k : Nat, v.toInt = (k : Int) := Int.eq_ofNat_of_zero_le (by omega)
    have hk2 : k ≤ 26 := by omega
    have h1 : ¬ v.toInt < 0 := by omega
    have h2 : ¬ 26 < v.toInt := by omega
    clear hv
    match k, hk, hk2 with
    | 0, hk, _ => exact z_tabIn hXC 164 dL_law_40 h1 h2 (off := 124) (by rw [hk]; rfl) (by decide) (law_ship X hX hr hZ hs hnl h7 hL (zC_ship X.l hfl) stC stM hR NX)
    | 1, hk, _ => exact z_tabIn hXC 282 dL_law_40 h1 h2 (off := 242) (by rw [hk]; rfl) (by decide) (law_fill X hX hr hZ hs hnl h7 hL (zC_fill X.l hfl) stC stM hR NX)
    | 2, hk, _ => exact z_tabIn hXC 350 dL_law_40 h1 h2 (off := 310) (by rw [hk]; rfl) (by decide) (law_crew X hX hr hZ hs hnl h7 hL (zC_crew X.l hfl) stC stM hR NX)
    | 3, hk, _ => exact z_tabIn hXC 430 dL_law_40 h1 h2 (off := 390) (by rw [hk]; rfl) (by decide) (law_hours X hX hr hZ hs hnl h7 hL (zC_hours X.l hfl) stC stM hR NX)
    | 4, hk, _ => exact z_tabIn hXC 498 dL_law_40 h1 h2 (off := 458) (by rw [hk]; rfl) (by decide) (law_depth X hX hr hZ hs hnl h7 hL (zC_depth X.l hfl) stC stM hR NX)
    | 5, hk, _ => exact z_tabIn hXC 566 dL_law_40 h1 h2 (off := 526) (by rw [hk]; rfl) (by decide) (law_hinder X hX hr hZ hs hnl h7 hL (zC_hinder X.l hfl) stC stM hR NX)
    | 6, hk, _ => exact z_tabIn hXC 638 dL_law_40 h1 h2 (off := 598) (by rw [hk]; rfl) (by decide) (law_bus X hX hr hZ hs hnl h7 hL (zC_bus X.l hfl) stC stM hR NX)
    | 7, hk, _ => exact z_tabIn hXC 698 dL_law_40 h1 h2 (off := 658) (by rw [hk]; rfl) (by decide) (law_reside X hX hr hZ hs hnl h7 hL (zC_reside X.l hfl) stC stM hR NX)
    | 8, hk, _ => exact z_tabIn hXC 766 dL_law_40 h1 h2 (off := 726) (by rw [hk]; rfl) (by decide) (law_plan X hX hr hZ hs hnl h7 hL (zC_plan X.l hfl) stC stM hR NX)
    | 9, hk, _ => exact z_tabIn hXC 858 dL_law_40 h1 h2 (off := 818) (by rw [hk]; rfl) (by decide) (law_cancel X hX hr hZ hs hnl h7 hL (zC_cancel X.l hfl) stC stM hR NX)
    | 10, hk, _ => exact z_tabIn hXC 914 dL_law_40 h1 h2 (off := 874) (by rw [hk]; rfl) (by decide) (law_replace X hX hr hZ hs hnl h7 hL (zC_replace X.l hfl) stC stM hR NX)
    | 11, hk, _ => exact z_tabIn hXC 982 dL_law_40 h1 h2 (off := 942) (by rw [hk]; rfl) (by decide) (law_pass X hX hr hZ hs hnl h7 hL (zC_pass X.l hfl) stC stM hR NX)
    | 12, hk, _ => exact z_tabIn hXC 1038 dL_law_40 h1 h2 (off := 998) (by rw [hk]; rfl) (by decide) (law_now X hX hr hZ hs hnl h7 hL (zC_now X.l) stC stM hR NX)
    | 13, hk, _ => exact z_tabIn hXC 1051 dL_law_40 h1 h2 (off := 1011) (by rw [hk]; rfl) (by decide) (law_state X hX hr hZ hs hnl h7 hL (zC_state X.l hfl) stC stM hR NX)
    | 14, hk, _ => exact z_tabIn hXC 1107 dL_law_40 h1 h2 (off := 1067) (by rw [hk]; rfl) (by decide) (law_ends X hX hr hZ hs hnl h7 hL (zC_ends X.l hfl) stC stM hR NX)
    | 15, hk, _ => exact z_tabIn hXC 1163 dL_law_40 h1 h2 (off := 1123) (by rw [hk]; rfl) (by decide) (law_busAfter X hX hr hZ hs hnl h7 hL (zC_busAfter X.l hfl) stC stM hR NX)
    | 16, hk, _ => exact z_tabIn hXC 1219 dL_law_40 h1 h2 (off := 1179) (by rw [hk]; rfl) (by decide) (law_place X hX hr hZ hs hnl h7 hL (zC_place X.l hfl) stC stM hR NX)
    | 17, hk, _ => exact z_tabIn hXC 1275 dL_law_40 h1 h2 (off := 1235) (by rw [hk]; rfl) (by decide) (law_placeByLine X hX hr hZ hs hnl h7 hL (zC_placeByLine X.l hfl) stC stM hR NX)
    | 18, hk, _ => exact z_tabIn hXC 1343 dL_law_40 h1 h2 (off := 1303) (by rw [hk]; rfl) (by decide) (law_fuel X hX hr hZ hs hnl h7 hL (zC_fuel X.l hfl) stC stM hR NX)
    | 19, hk, _ => exact z_tabIn hXC 1399 dL_law_40 h1 h2 (off := 1359) (by rw [hk]; rfl) (by decide) (law_book X hX hr hZ hs hnl h7 hL (zC_book X.l hfl) stC stM hR NX)
    | 20, hk, _ => exact z_tabIn hXC 1533 dL_law_40 h1 h2 (off := 1493) (by rw [hk]; rfl) (by decide) (law_sailingOf X hX hr hZ hs hnl h7 hL (zC_sailingOf X.l hfl) stC stM hR NX)
    | 21, hk, _ => exact z_tabIn hXC 1589 dL_law_40 h1 h2 (off := 1549) (by rw [hk]; rfl) (by decide) (law_lane X hX hr hZ hs hnl h7 hL (zC_lane X.l hfl) stC stM hR NX)
    | 22, hk, _ => exact z_tabIn hXC 1645 dL_law_40 h1 h2 (off := 1605) (by rw [hk]; rfl) (by decide) (law_paid X hX hr hZ hs hnl h7 hL (zC_paid X.l hfl) stC stM hR NX)
    | 23, hk, _ => exact z_tabIn hXC 1701 dL_law_40 h1 h2 (off := 1661) (by rw [hk]; rfl) (by decide) (law_taken X hX hr hZ hs hnl h7 hL (zC_taken X.l hfl) stC stM hR NX)
    | 24, hk, _ => exact z_tabIn hXC 1757 dL_law_40 h1 h2 (off := 1717) (by rw [hk]; rfl) (by decide) (law_list X hX hr hZ hs hnl h7 hL (zC_list X.l hfl) stC stM hR NX)
    | 25, hk, _ => exact z_tabIn hXC 1813 dL_law_40 h1 h2 (off := 1773) (by rw [hk]; rfl) (by decide) (law_account X hX hr hZ hs hnl h7 hL (zC_account X.l hfl) stC stM hR NX)
    | 26, hk, _ => exact z_tabIn hXC 1868 dL_law_40 h1 h2 (off := 1828) (by rw [hk]; rfl) (by decide) (law_accountAnew X hX hr hZ hs hnl h7 hL (zC_accountAnew X.l hfl) stC stM hR NX)
    | k + 27, hk, hk2 => exact absurd hk2 (by omega)
theorem zl_loop (X : zCx) (hX : ∀ c n, c ≤ 601024 → n ≤ 7293034 → zOk (zat X c n) RL code room_1) (hRm : X.R = room_1) (hZ : zXs X.A X.s X.s.heap) (hfl : X.l.stackTraces = false) {b0 L : Nat} {xs : Nat → Int32} (hs : zScr X b0 L xs) (hnl : X.nL = 8) (hL : L ≤ 3584) {adM : Nat → Nat} (EXIT : ∀ (c n : Nat) (ws : va_W) (lv : List (Nat × Value)), c ≤ 601024 → n ≤ 7293034 → zGw (zat X c n) ws 1929 lv []) : ∀ (d t : Nat), L ≤ 7 * t + d → 7 * t ≤ 10000 → ∀ stC stM : zSt, zR stC stM → zG 99 shC (zLC (zat X (141 + t) (4852 + 6 * t)) adM stM) stC 23 [(0, .ref b0), (1, .ref (X.ad 0)), (2, .ref (adM 0)), (3, .ref (X.ad 98)), (4, .int (nI (7 * t)))] [] := by
  intro d
  induction d with
  | zero =>
    intro t hd ht stC stM hR
    exact zl_turn (zat X (141 + t) (4852 + 6 * t)) (hX _ _ (by omega) (by omega)) (by show 141 + t + 1 ≤ X.R.cells ∧ 4852 + 6 * t + 6 ≤ X.R.slots; rw [hRm]; show 141 + t + 1 ≤ 601024 ∧ 4852 + 6 * t + 6 ≤ 7293034; omega) hZ hfl hs hnl ht hL stC stM hR (EXIT (141 + t) (4852 + 6 * t) _ _ (by omega) (by omega)) (fun h => absurd h (by omega))
  | succ d ih =>
    intro t hd ht stC stM hR
    refine zl_turn (zat X (141 + t) (4852 + 6 * t)) (hX _ _ (by omega) (by omega)) (by show 141 + t + 1 ≤ X.R.cells ∧ 4852 + 6 * t + 6 ≤ X.R.slots; rw [hRm]; show 141 + t + 1 ≤ 601024 ∧ 4852 + 6 * t + 6 ≤ 7293034; omega) hZ hfl hs hnl ht hL stC stM hR (EXIT (141 + t) (4852 + 6 * t) _ _ (by omega) (by omega)) (fun h u uM hR2 => ?_)
    have hX2 := zLC_ok (adM := adM) (stM := uM) (hX (141 + t + 1) (4852 + 6 * t + 6) (by omega) (by omega))
    refine z_iinc (j := 4) (v := 7) hX2 [(0, .ref b0), (1, .ref (X.ad 0)), (2, .ref (adM 0)), (3, .ref (X.ad 98)), (4, .int (nI (7 * t) + 7))] dL_law_1923 rfl (by decide) (by show 4 < X.nL; rw [hnl]; decide) [1, 2, 3, 4, 0] rfl ?_
    refine z_goto hX2 23 dL_law_1926 (by decide) ?_
    have e1 : nI (7 * t) + 7 = nI (7 * (t + 1)) := (nI_add (7 * t) 7).trans (by rw [show 7 * t + 7 = 7 * (t + 1) by omega])
    have e2 : 4852 + 6 * t + 6 = 4852 + 6 * (t + 1) := by omega
    rw [e1]
    have h3 := ih (t + 1) (by omega) (by omega) u uM hR2
    rw [← e2] at h3
    exact h3
end ZLW
