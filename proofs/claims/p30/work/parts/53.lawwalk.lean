/-! the law's own walk -/
def f_L_law_112 (L : Nat) (xs : Nat → Int32) (K18 : zSt → Int32 → Int32 → Int32 → Int32 → Option (Unit × zSt)) (st : zSt) (v2 : Int32) (v3 : Int32) (v4 : Int32) (v5 : Int32) (v6 : Int32) : Option (Unit × zSt) := (if v4 = 0 then K18 st v2 v3 0 (v5 + 1) else ((f_L_low st (zshr v6 4) 1000).bind fun q34 => ((f_X6_fill q34.2 v5 (1 + q34.1)).bind fun q36 => (if q36.1 < 1 then K18 q36.2 v2 v3 0 (v5 + 1) else ((f_X6_crew q36.2 v5 0 200).bind fun q39 => (if q39.1 = v5 then K18 q39.2 v2 v3 1 (v5 + 1) else K18 q39.2 v2 v3 0 (v5 + 1)))))))
def f_L_law_947 (L : Nat) (xs : Nat → Int32) (K244 : zSt → Int32 → Int32 → Int32 → Int32 → Int32 → Option (Unit × zSt)) (st : zSt) (v2 : Int32) (v3 : Int32) (v4 : Int32) (v5 : Int32) (v6 : Int32) : Option (Unit × zSt) := (if v4 = 0 then K244 st v2 v3 0 v5 (v6 + 1) else ((f_L_all st v2 v3).bind fun q136 => (if q136.1 = 0 then K244 q136.2 v2 v3 0 v5 (v6 + 1) else K244 q136.2 v2 v3 1 v5 (v6 + 1))))
def f_L_law_817 (L : Nat) (xs : Nat → Int32) (K244 : zSt → Int32 → Int32 → Int32 → Int32 → Int32 → Option (Unit × zSt)) (st : zSt) (v2 : Int32) (v3 : Int32) (v4 : Int32) (v5 : Int32) (v6 : Int32) : Option (Unit × zSt) := f_L_law_947 L xs K244 st v2 v3 v4 v5 v6
def f_L_law_804 (L : Nat) (xs : Nat → Int32) (K244 : zSt → Int32 → Int32 → Int32 → Int32 → Int32 → Option (Unit × zSt)) (st : zSt) (v2 : Int32) (v3 : Int32) (v4 : Int32) (v5 : Int32) (v6 : Int32) (v11 : Int32) : Option (Unit × zSt) := (if v11 < 0 then f_L_law_817 L xs K244 st (v2 + 0) v3 v4 v5 v6 else f_L_law_817 L xs K244 st (v2 + 1) v3 v4 v5 v6)
def f_L_law_801 (L : Nat) (xs : Nat → Int32) (K244 : zSt → Int32 → Int32 → Int32 → Int32 → Int32 → Option (Unit × zSt)) (st : zSt) (v2 : Int32) (v3 : Int32) (v5 : Int32) (v6 : Int32) (v11 : Int32) : Option (Unit × zSt) := f_L_law_804 L xs K244 st v2 v3 0 v5 v6 v11
def f_L_law_598 (L : Nat) (xs : Nat → Int32) (K244 : zSt → Int32 → Int32 → Int32 → Int32 → Int32 → Option (Unit × zSt)) (st : zSt) (v2 : Int32) (v3 : Int32) (v4 : Int32) (v5 : Int32) (v6 : Int32) : Option (Unit × zSt) := f_L_law_947 L xs K244 st v2 v3 v4 v5 v6
def f_L_law_585 (L : Nat) (xs : Nat → Int32) (K244 : zSt → Int32 → Int32 → Int32 → Int32 → Int32 → Option (Unit × zSt)) (st : zSt) (v2 : Int32) (v3 : Int32) (v4 : Int32) (v5 : Int32) (v6 : Int32) (v13 : Int32) : Option (Unit × zSt) := (if v13 < 0 then f_L_law_598 L xs K244 st v2 (v3 + 0) v4 v5 v6 else f_L_law_598 L xs K244 st v2 (v3 + 1) v4 v5 v6)
def f_L_law_544 (L : Nat) (xs : Nat → Int32) (K244 : zSt → Int32 → Int32 → Int32 → Int32 → Int32 → Option (Unit × zSt)) (st : zSt) (v2 : Int32) (v3 : Int32) (v5 : Int32) (v6 : Int32) (v13 : Int32) : Option (Unit × zSt) := f_L_law_585 L xs K244 st v2 v3 1 v5 v6 v13
def f_L_law_582 (L : Nat) (xs : Nat → Int32) (K244 : zSt → Int32 → Int32 → Int32 → Int32 → Int32 → Option (Unit × zSt)) (st : zSt) (v2 : Int32) (v3 : Int32) (v5 : Int32) (v6 : Int32) (v13 : Int32) : Option (Unit × zSt) := f_L_law_585 L xs K244 st v2 v3 0 v5 v6 v13
def f_L_law_522 (L : Nat) (xs : Nat → Int32) (K244 : zSt → Int32 → Int32 → Int32 → Int32 → Int32 → Option (Unit × zSt)) (st : zSt) (v2 : Int32) (v3 : Int32) (v5 : Int32) (v6 : Int32) (v10 : Int32) (v13 : Int32) : Option (Unit × zSt) := (if v13 = (-9) then (if v3 = 40 then f_L_law_544 L xs K244 st v2 v3 v5 v6 v13 else ((f_X6_state st v10).bind fun q176 => (if q176.1 = 0 then f_L_law_585 L xs K244 q176.2 v2 v3 0 v5 v6 v13 else f_L_law_544 L xs K244 q176.2 v2 v3 v5 v6 v13))) else (if v13 = v3 then ((f_X6_sailingOf st v13).bind fun q169 => (if q169.1 = v10 then ((f_X6_paid q169.2 v13).bind fun q172 => (if q172.1 ≤ 0 then f_L_law_582 L xs K244 q172.2 v2 v3 v5 v6 v13 else f_L_law_585 L xs K244 q172.2 v2 v3 1 v5 v6 v13)) else f_L_law_582 L xs K244 q169.2 v2 v3 v5 v6 v13)) else f_L_law_582 L xs K244 st v2 v3 v5 v6 v13))
def f_L_law_459 (L : Nat) (xs : Nat → Int32) (K244 : zSt → Int32 → Int32 → Int32 → Int32 → Int32 → Option (Unit × zSt)) (st : zSt) (v2 : Int32) (v3 : Int32) (v5 : Int32) (v6 : Int32) (v7 : Int32) (v10 : Int32) (v11 : Int32) (v12 : Int32) : Option (Unit × zSt) := ((f_L_low st (zshr v7 3) 10).bind fun q147 => (if v11 = 0 then (if v11 = 0 then ((g_L_book q147.2 q147.1 v10 v11 0 0 v12).bind fun q164 => f_L_law_522 L xs K244 q164.2 v2 v3 v5 v6 v10 q164.1) else ((f_L_low q147.2 (zshr v7 9) 60).bind fun q160 => ((g_L_book q160.2 q147.1 v10 v11 0 (1 + q160.1) v12).bind fun q162 => f_L_law_522 L xs K244 q162.2 v2 v3 v5 v6 v10 q162.1))) else ((f_L_low q147.2 (zshr v7 7) 20).bind fun q150 => (if v11 = 0 then ((g_L_book q150.2 q147.1 v10 v11 (1 + q150.1) 0 v12).bind fun q157 => f_L_law_522 L xs K244 q157.2 v2 v3 v5 v6 v10 q157.1) else ((f_L_low q150.2 (zshr v7 9) 60).bind fun q153 => ((g_L_book q153.2 q147.1 v10 v11 (1 + q150.1) (1 + q153.1) v12).bind fun q155 => f_L_law_522 L xs K244 q155.2 v2 v3 v5 v6 v10 q155.1))))))
def f_L_law_456 (L : Nat) (xs : Nat → Int32) (K244 : zSt → Int32 → Int32 → Int32 → Int32 → Int32 → Option (Unit × zSt)) (st : zSt) (v2 : Int32) (v3 : Int32) (v5 : Int32) (v6 : Int32) (v7 : Int32) (v10 : Int32) (v11 : Int32) : Option (Unit × zSt) := f_L_law_459 L xs K244 st v2 v3 v5 v6 v7 v10 v11 0
def f_L_law_658 (L : Nat) (xs : Nat → Int32) (K244 : zSt → Int32 → Int32 → Int32 → Int32 → Int32 → Option (Unit × zSt)) (st : zSt) (v2 : Int32) (v3 : Int32) (v4 : Int32) (v5 : Int32) (v6 : Int32) : Option (Unit × zSt) := f_L_law_947 L xs K244 st v2 v3 v4 v5 v6
def f_L_law_651 (L : Nat) (xs : Nat → Int32) (K244 : zSt → Int32 → Int32 → Int32 → Int32 → Int32 → Option (Unit × zSt)) (st : zSt) (v2 : Int32) (v3 : Int32) (v5 : Int32) (v6 : Int32) : Option (Unit × zSt) := f_L_law_658 L xs K244 st v2 v3 1 v5 v6
def f_L_law_737 (L : Nat) (xs : Nat → Int32) (K244 : zSt → Int32 → Int32 → Int32 → Int32 → Int32 → Option (Unit × zSt)) (st : zSt) (v2 : Int32) (v3 : Int32) (v4 : Int32) (v5 : Int32) (v6 : Int32) : Option (Unit × zSt) := f_L_law_947 L xs K244 st v2 v3 v4 v5 v6
def f_L_law_719 (L : Nat) (xs : Nat → Int32) (K244 : zSt → Int32 → Int32 → Int32 → Int32 → Int32 → Option (Unit × zSt)) (st : zSt) (v2 : Int32) (v3 : Int32) (v5 : Int32) (v6 : Int32) : Option (Unit × zSt) := f_L_law_737 L xs K244 st v2 v3 0 v5 v6
def f_L_law_684 (L : Nat) (xs : Nat → Int32) (K244 : zSt → Int32 → Int32 → Int32 → Int32 → Int32 → Option (Unit × zSt)) (st : zSt) (v2 : Int32) (v3 : Int32) (v5 : Int32) (v6 : Int32) (v10 : Int32) (v11 : Int32) : Option (Unit × zSt) := ((g_L_acts0 st v10 0).bind fun q139 => (if v11 = 0 then (if q139.1 = (-9) then f_L_law_737 L xs K244 q139.2 v2 v3 1 v5 v6 else f_L_law_737 L xs K244 q139.2 v2 v3 0 v5 v6) else (if q139.1 < 0 then f_L_law_719 L xs K244 q139.2 v2 v3 v5 v6 else ((f_X6_state q139.2 v10).bind fun q144 => (if q144.1 = 71 then f_L_law_737 L xs K244 q144.2 v2 v3 1 v5 v6 else f_L_law_719 L xs K244 q144.2 v2 v3 v5 v6)))))
def f_L_law_655 (L : Nat) (xs : Nat → Int32) (K244 : zSt → Int32 → Int32 → Int32 → Int32 → Int32 → Option (Unit × zSt)) (st : zSt) (v2 : Int32) (v3 : Int32) (v5 : Int32) (v6 : Int32) : Option (Unit × zSt) := f_L_law_658 L xs K244 st v2 v3 0 v5 v6
def f_L_law_418 (L : Nat) (xs : Nat → Int32) (K244 : zSt → Int32 → Int32 → Int32 → Int32 → Int32 → Option (Unit × zSt)) (st : zSt) (v2 : Int32) (v3 : Int32) (v4 : Int32) (v5 : Int32) (v6 : Int32) : Option (Unit × zSt) := f_L_law_947 L xs K244 st v2 v3 v4 v5 v6
def f_L_law_405 (L : Nat) (xs : Nat → Int32) (K244 : zSt → Int32 → Int32 → Int32 → Int32 → Int32 → Option (Unit × zSt)) (st : zSt) (v2 : Int32) (v3 : Int32) (v4 : Int32) (v5 : Int32) (v6 : Int32) (v11 : Int32) : Option (Unit × zSt) := (if v11 < 0 then f_L_law_418 L xs K244 st (v2 + 0) v3 v4 v5 v6 else f_L_law_418 L xs K244 st (v2 + 1) v3 v4 v5 v6)
def f_L_law_402 (L : Nat) (xs : Nat → Int32) (K244 : zSt → Int32 → Int32 → Int32 → Int32 → Int32 → Option (Unit × zSt)) (st : zSt) (v2 : Int32) (v3 : Int32) (v5 : Int32) (v6 : Int32) (v11 : Int32) : Option (Unit × zSt) := f_L_law_405 L xs K244 st v2 v3 0 v5 v6 v11
def f_L_law_398 (L : Nat) (xs : Nat → Int32) (K244 : zSt → Int32 → Int32 → Int32 → Int32 → Int32 → Option (Unit × zSt)) (st : zSt) (v2 : Int32) (v3 : Int32) (v5 : Int32) (v6 : Int32) (v11 : Int32) : Option (Unit × zSt) := f_L_law_405 L xs K244 st v2 v3 1 v5 v6 v11
def f_L_law_313 (L : Nat) (xs : Nat → Int32) (K244 : zSt → Int32 → Int32 → Int32 → Int32 → Int32 → Option (Unit × zSt)) (st : zSt) (v2 : Int32) (v3 : Int32) (v5 : Int32) (v6 : Int32) (v7 : Int32) (v9 : Int32) : Option (Unit × zSt) := ((f_L_low st v7 2).bind fun q116 => ((f_L_low q116.2 (zshr v7 3) 3).bind fun q118 => ((f_L_low q118.2 (zshr v7 6) 12).bind fun q120 => ((f_L_low q120.2 (zshr v7 8) 90).bind fun q122 => ((g_L_plan q122.2 q116.1 q118.1 (v9 + q120.1) (1 + q122.1)).bind fun q124 => (if q124.1 = (-8) then f_L_law_398 L xs K244 q124.2 v2 v3 v5 v6 q124.1 else (if q124.1 = (-9) then f_L_law_398 L xs K244 q124.2 v2 v3 v5 v6 q124.1 else (if q124.1 = v2 then ((f_X6_state q124.2 q124.1).bind fun q129 => (if q129.1 = 0 then ((f_X6_ends q129.2 q124.1).bind fun q132 => (if q132.1 ≤ v9 then f_L_law_402 L xs K244 q132.2 v2 v3 v5 v6 q124.1 else f_L_law_398 L xs K244 q132.2 v2 v3 v5 v6 q124.1)) else f_L_law_402 L xs K244 q129.2 v2 v3 v5 v6 q124.1)) else f_L_law_402 L xs K244 q124.2 v2 v3 v5 v6 q124.1))))))))
def f_L_law_897 (L : Nat) (xs : Nat → Int32) (K244 : zSt → Int32 → Int32 → Int32 → Int32 → Int32 → Option (Unit × zSt)) (st : zSt) (v2 : Int32) (v3 : Int32) (v4 : Int32) (v5 : Int32) (v6 : Int32) : Option (Unit × zSt) := f_L_law_947 L xs K244 st v2 v3 v4 v5 v6
def f_L_law_890 (L : Nat) (xs : Nat → Int32) (K244 : zSt → Int32 → Int32 → Int32 → Int32 → Int32 → Option (Unit × zSt)) (st : zSt) (v2 : Int32) (v3 : Int32) (v5 : Int32) (v6 : Int32) : Option (Unit × zSt) := f_L_law_897 L xs K244 st v2 v3 1 v5 v6
def f_L_law_797 (L : Nat) (xs : Nat → Int32) (K244 : zSt → Int32 → Int32 → Int32 → Int32 → Int32 → Option (Unit × zSt)) (st : zSt) (v2 : Int32) (v3 : Int32) (v5 : Int32) (v6 : Int32) (v11 : Int32) : Option (Unit × zSt) := f_L_law_804 L xs K244 st v2 v3 1 v5 v6 v11
def f_L_law_894 (L : Nat) (xs : Nat → Int32) (K244 : zSt → Int32 → Int32 → Int32 → Int32 → Int32 → Option (Unit × zSt)) (st : zSt) (v2 : Int32) (v3 : Int32) (v5 : Int32) (v6 : Int32) : Option (Unit × zSt) := f_L_law_897 L xs K244 st v2 v3 0 v5 v6
def f_L_law_303 (L : Nat) (xs : Nat → Int32) (K244 : zSt → Int32 → Int32 → Int32 → Int32 → Int32 → Option (Unit × zSt)) (st : zSt) (v2 : Int32) (v3 : Int32) (v4 : Int32) (v5 : Int32) (v6 : Int32) (v7 : Int32) (v8 : Int32) (v9 : Int32) (v10 : Int32) : Option (Unit × zSt) := (if v2 = 0 then f_L_law_313 L xs K244 st v2 v3 v5 v6 v7 v9 else (if 5 ≤ v8 then (if 12 ≤ v8 then (if 17 ≤ v8 then (if 18 ≤ v8 then (if 19 ≤ v8 then (if 21 ≤ v8 then ((f_L_low st (zshr v7 4) 20).bind fun q60 => ((f_L_low q60.2 v7 3).bind fun q62 => ((f_L_low q62.2 (zshr v7 2) 2).bind fun q64 => ((f_L_low q64.2 (zshr v7 6) 10).bind fun q66 => ((f_X6_hinder q66.2 q62.1 q64.1 (v9 + q60.1) ((v9 + q60.1) + q66.1)).bind fun q68 => f_L_law_947 L xs K244 q68.2 v2 v3 v4 v5 v6))))) else ((f_L_low st v7 2).bind fun q70 => ((f_L_low q70.2 (zshr v7 3) 500).bind fun q72 => ((f_X6_fuel q72.2 q70.1).bind fun q74 => ((g_L_acts2 q74.2 q70.1 (1 + q72.1)).bind fun q76 => (if (q74.1 + (1 + q72.1)) ≤ 1000 then (if q76.1 = (q74.1 + (1 + q72.1)) then f_L_law_890 L xs K244 q76.2 v2 v3 v5 v6 else f_L_law_894 L xs K244 q76.2 v2 v3 v5 v6) else (if q76.1 = (-9) then f_L_law_890 L xs K244 q76.2 v2 v3 v5 v6 else f_L_law_894 L xs K244 q76.2 v2 v3 v5 v6))))))) else ((f_L_low st v7 2).bind fun q81 => ((g_L_acts1 q81.2 v10 q81.1).bind fun q83 => (if q83.1 = (-9) then f_L_law_797 L xs K244 q83.2 v2 v3 v5 v6 q83.1 else (if q83.1 = v2 then ((f_X6_state q83.2 q83.1).bind fun q87 => (if q87.1 = 0 then ((g_L_acts1 q87.2 v10 0).bind fun q90 => (if q90.1 = (-9) then f_L_law_797 L xs K244 q90.2 v2 v3 v5 v6 q83.1 else f_L_law_801 L xs K244 q90.2 v2 v3 v5 v6 q83.1)) else f_L_law_801 L xs K244 q87.2 v2 v3 v5 v6 q83.1)) else f_L_law_801 L xs K244 q83.2 v2 v3 v5 v6 q83.1))))) else ((f_X6_state st v10).bind fun q93 => (if q93.1 = 0 then f_L_law_684 L xs K244 q93.2 v2 v3 v5 v6 v10 1 else f_L_law_684 L xs K244 q93.2 v2 v3 v5 v6 v10 0))) else (if 8000 < v9 then f_L_law_651 L xs K244 st v2 v3 v5 v6 else ((f_L_low st (zshr v7 8) 2).bind fun q97 => (if q97.1 = 0 then ((f_L_low q97.2 v7 6).bind fun q105 => ((f_X6_pass q105.2 (1 + q105.1)).bind fun q107 => (if q107.1 ≤ v9 then f_L_law_655 L xs K244 q107.2 v2 v3 v5 v6 else f_L_law_651 L xs K244 q107.2 v2 v3 v5 v6))) else ((f_L_low q97.2 v7 40).bind fun q100 => ((f_X6_pass q100.2 (1 + q100.1)).bind fun q102 => (if q102.1 ≤ v9 then f_L_law_655 L xs K244 q102.2 v2 v3 v5 v6 else f_L_law_651 L xs K244 q102.2 v2 v3 v5 v6))))))) else ((f_L_low st v7 4).bind fun q110 => (if q110.1 ≤ 0 then f_L_law_456 L xs K244 q110.2 v2 v3 v5 v6 v7 v10 q110.1 else ((f_L_low q110.2 (zshr v7 4) 5).bind fun q113 => (if q113.1 = 0 then f_L_law_459 L xs K244 q113.2 v2 v3 v5 v6 v7 v10 q110.1 1 else f_L_law_456 L xs K244 q113.2 v2 v3 v5 v6 v7 v10 q110.1))))) else f_L_law_313 L xs K244 st v2 v3 v5 v6 v7 v9))
def f_L_law_244 (L : Nat) (xs : Nat → Int32)  : Nat → zSt → Int32 → Int32 → Int32 → Int32 → Int32 → Option (Unit × zSt)
  | 0, _, _, _, _, _, _ => none
  | n + 1, st, v2, v3, v4, v5, v6 => (if v5 ≤ v6 then (if v4 = 1 then some ((), st) else none) else (if v4 = 0 then (if v4 = 1 then some ((), st) else none) else ((f_L_cell L xs st (7 + v6)).bind fun q44 => ((f_L_low q44.2 (zshr q44.1 20) 22).bind fun q46 => ((f_X6_now q46.2).bind fun q48 => (if v2 = 0 then f_L_law_303 L xs (fun st v2 v3 v4 v5 v6 => f_L_law_244 L xs n st v2 v3 v4 v5 v6) q48.2 v2 v3 v4 v5 v6 q44.1 q46.1 q48.1 0 else ((f_L_low q48.2 (zshr q44.1 5) v2).bind fun q51 => f_L_law_303 L xs (fun st v2 v3 v4 v5 v6 => f_L_law_244 L xs n st v2 v3 v4 v5 v6) q51.2 v2 v3 v4 v5 v6 q44.1 q46.1 q48.1 q51.1)))))))
def f_L_law_170 (L : Nat) (xs : Nat → Int32)  : Nat → zSt → Int32 → Int32 → Int32 → Int32 → Option (Unit × zSt)
  | 0, _, _, _, _, _ => none
  | n + 1, st, v2, v3, v4, v5 => (if 4 ≤ v5 then ((f_X6_bus st 0 5 2).bind fun q19 => ((f_L_cell L xs q19.2 0).bind fun q21 => ((f_L_low q21.2 q21.1 50).bind fun q23 => f_L_law_244 L xs 64 q23.2 v2 v3 v4 (8 + q23.1) 0))) else (if v4 = 0 then f_L_law_170 L xs n st v2 v3 0 (v5 + 1) else ((f_L_cell L xs st (3 + v5)).bind fun q26 => ((f_L_low q26.2 q26.1 7).bind fun q28 => ((f_X6_reside q28.2 v5 (q28.1 - 1)).bind fun q30 => (if q30.1 = (-1) then f_L_law_170 L xs n q30.2 v2 v3 1 (v5 + 1) else f_L_law_170 L xs n q30.2 v2 v3 0 (v5 + 1)))))))
def f_L_law_109 (L : Nat) (xs : Nat → Int32) (K18 : zSt → Int32 → Int32 → Int32 → Int32 → Option (Unit × zSt)) (st : zSt) (v2 : Int32) (v3 : Int32) (v5 : Int32) (v6 : Int32) : Option (Unit × zSt) := f_L_law_112 L xs K18 st v2 v3 0 v5 v6
def f_L_law_18 (L : Nat) (xs : Nat → Int32)  : Nat → zSt → Int32 → Int32 → Int32 → Int32 → Option (Unit × zSt)
  | 0, _, _, _, _, _ => none
  | n + 1, st, v2, v3, v4, v5 => (if 2 ≤ v5 then f_L_law_170 L xs 64 st v2 v3 v4 0 else ((f_L_cell L xs st (1 + v5)).bind fun q2 => (if v4 = 0 then f_L_law_109 L xs (fun st v2 v3 v4 v5 => f_L_law_18 L xs n st v2 v3 v4 v5) q2.2 v2 v3 v5 q2.1 else ((f_L_low q2.2 q2.1 4).bind fun q5 => ((f_L_low q5.2 (zshr q2.1 3) 40).bind fun q7 => ((f_L_low q7.2 (zshr q2.1 5) 400).bind fun q9 => ((f_L_low q9.2 (zshr q2.1 7) 5).bind fun q11 => ((f_L_low q11.2 (zshr q2.1 9) 20).bind fun q13 => ((f_X6_ship q13.2 v5 (1 + q5.1) (10 + q7.1) (1 + q9.1) (1 + q11.1) (5 + q13.1)).bind fun q15 => (if q15.1 = v5 then f_L_law_112 L xs (fun st v2 v3 v4 v5 => f_L_law_18 L xs n st v2 v3 v4 v5) q15.2 v2 v3 1 v5 q2.1 else f_L_law_109 L xs (fun st v2 v3 v4 v5 => f_L_law_18 L xs n st v2 v3 v4 v5) q15.2 v2 v3 v5 q2.1))))))))))
def f_L_law (L : Nat) (xs : Nat → Int32) (st : zSt) : Option (Unit × zSt) := f_L_law_18 L xs 64 st 0 0 1 0
set_option maxHeartbeats 4000000 in
set_option maxRecDepth 100000 in
theorem t_L_law_112 (X : zCx) (out : Unit × zSt) {B N : Nat} (hX : ∀ j, j ≤ 130 → zOk (zat X (B + j) (N + 6 * j)) RL code room_1) (hZ : zXs X.A X.s X.s.heap) (hfl : X.l.stackTraces = false) {b0 L : Nat} {xs : Nat → Int32} (hs : zScr X b0 L xs) (hnl : X.nL = 14) (EXIT : ∀ (k : Nat) (st : zSt) (lv : List (Nat × Value)), k ≤ 130 → zG 98 shC (zat X (B + k) (N + 6 * k)) st 976 lv [.int 1]) (K18 : zSt → Int32 → Int32 → Int32 → Int32 → Option (Unit × zSt)) (hK18 : ∀ (k : Nat) (st : zSt) (v2 : Int32) (v3 : Int32) (v4 : Int32) (v5 : Int32), k + 128 ≤ 130 → K18 st v2 v3 v4 v5 = some out → zG 98 shC (zat X (B + k) (N + 6 * k)) st 18 [(0, .ref b0), (1, .ref (X.ad 0)), (2, .int v2), (3, .int v3), (4, .int v4), (5, .int v5)] []) (k : Nat) (st : zSt) (v2 : Int32) (v3 : Int32) (v4 : Int32) (v5 : Int32) (v6 : Int32) (hk : k + 128 ≤ 130) (hf : f_L_law_112 L xs K18 st v2 v3 v4 v5 v6 = some out) : zG 98 shC (zat X (B + k) (N + 6 * k)) st 112 [(0, .ref b0), (1, .ref (X.ad 0)), (2, .int v2), (3, .int v3), (4, .int v4), (5, .int v5), (6, .int v6)] [] := by
  unfold f_L_law_112 at hf
  refine z_iload (hX k (by omega)) 4 dL_law_112 rfl ?_
  refine z_if_eq (hX k (by omega)) 158 dL_law_114 (by decide) (fun c33 => ?_) (fun c33 => ?_)
  · have hf := (if_pos c33).symm.trans hf
    refine z_iconst (v := 0) (hX k (by omega)) dL_law_158 (by decide) ?_
    refine z_istore (hX k (by omega)) [(0, .ref b0), (1, .ref (X.ad 0)), (2, .int v2), (3, .int v3), (4, .int 0), (5, .int v5), (6, .int v6)] dL_law_159 (by show _ < X.nL; rw [hnl]; decide) [1, 2, 3, 4, 0, 5, 6] rfl ?_
    refine z_iinc (j := 5) (v := 1) (hX k (by omega)) [(0, .ref b0), (1, .ref (X.ad 0)), (2, .int v2), (3, .int v3), (4, .int 0), (5, .int (v5 + 1)), (6, .int v6)] dL_law_161 rfl (by decide) (by show _ < X.nL; rw [hnl]; decide) [1, 2, 3, 4, 5, 0, 6] rfl ?_
    refine z_goto (hX k (by omega)) 18 dL_law_164 (by decide) ?_
    refine z_locals [0, 1, 2, 3, 4, 5] [(0, .ref b0), (1, .ref (X.ad 0)), (2, .int v2), (3, .int v3), (4, .int 0), (5, .int (v5 + 1))] rfl ?_
    exact hK18 k st v2 v3 0 (v5 + 1) (by omega) hf
  have hf := (if_neg c33).symm.trans hf
  refine z_aload_n (hX k (by omega)) 1 dL_law_117 rfl rfl ?_
  refine z_iload (hX k (by omega)) 5 dL_law_118 rfl ?_
  refine z_iconst (v := 1) (hX k (by omega)) dL_law_120 (by decide) ?_
  refine z_iload (hX k (by omega)) 6 dL_law_121 rfl ?_
  refine z_iconst (v := 4) (hX k (by omega)) dL_law_123 (by decide) ?_
  refine z_ishr (hX k (by omega)) dL_law_124 ?_
  refine z_sipush (v := 1000) (hX k (by omega)) dL_law_125 (by decide) ?_
  obtain ⟨q34, e35, hf⟩ := zbind hf
  refine z_callS (stk := [.int 1, .int v5, .ref (X.ad 0)]) (stk' := [.int q34.1, .int 1, .int v5, .ref (X.ad 0)]) (hX k (by omega)) (c_L_low X.l st (zshr v6 4) 1000 q34 e35) zb_L_low dL_law_128 zm_591 rfl rfl rfl ⟨by decide, by decide⟩ ⟨rfl, rfl⟩ (Nat.le_of_ble_eq_true rfl) rfl ?_
  refine z_iadd (hX k (by omega)) dL_law_131 ?_
  obtain ⟨q36, e37, hf⟩ := zbind hf
  refine z_callV (stk := []) (stk' := [.int q36.1]) (hX k (by omega)) (c_X6_fill X.l q34.2 v5 (1 + q34.1) q36 e37) zb_X6_fill 0 dL_law_132 zm_416 (by decide) shC_0 rfl rfl rfl rfl ⟨by decide, by decide⟩ ⟨rfl, rfl⟩ (Nat.le_of_ble_eq_true rfl) rfl ?_
  refine z_iconst (v := 1) (hX k (by omega)) dL_law_135 (by decide) ?_
  refine z_icmp_lt (hX k (by omega)) 158 dL_law_136 (by decide) (fun c38 => ?_) (fun c38 => ?_)
  · have hf := (if_pos c38).symm.trans hf
    refine z_iconst (v := 0) (hX k (by omega)) dL_law_158 (by decide) ?_
    refine z_istore (hX k (by omega)) [(0, .ref b0), (1, .ref (X.ad 0)), (2, .int v2), (3, .int v3), (4, .int 0), (5, .int v5), (6, .int v6)] dL_law_159 (by show _ < X.nL; rw [hnl]; decide) [1, 2, 3, 4, 0, 5, 6] rfl ?_
    refine z_iinc (j := 5) (v := 1) (hX k (by omega)) [(0, .ref b0), (1, .ref (X.ad 0)), (2, .int v2), (3, .int v3), (4, .int 0), (5, .int (v5 + 1)), (6, .int v6)] dL_law_161 rfl (by decide) (by show _ < X.nL; rw [hnl]; decide) [1, 2, 3, 4, 5, 0, 6] rfl ?_
    refine z_goto (hX k (by omega)) 18 dL_law_164 (by decide) ?_
    refine z_locals [0, 1, 2, 3, 4, 5] [(0, .ref b0), (1, .ref (X.ad 0)), (2, .int v2), (3, .int v3), (4, .int 0), (5, .int (v5 + 1))] rfl ?_
    exact hK18 k q36.2 v2 v3 0 (v5 + 1) (by omega) hf
  have hf := (if_neg c38).symm.trans hf
  refine z_aload_n (hX k (by omega)) 1 dL_law_139 rfl rfl ?_
  refine z_iload (hX k (by omega)) 5 dL_law_140 rfl ?_
  refine z_iconst (v := 0) (hX k (by omega)) dL_law_142 (by decide) ?_
  refine z_sipush (v := 200) (hX k (by omega)) dL_law_143 (by decide) ?_
  obtain ⟨q39, e40, hf⟩ := zbind hf
  refine z_callV (stk := []) (stk' := [.int q39.1]) (hX k (by omega)) (c_X6_crew X.l q36.2 v5 0 200 q39 e40) zb_X6_crew 0 dL_law_146 zm_420 (by decide) shC_0 rfl rfl rfl rfl ⟨by decide, by decide⟩ ⟨rfl, rfl⟩ (Nat.le_of_ble_eq_true rfl) rfl ?_
  refine z_iload (hX k (by omega)) 5 dL_law_149 rfl ?_
  refine z_icmp_ne (hX k (by omega)) 158 dL_law_151 (by decide) (fun c41 => ?_) (fun c41 => ?_)
  · have hf := (if_neg c41).symm.trans hf
    refine z_iconst (v := 0) (hX k (by omega)) dL_law_158 (by decide) ?_
    refine z_istore (hX k (by omega)) [(0, .ref b0), (1, .ref (X.ad 0)), (2, .int v2), (3, .int v3), (4, .int 0), (5, .int v5), (6, .int v6)] dL_law_159 (by show _ < X.nL; rw [hnl]; decide) [1, 2, 3, 4, 0, 5, 6] rfl ?_
    refine z_iinc (j := 5) (v := 1) (hX k (by omega)) [(0, .ref b0), (1, .ref (X.ad 0)), (2, .int v2), (3, .int v3), (4, .int 0), (5, .int (v5 + 1)), (6, .int v6)] dL_law_161 rfl (by decide) (by show _ < X.nL; rw [hnl]; decide) [1, 2, 3, 4, 5, 0, 6] rfl ?_
    refine z_goto (hX k (by omega)) 18 dL_law_164 (by decide) ?_
    refine z_locals [0, 1, 2, 3, 4, 5] [(0, .ref b0), (1, .ref (X.ad 0)), (2, .int v2), (3, .int v3), (4, .int 0), (5, .int (v5 + 1))] rfl ?_
    exact hK18 k q39.2 v2 v3 0 (v5 + 1) (by omega) hf
  have hf := (if_pos c41).symm.trans hf
  refine z_iconst (v := 1) (hX k (by omega)) dL_law_154 (by decide) ?_
  refine z_goto (hX k (by omega)) 159 dL_law_155 (by decide) ?_
  refine z_istore (hX k (by omega)) [(0, .ref b0), (1, .ref (X.ad 0)), (2, .int v2), (3, .int v3), (4, .int 1), (5, .int v5), (6, .int v6)] dL_law_159 (by show _ < X.nL; rw [hnl]; decide) [1, 2, 3, 4, 0, 5, 6] rfl ?_
  refine z_iinc (j := 5) (v := 1) (hX k (by omega)) [(0, .ref b0), (1, .ref (X.ad 0)), (2, .int v2), (3, .int v3), (4, .int 1), (5, .int (v5 + 1)), (6, .int v6)] dL_law_161 rfl (by decide) (by show _ < X.nL; rw [hnl]; decide) [1, 2, 3, 4, 5, 0, 6] rfl ?_
  refine z_goto (hX k (by omega)) 18 dL_law_164 (by decide) ?_
  refine z_locals [0, 1, 2, 3, 4, 5] [(0, .ref b0), (1, .ref (X.ad 0)), (2, .int v2), (3, .int v3), (4, .int 1), (5, .int (v5 + 1))] rfl ?_
  exact hK18 k q39.2 v2 v3 1 (v5 + 1) (by omega) hf
set_option maxHeartbeats 4000000 in
set_option maxRecDepth 100000 in
theorem t_L_law_947 (X : zCx) (out : Unit × zSt) {B N : Nat} (hX : ∀ j, j ≤ 130 → zOk (zat X (B + j) (N + 6 * j)) RL code room_1) (hZ : zXs X.A X.s X.s.heap) (hfl : X.l.stackTraces = false) {b0 L : Nat} {xs : Nat → Int32} (hs : zScr X b0 L xs) (hnl : X.nL = 14) (EXIT : ∀ (k : Nat) (st : zSt) (lv : List (Nat × Value)), k ≤ 130 → zG 98 shC (zat X (B + k) (N + 6 * k)) st 976 lv [.int 1]) (M : Nat) (hM : M ≤ 130) (K244 : zSt → Int32 → Int32 → Int32 → Int32 → Int32 → Option (Unit × zSt)) (hK244 : ∀ (k : Nat) (st : zSt) (v2 : Int32) (v3 : Int32) (v4 : Int32) (v5 : Int32) (v6 : Int32), k ≤ M → K244 st v2 v3 v4 v5 v6 = some out → zG 98 shC (zat X (B + k) (N + 6 * k)) st 244 [(0, .ref b0), (1, .ref (X.ad 0)), (2, .int v2), (3, .int v3), (4, .int v4), (5, .int v5), (6, .int v6)] []) (k : Nat) (st : zSt) (v2 : Int32) (v3 : Int32) (v4 : Int32) (v5 : Int32) (v6 : Int32) (hk : k + 0 ≤ M) (hf : f_L_law_947 L xs K244 st v2 v3 v4 v5 v6 = some out) : zG 98 shC (zat X (B + k) (N + 6 * k)) st 947 [(0, .ref b0), (1, .ref (X.ad 0)), (2, .int v2), (3, .int v3), (4, .int v4), (5, .int v5), (6, .int v6)] [] := by
  unfold f_L_law_947 at hf
  refine z_iload (hX k (by omega)) 4 dL_law_947 rfl ?_
  refine z_if_eq (hX k (by omega)) 965 dL_law_949 (by decide) (fun c135 => ?_) (fun c135 => ?_)
  · have hf := (if_pos c135).symm.trans hf
    refine z_iconst (v := 0) (hX k (by omega)) dL_law_965 (by decide) ?_
    refine z_istore (hX k (by omega)) [(0, .ref b0), (1, .ref (X.ad 0)), (2, .int v2), (3, .int v3), (4, .int 0), (5, .int v5), (6, .int v6)] dL_law_966 (by show _ < X.nL; rw [hnl]; decide) [1, 2, 3, 4, 0, 5, 6] rfl ?_
    refine z_iinc (j := 6) (v := 1) (hX k (by omega)) [(0, .ref b0), (1, .ref (X.ad 0)), (2, .int v2), (3, .int v3), (4, .int 0), (5, .int v5), (6, .int (v6 + 1))] dL_law_968 rfl (by decide) (by show _ < X.nL; rw [hnl]; decide) [1, 2, 3, 4, 5, 6, 0] rfl ?_
    refine z_goto (hX k (by omega)) 244 dL_law_971 (by decide) ?_
    exact hK244 k st v2 v3 0 v5 (v6 + 1) (by omega) hf
  have hf := (if_neg c135).symm.trans hf
  refine z_aload_n (hX k (by omega)) 1 dL_law_952 rfl rfl ?_
  refine z_iload_n (hX k (by omega)) 2 dL_law_953 rfl rfl ?_
  refine z_iload_n (hX k (by omega)) 3 dL_law_954 rfl rfl ?_
  obtain ⟨q136, e137, hf⟩ := zbind hf
  refine z_callS (stk := []) (stk' := [.int q136.1]) (hX k (by omega)) (c_L_all X.l st v2 v3 q136 e137) zb_L_all dL_law_955 zm_652 rfl rfl rfl ⟨by decide, by decide⟩ ⟨rfl, rfl⟩ (Nat.le_of_ble_eq_true rfl) rfl ?_
  refine z_if_eq (hX k (by omega)) 965 dL_law_958 (by decide) (fun c138 => ?_) (fun c138 => ?_)
  · have hf := (if_pos c138).symm.trans hf
    refine z_iconst (v := 0) (hX k (by omega)) dL_law_965 (by decide) ?_
    refine z_istore (hX k (by omega)) [(0, .ref b0), (1, .ref (X.ad 0)), (2, .int v2), (3, .int v3), (4, .int 0), (5, .int v5), (6, .int v6)] dL_law_966 (by show _ < X.nL; rw [hnl]; decide) [1, 2, 3, 4, 0, 5, 6] rfl ?_
    refine z_iinc (j := 6) (v := 1) (hX k (by omega)) [(0, .ref b0), (1, .ref (X.ad 0)), (2, .int v2), (3, .int v3), (4, .int 0), (5, .int v5), (6, .int (v6 + 1))] dL_law_968 rfl (by decide) (by show _ < X.nL; rw [hnl]; decide) [1, 2, 3, 4, 5, 6, 0] rfl ?_
    refine z_goto (hX k (by omega)) 244 dL_law_971 (by decide) ?_
    exact hK244 k q136.2 v2 v3 0 v5 (v6 + 1) (by omega) hf
  have hf := (if_neg c138).symm.trans hf
  refine z_iconst (v := 1) (hX k (by omega)) dL_law_961 (by decide) ?_
  refine z_goto (hX k (by omega)) 966 dL_law_962 (by decide) ?_
  refine z_istore (hX k (by omega)) [(0, .ref b0), (1, .ref (X.ad 0)), (2, .int v2), (3, .int v3), (4, .int 1), (5, .int v5), (6, .int v6)] dL_law_966 (by show _ < X.nL; rw [hnl]; decide) [1, 2, 3, 4, 0, 5, 6] rfl ?_
  refine z_iinc (j := 6) (v := 1) (hX k (by omega)) [(0, .ref b0), (1, .ref (X.ad 0)), (2, .int v2), (3, .int v3), (4, .int 1), (5, .int v5), (6, .int (v6 + 1))] dL_law_968 rfl (by decide) (by show _ < X.nL; rw [hnl]; decide) [1, 2, 3, 4, 5, 6, 0] rfl ?_
  refine z_goto (hX k (by omega)) 244 dL_law_971 (by decide) ?_
  exact hK244 k q136.2 v2 v3 1 v5 (v6 + 1) (by omega) hf
set_option maxHeartbeats 4000000 in
set_option maxRecDepth 100000 in
theorem t_L_law_817 (X : zCx) (out : Unit × zSt) {B N : Nat} (hX : ∀ j, j ≤ 130 → zOk (zat X (B + j) (N + 6 * j)) RL code room_1) (hZ : zXs X.A X.s X.s.heap) (hfl : X.l.stackTraces = false) {b0 L : Nat} {xs : Nat → Int32} (hs : zScr X b0 L xs) (hnl : X.nL = 14) (EXIT : ∀ (k : Nat) (st : zSt) (lv : List (Nat × Value)), k ≤ 130 → zG 98 shC (zat X (B + k) (N + 6 * k)) st 976 lv [.int 1]) (M : Nat) (hM : M ≤ 130) (K244 : zSt → Int32 → Int32 → Int32 → Int32 → Int32 → Option (Unit × zSt)) (hK244 : ∀ (k : Nat) (st : zSt) (v2 : Int32) (v3 : Int32) (v4 : Int32) (v5 : Int32) (v6 : Int32), k ≤ M → K244 st v2 v3 v4 v5 v6 = some out → zG 98 shC (zat X (B + k) (N + 6 * k)) st 244 [(0, .ref b0), (1, .ref (X.ad 0)), (2, .int v2), (3, .int v3), (4, .int v4), (5, .int v5), (6, .int v6)] []) (k : Nat) (st : zSt) (v2 : Int32) (v3 : Int32) (v4 : Int32) (v5 : Int32) (v6 : Int32) (hk : k + 0 ≤ M) (hf : f_L_law_817 L xs K244 st v2 v3 v4 v5 v6 = some out) : zG 98 shC (zat X (B + k) (N + 6 * k)) st 817 [(0, .ref b0), (1, .ref (X.ad 0)), (2, .int v2), (3, .int v3), (4, .int v4), (5, .int v5), (6, .int v6)] [] := by
  unfold f_L_law_817 at hf
  refine z_goto (hX k (by omega)) 947 dL_law_817 (by decide) ?_
  exact t_L_law_947 X out hX hZ hfl hs hnl EXIT M hM K244 hK244 k st v2 v3 v4 v5 v6 (by omega) hf
set_option maxHeartbeats 4000000 in
set_option maxRecDepth 100000 in
theorem t_L_law_804 (X : zCx) (out : Unit × zSt) {B N : Nat} (hX : ∀ j, j ≤ 130 → zOk (zat X (B + j) (N + 6 * j)) RL code room_1) (hZ : zXs X.A X.s X.s.heap) (hfl : X.l.stackTraces = false) {b0 L : Nat} {xs : Nat → Int32} (hs : zScr X b0 L xs) (hnl : X.nL = 14) (EXIT : ∀ (k : Nat) (st : zSt) (lv : List (Nat × Value)), k ≤ 130 → zG 98 shC (zat X (B + k) (N + 6 * k)) st 976 lv [.int 1]) (M : Nat) (hM : M ≤ 130) (K244 : zSt → Int32 → Int32 → Int32 → Int32 → Int32 → Option (Unit × zSt)) (hK244 : ∀ (k : Nat) (st : zSt) (v2 : Int32) (v3 : Int32) (v4 : Int32) (v5 : Int32) (v6 : Int32), k ≤ M → K244 st v2 v3 v4 v5 v6 = some out → zG 98 shC (zat X (B + k) (N + 6 * k)) st 244 [(0, .ref b0), (1, .ref (X.ad 0)), (2, .int v2), (3, .int v3), (4, .int v4), (5, .int v5), (6, .int v6)] []) (k : Nat) (st : zSt) (v2 : Int32) (v3 : Int32) (v4 : Int32) (v5 : Int32) (v6 : Int32) (v11 : Int32) (hk : k + 0 ≤ M) (hf : f_L_law_804 L xs K244 st v2 v3 v4 v5 v6 v11 = some out) : zG 98 shC (zat X (B + k) (N + 6 * k)) st 804 [(0, .ref b0), (1, .ref (X.ad 0)), (2, .int v2), (3, .int v3), (4, .int v4), (5, .int v5), (6, .int v6), (11, .int v11)] [] := by
  unfold f_L_law_804 at hf
  refine z_iload_n (hX k (by omega)) 2 dL_law_804 rfl rfl ?_
  refine z_iload (hX k (by omega)) 7 dL_law_805 rfl ?_
  refine z_if_lt (hX k (by omega)) 814 dL_law_807 (by decide) (fun c166 => ?_) (fun c166 => ?_)
  · have hf := (if_pos c166).symm.trans hf
    refine z_iconst (v := 0) (hX k (by omega)) dL_law_814 (by decide) ?_
    refine z_iadd (hX k (by omega)) dL_law_815 ?_
    refine z_istore_n (hX k (by omega)) [(0, .ref b0), (1, .ref (X.ad 0)), (2, .int (v2 + 0)), (3, .int v3), (4, .int v4), (5, .int v5), (6, .int v6), (11, .int v11)] dL_law_816 rfl (by show _ < X.nL; rw [hnl]; decide) [1, 2, 0, 3, 4, 5, 6, 7] rfl ?_
    refine z_locals [0, 1, 2, 3, 4, 5, 6] [(0, .ref b0), (1, .ref (X.ad 0)), (2, .int (v2 + 0)), (3, .int v3), (4, .int v4), (5, .int v5), (6, .int v6)] rfl ?_
    exact t_L_law_817 X out hX hZ hfl hs hnl EXIT M hM K244 hK244 k st (v2 + 0) v3 v4 v5 v6 (by omega) hf
  have hf := (if_neg c166).symm.trans hf
  refine z_iconst (v := 1) (hX k (by omega)) dL_law_810 (by decide) ?_
  refine z_goto (hX k (by omega)) 815 dL_law_811 (by decide) ?_
  refine z_iadd (hX k (by omega)) dL_law_815 ?_
  refine z_istore_n (hX k (by omega)) [(0, .ref b0), (1, .ref (X.ad 0)), (2, .int (v2 + 1)), (3, .int v3), (4, .int v4), (5, .int v5), (6, .int v6), (11, .int v11)] dL_law_816 rfl (by show _ < X.nL; rw [hnl]; decide) [1, 2, 0, 3, 4, 5, 6, 7] rfl ?_
  refine z_locals [0, 1, 2, 3, 4, 5, 6] [(0, .ref b0), (1, .ref (X.ad 0)), (2, .int (v2 + 1)), (3, .int v3), (4, .int v4), (5, .int v5), (6, .int v6)] rfl ?_
  exact t_L_law_817 X out hX hZ hfl hs hnl EXIT M hM K244 hK244 k st (v2 + 1) v3 v4 v5 v6 (by omega) hf
set_option maxHeartbeats 4000000 in
set_option maxRecDepth 100000 in
theorem t_L_law_801 (X : zCx) (out : Unit × zSt) {B N : Nat} (hX : ∀ j, j ≤ 130 → zOk (zat X (B + j) (N + 6 * j)) RL code room_1) (hZ : zXs X.A X.s X.s.heap) (hfl : X.l.stackTraces = false) {b0 L : Nat} {xs : Nat → Int32} (hs : zScr X b0 L xs) (hnl : X.nL = 14) (EXIT : ∀ (k : Nat) (st : zSt) (lv : List (Nat × Value)), k ≤ 130 → zG 98 shC (zat X (B + k) (N + 6 * k)) st 976 lv [.int 1]) (M : Nat) (hM : M ≤ 130) (K244 : zSt → Int32 → Int32 → Int32 → Int32 → Int32 → Option (Unit × zSt)) (hK244 : ∀ (k : Nat) (st : zSt) (v2 : Int32) (v3 : Int32) (v4 : Int32) (v5 : Int32) (v6 : Int32), k ≤ M → K244 st v2 v3 v4 v5 v6 = some out → zG 98 shC (zat X (B + k) (N + 6 * k)) st 244 [(0, .ref b0), (1, .ref (X.ad 0)), (2, .int v2), (3, .int v3), (4, .int v4), (5, .int v5), (6, .int v6)] []) (k : Nat) (st : zSt) (v2 : Int32) (v3 : Int32) (v5 : Int32) (v6 : Int32) (v11 : Int32) (hk : k + 0 ≤ M) (hf : f_L_law_801 L xs K244 st v2 v3 v5 v6 v11 = some out) : zG 98 shC (zat X (B + k) (N + 6 * k)) st 801 [(0, .ref b0), (1, .ref (X.ad 0)), (2, .int v2), (3, .int v3), (5, .int v5), (6, .int v6), (11, .int v11)] [] := by
  unfold f_L_law_801 at hf
  refine z_iconst (v := 0) (hX k (by omega)) dL_law_801 (by decide) ?_
  refine z_istore (hX k (by omega)) [(0, .ref b0), (1, .ref (X.ad 0)), (2, .int v2), (3, .int v3), (4, .int 0), (5, .int v5), (6, .int v6), (11, .int v11)] dL_law_802 (by show _ < X.nL; rw [hnl]; decide) [1, 2, 3, 4, 0, 5, 6, 7] rfl ?_
  exact t_L_law_804 X out hX hZ hfl hs hnl EXIT M hM K244 hK244 k st v2 v3 0 v5 v6 v11 (by omega) hf
set_option maxHeartbeats 4000000 in
set_option maxRecDepth 100000 in
theorem t_L_law_598 (X : zCx) (out : Unit × zSt) {B N : Nat} (hX : ∀ j, j ≤ 130 → zOk (zat X (B + j) (N + 6 * j)) RL code room_1) (hZ : zXs X.A X.s X.s.heap) (hfl : X.l.stackTraces = false) {b0 L : Nat} {xs : Nat → Int32} (hs : zScr X b0 L xs) (hnl : X.nL = 14) (EXIT : ∀ (k : Nat) (st : zSt) (lv : List (Nat × Value)), k ≤ 130 → zG 98 shC (zat X (B + k) (N + 6 * k)) st 976 lv [.int 1]) (M : Nat) (hM : M ≤ 130) (K244 : zSt → Int32 → Int32 → Int32 → Int32 → Int32 → Option (Unit × zSt)) (hK244 : ∀ (k : Nat) (st : zSt) (v2 : Int32) (v3 : Int32) (v4 : Int32) (v5 : Int32) (v6 : Int32), k ≤ M → K244 st v2 v3 v4 v5 v6 = some out → zG 98 shC (zat X (B + k) (N + 6 * k)) st 244 [(0, .ref b0), (1, .ref (X.ad 0)), (2, .int v2), (3, .int v3), (4, .int v4), (5, .int v5), (6, .int v6)] []) (k : Nat) (st : zSt) (v2 : Int32) (v3 : Int32) (v4 : Int32) (v5 : Int32) (v6 : Int32) (hk : k + 0 ≤ M) (hf : f_L_law_598 L xs K244 st v2 v3 v4 v5 v6 = some out) : zG 98 shC (zat X (B + k) (N + 6 * k)) st 598 [(0, .ref b0), (1, .ref (X.ad 0)), (2, .int v2), (3, .int v3), (4, .int v4), (5, .int v5), (6, .int v6)] [] := by
  unfold f_L_law_598 at hf
  refine z_goto (hX k (by omega)) 947 dL_law_598 (by decide) ?_
  exact t_L_law_947 X out hX hZ hfl hs hnl EXIT M hM K244 hK244 k st v2 v3 v4 v5 v6 (by omega) hf
set_option maxHeartbeats 4000000 in
set_option maxRecDepth 100000 in
theorem t_L_law_585 (X : zCx) (out : Unit × zSt) {B N : Nat} (hX : ∀ j, j ≤ 130 → zOk (zat X (B + j) (N + 6 * j)) RL code room_1) (hZ : zXs X.A X.s X.s.heap) (hfl : X.l.stackTraces = false) {b0 L : Nat} {xs : Nat → Int32} (hs : zScr X b0 L xs) (hnl : X.nL = 14) (EXIT : ∀ (k : Nat) (st : zSt) (lv : List (Nat × Value)), k ≤ 130 → zG 98 shC (zat X (B + k) (N + 6 * k)) st 976 lv [.int 1]) (M : Nat) (hM : M ≤ 130) (K244 : zSt → Int32 → Int32 → Int32 → Int32 → Int32 → Option (Unit × zSt)) (hK244 : ∀ (k : Nat) (st : zSt) (v2 : Int32) (v3 : Int32) (v4 : Int32) (v5 : Int32) (v6 : Int32), k ≤ M → K244 st v2 v3 v4 v5 v6 = some out → zG 98 shC (zat X (B + k) (N + 6 * k)) st 244 [(0, .ref b0), (1, .ref (X.ad 0)), (2, .int v2), (3, .int v3), (4, .int v4), (5, .int v5), (6, .int v6)] []) (k : Nat) (st : zSt) (v2 : Int32) (v3 : Int32) (v4 : Int32) (v5 : Int32) (v6 : Int32) (v13 : Int32) (hk : k + 0 ≤ M) (hf : f_L_law_585 L xs K244 st v2 v3 v4 v5 v6 v13 = some out) : zG 98 shC (zat X (B + k) (N + 6 * k)) st 585 [(0, .ref b0), (1, .ref (X.ad 0)), (2, .int v2), (3, .int v3), (4, .int v4), (5, .int v5), (6, .int v6), (13, .int v13)] [] := by
  unfold f_L_law_585 at hf
  refine z_iload_n (hX k (by omega)) 3 dL_law_585 rfl rfl ?_
  refine z_iload (hX k (by omega)) 7 dL_law_586 rfl ?_
  refine z_if_lt (hX k (by omega)) 595 dL_law_588 (by decide) (fun c180 => ?_) (fun c180 => ?_)
  · have hf := (if_pos c180).symm.trans hf
    refine z_iconst (v := 0) (hX k (by omega)) dL_law_595 (by decide) ?_
    refine z_iadd (hX k (by omega)) dL_law_596 ?_
    refine z_istore_n (hX k (by omega)) [(0, .ref b0), (1, .ref (X.ad 0)), (2, .int v2), (3, .int (v3 + 0)), (4, .int v4), (5, .int v5), (6, .int v6), (13, .int v13)] dL_law_597 rfl (by show _ < X.nL; rw [hnl]; decide) [1, 2, 3, 0, 4, 5, 6, 7] rfl ?_
    refine z_locals [0, 1, 2, 3, 4, 5, 6] [(0, .ref b0), (1, .ref (X.ad 0)), (2, .int v2), (3, .int (v3 + 0)), (4, .int v4), (5, .int v5), (6, .int v6)] rfl ?_
    exact t_L_law_598 X out hX hZ hfl hs hnl EXIT M hM K244 hK244 k st v2 (v3 + 0) v4 v5 v6 (by omega) hf
  have hf := (if_neg c180).symm.trans hf
  refine z_iconst (v := 1) (hX k (by omega)) dL_law_591 (by decide) ?_
  refine z_goto (hX k (by omega)) 596 dL_law_592 (by decide) ?_
  refine z_iadd (hX k (by omega)) dL_law_596 ?_
  refine z_istore_n (hX k (by omega)) [(0, .ref b0), (1, .ref (X.ad 0)), (2, .int v2), (3, .int (v3 + 1)), (4, .int v4), (5, .int v5), (6, .int v6), (13, .int v13)] dL_law_597 rfl (by show _ < X.nL; rw [hnl]; decide) [1, 2, 3, 0, 4, 5, 6, 7] rfl ?_
  refine z_locals [0, 1, 2, 3, 4, 5, 6] [(0, .ref b0), (1, .ref (X.ad 0)), (2, .int v2), (3, .int (v3 + 1)), (4, .int v4), (5, .int v5), (6, .int v6)] rfl ?_
  exact t_L_law_598 X out hX hZ hfl hs hnl EXIT M hM K244 hK244 k st v2 (v3 + 1) v4 v5 v6 (by omega) hf
set_option maxHeartbeats 4000000 in
set_option maxRecDepth 100000 in
theorem t_L_law_544 (X : zCx) (out : Unit × zSt) {B N : Nat} (hX : ∀ j, j ≤ 130 → zOk (zat X (B + j) (N + 6 * j)) RL code room_1) (hZ : zXs X.A X.s X.s.heap) (hfl : X.l.stackTraces = false) {b0 L : Nat} {xs : Nat → Int32} (hs : zScr X b0 L xs) (hnl : X.nL = 14) (EXIT : ∀ (k : Nat) (st : zSt) (lv : List (Nat × Value)), k ≤ 130 → zG 98 shC (zat X (B + k) (N + 6 * k)) st 976 lv [.int 1]) (M : Nat) (hM : M ≤ 130) (K244 : zSt → Int32 → Int32 → Int32 → Int32 → Int32 → Option (Unit × zSt)) (hK244 : ∀ (k : Nat) (st : zSt) (v2 : Int32) (v3 : Int32) (v4 : Int32) (v5 : Int32) (v6 : Int32), k ≤ M → K244 st v2 v3 v4 v5 v6 = some out → zG 98 shC (zat X (B + k) (N + 6 * k)) st 244 [(0, .ref b0), (1, .ref (X.ad 0)), (2, .int v2), (3, .int v3), (4, .int v4), (5, .int v5), (6, .int v6)] []) (k : Nat) (st : zSt) (v2 : Int32) (v3 : Int32) (v5 : Int32) (v6 : Int32) (v13 : Int32) (hk : k + 0 ≤ M) (hf : f_L_law_544 L xs K244 st v2 v3 v5 v6 v13 = some out) : zG 98 shC (zat X (B + k) (N + 6 * k)) st 544 [(0, .ref b0), (1, .ref (X.ad 0)), (2, .int v2), (3, .int v3), (5, .int v5), (6, .int v6), (13, .int v13)] [] := by
  unfold f_L_law_544 at hf
  refine z_iconst (v := 1) (hX k (by omega)) dL_law_544 (by decide) ?_
  refine z_goto (hX k (by omega)) 583 dL_law_545 (by decide) ?_
  refine z_istore (hX k (by omega)) [(0, .ref b0), (1, .ref (X.ad 0)), (2, .int v2), (3, .int v3), (4, .int 1), (5, .int v5), (6, .int v6), (13, .int v13)] dL_law_583 (by show _ < X.nL; rw [hnl]; decide) [1, 2, 3, 4, 0, 5, 6, 7] rfl ?_
  exact t_L_law_585 X out hX hZ hfl hs hnl EXIT M hM K244 hK244 k st v2 v3 1 v5 v6 v13 (by omega) hf
set_option maxHeartbeats 4000000 in
set_option maxRecDepth 100000 in
theorem t_L_law_582 (X : zCx) (out : Unit × zSt) {B N : Nat} (hX : ∀ j, j ≤ 130 → zOk (zat X (B + j) (N + 6 * j)) RL code room_1) (hZ : zXs X.A X.s X.s.heap) (hfl : X.l.stackTraces = false) {b0 L : Nat} {xs : Nat → Int32} (hs : zScr X b0 L xs) (hnl : X.nL = 14) (EXIT : ∀ (k : Nat) (st : zSt) (lv : List (Nat × Value)), k ≤ 130 → zG 98 shC (zat X (B + k) (N + 6 * k)) st 976 lv [.int 1]) (M : Nat) (hM : M ≤ 130) (K244 : zSt → Int32 → Int32 → Int32 → Int32 → Int32 → Option (Unit × zSt)) (hK244 : ∀ (k : Nat) (st : zSt) (v2 : Int32) (v3 : Int32) (v4 : Int32) (v5 : Int32) (v6 : Int32), k ≤ M → K244 st v2 v3 v4 v5 v6 = some out → zG 98 shC (zat X (B + k) (N + 6 * k)) st 244 [(0, .ref b0), (1, .ref (X.ad 0)), (2, .int v2), (3, .int v3), (4, .int v4), (5, .int v5), (6, .int v6)] []) (k : Nat) (st : zSt) (v2 : Int32) (v3 : Int32) (v5 : Int32) (v6 : Int32) (v13 : Int32) (hk : k + 0 ≤ M) (hf : f_L_law_582 L xs K244 st v2 v3 v5 v6 v13 = some out) : zG 98 shC (zat X (B + k) (N + 6 * k)) st 582 [(0, .ref b0), (1, .ref (X.ad 0)), (2, .int v2), (3, .int v3), (5, .int v5), (6, .int v6), (13, .int v13)] [] := by
  unfold f_L_law_582 at hf
  refine z_iconst (v := 0) (hX k (by omega)) dL_law_582 (by decide) ?_
  refine z_istore (hX k (by omega)) [(0, .ref b0), (1, .ref (X.ad 0)), (2, .int v2), (3, .int v3), (4, .int 0), (5, .int v5), (6, .int v6), (13, .int v13)] dL_law_583 (by show _ < X.nL; rw [hnl]; decide) [1, 2, 3, 4, 0, 5, 6, 7] rfl ?_
  exact t_L_law_585 X out hX hZ hfl hs hnl EXIT M hM K244 hK244 k st v2 v3 0 v5 v6 v13 (by omega) hf
set_option maxHeartbeats 4000000 in
set_option maxRecDepth 100000 in
theorem t_L_law_522 (X : zCx) (out : Unit × zSt) {B N : Nat} (hX : ∀ j, j ≤ 130 → zOk (zat X (B + j) (N + 6 * j)) RL code room_1) (hZ : zXs X.A X.s X.s.heap) (hfl : X.l.stackTraces = false) {b0 L : Nat} {xs : Nat → Int32} (hs : zScr X b0 L xs) (hnl : X.nL = 14) (EXIT : ∀ (k : Nat) (st : zSt) (lv : List (Nat × Value)), k ≤ 130 → zG 98 shC (zat X (B + k) (N + 6 * k)) st 976 lv [.int 1]) (M : Nat) (hM : M ≤ 130) (K244 : zSt → Int32 → Int32 → Int32 → Int32 → Int32 → Option (Unit × zSt)) (hK244 : ∀ (k : Nat) (st : zSt) (v2 : Int32) (v3 : Int32) (v4 : Int32) (v5 : Int32) (v6 : Int32), k ≤ M → K244 st v2 v3 v4 v5 v6 = some out → zG 98 shC (zat X (B + k) (N + 6 * k)) st 244 [(0, .ref b0), (1, .ref (X.ad 0)), (2, .int v2), (3, .int v3), (4, .int v4), (5, .int v5), (6, .int v6)] []) (k : Nat) (st : zSt) (v2 : Int32) (v3 : Int32) (v5 : Int32) (v6 : Int32) (v10 : Int32) (v13 : Int32) (hk : k + 0 ≤ M) (hf : f_L_law_522 L xs K244 st v2 v3 v5 v6 v10 v13 = some out) : zG 98 shC (zat X (B + k) (N + 6 * k)) st 522 [(0, .ref b0), (1, .ref (X.ad 0)), (2, .int v2), (3, .int v3), (5, .int v5), (6, .int v6), (10, .int v10), (13, .int v13)] [] := by
  unfold f_L_law_522 at hf
  refine z_iload (hX k (by omega)) 7 dL_law_522 rfl ?_
  refine z_bipush (v := (-9)) (hX k (by omega)) dL_law_524 (by decide) ?_
  refine z_icmp_ne (hX k (by omega)) 552 dL_law_526 (by decide) (fun c167 => ?_) (fun c167 => ?_)
  · have hf := (if_neg c167).symm.trans hf
    refine z_iload (hX k (by omega)) 7 dL_law_552 rfl ?_
    refine z_iload_n (hX k (by omega)) 3 dL_law_554 rfl rfl ?_
    refine z_icmp_ne (hX k (by omega)) 582 dL_law_555 (by decide) (fun c168 => ?_) (fun c168 => ?_)
    · have hf := (if_neg c168).symm.trans hf
      refine z_locals [0, 1, 2, 3, 4, 5, 7] [(0, .ref b0), (1, .ref (X.ad 0)), (2, .int v2), (3, .int v3), (5, .int v5), (6, .int v6), (13, .int v13)] rfl ?_
      exact t_L_law_582 X out hX hZ hfl hs hnl EXIT M hM K244 hK244 k st v2 v3 v5 v6 v13 (by omega) hf
    have hf := (if_pos c168).symm.trans hf
    refine z_aload_n (hX k (by omega)) 1 dL_law_558 rfl rfl ?_
    refine z_iload (hX k (by omega)) 7 dL_law_559 rfl ?_
    obtain ⟨q169, e170, hf⟩ := zbind hf
    refine z_callV (stk := []) (stk' := [.int q169.1]) (hX k (by omega)) (c_X6_sailingOf X.l st v13 q169 e170) zb_X6_sailingOf 0 dL_law_561 zm_583 (by decide) shC_0 rfl rfl rfl rfl ⟨by decide, by decide⟩ ⟨rfl, rfl⟩ (Nat.le_of_ble_eq_true rfl) rfl ?_
    refine z_iload (hX k (by omega)) 6 dL_law_564 rfl ?_
    refine z_icmp_ne (hX k (by omega)) 582 dL_law_566 (by decide) (fun c171 => ?_) (fun c171 => ?_)
    · have hf := (if_neg c171).symm.trans hf
      refine z_locals [0, 1, 2, 3, 4, 5, 7] [(0, .ref b0), (1, .ref (X.ad 0)), (2, .int v2), (3, .int v3), (5, .int v5), (6, .int v6), (13, .int v13)] rfl ?_
      exact t_L_law_582 X out hX hZ hfl hs hnl EXIT M hM K244 hK244 k q169.2 v2 v3 v5 v6 v13 (by omega) hf
    have hf := (if_pos c171).symm.trans hf
    refine z_aload_n (hX k (by omega)) 1 dL_law_569 rfl rfl ?_
    refine z_iload (hX k (by omega)) 7 dL_law_570 rfl ?_
    obtain ⟨q172, e173, hf⟩ := zbind hf
    refine z_callV (stk := []) (stk' := [.int q172.1]) (hX k (by omega)) (c_X6_paid X.l q169.2 v13 q172 e173) zb_X6_paid 0 dL_law_572 zm_587 (by decide) shC_0 rfl rfl rfl rfl ⟨by decide, by decide⟩ ⟨rfl, rfl⟩ (Nat.le_of_ble_eq_true rfl) rfl ?_
    refine z_if_le (hX k (by omega)) 582 dL_law_575 (by decide) (fun c174 => ?_) (fun c174 => ?_)
    · have hf := (if_pos c174).symm.trans hf
      refine z_locals [0, 1, 2, 3, 4, 5, 7] [(0, .ref b0), (1, .ref (X.ad 0)), (2, .int v2), (3, .int v3), (5, .int v5), (6, .int v6), (13, .int v13)] rfl ?_
      exact t_L_law_582 X out hX hZ hfl hs hnl EXIT M hM K244 hK244 k q172.2 v2 v3 v5 v6 v13 (by omega) hf
    have hf := (if_neg c174).symm.trans hf
    refine z_iconst (v := 1) (hX k (by omega)) dL_law_578 (by decide) ?_
    refine z_goto (hX k (by omega)) 583 dL_law_579 (by decide) ?_
    refine z_istore (hX k (by omega)) [(0, .ref b0), (1, .ref (X.ad 0)), (2, .int v2), (3, .int v3), (4, .int 1), (5, .int v5), (6, .int v6), (10, .int v10), (13, .int v13)] dL_law_583 (by show _ < X.nL; rw [hnl]; decide) [1, 2, 3, 4, 0, 5, 6, 7, 8] rfl ?_
    refine z_locals [0, 1, 2, 3, 4, 5, 6, 8] [(0, .ref b0), (1, .ref (X.ad 0)), (2, .int v2), (3, .int v3), (4, .int 1), (5, .int v5), (6, .int v6), (13, .int v13)] rfl ?_
    exact t_L_law_585 X out hX hZ hfl hs hnl EXIT M hM K244 hK244 k q172.2 v2 v3 1 v5 v6 v13 (by omega) hf
  have hf := (if_pos c167).symm.trans hf
  refine z_iload_n (hX k (by omega)) 3 dL_law_529 rfl rfl ?_
  refine z_bipush (v := 40) (hX k (by omega)) dL_law_530 (by decide) ?_
  refine z_icmp_eq (hX k (by omega)) 544 dL_law_532 (by decide) (fun c175 => ?_) (fun c175 => ?_)
  · have hf := (if_pos c175).symm.trans hf
    refine z_locals [0, 1, 2, 3, 4, 5, 7] [(0, .ref b0), (1, .ref (X.ad 0)), (2, .int v2), (3, .int v3), (5, .int v5), (6, .int v6), (13, .int v13)] rfl ?_
    exact t_L_law_544 X out hX hZ hfl hs hnl EXIT M hM K244 hK244 k st v2 v3 v5 v6 v13 (by omega) hf
  have hf := (if_neg c175).symm.trans hf
  refine z_aload_n (hX k (by omega)) 1 dL_law_535 rfl rfl ?_
  refine z_iload (hX k (by omega)) 6 dL_law_536 rfl ?_
  obtain ⟨q176, e177, hf⟩ := zbind hf
  refine z_callV (stk := []) (stk' := [.int q176.1]) (hX k (by omega)) (c_X6_state X.l st v10 q176 e177) zb_X6_state 0 dL_law_538 zm_571 (by decide) shC_0 rfl rfl rfl rfl ⟨by decide, by decide⟩ ⟨rfl, rfl⟩ (Nat.le_of_ble_eq_true rfl) rfl ?_
  refine z_if_eq (hX k (by omega)) 548 dL_law_541 (by decide) (fun c178 => ?_) (fun c178 => ?_)
  · have hf := (if_pos c178).symm.trans hf
    refine z_iconst (v := 0) (hX k (by omega)) dL_law_548 (by decide) ?_
    refine z_goto (hX k (by omega)) 583 dL_law_549 (by decide) ?_
    refine z_istore (hX k (by omega)) [(0, .ref b0), (1, .ref (X.ad 0)), (2, .int v2), (3, .int v3), (4, .int 0), (5, .int v5), (6, .int v6), (10, .int v10), (13, .int v13)] dL_law_583 (by show _ < X.nL; rw [hnl]; decide) [1, 2, 3, 4, 0, 5, 6, 7, 8] rfl ?_
    refine z_locals [0, 1, 2, 3, 4, 5, 6, 8] [(0, .ref b0), (1, .ref (X.ad 0)), (2, .int v2), (3, .int v3), (4, .int 0), (5, .int v5), (6, .int v6), (13, .int v13)] rfl ?_
    exact t_L_law_585 X out hX hZ hfl hs hnl EXIT M hM K244 hK244 k q176.2 v2 v3 0 v5 v6 v13 (by omega) hf
  have hf := (if_neg c178).symm.trans hf
  refine z_locals [0, 1, 2, 3, 4, 5, 7] [(0, .ref b0), (1, .ref (X.ad 0)), (2, .int v2), (3, .int v3), (5, .int v5), (6, .int v6), (13, .int v13)] rfl ?_
  exact t_L_law_544 X out hX hZ hfl hs hnl EXIT M hM K244 hK244 k q176.2 v2 v3 v5 v6 v13 (by omega) hf
set_option maxHeartbeats 4000000 in
set_option maxRecDepth 100000 in
theorem t_L_law_459 (X : zCx) (out : Unit × zSt) {B N : Nat} (hX : ∀ j, j ≤ 130 → zOk (zat X (B + j) (N + 6 * j)) RL code room_1) (hZ : zXs X.A X.s X.s.heap) (hfl : X.l.stackTraces = false) {b0 L : Nat} {xs : Nat → Int32} (hs : zScr X b0 L xs) (hnl : X.nL = 14) (EXIT : ∀ (k : Nat) (st : zSt) (lv : List (Nat × Value)), k ≤ 130 → zG 98 shC (zat X (B + k) (N + 6 * k)) st 976 lv [.int 1]) (M : Nat) (hM : M ≤ 130) (K244 : zSt → Int32 → Int32 → Int32 → Int32 → Int32 → Option (Unit × zSt)) (hK244 : ∀ (k : Nat) (st : zSt) (v2 : Int32) (v3 : Int32) (v4 : Int32) (v5 : Int32) (v6 : Int32), k ≤ M → K244 st v2 v3 v4 v5 v6 = some out → zG 98 shC (zat X (B + k) (N + 6 * k)) st 244 [(0, .ref b0), (1, .ref (X.ad 0)), (2, .int v2), (3, .int v3), (4, .int v4), (5, .int v5), (6, .int v6)] []) (k : Nat) (st : zSt) (v2 : Int32) (v3 : Int32) (v5 : Int32) (v6 : Int32) (v7 : Int32) (v10 : Int32) (v11 : Int32) (v12 : Int32) (hk : k + 1 ≤ M) (hf : f_L_law_459 L xs K244 st v2 v3 v5 v6 v7 v10 v11 v12 = some out) : zG 98 shC (zat X (B + k) (N + 6 * k)) st 459 [(0, .ref b0), (1, .ref (X.ad 0)), (2, .int v2), (3, .int v3), (5, .int v5), (6, .int v6), (7, .int v7), (10, .int v10), (11, .int v11), (12, .int v12)] [] := by
  unfold f_L_law_459 at hf
  refine z_aload_n (hX k (by omega)) 1 dL_law_459 rfl rfl ?_
  refine z_iload (hX k (by omega)) 6 dL_law_460 rfl ?_
  refine z_iconst (v := 3) (hX k (by omega)) dL_law_462 (by decide) ?_
  refine z_ishr (hX k (by omega)) dL_law_463 ?_
  refine z_bipush (v := 10) (hX k (by omega)) dL_law_464 (by decide) ?_
  obtain ⟨q147, e148, hf⟩ := zbind hf
  refine z_callS (stk := [.ref (X.ad 0)]) (stk' := [.int q147.1, .ref (X.ad 0)]) (hX k (by omega)) (c_L_low X.l st (zshr v7 3) 10 q147 e148) zb_L_low dL_law_466 zm_591 rfl rfl rfl ⟨by decide, by decide⟩ ⟨rfl, rfl⟩ (Nat.le_of_ble_eq_true rfl) rfl ?_
  refine z_iload (hX k (by omega)) 7 dL_law_469 rfl ?_
  refine z_iload (hX k (by omega)) 8 dL_law_471 rfl ?_
  refine z_iload (hX k (by omega)) 8 dL_law_473 rfl ?_
  refine z_if_ne (hX k (by omega)) 482 dL_law_475 (by decide) (fun c149 => ?_) (fun c149 => ?_)
  · have hf := (if_neg c149).symm.trans hf
    refine z_iconst (v := 1) (hX k (by omega)) dL_law_482 (by decide) ?_
    refine z_iload (hX k (by omega)) 6 dL_law_483 rfl ?_
    refine z_bipush (v := 7) (hX k (by omega)) dL_law_485 (by decide) ?_
    refine z_ishr (hX k (by omega)) dL_law_487 ?_
    refine z_bipush (v := 20) (hX k (by omega)) dL_law_488 (by decide) ?_
    obtain ⟨q150, e151, hf⟩ := zbind hf
    refine z_callS (stk := [.int 1, .int v11, .int v10, .int q147.1, .ref (X.ad 0)]) (stk' := [.int q150.1, .int 1, .int v11, .int v10, .int q147.1, .ref (X.ad 0)]) (hX k (by omega)) (c_L_low X.l q147.2 (zshr v7 7) 20 q150 e151) zb_L_low dL_law_490 zm_591 rfl rfl rfl ⟨by decide, by decide⟩ ⟨rfl, rfl⟩ (Nat.le_of_ble_eq_true rfl) rfl ?_
    refine z_iadd (hX k (by omega)) dL_law_493 ?_
    refine z_iload (hX k (by omega)) 8 dL_law_494 rfl ?_
    refine z_if_ne (hX k (by omega)) 503 dL_law_496 (by decide) (fun c152 => ?_) (fun c152 => ?_)
    · have hf := (if_neg c152).symm.trans hf
      refine z_iconst (v := 1) (hX k (by omega)) dL_law_503 (by decide) ?_
      refine z_iload (hX k (by omega)) 6 dL_law_504 rfl ?_
      refine z_bipush (v := 9) (hX k (by omega)) dL_law_506 (by decide) ?_
      refine z_ishr (hX k (by omega)) dL_law_508 ?_
      refine z_bipush (v := 60) (hX k (by omega)) dL_law_509 (by decide) ?_
      obtain ⟨q153, e154, hf⟩ := zbind hf
      refine z_callS (stk := [.int 1, .int (1 + q150.1), .int v11, .int v10, .int q147.1, .ref (X.ad 0)]) (stk' := [.int q153.1, .int 1, .int (1 + q150.1), .int v11, .int v10, .int q147.1, .ref (X.ad 0)]) (hX k (by omega)) (c_L_low X.l q150.2 (zshr v7 9) 60 q153 e154) zb_L_low dL_law_511 zm_591 rfl rfl rfl ⟨by decide, by decide⟩ ⟨rfl, rfl⟩ (Nat.le_of_ble_eq_true rfl) rfl ?_
      refine z_iadd (hX k (by omega)) dL_law_514 ?_
      refine z_iload (hX k (by omega)) 9 dL_law_515 rfl ?_
      obtain ⟨q155, e156, hf⟩ := zbind hf
      refine z_callWk (stk := []) (stk' := [.int q155.1]) hX (k := k) (by omega) hZ (cg_L_book X.l hfl q153.2 q147.1 v10 v11 (1 + q150.1) (1 + q153.1) v12 q155 e156) zbW_L_book dL_law_517 zm_635 rfl rfl rfl ⟨by decide, by decide⟩ ⟨rfl, rfl⟩ (Nat.le_of_ble_eq_true rfl) rfl ?_
      refine z_istore (hX (k + 1) (by omega)) [(0, .ref b0), (1, .ref (X.ad 0)), (2, .int v2), (3, .int v3), (5, .int v5), (6, .int v6), (7, .int v7), (10, .int v10), (11, .int v11), (12, .int v12), (13, .int q155.1)] dL_law_520 (by show _ < X.nL; rw [hnl]; decide) [1, 2, 3, 4, 5, 6, 7, 8, 9, 10, 0] rfl ?_
      refine z_locals [0, 1, 2, 3, 4, 5, 7, 10] [(0, .ref b0), (1, .ref (X.ad 0)), (2, .int v2), (3, .int v3), (5, .int v5), (6, .int v6), (10, .int v10), (13, .int q155.1)] rfl ?_
      exact t_L_law_522 X out hX hZ hfl hs hnl EXIT M hM K244 hK244 (k + 1) q155.2 v2 v3 v5 v6 v10 q155.1 (by omega) hf
    have hf := (if_pos c152).symm.trans hf
    refine z_iconst (v := 0) (hX k (by omega)) dL_law_499 (by decide) ?_
    refine z_goto (hX k (by omega)) 515 dL_law_500 (by decide) ?_
    refine z_iload (hX k (by omega)) 9 dL_law_515 rfl ?_
    obtain ⟨q157, e158, hf⟩ := zbind hf
    refine z_callWk (stk := []) (stk' := [.int q157.1]) hX (k := k) (by omega) hZ (cg_L_book X.l hfl q150.2 q147.1 v10 v11 (1 + q150.1) 0 v12 q157 e158) zbW_L_book dL_law_517 zm_635 rfl rfl rfl ⟨by decide, by decide⟩ ⟨rfl, rfl⟩ (Nat.le_of_ble_eq_true rfl) rfl ?_
    refine z_istore (hX (k + 1) (by omega)) [(0, .ref b0), (1, .ref (X.ad 0)), (2, .int v2), (3, .int v3), (5, .int v5), (6, .int v6), (7, .int v7), (10, .int v10), (11, .int v11), (12, .int v12), (13, .int q157.1)] dL_law_520 (by show _ < X.nL; rw [hnl]; decide) [1, 2, 3, 4, 5, 6, 7, 8, 9, 10, 0] rfl ?_
    refine z_locals [0, 1, 2, 3, 4, 5, 7, 10] [(0, .ref b0), (1, .ref (X.ad 0)), (2, .int v2), (3, .int v3), (5, .int v5), (6, .int v6), (10, .int v10), (13, .int q157.1)] rfl ?_
    exact t_L_law_522 X out hX hZ hfl hs hnl EXIT M hM K244 hK244 (k + 1) q157.2 v2 v3 v5 v6 v10 q157.1 (by omega) hf
  have hf := (if_pos c149).symm.trans hf
  refine z_iconst (v := 0) (hX k (by omega)) dL_law_478 (by decide) ?_
  refine z_goto (hX k (by omega)) 494 dL_law_479 (by decide) ?_
  refine z_iload (hX k (by omega)) 8 dL_law_494 rfl ?_
  refine z_if_ne (hX k (by omega)) 503 dL_law_496 (by decide) (fun c159 => ?_) (fun c159 => ?_)
  · have hf := (if_neg c159).symm.trans hf
    refine z_iconst (v := 1) (hX k (by omega)) dL_law_503 (by decide) ?_
    refine z_iload (hX k (by omega)) 6 dL_law_504 rfl ?_
    refine z_bipush (v := 9) (hX k (by omega)) dL_law_506 (by decide) ?_
    refine z_ishr (hX k (by omega)) dL_law_508 ?_
    refine z_bipush (v := 60) (hX k (by omega)) dL_law_509 (by decide) ?_
    obtain ⟨q160, e161, hf⟩ := zbind hf
    refine z_callS (stk := [.int 1, .int 0, .int v11, .int v10, .int q147.1, .ref (X.ad 0)]) (stk' := [.int q160.1, .int 1, .int 0, .int v11, .int v10, .int q147.1, .ref (X.ad 0)]) (hX k (by omega)) (c_L_low X.l q147.2 (zshr v7 9) 60 q160 e161) zb_L_low dL_law_511 zm_591 rfl rfl rfl ⟨by decide, by decide⟩ ⟨rfl, rfl⟩ (Nat.le_of_ble_eq_true rfl) rfl ?_
    refine z_iadd (hX k (by omega)) dL_law_514 ?_
    refine z_iload (hX k (by omega)) 9 dL_law_515 rfl ?_
    obtain ⟨q162, e163, hf⟩ := zbind hf
    refine z_callWk (stk := []) (stk' := [.int q162.1]) hX (k := k) (by omega) hZ (cg_L_book X.l hfl q160.2 q147.1 v10 v11 0 (1 + q160.1) v12 q162 e163) zbW_L_book dL_law_517 zm_635 rfl rfl rfl ⟨by decide, by decide⟩ ⟨rfl, rfl⟩ (Nat.le_of_ble_eq_true rfl) rfl ?_
    refine z_istore (hX (k + 1) (by omega)) [(0, .ref b0), (1, .ref (X.ad 0)), (2, .int v2), (3, .int v3), (5, .int v5), (6, .int v6), (7, .int v7), (10, .int v10), (11, .int v11), (12, .int v12), (13, .int q162.1)] dL_law_520 (by show _ < X.nL; rw [hnl]; decide) [1, 2, 3, 4, 5, 6, 7, 8, 9, 10, 0] rfl ?_
    refine z_locals [0, 1, 2, 3, 4, 5, 7, 10] [(0, .ref b0), (1, .ref (X.ad 0)), (2, .int v2), (3, .int v3), (5, .int v5), (6, .int v6), (10, .int v10), (13, .int q162.1)] rfl ?_
    exact t_L_law_522 X out hX hZ hfl hs hnl EXIT M hM K244 hK244 (k + 1) q162.2 v2 v3 v5 v6 v10 q162.1 (by omega) hf
  have hf := (if_pos c159).symm.trans hf
  refine z_iconst (v := 0) (hX k (by omega)) dL_law_499 (by decide) ?_
  refine z_goto (hX k (by omega)) 515 dL_law_500 (by decide) ?_
  refine z_iload (hX k (by omega)) 9 dL_law_515 rfl ?_
  obtain ⟨q164, e165, hf⟩ := zbind hf
  refine z_callWk (stk := []) (stk' := [.int q164.1]) hX (k := k) (by omega) hZ (cg_L_book X.l hfl q147.2 q147.1 v10 v11 0 0 v12 q164 e165) zbW_L_book dL_law_517 zm_635 rfl rfl rfl ⟨by decide, by decide⟩ ⟨rfl, rfl⟩ (Nat.le_of_ble_eq_true rfl) rfl ?_
  refine z_istore (hX (k + 1) (by omega)) [(0, .ref b0), (1, .ref (X.ad 0)), (2, .int v2), (3, .int v3), (5, .int v5), (6, .int v6), (7, .int v7), (10, .int v10), (11, .int v11), (12, .int v12), (13, .int q164.1)] dL_law_520 (by show _ < X.nL; rw [hnl]; decide) [1, 2, 3, 4, 5, 6, 7, 8, 9, 10, 0] rfl ?_
  refine z_locals [0, 1, 2, 3, 4, 5, 7, 10] [(0, .ref b0), (1, .ref (X.ad 0)), (2, .int v2), (3, .int v3), (5, .int v5), (6, .int v6), (10, .int v10), (13, .int q164.1)] rfl ?_
  exact t_L_law_522 X out hX hZ hfl hs hnl EXIT M hM K244 hK244 (k + 1) q164.2 v2 v3 v5 v6 v10 q164.1 (by omega) hf
set_option maxHeartbeats 4000000 in
set_option maxRecDepth 100000 in
theorem t_L_law_456 (X : zCx) (out : Unit × zSt) {B N : Nat} (hX : ∀ j, j ≤ 130 → zOk (zat X (B + j) (N + 6 * j)) RL code room_1) (hZ : zXs X.A X.s X.s.heap) (hfl : X.l.stackTraces = false) {b0 L : Nat} {xs : Nat → Int32} (hs : zScr X b0 L xs) (hnl : X.nL = 14) (EXIT : ∀ (k : Nat) (st : zSt) (lv : List (Nat × Value)), k ≤ 130 → zG 98 shC (zat X (B + k) (N + 6 * k)) st 976 lv [.int 1]) (M : Nat) (hM : M ≤ 130) (K244 : zSt → Int32 → Int32 → Int32 → Int32 → Int32 → Option (Unit × zSt)) (hK244 : ∀ (k : Nat) (st : zSt) (v2 : Int32) (v3 : Int32) (v4 : Int32) (v5 : Int32) (v6 : Int32), k ≤ M → K244 st v2 v3 v4 v5 v6 = some out → zG 98 shC (zat X (B + k) (N + 6 * k)) st 244 [(0, .ref b0), (1, .ref (X.ad 0)), (2, .int v2), (3, .int v3), (4, .int v4), (5, .int v5), (6, .int v6)] []) (k : Nat) (st : zSt) (v2 : Int32) (v3 : Int32) (v5 : Int32) (v6 : Int32) (v7 : Int32) (v10 : Int32) (v11 : Int32) (hk : k + 1 ≤ M) (hf : f_L_law_456 L xs K244 st v2 v3 v5 v6 v7 v10 v11 = some out) : zG 98 shC (zat X (B + k) (N + 6 * k)) st 456 [(0, .ref b0), (1, .ref (X.ad 0)), (2, .int v2), (3, .int v3), (5, .int v5), (6, .int v6), (7, .int v7), (10, .int v10), (11, .int v11)] [] := by
  unfold f_L_law_456 at hf
  refine z_iconst (v := 0) (hX k (by omega)) dL_law_456 (by decide) ?_
  refine z_istore (hX k (by omega)) [(0, .ref b0), (1, .ref (X.ad 0)), (2, .int v2), (3, .int v3), (5, .int v5), (6, .int v6), (7, .int v7), (10, .int v10), (11, .int v11), (12, .int 0)] dL_law_457 (by show _ < X.nL; rw [hnl]; decide) [1, 2, 3, 4, 5, 6, 7, 8, 9, 0] rfl ?_
  exact t_L_law_459 X out hX hZ hfl hs hnl EXIT M hM K244 hK244 k st v2 v3 v5 v6 v7 v10 v11 0 (by omega) hf
set_option maxHeartbeats 4000000 in
set_option maxRecDepth 100000 in
theorem t_L_law_658 (X : zCx) (out : Unit × zSt) {B N : Nat} (hX : ∀ j, j ≤ 130 → zOk (zat X (B + j) (N + 6 * j)) RL code room_1) (hZ : zXs X.A X.s X.s.heap) (hfl : X.l.stackTraces = false) {b0 L : Nat} {xs : Nat → Int32} (hs : zScr X b0 L xs) (hnl : X.nL = 14) (EXIT : ∀ (k : Nat) (st : zSt) (lv : List (Nat × Value)), k ≤ 130 → zG 98 shC (zat X (B + k) (N + 6 * k)) st 976 lv [.int 1]) (M : Nat) (hM : M ≤ 130) (K244 : zSt → Int32 → Int32 → Int32 → Int32 → Int32 → Option (Unit × zSt)) (hK244 : ∀ (k : Nat) (st : zSt) (v2 : Int32) (v3 : Int32) (v4 : Int32) (v5 : Int32) (v6 : Int32), k ≤ M → K244 st v2 v3 v4 v5 v6 = some out → zG 98 shC (zat X (B + k) (N + 6 * k)) st 244 [(0, .ref b0), (1, .ref (X.ad 0)), (2, .int v2), (3, .int v3), (4, .int v4), (5, .int v5), (6, .int v6)] []) (k : Nat) (st : zSt) (v2 : Int32) (v3 : Int32) (v4 : Int32) (v5 : Int32) (v6 : Int32) (hk : k + 0 ≤ M) (hf : f_L_law_658 L xs K244 st v2 v3 v4 v5 v6 = some out) : zG 98 shC (zat X (B + k) (N + 6 * k)) st 658 [(0, .ref b0), (1, .ref (X.ad 0)), (2, .int v2), (3, .int v3), (4, .int v4), (5, .int v5), (6, .int v6)] [] := by
  unfold f_L_law_658 at hf
  refine z_goto (hX k (by omega)) 947 dL_law_658 (by decide) ?_
  exact t_L_law_947 X out hX hZ hfl hs hnl EXIT M hM K244 hK244 k st v2 v3 v4 v5 v6 (by omega) hf
set_option maxHeartbeats 4000000 in
set_option maxRecDepth 100000 in
theorem t_L_law_651 (X : zCx) (out : Unit × zSt) {B N : Nat} (hX : ∀ j, j ≤ 130 → zOk (zat X (B + j) (N + 6 * j)) RL code room_1) (hZ : zXs X.A X.s X.s.heap) (hfl : X.l.stackTraces = false) {b0 L : Nat} {xs : Nat → Int32} (hs : zScr X b0 L xs) (hnl : X.nL = 14) (EXIT : ∀ (k : Nat) (st : zSt) (lv : List (Nat × Value)), k ≤ 130 → zG 98 shC (zat X (B + k) (N + 6 * k)) st 976 lv [.int 1]) (M : Nat) (hM : M ≤ 130) (K244 : zSt → Int32 → Int32 → Int32 → Int32 → Int32 → Option (Unit × zSt)) (hK244 : ∀ (k : Nat) (st : zSt) (v2 : Int32) (v3 : Int32) (v4 : Int32) (v5 : Int32) (v6 : Int32), k ≤ M → K244 st v2 v3 v4 v5 v6 = some out → zG 98 shC (zat X (B + k) (N + 6 * k)) st 244 [(0, .ref b0), (1, .ref (X.ad 0)), (2, .int v2), (3, .int v3), (4, .int v4), (5, .int v5), (6, .int v6)] []) (k : Nat) (st : zSt) (v2 : Int32) (v3 : Int32) (v5 : Int32) (v6 : Int32) (hk : k + 0 ≤ M) (hf : f_L_law_651 L xs K244 st v2 v3 v5 v6 = some out) : zG 98 shC (zat X (B + k) (N + 6 * k)) st 651 [(0, .ref b0), (1, .ref (X.ad 0)), (2, .int v2), (3, .int v3), (5, .int v5), (6, .int v6)] [] := by
  unfold f_L_law_651 at hf
  refine z_iconst (v := 1) (hX k (by omega)) dL_law_651 (by decide) ?_
  refine z_goto (hX k (by omega)) 656 dL_law_652 (by decide) ?_
  refine z_istore (hX k (by omega)) [(0, .ref b0), (1, .ref (X.ad 0)), (2, .int v2), (3, .int v3), (4, .int 1), (5, .int v5), (6, .int v6)] dL_law_656 (by show _ < X.nL; rw [hnl]; decide) [1, 2, 3, 4, 0, 5, 6] rfl ?_
  exact t_L_law_658 X out hX hZ hfl hs hnl EXIT M hM K244 hK244 k st v2 v3 1 v5 v6 (by omega) hf
set_option maxHeartbeats 4000000 in
set_option maxRecDepth 100000 in
theorem t_L_law_737 (X : zCx) (out : Unit × zSt) {B N : Nat} (hX : ∀ j, j ≤ 130 → zOk (zat X (B + j) (N + 6 * j)) RL code room_1) (hZ : zXs X.A X.s X.s.heap) (hfl : X.l.stackTraces = false) {b0 L : Nat} {xs : Nat → Int32} (hs : zScr X b0 L xs) (hnl : X.nL = 14) (EXIT : ∀ (k : Nat) (st : zSt) (lv : List (Nat × Value)), k ≤ 130 → zG 98 shC (zat X (B + k) (N + 6 * k)) st 976 lv [.int 1]) (M : Nat) (hM : M ≤ 130) (K244 : zSt → Int32 → Int32 → Int32 → Int32 → Int32 → Option (Unit × zSt)) (hK244 : ∀ (k : Nat) (st : zSt) (v2 : Int32) (v3 : Int32) (v4 : Int32) (v5 : Int32) (v6 : Int32), k ≤ M → K244 st v2 v3 v4 v5 v6 = some out → zG 98 shC (zat X (B + k) (N + 6 * k)) st 244 [(0, .ref b0), (1, .ref (X.ad 0)), (2, .int v2), (3, .int v3), (4, .int v4), (5, .int v5), (6, .int v6)] []) (k : Nat) (st : zSt) (v2 : Int32) (v3 : Int32) (v4 : Int32) (v5 : Int32) (v6 : Int32) (hk : k + 0 ≤ M) (hf : f_L_law_737 L xs K244 st v2 v3 v4 v5 v6 = some out) : zG 98 shC (zat X (B + k) (N + 6 * k)) st 737 [(0, .ref b0), (1, .ref (X.ad 0)), (2, .int v2), (3, .int v3), (4, .int v4), (5, .int v5), (6, .int v6)] [] := by
  unfold f_L_law_737 at hf
  refine z_goto (hX k (by omega)) 947 dL_law_737 (by decide) ?_
  exact t_L_law_947 X out hX hZ hfl hs hnl EXIT M hM K244 hK244 k st v2 v3 v4 v5 v6 (by omega) hf
set_option maxHeartbeats 4000000 in
set_option maxRecDepth 100000 in
theorem t_L_law_719 (X : zCx) (out : Unit × zSt) {B N : Nat} (hX : ∀ j, j ≤ 130 → zOk (zat X (B + j) (N + 6 * j)) RL code room_1) (hZ : zXs X.A X.s X.s.heap) (hfl : X.l.stackTraces = false) {b0 L : Nat} {xs : Nat → Int32} (hs : zScr X b0 L xs) (hnl : X.nL = 14) (EXIT : ∀ (k : Nat) (st : zSt) (lv : List (Nat × Value)), k ≤ 130 → zG 98 shC (zat X (B + k) (N + 6 * k)) st 976 lv [.int 1]) (M : Nat) (hM : M ≤ 130) (K244 : zSt → Int32 → Int32 → Int32 → Int32 → Int32 → Option (Unit × zSt)) (hK244 : ∀ (k : Nat) (st : zSt) (v2 : Int32) (v3 : Int32) (v4 : Int32) (v5 : Int32) (v6 : Int32), k ≤ M → K244 st v2 v3 v4 v5 v6 = some out → zG 98 shC (zat X (B + k) (N + 6 * k)) st 244 [(0, .ref b0), (1, .ref (X.ad 0)), (2, .int v2), (3, .int v3), (4, .int v4), (5, .int v5), (6, .int v6)] []) (k : Nat) (st : zSt) (v2 : Int32) (v3 : Int32) (v5 : Int32) (v6 : Int32) (hk : k + 0 ≤ M) (hf : f_L_law_719 L xs K244 st v2 v3 v5 v6 = some out) : zG 98 shC (zat X (B + k) (N + 6 * k)) st 719 [(0, .ref b0), (1, .ref (X.ad 0)), (2, .int v2), (3, .int v3), (5, .int v5), (6, .int v6)] [] := by
  unfold f_L_law_719 at hf
  refine z_iconst (v := 0) (hX k (by omega)) dL_law_719 (by decide) ?_
  refine z_goto (hX k (by omega)) 735 dL_law_720 (by decide) ?_
  refine z_istore (hX k (by omega)) [(0, .ref b0), (1, .ref (X.ad 0)), (2, .int v2), (3, .int v3), (4, .int 0), (5, .int v5), (6, .int v6)] dL_law_735 (by show _ < X.nL; rw [hnl]; decide) [1, 2, 3, 4, 0, 5, 6] rfl ?_
  exact t_L_law_737 X out hX hZ hfl hs hnl EXIT M hM K244 hK244 k st v2 v3 0 v5 v6 (by omega) hf
set_option maxHeartbeats 4000000 in
set_option maxRecDepth 100000 in
theorem t_L_law_684 (X : zCx) (out : Unit × zSt) {B N : Nat} (hX : ∀ j, j ≤ 130 → zOk (zat X (B + j) (N + 6 * j)) RL code room_1) (hZ : zXs X.A X.s X.s.heap) (hfl : X.l.stackTraces = false) {b0 L : Nat} {xs : Nat → Int32} (hs : zScr X b0 L xs) (hnl : X.nL = 14) (EXIT : ∀ (k : Nat) (st : zSt) (lv : List (Nat × Value)), k ≤ 130 → zG 98 shC (zat X (B + k) (N + 6 * k)) st 976 lv [.int 1]) (M : Nat) (hM : M ≤ 130) (K244 : zSt → Int32 → Int32 → Int32 → Int32 → Int32 → Option (Unit × zSt)) (hK244 : ∀ (k : Nat) (st : zSt) (v2 : Int32) (v3 : Int32) (v4 : Int32) (v5 : Int32) (v6 : Int32), k ≤ M → K244 st v2 v3 v4 v5 v6 = some out → zG 98 shC (zat X (B + k) (N + 6 * k)) st 244 [(0, .ref b0), (1, .ref (X.ad 0)), (2, .int v2), (3, .int v3), (4, .int v4), (5, .int v5), (6, .int v6)] []) (k : Nat) (st : zSt) (v2 : Int32) (v3 : Int32) (v5 : Int32) (v6 : Int32) (v10 : Int32) (v11 : Int32) (hk : k + 1 ≤ M) (hf : f_L_law_684 L xs K244 st v2 v3 v5 v6 v10 v11 = some out) : zG 98 shC (zat X (B + k) (N + 6 * k)) st 684 [(0, .ref b0), (1, .ref (X.ad 0)), (2, .int v2), (3, .int v3), (5, .int v5), (6, .int v6), (10, .int v10), (11, .int v11)] [] := by
  unfold f_L_law_684 at hf
  refine z_aload_n (hX k (by omega)) 1 dL_law_684 rfl rfl ?_
  refine z_iconst (v := 0) (hX k (by omega)) dL_law_685 (by decide) ?_
  refine z_iload (hX k (by omega)) 6 dL_law_686 rfl ?_
  refine z_iconst (v := 0) (hX k (by omega)) dL_law_688 (by decide) ?_
  obtain ⟨q139, e140, hf⟩ := zbind hf
  refine z_callWk (stk := []) (stk' := [.int q139.1]) hX (k := k) (by omega) hZ (cg_L_acts0 X.l hfl st v10 0 q139 e140) zbW_L_acts dL_law_689 zm_620 rfl rfl rfl ⟨by decide, by decide⟩ ⟨rfl, rfl⟩ (Nat.le_of_ble_eq_true rfl) rfl ?_
  refine z_istore (hX (k + 1) (by omega)) [(0, .ref b0), (1, .ref (X.ad 0)), (2, .int v2), (3, .int v3), (5, .int v5), (6, .int v6), (10, .int v10), (11, .int v11), (12, .int q139.1)] dL_law_692 (by show _ < X.nL; rw [hnl]; decide) [1, 2, 3, 4, 5, 6, 7, 8, 0] rfl ?_
  refine z_iload (hX (k + 1) (by omega)) 7 dL_law_694 rfl ?_
  refine z_if_eq (hX (k + 1) (by omega)) 723 dL_law_696 (by decide) (fun c141 => ?_) (fun c141 => ?_)
  · have hf := (if_pos c141).symm.trans hf
    refine z_iload (hX (k + 1) (by omega)) 8 dL_law_723 rfl ?_
    refine z_bipush (v := (-9)) (hX (k + 1) (by omega)) dL_law_725 (by decide) ?_
    refine z_icmp_ne (hX (k + 1) (by omega)) 734 dL_law_727 (by decide) (fun c142 => ?_) (fun c142 => ?_)
    · have hf := (if_neg c142).symm.trans hf
      refine z_iconst (v := 0) (hX (k + 1) (by omega)) dL_law_734 (by decide) ?_
      refine z_istore (hX (k + 1) (by omega)) [(0, .ref b0), (1, .ref (X.ad 0)), (2, .int v2), (3, .int v3), (4, .int 0), (5, .int v5), (6, .int v6), (10, .int v10), (11, .int v11), (12, .int q139.1)] dL_law_735 (by show _ < X.nL; rw [hnl]; decide) [1, 2, 3, 4, 0, 5, 6, 7, 8, 9] rfl ?_
      refine z_locals [0, 1, 2, 3, 4, 5, 6] [(0, .ref b0), (1, .ref (X.ad 0)), (2, .int v2), (3, .int v3), (4, .int 0), (5, .int v5), (6, .int v6)] rfl ?_
      exact t_L_law_737 X out hX hZ hfl hs hnl EXIT M hM K244 hK244 (k + 1) q139.2 v2 v3 0 v5 v6 (by omega) hf
    have hf := (if_pos c142).symm.trans hf
    refine z_iconst (v := 1) (hX (k + 1) (by omega)) dL_law_730 (by decide) ?_
    refine z_goto (hX (k + 1) (by omega)) 735 dL_law_731 (by decide) ?_
    refine z_istore (hX (k + 1) (by omega)) [(0, .ref b0), (1, .ref (X.ad 0)), (2, .int v2), (3, .int v3), (4, .int 1), (5, .int v5), (6, .int v6), (10, .int v10), (11, .int v11), (12, .int q139.1)] dL_law_735 (by show _ < X.nL; rw [hnl]; decide) [1, 2, 3, 4, 0, 5, 6, 7, 8, 9] rfl ?_
    refine z_locals [0, 1, 2, 3, 4, 5, 6] [(0, .ref b0), (1, .ref (X.ad 0)), (2, .int v2), (3, .int v3), (4, .int 1), (5, .int v5), (6, .int v6)] rfl ?_
    exact t_L_law_737 X out hX hZ hfl hs hnl EXIT M hM K244 hK244 (k + 1) q139.2 v2 v3 1 v5 v6 (by omega) hf
  have hf := (if_neg c141).symm.trans hf
  refine z_iload (hX (k + 1) (by omega)) 8 dL_law_699 rfl ?_
  refine z_if_lt (hX (k + 1) (by omega)) 719 dL_law_701 (by decide) (fun c143 => ?_) (fun c143 => ?_)
  · have hf := (if_pos c143).symm.trans hf
    refine z_locals [0, 1, 2, 3, 4, 5] [(0, .ref b0), (1, .ref (X.ad 0)), (2, .int v2), (3, .int v3), (5, .int v5), (6, .int v6)] rfl ?_
    exact t_L_law_719 X out hX hZ hfl hs hnl EXIT M hM K244 hK244 (k + 1) q139.2 v2 v3 v5 v6 (by omega) hf
  have hf := (if_neg c143).symm.trans hf
  refine z_aload_n (hX (k + 1) (by omega)) 1 dL_law_704 rfl rfl ?_
  refine z_iload (hX (k + 1) (by omega)) 6 dL_law_705 rfl ?_
  obtain ⟨q144, e145, hf⟩ := zbind hf
  refine z_callV (stk := []) (stk' := [.int q144.1]) (hX (k + 1) (by omega)) (c_X6_state X.l q139.2 v10 q144 e145) zb_X6_state 0 dL_law_707 zm_571 (by decide) shC_0 rfl rfl rfl rfl ⟨by decide, by decide⟩ ⟨rfl, rfl⟩ (Nat.le_of_ble_eq_true rfl) rfl ?_
  refine z_bipush (v := 71) (hX (k + 1) (by omega)) dL_law_710 (by decide) ?_
  refine z_icmp_ne (hX (k + 1) (by omega)) 719 dL_law_712 (by decide) (fun c146 => ?_) (fun c146 => ?_)
  · have hf := (if_neg c146).symm.trans hf
    refine z_locals [0, 1, 2, 3, 4, 5] [(0, .ref b0), (1, .ref (X.ad 0)), (2, .int v2), (3, .int v3), (5, .int v5), (6, .int v6)] rfl ?_
    exact t_L_law_719 X out hX hZ hfl hs hnl EXIT M hM K244 hK244 (k + 1) q144.2 v2 v3 v5 v6 (by omega) hf
  have hf := (if_pos c146).symm.trans hf
  refine z_iconst (v := 1) (hX (k + 1) (by omega)) dL_law_715 (by decide) ?_
  refine z_goto (hX (k + 1) (by omega)) 735 dL_law_716 (by decide) ?_
  refine z_istore (hX (k + 1) (by omega)) [(0, .ref b0), (1, .ref (X.ad 0)), (2, .int v2), (3, .int v3), (4, .int 1), (5, .int v5), (6, .int v6), (10, .int v10), (11, .int v11), (12, .int q139.1)] dL_law_735 (by show _ < X.nL; rw [hnl]; decide) [1, 2, 3, 4, 0, 5, 6, 7, 8, 9] rfl ?_
  refine z_locals [0, 1, 2, 3, 4, 5, 6] [(0, .ref b0), (1, .ref (X.ad 0)), (2, .int v2), (3, .int v3), (4, .int 1), (5, .int v5), (6, .int v6)] rfl ?_
  exact t_L_law_737 X out hX hZ hfl hs hnl EXIT M hM K244 hK244 (k + 1) q144.2 v2 v3 1 v5 v6 (by omega) hf
set_option maxHeartbeats 4000000 in
set_option maxRecDepth 100000 in
theorem t_L_law_655 (X : zCx) (out : Unit × zSt) {B N : Nat} (hX : ∀ j, j ≤ 130 → zOk (zat X (B + j) (N + 6 * j)) RL code room_1) (hZ : zXs X.A X.s X.s.heap) (hfl : X.l.stackTraces = false) {b0 L : Nat} {xs : Nat → Int32} (hs : zScr X b0 L xs) (hnl : X.nL = 14) (EXIT : ∀ (k : Nat) (st : zSt) (lv : List (Nat × Value)), k ≤ 130 → zG 98 shC (zat X (B + k) (N + 6 * k)) st 976 lv [.int 1]) (M : Nat) (hM : M ≤ 130) (K244 : zSt → Int32 → Int32 → Int32 → Int32 → Int32 → Option (Unit × zSt)) (hK244 : ∀ (k : Nat) (st : zSt) (v2 : Int32) (v3 : Int32) (v4 : Int32) (v5 : Int32) (v6 : Int32), k ≤ M → K244 st v2 v3 v4 v5 v6 = some out → zG 98 shC (zat X (B + k) (N + 6 * k)) st 244 [(0, .ref b0), (1, .ref (X.ad 0)), (2, .int v2), (3, .int v3), (4, .int v4), (5, .int v5), (6, .int v6)] []) (k : Nat) (st : zSt) (v2 : Int32) (v3 : Int32) (v5 : Int32) (v6 : Int32) (hk : k + 0 ≤ M) (hf : f_L_law_655 L xs K244 st v2 v3 v5 v6 = some out) : zG 98 shC (zat X (B + k) (N + 6 * k)) st 655 [(0, .ref b0), (1, .ref (X.ad 0)), (2, .int v2), (3, .int v3), (5, .int v5), (6, .int v6)] [] := by
  unfold f_L_law_655 at hf
  refine z_iconst (v := 0) (hX k (by omega)) dL_law_655 (by decide) ?_
  refine z_istore (hX k (by omega)) [(0, .ref b0), (1, .ref (X.ad 0)), (2, .int v2), (3, .int v3), (4, .int 0), (5, .int v5), (6, .int v6)] dL_law_656 (by show _ < X.nL; rw [hnl]; decide) [1, 2, 3, 4, 0, 5, 6] rfl ?_
  exact t_L_law_658 X out hX hZ hfl hs hnl EXIT M hM K244 hK244 k st v2 v3 0 v5 v6 (by omega) hf
set_option maxHeartbeats 4000000 in
set_option maxRecDepth 100000 in
theorem t_L_law_418 (X : zCx) (out : Unit × zSt) {B N : Nat} (hX : ∀ j, j ≤ 130 → zOk (zat X (B + j) (N + 6 * j)) RL code room_1) (hZ : zXs X.A X.s X.s.heap) (hfl : X.l.stackTraces = false) {b0 L : Nat} {xs : Nat → Int32} (hs : zScr X b0 L xs) (hnl : X.nL = 14) (EXIT : ∀ (k : Nat) (st : zSt) (lv : List (Nat × Value)), k ≤ 130 → zG 98 shC (zat X (B + k) (N + 6 * k)) st 976 lv [.int 1]) (M : Nat) (hM : M ≤ 130) (K244 : zSt → Int32 → Int32 → Int32 → Int32 → Int32 → Option (Unit × zSt)) (hK244 : ∀ (k : Nat) (st : zSt) (v2 : Int32) (v3 : Int32) (v4 : Int32) (v5 : Int32) (v6 : Int32), k ≤ M → K244 st v2 v3 v4 v5 v6 = some out → zG 98 shC (zat X (B + k) (N + 6 * k)) st 244 [(0, .ref b0), (1, .ref (X.ad 0)), (2, .int v2), (3, .int v3), (4, .int v4), (5, .int v5), (6, .int v6)] []) (k : Nat) (st : zSt) (v2 : Int32) (v3 : Int32) (v4 : Int32) (v5 : Int32) (v6 : Int32) (hk : k + 0 ≤ M) (hf : f_L_law_418 L xs K244 st v2 v3 v4 v5 v6 = some out) : zG 98 shC (zat X (B + k) (N + 6 * k)) st 418 [(0, .ref b0), (1, .ref (X.ad 0)), (2, .int v2), (3, .int v3), (4, .int v4), (5, .int v5), (6, .int v6)] [] := by
  unfold f_L_law_418 at hf
  refine z_goto (hX k (by omega)) 947 dL_law_418 (by decide) ?_
  exact t_L_law_947 X out hX hZ hfl hs hnl EXIT M hM K244 hK244 k st v2 v3 v4 v5 v6 (by omega) hf
set_option maxHeartbeats 4000000 in
set_option maxRecDepth 100000 in
theorem t_L_law_405 (X : zCx) (out : Unit × zSt) {B N : Nat} (hX : ∀ j, j ≤ 130 → zOk (zat X (B + j) (N + 6 * j)) RL code room_1) (hZ : zXs X.A X.s X.s.heap) (hfl : X.l.stackTraces = false) {b0 L : Nat} {xs : Nat → Int32} (hs : zScr X b0 L xs) (hnl : X.nL = 14) (EXIT : ∀ (k : Nat) (st : zSt) (lv : List (Nat × Value)), k ≤ 130 → zG 98 shC (zat X (B + k) (N + 6 * k)) st 976 lv [.int 1]) (M : Nat) (hM : M ≤ 130) (K244 : zSt → Int32 → Int32 → Int32 → Int32 → Int32 → Option (Unit × zSt)) (hK244 : ∀ (k : Nat) (st : zSt) (v2 : Int32) (v3 : Int32) (v4 : Int32) (v5 : Int32) (v6 : Int32), k ≤ M → K244 st v2 v3 v4 v5 v6 = some out → zG 98 shC (zat X (B + k) (N + 6 * k)) st 244 [(0, .ref b0), (1, .ref (X.ad 0)), (2, .int v2), (3, .int v3), (4, .int v4), (5, .int v5), (6, .int v6)] []) (k : Nat) (st : zSt) (v2 : Int32) (v3 : Int32) (v4 : Int32) (v5 : Int32) (v6 : Int32) (v11 : Int32) (hk : k + 0 ≤ M) (hf : f_L_law_405 L xs K244 st v2 v3 v4 v5 v6 v11 = some out) : zG 98 shC (zat X (B + k) (N + 6 * k)) st 405 [(0, .ref b0), (1, .ref (X.ad 0)), (2, .int v2), (3, .int v3), (4, .int v4), (5, .int v5), (6, .int v6), (11, .int v11)] [] := by
  unfold f_L_law_405 at hf
  refine z_iload_n (hX k (by omega)) 2 dL_law_405 rfl rfl ?_
  refine z_iload (hX k (by omega)) 7 dL_law_406 rfl ?_
  refine z_if_lt (hX k (by omega)) 415 dL_law_408 (by decide) (fun c179 => ?_) (fun c179 => ?_)
  · have hf := (if_pos c179).symm.trans hf
    refine z_iconst (v := 0) (hX k (by omega)) dL_law_415 (by decide) ?_
    refine z_iadd (hX k (by omega)) dL_law_416 ?_
    refine z_istore_n (hX k (by omega)) [(0, .ref b0), (1, .ref (X.ad 0)), (2, .int (v2 + 0)), (3, .int v3), (4, .int v4), (5, .int v5), (6, .int v6), (11, .int v11)] dL_law_417 rfl (by show _ < X.nL; rw [hnl]; decide) [1, 2, 0, 3, 4, 5, 6, 7] rfl ?_
    refine z_locals [0, 1, 2, 3, 4, 5, 6] [(0, .ref b0), (1, .ref (X.ad 0)), (2, .int (v2 + 0)), (3, .int v3), (4, .int v4), (5, .int v5), (6, .int v6)] rfl ?_
    exact t_L_law_418 X out hX hZ hfl hs hnl EXIT M hM K244 hK244 k st (v2 + 0) v3 v4 v5 v6 (by omega) hf
  have hf := (if_neg c179).symm.trans hf
  refine z_iconst (v := 1) (hX k (by omega)) dL_law_411 (by decide) ?_
  refine z_goto (hX k (by omega)) 416 dL_law_412 (by decide) ?_
  refine z_iadd (hX k (by omega)) dL_law_416 ?_
  refine z_istore_n (hX k (by omega)) [(0, .ref b0), (1, .ref (X.ad 0)), (2, .int (v2 + 1)), (3, .int v3), (4, .int v4), (5, .int v5), (6, .int v6), (11, .int v11)] dL_law_417 rfl (by show _ < X.nL; rw [hnl]; decide) [1, 2, 0, 3, 4, 5, 6, 7] rfl ?_
  refine z_locals [0, 1, 2, 3, 4, 5, 6] [(0, .ref b0), (1, .ref (X.ad 0)), (2, .int (v2 + 1)), (3, .int v3), (4, .int v4), (5, .int v5), (6, .int v6)] rfl ?_
  exact t_L_law_418 X out hX hZ hfl hs hnl EXIT M hM K244 hK244 k st (v2 + 1) v3 v4 v5 v6 (by omega) hf
set_option maxHeartbeats 4000000 in
set_option maxRecDepth 100000 in
theorem t_L_law_402 (X : zCx) (out : Unit × zSt) {B N : Nat} (hX : ∀ j, j ≤ 130 → zOk (zat X (B + j) (N + 6 * j)) RL code room_1) (hZ : zXs X.A X.s X.s.heap) (hfl : X.l.stackTraces = false) {b0 L : Nat} {xs : Nat → Int32} (hs : zScr X b0 L xs) (hnl : X.nL = 14) (EXIT : ∀ (k : Nat) (st : zSt) (lv : List (Nat × Value)), k ≤ 130 → zG 98 shC (zat X (B + k) (N + 6 * k)) st 976 lv [.int 1]) (M : Nat) (hM : M ≤ 130) (K244 : zSt → Int32 → Int32 → Int32 → Int32 → Int32 → Option (Unit × zSt)) (hK244 : ∀ (k : Nat) (st : zSt) (v2 : Int32) (v3 : Int32) (v4 : Int32) (v5 : Int32) (v6 : Int32), k ≤ M → K244 st v2 v3 v4 v5 v6 = some out → zG 98 shC (zat X (B + k) (N + 6 * k)) st 244 [(0, .ref b0), (1, .ref (X.ad 0)), (2, .int v2), (3, .int v3), (4, .int v4), (5, .int v5), (6, .int v6)] []) (k : Nat) (st : zSt) (v2 : Int32) (v3 : Int32) (v5 : Int32) (v6 : Int32) (v11 : Int32) (hk : k + 0 ≤ M) (hf : f_L_law_402 L xs K244 st v2 v3 v5 v6 v11 = some out) : zG 98 shC (zat X (B + k) (N + 6 * k)) st 402 [(0, .ref b0), (1, .ref (X.ad 0)), (2, .int v2), (3, .int v3), (5, .int v5), (6, .int v6), (11, .int v11)] [] := by
  unfold f_L_law_402 at hf
  refine z_iconst (v := 0) (hX k (by omega)) dL_law_402 (by decide) ?_
  refine z_istore (hX k (by omega)) [(0, .ref b0), (1, .ref (X.ad 0)), (2, .int v2), (3, .int v3), (4, .int 0), (5, .int v5), (6, .int v6), (11, .int v11)] dL_law_403 (by show _ < X.nL; rw [hnl]; decide) [1, 2, 3, 4, 0, 5, 6, 7] rfl ?_
  exact t_L_law_405 X out hX hZ hfl hs hnl EXIT M hM K244 hK244 k st v2 v3 0 v5 v6 v11 (by omega) hf
set_option maxHeartbeats 4000000 in
set_option maxRecDepth 100000 in
theorem t_L_law_398 (X : zCx) (out : Unit × zSt) {B N : Nat} (hX : ∀ j, j ≤ 130 → zOk (zat X (B + j) (N + 6 * j)) RL code room_1) (hZ : zXs X.A X.s X.s.heap) (hfl : X.l.stackTraces = false) {b0 L : Nat} {xs : Nat → Int32} (hs : zScr X b0 L xs) (hnl : X.nL = 14) (EXIT : ∀ (k : Nat) (st : zSt) (lv : List (Nat × Value)), k ≤ 130 → zG 98 shC (zat X (B + k) (N + 6 * k)) st 976 lv [.int 1]) (M : Nat) (hM : M ≤ 130) (K244 : zSt → Int32 → Int32 → Int32 → Int32 → Int32 → Option (Unit × zSt)) (hK244 : ∀ (k : Nat) (st : zSt) (v2 : Int32) (v3 : Int32) (v4 : Int32) (v5 : Int32) (v6 : Int32), k ≤ M → K244 st v2 v3 v4 v5 v6 = some out → zG 98 shC (zat X (B + k) (N + 6 * k)) st 244 [(0, .ref b0), (1, .ref (X.ad 0)), (2, .int v2), (3, .int v3), (4, .int v4), (5, .int v5), (6, .int v6)] []) (k : Nat) (st : zSt) (v2 : Int32) (v3 : Int32) (v5 : Int32) (v6 : Int32) (v11 : Int32) (hk : k + 0 ≤ M) (hf : f_L_law_398 L xs K244 st v2 v3 v5 v6 v11 = some out) : zG 98 shC (zat X (B + k) (N + 6 * k)) st 398 [(0, .ref b0), (1, .ref (X.ad 0)), (2, .int v2), (3, .int v3), (5, .int v5), (6, .int v6), (11, .int v11)] [] := by
  unfold f_L_law_398 at hf
  refine z_iconst (v := 1) (hX k (by omega)) dL_law_398 (by decide) ?_
  refine z_goto (hX k (by omega)) 403 dL_law_399 (by decide) ?_
  refine z_istore (hX k (by omega)) [(0, .ref b0), (1, .ref (X.ad 0)), (2, .int v2), (3, .int v3), (4, .int 1), (5, .int v5), (6, .int v6), (11, .int v11)] dL_law_403 (by show _ < X.nL; rw [hnl]; decide) [1, 2, 3, 4, 0, 5, 6, 7] rfl ?_
  exact t_L_law_405 X out hX hZ hfl hs hnl EXIT M hM K244 hK244 k st v2 v3 1 v5 v6 v11 (by omega) hf
set_option maxHeartbeats 4000000 in
set_option maxRecDepth 100000 in
theorem t_L_law_313 (X : zCx) (out : Unit × zSt) {B N : Nat} (hX : ∀ j, j ≤ 130 → zOk (zat X (B + j) (N + 6 * j)) RL code room_1) (hZ : zXs X.A X.s X.s.heap) (hfl : X.l.stackTraces = false) {b0 L : Nat} {xs : Nat → Int32} (hs : zScr X b0 L xs) (hnl : X.nL = 14) (EXIT : ∀ (k : Nat) (st : zSt) (lv : List (Nat × Value)), k ≤ 130 → zG 98 shC (zat X (B + k) (N + 6 * k)) st 976 lv [.int 1]) (M : Nat) (hM : M ≤ 130) (K244 : zSt → Int32 → Int32 → Int32 → Int32 → Int32 → Option (Unit × zSt)) (hK244 : ∀ (k : Nat) (st : zSt) (v2 : Int32) (v3 : Int32) (v4 : Int32) (v5 : Int32) (v6 : Int32), k ≤ M → K244 st v2 v3 v4 v5 v6 = some out → zG 98 shC (zat X (B + k) (N + 6 * k)) st 244 [(0, .ref b0), (1, .ref (X.ad 0)), (2, .int v2), (3, .int v3), (4, .int v4), (5, .int v5), (6, .int v6)] []) (k : Nat) (st : zSt) (v2 : Int32) (v3 : Int32) (v5 : Int32) (v6 : Int32) (v7 : Int32) (v9 : Int32) (hk : k + 1 ≤ M) (hf : f_L_law_313 L xs K244 st v2 v3 v5 v6 v7 v9 = some out) : zG 98 shC (zat X (B + k) (N + 6 * k)) st 313 [(0, .ref b0), (1, .ref (X.ad 0)), (2, .int v2), (3, .int v3), (5, .int v5), (6, .int v6), (7, .int v7), (9, .int v9)] [] := by
  unfold f_L_law_313 at hf
  refine z_aload_n (hX k (by omega)) 1 dL_law_313 rfl rfl ?_
  refine z_iload (hX k (by omega)) 6 dL_law_314 rfl ?_
  refine z_iconst (v := 2) (hX k (by omega)) dL_law_316 (by decide) ?_
  obtain ⟨q116, e117, hf⟩ := zbind hf
  refine z_callS (stk := [.ref (X.ad 0)]) (stk' := [.int q116.1, .ref (X.ad 0)]) (hX k (by omega)) (c_L_low X.l st v7 2 q116 e117) zb_L_low dL_law_317 zm_591 rfl rfl rfl ⟨by decide, by decide⟩ ⟨rfl, rfl⟩ (Nat.le_of_ble_eq_true rfl) rfl ?_
  refine z_iload (hX k (by omega)) 6 dL_law_320 rfl ?_
  refine z_iconst (v := 3) (hX k (by omega)) dL_law_322 (by decide) ?_
  refine z_ishr (hX k (by omega)) dL_law_323 ?_
  refine z_iconst (v := 3) (hX k (by omega)) dL_law_324 (by decide) ?_
  obtain ⟨q118, e119, hf⟩ := zbind hf
  refine z_callS (stk := [.int q116.1, .ref (X.ad 0)]) (stk' := [.int q118.1, .int q116.1, .ref (X.ad 0)]) (hX k (by omega)) (c_L_low X.l q116.2 (zshr v7 3) 3 q118 e119) zb_L_low dL_law_325 zm_591 rfl rfl rfl ⟨by decide, by decide⟩ ⟨rfl, rfl⟩ (Nat.le_of_ble_eq_true rfl) rfl ?_
  refine z_iload (hX k (by omega)) 7 dL_law_328 rfl ?_
  refine z_iload (hX k (by omega)) 6 dL_law_330 rfl ?_
  refine z_bipush (v := 6) (hX k (by omega)) dL_law_332 (by decide) ?_
  refine z_ishr (hX k (by omega)) dL_law_334 ?_
  refine z_bipush (v := 12) (hX k (by omega)) dL_law_335 (by decide) ?_
  obtain ⟨q120, e121, hf⟩ := zbind hf
  refine z_callS (stk := [.int v9, .int q118.1, .int q116.1, .ref (X.ad 0)]) (stk' := [.int q120.1, .int v9, .int q118.1, .int q116.1, .ref (X.ad 0)]) (hX k (by omega)) (c_L_low X.l q118.2 (zshr v7 6) 12 q120 e121) zb_L_low dL_law_337 zm_591 rfl rfl rfl ⟨by decide, by decide⟩ ⟨rfl, rfl⟩ (Nat.le_of_ble_eq_true rfl) rfl ?_
  refine z_iadd (hX k (by omega)) dL_law_340 ?_
  refine z_iconst (v := 1) (hX k (by omega)) dL_law_341 (by decide) ?_
  refine z_iload (hX k (by omega)) 6 dL_law_342 rfl ?_
  refine z_bipush (v := 8) (hX k (by omega)) dL_law_344 (by decide) ?_
  refine z_ishr (hX k (by omega)) dL_law_346 ?_
  refine z_bipush (v := 90) (hX k (by omega)) dL_law_347 (by decide) ?_
  obtain ⟨q122, e123, hf⟩ := zbind hf
  refine z_callS (stk := [.int 1, .int (v9 + q120.1), .int q118.1, .int q116.1, .ref (X.ad 0)]) (stk' := [.int q122.1, .int 1, .int (v9 + q120.1), .int q118.1, .int q116.1, .ref (X.ad 0)]) (hX k (by omega)) (c_L_low X.l q120.2 (zshr v7 8) 90 q122 e123) zb_L_low dL_law_349 zm_591 rfl rfl rfl ⟨by decide, by decide⟩ ⟨rfl, rfl⟩ (Nat.le_of_ble_eq_true rfl) rfl ?_
  refine z_iadd (hX k (by omega)) dL_law_352 ?_
  obtain ⟨q124, e125, hf⟩ := zbind hf
  refine z_callWk (stk := []) (stk' := [.int q124.1]) hX (k := k) (by omega) hZ (cg_L_plan X.l hfl q122.2 q116.1 q118.1 (v9 + q120.1) (1 + q122.1) q124 e125) zbW_L_plan dL_law_353 zm_599 rfl rfl rfl ⟨by decide, by decide⟩ ⟨rfl, rfl⟩ (Nat.le_of_ble_eq_true rfl) rfl ?_
  refine z_istore (hX (k + 1) (by omega)) [(0, .ref b0), (1, .ref (X.ad 0)), (2, .int v2), (3, .int v3), (5, .int v5), (6, .int v6), (7, .int v7), (9, .int v9), (11, .int q124.1)] dL_law_356 (by show _ < X.nL; rw [hnl]; decide) [1, 2, 3, 4, 5, 6, 7, 8, 0] rfl ?_
  refine z_iload (hX (k + 1) (by omega)) 8 dL_law_358 rfl ?_
  refine z_bipush (v := (-8)) (hX (k + 1) (by omega)) dL_law_360 (by decide) ?_
  refine z_icmp_eq (hX (k + 1) (by omega)) 398 dL_law_362 (by decide) (fun c126 => ?_) (fun c126 => ?_)
  · have hf := (if_pos c126).symm.trans hf
    refine z_locals [0, 1, 2, 3, 4, 5, 8] [(0, .ref b0), (1, .ref (X.ad 0)), (2, .int v2), (3, .int v3), (5, .int v5), (6, .int v6), (11, .int q124.1)] rfl ?_
    exact t_L_law_398 X out hX hZ hfl hs hnl EXIT M hM K244 hK244 (k + 1) q124.2 v2 v3 v5 v6 q124.1 (by omega) hf
  have hf := (if_neg c126).symm.trans hf
  refine z_iload (hX (k + 1) (by omega)) 8 dL_law_365 rfl ?_
  refine z_bipush (v := (-9)) (hX (k + 1) (by omega)) dL_law_367 (by decide) ?_
  refine z_icmp_eq (hX (k + 1) (by omega)) 398 dL_law_369 (by decide) (fun c127 => ?_) (fun c127 => ?_)
  · have hf := (if_pos c127).symm.trans hf
    refine z_locals [0, 1, 2, 3, 4, 5, 8] [(0, .ref b0), (1, .ref (X.ad 0)), (2, .int v2), (3, .int v3), (5, .int v5), (6, .int v6), (11, .int q124.1)] rfl ?_
    exact t_L_law_398 X out hX hZ hfl hs hnl EXIT M hM K244 hK244 (k + 1) q124.2 v2 v3 v5 v6 q124.1 (by omega) hf
  have hf := (if_neg c127).symm.trans hf
  refine z_iload (hX (k + 1) (by omega)) 8 dL_law_372 rfl ?_
  refine z_iload_n (hX (k + 1) (by omega)) 2 dL_law_374 rfl rfl ?_
  refine z_icmp_ne (hX (k + 1) (by omega)) 402 dL_law_375 (by decide) (fun c128 => ?_) (fun c128 => ?_)
  · have hf := (if_neg c128).symm.trans hf
    refine z_locals [0, 1, 2, 3, 4, 5, 8] [(0, .ref b0), (1, .ref (X.ad 0)), (2, .int v2), (3, .int v3), (5, .int v5), (6, .int v6), (11, .int q124.1)] rfl ?_
    exact t_L_law_402 X out hX hZ hfl hs hnl EXIT M hM K244 hK244 (k + 1) q124.2 v2 v3 v5 v6 q124.1 (by omega) hf
  have hf := (if_pos c128).symm.trans hf
  refine z_aload_n (hX (k + 1) (by omega)) 1 dL_law_378 rfl rfl ?_
  refine z_iload (hX (k + 1) (by omega)) 8 dL_law_379 rfl ?_
  obtain ⟨q129, e130, hf⟩ := zbind hf
  refine z_callV (stk := []) (stk' := [.int q129.1]) (hX (k + 1) (by omega)) (c_X6_state X.l q124.2 q124.1 q129 e130) zb_X6_state 0 dL_law_381 zm_571 (by decide) shC_0 rfl rfl rfl rfl ⟨by decide, by decide⟩ ⟨rfl, rfl⟩ (Nat.le_of_ble_eq_true rfl) rfl ?_
  refine z_if_ne (hX (k + 1) (by omega)) 402 dL_law_384 (by decide) (fun c131 => ?_) (fun c131 => ?_)
  · have hf := (if_neg c131).symm.trans hf
    refine z_locals [0, 1, 2, 3, 4, 5, 8] [(0, .ref b0), (1, .ref (X.ad 0)), (2, .int v2), (3, .int v3), (5, .int v5), (6, .int v6), (11, .int q124.1)] rfl ?_
    exact t_L_law_402 X out hX hZ hfl hs hnl EXIT M hM K244 hK244 (k + 1) q129.2 v2 v3 v5 v6 q124.1 (by omega) hf
  have hf := (if_pos c131).symm.trans hf
  refine z_aload_n (hX (k + 1) (by omega)) 1 dL_law_387 rfl rfl ?_
  refine z_iload (hX (k + 1) (by omega)) 8 dL_law_388 rfl ?_
  obtain ⟨q132, e133, hf⟩ := zbind hf
  refine z_callV (stk := []) (stk' := [.int q132.1]) (hX (k + 1) (by omega)) (c_X6_ends X.l q129.2 q124.1 q132 e133) zb_X6_ends 0 dL_law_390 zm_575 (by decide) shC_0 rfl rfl rfl rfl ⟨by decide, by decide⟩ ⟨rfl, rfl⟩ (Nat.le_of_ble_eq_true rfl) rfl ?_
  refine z_iload (hX (k + 1) (by omega)) 7 dL_law_393 rfl ?_
  refine z_icmp_le (hX (k + 1) (by omega)) 402 dL_law_395 (by decide) (fun c134 => ?_) (fun c134 => ?_)
  · have hf := (if_pos c134).symm.trans hf
    refine z_locals [0, 1, 2, 3, 4, 5, 8] [(0, .ref b0), (1, .ref (X.ad 0)), (2, .int v2), (3, .int v3), (5, .int v5), (6, .int v6), (11, .int q124.1)] rfl ?_
    exact t_L_law_402 X out hX hZ hfl hs hnl EXIT M hM K244 hK244 (k + 1) q132.2 v2 v3 v5 v6 q124.1 (by omega) hf
  have hf := (if_neg c134).symm.trans hf
  refine z_locals [0, 1, 2, 3, 4, 5, 8] [(0, .ref b0), (1, .ref (X.ad 0)), (2, .int v2), (3, .int v3), (5, .int v5), (6, .int v6), (11, .int q124.1)] rfl ?_
  exact t_L_law_398 X out hX hZ hfl hs hnl EXIT M hM K244 hK244 (k + 1) q132.2 v2 v3 v5 v6 q124.1 (by omega) hf
set_option maxHeartbeats 4000000 in
set_option maxRecDepth 100000 in
theorem t_L_law_897 (X : zCx) (out : Unit × zSt) {B N : Nat} (hX : ∀ j, j ≤ 130 → zOk (zat X (B + j) (N + 6 * j)) RL code room_1) (hZ : zXs X.A X.s X.s.heap) (hfl : X.l.stackTraces = false) {b0 L : Nat} {xs : Nat → Int32} (hs : zScr X b0 L xs) (hnl : X.nL = 14) (EXIT : ∀ (k : Nat) (st : zSt) (lv : List (Nat × Value)), k ≤ 130 → zG 98 shC (zat X (B + k) (N + 6 * k)) st 976 lv [.int 1]) (M : Nat) (hM : M ≤ 130) (K244 : zSt → Int32 → Int32 → Int32 → Int32 → Int32 → Option (Unit × zSt)) (hK244 : ∀ (k : Nat) (st : zSt) (v2 : Int32) (v3 : Int32) (v4 : Int32) (v5 : Int32) (v6 : Int32), k ≤ M → K244 st v2 v3 v4 v5 v6 = some out → zG 98 shC (zat X (B + k) (N + 6 * k)) st 244 [(0, .ref b0), (1, .ref (X.ad 0)), (2, .int v2), (3, .int v3), (4, .int v4), (5, .int v5), (6, .int v6)] []) (k : Nat) (st : zSt) (v2 : Int32) (v3 : Int32) (v4 : Int32) (v5 : Int32) (v6 : Int32) (hk : k + 0 ≤ M) (hf : f_L_law_897 L xs K244 st v2 v3 v4 v5 v6 = some out) : zG 98 shC (zat X (B + k) (N + 6 * k)) st 897 [(0, .ref b0), (1, .ref (X.ad 0)), (2, .int v2), (3, .int v3), (4, .int v4), (5, .int v5), (6, .int v6)] [] := by
  unfold f_L_law_897 at hf
  refine z_goto (hX k (by omega)) 947 dL_law_897 (by decide) ?_
  exact t_L_law_947 X out hX hZ hfl hs hnl EXIT M hM K244 hK244 k st v2 v3 v4 v5 v6 (by omega) hf
set_option maxHeartbeats 4000000 in
set_option maxRecDepth 100000 in
theorem t_L_law_890 (X : zCx) (out : Unit × zSt) {B N : Nat} (hX : ∀ j, j ≤ 130 → zOk (zat X (B + j) (N + 6 * j)) RL code room_1) (hZ : zXs X.A X.s X.s.heap) (hfl : X.l.stackTraces = false) {b0 L : Nat} {xs : Nat → Int32} (hs : zScr X b0 L xs) (hnl : X.nL = 14) (EXIT : ∀ (k : Nat) (st : zSt) (lv : List (Nat × Value)), k ≤ 130 → zG 98 shC (zat X (B + k) (N + 6 * k)) st 976 lv [.int 1]) (M : Nat) (hM : M ≤ 130) (K244 : zSt → Int32 → Int32 → Int32 → Int32 → Int32 → Option (Unit × zSt)) (hK244 : ∀ (k : Nat) (st : zSt) (v2 : Int32) (v3 : Int32) (v4 : Int32) (v5 : Int32) (v6 : Int32), k ≤ M → K244 st v2 v3 v4 v5 v6 = some out → zG 98 shC (zat X (B + k) (N + 6 * k)) st 244 [(0, .ref b0), (1, .ref (X.ad 0)), (2, .int v2), (3, .int v3), (4, .int v4), (5, .int v5), (6, .int v6)] []) (k : Nat) (st : zSt) (v2 : Int32) (v3 : Int32) (v5 : Int32) (v6 : Int32) (hk : k + 0 ≤ M) (hf : f_L_law_890 L xs K244 st v2 v3 v5 v6 = some out) : zG 98 shC (zat X (B + k) (N + 6 * k)) st 890 [(0, .ref b0), (1, .ref (X.ad 0)), (2, .int v2), (3, .int v3), (5, .int v5), (6, .int v6)] [] := by
  unfold f_L_law_890 at hf
  refine z_iconst (v := 1) (hX k (by omega)) dL_law_890 (by decide) ?_
  refine z_goto (hX k (by omega)) 895 dL_law_891 (by decide) ?_
  refine z_istore (hX k (by omega)) [(0, .ref b0), (1, .ref (X.ad 0)), (2, .int v2), (3, .int v3), (4, .int 1), (5, .int v5), (6, .int v6)] dL_law_895 (by show _ < X.nL; rw [hnl]; decide) [1, 2, 3, 4, 0, 5, 6] rfl ?_
  exact t_L_law_897 X out hX hZ hfl hs hnl EXIT M hM K244 hK244 k st v2 v3 1 v5 v6 (by omega) hf
set_option maxHeartbeats 4000000 in
set_option maxRecDepth 100000 in
theorem t_L_law_797 (X : zCx) (out : Unit × zSt) {B N : Nat} (hX : ∀ j, j ≤ 130 → zOk (zat X (B + j) (N + 6 * j)) RL code room_1) (hZ : zXs X.A X.s X.s.heap) (hfl : X.l.stackTraces = false) {b0 L : Nat} {xs : Nat → Int32} (hs : zScr X b0 L xs) (hnl : X.nL = 14) (EXIT : ∀ (k : Nat) (st : zSt) (lv : List (Nat × Value)), k ≤ 130 → zG 98 shC (zat X (B + k) (N + 6 * k)) st 976 lv [.int 1]) (M : Nat) (hM : M ≤ 130) (K244 : zSt → Int32 → Int32 → Int32 → Int32 → Int32 → Option (Unit × zSt)) (hK244 : ∀ (k : Nat) (st : zSt) (v2 : Int32) (v3 : Int32) (v4 : Int32) (v5 : Int32) (v6 : Int32), k ≤ M → K244 st v2 v3 v4 v5 v6 = some out → zG 98 shC (zat X (B + k) (N + 6 * k)) st 244 [(0, .ref b0), (1, .ref (X.ad 0)), (2, .int v2), (3, .int v3), (4, .int v4), (5, .int v5), (6, .int v6)] []) (k : Nat) (st : zSt) (v2 : Int32) (v3 : Int32) (v5 : Int32) (v6 : Int32) (v11 : Int32) (hk : k + 0 ≤ M) (hf : f_L_law_797 L xs K244 st v2 v3 v5 v6 v11 = some out) : zG 98 shC (zat X (B + k) (N + 6 * k)) st 797 [(0, .ref b0), (1, .ref (X.ad 0)), (2, .int v2), (3, .int v3), (5, .int v5), (6, .int v6), (11, .int v11)] [] := by
  unfold f_L_law_797 at hf
  refine z_iconst (v := 1) (hX k (by omega)) dL_law_797 (by decide) ?_
  refine z_goto (hX k (by omega)) 802 dL_law_798 (by decide) ?_
  refine z_istore (hX k (by omega)) [(0, .ref b0), (1, .ref (X.ad 0)), (2, .int v2), (3, .int v3), (4, .int 1), (5, .int v5), (6, .int v6), (11, .int v11)] dL_law_802 (by show _ < X.nL; rw [hnl]; decide) [1, 2, 3, 4, 0, 5, 6, 7] rfl ?_
  exact t_L_law_804 X out hX hZ hfl hs hnl EXIT M hM K244 hK244 k st v2 v3 1 v5 v6 v11 (by omega) hf
set_option maxHeartbeats 4000000 in
set_option maxRecDepth 100000 in
theorem t_L_law_894 (X : zCx) (out : Unit × zSt) {B N : Nat} (hX : ∀ j, j ≤ 130 → zOk (zat X (B + j) (N + 6 * j)) RL code room_1) (hZ : zXs X.A X.s X.s.heap) (hfl : X.l.stackTraces = false) {b0 L : Nat} {xs : Nat → Int32} (hs : zScr X b0 L xs) (hnl : X.nL = 14) (EXIT : ∀ (k : Nat) (st : zSt) (lv : List (Nat × Value)), k ≤ 130 → zG 98 shC (zat X (B + k) (N + 6 * k)) st 976 lv [.int 1]) (M : Nat) (hM : M ≤ 130) (K244 : zSt → Int32 → Int32 → Int32 → Int32 → Int32 → Option (Unit × zSt)) (hK244 : ∀ (k : Nat) (st : zSt) (v2 : Int32) (v3 : Int32) (v4 : Int32) (v5 : Int32) (v6 : Int32), k ≤ M → K244 st v2 v3 v4 v5 v6 = some out → zG 98 shC (zat X (B + k) (N + 6 * k)) st 244 [(0, .ref b0), (1, .ref (X.ad 0)), (2, .int v2), (3, .int v3), (4, .int v4), (5, .int v5), (6, .int v6)] []) (k : Nat) (st : zSt) (v2 : Int32) (v3 : Int32) (v5 : Int32) (v6 : Int32) (hk : k + 0 ≤ M) (hf : f_L_law_894 L xs K244 st v2 v3 v5 v6 = some out) : zG 98 shC (zat X (B + k) (N + 6 * k)) st 894 [(0, .ref b0), (1, .ref (X.ad 0)), (2, .int v2), (3, .int v3), (5, .int v5), (6, .int v6)] [] := by
  unfold f_L_law_894 at hf
  refine z_iconst (v := 0) (hX k (by omega)) dL_law_894 (by decide) ?_
  refine z_istore (hX k (by omega)) [(0, .ref b0), (1, .ref (X.ad 0)), (2, .int v2), (3, .int v3), (4, .int 0), (5, .int v5), (6, .int v6)] dL_law_895 (by show _ < X.nL; rw [hnl]; decide) [1, 2, 3, 4, 0, 5, 6] rfl ?_
  exact t_L_law_897 X out hX hZ hfl hs hnl EXIT M hM K244 hK244 k st v2 v3 0 v5 v6 (by omega) hf
set_option maxHeartbeats 4000000 in
set_option maxRecDepth 100000 in
theorem t_L_law_303 (X : zCx) (out : Unit × zSt) {B N : Nat} (hX : ∀ j, j ≤ 130 → zOk (zat X (B + j) (N + 6 * j)) RL code room_1) (hZ : zXs X.A X.s X.s.heap) (hfl : X.l.stackTraces = false) {b0 L : Nat} {xs : Nat → Int32} (hs : zScr X b0 L xs) (hnl : X.nL = 14) (EXIT : ∀ (k : Nat) (st : zSt) (lv : List (Nat × Value)), k ≤ 130 → zG 98 shC (zat X (B + k) (N + 6 * k)) st 976 lv [.int 1]) (M : Nat) (hM : M ≤ 130) (K244 : zSt → Int32 → Int32 → Int32 → Int32 → Int32 → Option (Unit × zSt)) (hK244 : ∀ (k : Nat) (st : zSt) (v2 : Int32) (v3 : Int32) (v4 : Int32) (v5 : Int32) (v6 : Int32), k ≤ M → K244 st v2 v3 v4 v5 v6 = some out → zG 98 shC (zat X (B + k) (N + 6 * k)) st 244 [(0, .ref b0), (1, .ref (X.ad 0)), (2, .int v2), (3, .int v3), (4, .int v4), (5, .int v5), (6, .int v6)] []) (k : Nat) (st : zSt) (v2 : Int32) (v3 : Int32) (v4 : Int32) (v5 : Int32) (v6 : Int32) (v7 : Int32) (v8 : Int32) (v9 : Int32) (v10 : Int32) (hk : k + 2 ≤ M) (hf : f_L_law_303 L xs K244 st v2 v3 v4 v5 v6 v7 v8 v9 v10 = some out) : zG 98 shC (zat X (B + k) (N + 6 * k)) st 303 [(0, .ref b0), (1, .ref (X.ad 0)), (2, .int v2), (3, .int v3), (4, .int v4), (5, .int v5), (6, .int v6), (7, .int v7), (8, .int v8), (9, .int v9), (10, .int v10)] [] := by
  unfold f_L_law_303 at hf
  refine z_iload_n (hX k (by omega)) 2 dL_law_303 rfl rfl ?_
  refine z_if_eq (hX k (by omega)) 313 dL_law_304 (by decide) (fun c53 => ?_) (fun c53 => ?_)
  · have hf := (if_pos c53).symm.trans hf
    refine z_locals [0, 1, 2, 3, 5, 6, 7, 9] [(0, .ref b0), (1, .ref (X.ad 0)), (2, .int v2), (3, .int v3), (5, .int v5), (6, .int v6), (7, .int v7), (9, .int v9)] rfl ?_
    exact t_L_law_313 X out hX hZ hfl hs hnl EXIT M hM K244 hK244 k st v2 v3 v5 v6 v7 v9 (by omega) hf
  have hf := (if_neg c53).symm.trans hf
  refine z_iload (hX k (by omega)) 8 dL_law_307 rfl ?_
  refine z_iconst (v := 5) (hX k (by omega)) dL_law_309 (by decide) ?_
  refine z_icmp_ge (hX k (by omega)) 421 dL_law_310 (by decide) (fun c54 => ?_) (fun c54 => ?_)
  · have hf := (if_pos c54).symm.trans hf
    refine z_iload (hX k (by omega)) 8 dL_law_421 rfl ?_
    refine z_bipush (v := 12) (hX k (by omega)) dL_law_423 (by decide) ?_
    refine z_icmp_ge (hX k (by omega)) 601 dL_law_425 (by decide) (fun c55 => ?_) (fun c55 => ?_)
    · have hf := (if_pos c55).symm.trans hf
      refine z_iload (hX k (by omega)) 8 dL_law_601 rfl ?_
      refine z_bipush (v := 17) (hX k (by omega)) dL_law_603 (by decide) ?_
      refine z_icmp_ge (hX k (by omega)) 661 dL_law_605 (by decide) (fun c56 => ?_) (fun c56 => ?_)
      · have hf := (if_pos c56).symm.trans hf
        refine z_iload (hX k (by omega)) 8 dL_law_661 rfl ?_
        refine z_bipush (v := 18) (hX k (by omega)) dL_law_663 (by decide) ?_
        refine z_icmp_ge (hX k (by omega)) 740 dL_law_665 (by decide) (fun c57 => ?_) (fun c57 => ?_)
        · have hf := (if_pos c57).symm.trans hf
          refine z_iload (hX k (by omega)) 8 dL_law_740 rfl ?_
          refine z_bipush (v := 19) (hX k (by omega)) dL_law_742 (by decide) ?_
          refine z_icmp_ge (hX k (by omega)) 820 dL_law_744 (by decide) (fun c58 => ?_) (fun c58 => ?_)
          · have hf := (if_pos c58).symm.trans hf
            refine z_iload (hX k (by omega)) 8 dL_law_820 rfl ?_
            refine z_bipush (v := 21) (hX k (by omega)) dL_law_822 (by decide) ?_
            refine z_icmp_ge (hX k (by omega)) 900 dL_law_824 (by decide) (fun c59 => ?_) (fun c59 => ?_)
            · have hf := (if_pos c59).symm.trans hf
              refine z_iload (hX k (by omega)) 9 dL_law_900 rfl ?_
              refine z_iload (hX k (by omega)) 7 dL_law_902 rfl ?_
              refine z_iconst (v := 4) (hX k (by omega)) dL_law_904 (by decide) ?_
              refine z_ishr (hX k (by omega)) dL_law_905 ?_
              refine z_bipush (v := 20) (hX k (by omega)) dL_law_906 (by decide) ?_
              obtain ⟨q60, e61, hf⟩ := zbind hf
              refine z_callS (stk := [.int v9]) (stk' := [.int q60.1, .int v9]) (hX k (by omega)) (c_L_low X.l st (zshr v7 4) 20 q60 e61) zb_L_low dL_law_908 zm_591 rfl rfl rfl ⟨by decide, by decide⟩ ⟨rfl, rfl⟩ (Nat.le_of_ble_eq_true rfl) rfl ?_
              refine z_iadd (hX k (by omega)) dL_law_911 ?_
              refine z_istore (hX k (by omega)) [(0, .ref b0), (1, .ref (X.ad 0)), (2, .int v2), (3, .int v3), (4, .int v4), (5, .int v5), (6, .int v6), (7, .int v7), (8, .int v8), (9, .int v9), (10, .int v10), (11, .int (v9 + q60.1))] dL_law_912 (by show _ < X.nL; rw [hnl]; decide) [1, 2, 3, 4, 5, 6, 7, 8, 9, 10, 11, 0] rfl ?_
              refine z_aload_n (hX k (by omega)) 1 dL_law_914 rfl rfl ?_
              refine z_iload (hX k (by omega)) 7 dL_law_915 rfl ?_
              refine z_iconst (v := 3) (hX k (by omega)) dL_law_917 (by decide) ?_
              obtain ⟨q62, e63, hf⟩ := zbind hf
              refine z_callS (stk := [.ref (X.ad 0)]) (stk' := [.int q62.1, .ref (X.ad 0)]) (hX k (by omega)) (c_L_low X.l q60.2 v7 3 q62 e63) zb_L_low dL_law_918 zm_591 rfl rfl rfl ⟨by decide, by decide⟩ ⟨rfl, rfl⟩ (Nat.le_of_ble_eq_true rfl) rfl ?_
              refine z_iload (hX k (by omega)) 7 dL_law_921 rfl ?_
              refine z_iconst (v := 2) (hX k (by omega)) dL_law_923 (by decide) ?_
              refine z_ishr (hX k (by omega)) dL_law_924 ?_
              refine z_iconst (v := 2) (hX k (by omega)) dL_law_925 (by decide) ?_
              obtain ⟨q64, e65, hf⟩ := zbind hf
              refine z_callS (stk := [.int q62.1, .ref (X.ad 0)]) (stk' := [.int q64.1, .int q62.1, .ref (X.ad 0)]) (hX k (by omega)) (c_L_low X.l q62.2 (zshr v7 2) 2 q64 e65) zb_L_low dL_law_926 zm_591 rfl rfl rfl ⟨by decide, by decide⟩ ⟨rfl, rfl⟩ (Nat.le_of_ble_eq_true rfl) rfl ?_
              refine z_iload (hX k (by omega)) 11 dL_law_929 rfl ?_
              refine z_iload (hX k (by omega)) 11 dL_law_931 rfl ?_
              refine z_iload (hX k (by omega)) 7 dL_law_933 rfl ?_
              refine z_bipush (v := 6) (hX k (by omega)) dL_law_935 (by decide) ?_
              refine z_ishr (hX k (by omega)) dL_law_937 ?_
              refine z_bipush (v := 10) (hX k (by omega)) dL_law_938 (by decide) ?_
              obtain ⟨q66, e67, hf⟩ := zbind hf
              refine z_callS (stk := [.int (v9 + q60.1), .int (v9 + q60.1), .int q64.1, .int q62.1, .ref (X.ad 0)]) (stk' := [.int q66.1, .int (v9 + q60.1), .int (v9 + q60.1), .int q64.1, .int q62.1, .ref (X.ad 0)]) (hX k (by omega)) (c_L_low X.l q64.2 (zshr v7 6) 10 q66 e67) zb_L_low dL_law_940 zm_591 rfl rfl rfl ⟨by decide, by decide⟩ ⟨rfl, rfl⟩ (Nat.le_of_ble_eq_true rfl) rfl ?_
              refine z_iadd (hX k (by omega)) dL_law_943 ?_
              obtain ⟨q68, e69, hf⟩ := zbind hf
              refine z_callV (stk := []) (stk' := []) (hX k (by omega)) (c_X6_hinder X.l q66.2 q62.1 q64.1 (v9 + q60.1) ((v9 + q60.1) + q66.1) q68 e69) zb_X6_hinder 0 dL_law_944 zm_432 (by decide) shC_0 rfl rfl rfl rfl ⟨by decide, by decide⟩ ⟨rfl, rfl⟩ (Nat.le_of_ble_eq_true rfl) rfl ?_
              refine z_locals [0, 1, 2, 3, 4, 5, 6] [(0, .ref b0), (1, .ref (X.ad 0)), (2, .int v2), (3, .int v3), (4, .int v4), (5, .int v5), (6, .int v6)] rfl ?_
              exact t_L_law_947 X out hX hZ hfl hs hnl EXIT M hM K244 hK244 k q68.2 v2 v3 v4 v5 v6 (by omega) hf
            have hf := (if_neg c59).symm.trans hf
            refine z_iload (hX k (by omega)) 7 dL_law_827 rfl ?_
            refine z_iconst (v := 2) (hX k (by omega)) dL_law_829 (by decide) ?_
            obtain ⟨q70, e71, hf⟩ := zbind hf
            refine z_callS (stk := []) (stk' := [.int q70.1]) (hX k (by omega)) (c_L_low X.l st v7 2 q70 e71) zb_L_low dL_law_830 zm_591 rfl rfl rfl ⟨by decide, by decide⟩ ⟨rfl, rfl⟩ (Nat.le_of_ble_eq_true rfl) rfl ?_
            refine z_istore (hX k (by omega)) [(0, .ref b0), (1, .ref (X.ad 0)), (2, .int v2), (3, .int v3), (4, .int v4), (5, .int v5), (6, .int v6), (7, .int v7), (8, .int v8), (9, .int v9), (10, .int v10), (11, .int q70.1)] dL_law_833 (by show _ < X.nL; rw [hnl]; decide) [1, 2, 3, 4, 5, 6, 7, 8, 9, 10, 11, 0] rfl ?_
            refine z_iconst (v := 1) (hX k (by omega)) dL_law_835 (by decide) ?_
            refine z_iload (hX k (by omega)) 7 dL_law_836 rfl ?_
            refine z_iconst (v := 3) (hX k (by omega)) dL_law_838 (by decide) ?_
            refine z_ishr (hX k (by omega)) dL_law_839 ?_
            refine z_sipush (v := 500) (hX k (by omega)) dL_law_840 (by decide) ?_
            obtain ⟨q72, e73, hf⟩ := zbind hf
            refine z_callS (stk := [.int 1]) (stk' := [.int q72.1, .int 1]) (hX k (by omega)) (c_L_low X.l q70.2 (zshr v7 3) 500 q72 e73) zb_L_low dL_law_843 zm_591 rfl rfl rfl ⟨by decide, by decide⟩ ⟨rfl, rfl⟩ (Nat.le_of_ble_eq_true rfl) rfl ?_
            refine z_iadd (hX k (by omega)) dL_law_846 ?_
            refine z_istore (hX k (by omega)) [(0, .ref b0), (1, .ref (X.ad 0)), (2, .int v2), (3, .int v3), (4, .int v4), (5, .int v5), (6, .int v6), (7, .int v7), (8, .int v8), (9, .int v9), (10, .int v10), (11, .int q70.1), (12, .int (1 + q72.1))] dL_law_847 (by show _ < X.nL; rw [hnl]; decide) [1, 2, 3, 4, 5, 6, 7, 8, 9, 10, 11, 12, 0] rfl ?_
            refine z_aload_n (hX k (by omega)) 1 dL_law_849 rfl rfl ?_
            refine z_iload (hX k (by omega)) 11 dL_law_850 rfl ?_
            obtain ⟨q74, e75, hf⟩ := zbind hf
            refine z_callV (stk := []) (stk' := [.int q74.1]) (hX k (by omega)) (c_X6_fuel X.l q72.2 q70.1 q74 e75) zb_X6_fuel 0 dL_law_852 zm_579 (by decide) shC_0 rfl rfl rfl rfl ⟨by decide, by decide⟩ ⟨rfl, rfl⟩ (Nat.le_of_ble_eq_true rfl) rfl ?_
            refine z_istore (hX k (by omega)) [(0, .ref b0), (1, .ref (X.ad 0)), (2, .int v2), (3, .int v3), (4, .int v4), (5, .int v5), (6, .int v6), (7, .int v7), (8, .int v8), (9, .int v9), (10, .int v10), (11, .int q70.1), (12, .int (1 + q72.1)), (13, .int q74.1)] dL_law_855 (by show _ < X.nL; rw [hnl]; decide) [1, 2, 3, 4, 5, 6, 7, 8, 9, 10, 11, 12, 13, 0] rfl ?_
            refine z_aload_n (hX k (by omega)) 1 dL_law_857 rfl rfl ?_
            refine z_iconst (v := 2) (hX k (by omega)) dL_law_858 (by decide) ?_
            refine z_iload (hX k (by omega)) 11 dL_law_859 rfl ?_
            refine z_iload (hX k (by omega)) 12 dL_law_861 rfl ?_
            obtain ⟨q76, e77, hf⟩ := zbind hf
            refine z_callWk (stk := []) (stk' := [.int q76.1]) hX (k := k) (by omega) hZ (cg_L_acts2 X.l hfl q74.2 q70.1 (1 + q72.1) q76 e77) zbW_L_acts dL_law_863 zm_620 rfl rfl rfl ⟨by decide, by decide⟩ ⟨rfl, rfl⟩ (Nat.le_of_ble_eq_true rfl) rfl ?_
            refine z_iload (hX (k + 1) (by omega)) 13 dL_law_866 rfl ?_
            refine z_iload (hX (k + 1) (by omega)) 12 dL_law_868 rfl ?_
            refine z_iadd (hX (k + 1) (by omega)) dL_law_870 ?_
            refine z_sipush (v := 1000) (hX (k + 1) (by omega)) dL_law_871 (by decide) ?_
            refine z_icmp_le (hX (k + 1) (by omega)) 882 dL_law_874 (by decide) (fun c78 => ?_) (fun c78 => ?_)
            · have hf := (if_pos c78).symm.trans hf
              refine z_iload (hX (k + 1) (by omega)) 13 dL_law_882 rfl ?_
              refine z_iload (hX (k + 1) (by omega)) 12 dL_law_884 rfl ?_
              refine z_iadd (hX (k + 1) (by omega)) dL_law_886 ?_
              refine z_icmp_ne (hX (k + 1) (by omega)) 894 dL_law_887 (by decide) (fun c79 => ?_) (fun c79 => ?_)
              · have hf := (if_neg c79).symm.trans hf
                refine z_locals [0, 1, 2, 3, 5, 6] [(0, .ref b0), (1, .ref (X.ad 0)), (2, .int v2), (3, .int v3), (5, .int v5), (6, .int v6)] rfl ?_
                exact t_L_law_894 X out hX hZ hfl hs hnl EXIT M hM K244 hK244 (k + 1) q76.2 v2 v3 v5 v6 (by omega) hf
              have hf := (if_pos c79).symm.trans hf
              refine z_locals [0, 1, 2, 3, 5, 6] [(0, .ref b0), (1, .ref (X.ad 0)), (2, .int v2), (3, .int v3), (5, .int v5), (6, .int v6)] rfl ?_
              exact t_L_law_890 X out hX hZ hfl hs hnl EXIT M hM K244 hK244 (k + 1) q76.2 v2 v3 v5 v6 (by omega) hf
            have hf := (if_neg c78).symm.trans hf
            refine z_bipush (v := (-9)) (hX (k + 1) (by omega)) dL_law_877 (by decide) ?_
            refine z_goto (hX (k + 1) (by omega)) 887 dL_law_879 (by decide) ?_
            refine z_icmp_ne (hX (k + 1) (by omega)) 894 dL_law_887 (by decide) (fun c80 => ?_) (fun c80 => ?_)
            · have hf := (if_neg c80).symm.trans hf
              refine z_locals [0, 1, 2, 3, 5, 6] [(0, .ref b0), (1, .ref (X.ad 0)), (2, .int v2), (3, .int v3), (5, .int v5), (6, .int v6)] rfl ?_
              exact t_L_law_894 X out hX hZ hfl hs hnl EXIT M hM K244 hK244 (k + 1) q76.2 v2 v3 v5 v6 (by omega) hf
            have hf := (if_pos c80).symm.trans hf
            refine z_locals [0, 1, 2, 3, 5, 6] [(0, .ref b0), (1, .ref (X.ad 0)), (2, .int v2), (3, .int v3), (5, .int v5), (6, .int v6)] rfl ?_
            exact t_L_law_890 X out hX hZ hfl hs hnl EXIT M hM K244 hK244 (k + 1) q76.2 v2 v3 v5 v6 (by omega) hf
          have hf := (if_neg c58).symm.trans hf
          refine z_aload_n (hX k (by omega)) 1 dL_law_747 rfl rfl ?_
          refine z_iconst (v := 1) (hX k (by omega)) dL_law_748 (by decide) ?_
          refine z_iload (hX k (by omega)) 10 dL_law_749 rfl ?_
          refine z_iload (hX k (by omega)) 7 dL_law_751 rfl ?_
          refine z_iconst (v := 2) (hX k (by omega)) dL_law_753 (by decide) ?_
          obtain ⟨q81, e82, hf⟩ := zbind hf
          refine z_callS (stk := [.int v10, .int 1, .ref (X.ad 0)]) (stk' := [.int q81.1, .int v10, .int 1, .ref (X.ad 0)]) (hX k (by omega)) (c_L_low X.l st v7 2 q81 e82) zb_L_low dL_law_754 zm_591 rfl rfl rfl ⟨by decide, by decide⟩ ⟨rfl, rfl⟩ (Nat.le_of_ble_eq_true rfl) rfl ?_
          obtain ⟨q83, e84, hf⟩ := zbind hf
          refine z_callWk (stk := []) (stk' := [.int q83.1]) hX (k := k) (by omega) hZ (cg_L_acts1 X.l hfl q81.2 v10 q81.1 q83 e84) zbW_L_acts dL_law_757 zm_620 rfl rfl rfl ⟨by decide, by decide⟩ ⟨rfl, rfl⟩ (Nat.le_of_ble_eq_true rfl) rfl ?_
          refine z_istore (hX (k + 1) (by omega)) [(0, .ref b0), (1, .ref (X.ad 0)), (2, .int v2), (3, .int v3), (4, .int v4), (5, .int v5), (6, .int v6), (7, .int v7), (8, .int v8), (9, .int v9), (10, .int v10), (11, .int q83.1)] dL_law_760 (by show _ < X.nL; rw [hnl]; decide) [1, 2, 3, 4, 5, 6, 7, 8, 9, 10, 11, 0] rfl ?_
          refine z_iload (hX (k + 1) (by omega)) 11 dL_law_762 rfl ?_
          refine z_bipush (v := (-9)) (hX (k + 1) (by omega)) dL_law_764 (by decide) ?_
          refine z_icmp_eq (hX (k + 1) (by omega)) 797 dL_law_766 (by decide) (fun c85 => ?_) (fun c85 => ?_)
          · have hf := (if_pos c85).symm.trans hf
            refine z_locals [0, 1, 2, 3, 5, 6, 11] [(0, .ref b0), (1, .ref (X.ad 0)), (2, .int v2), (3, .int v3), (5, .int v5), (6, .int v6), (11, .int q83.1)] rfl ?_
            exact t_L_law_797 X out hX hZ hfl hs hnl EXIT M hM K244 hK244 (k + 1) q83.2 v2 v3 v5 v6 q83.1 (by omega) hf
          have hf := (if_neg c85).symm.trans hf
          refine z_iload (hX (k + 1) (by omega)) 11 dL_law_769 rfl ?_
          refine z_iload_n (hX (k + 1) (by omega)) 2 dL_law_771 rfl rfl ?_
          refine z_icmp_ne (hX (k + 1) (by omega)) 801 dL_law_772 (by decide) (fun c86 => ?_) (fun c86 => ?_)
          · have hf := (if_neg c86).symm.trans hf
            refine z_locals [0, 1, 2, 3, 5, 6, 11] [(0, .ref b0), (1, .ref (X.ad 0)), (2, .int v2), (3, .int v3), (5, .int v5), (6, .int v6), (11, .int q83.1)] rfl ?_
            exact t_L_law_801 X out hX hZ hfl hs hnl EXIT M hM K244 hK244 (k + 1) q83.2 v2 v3 v5 v6 q83.1 (by omega) hf
          have hf := (if_pos c86).symm.trans hf
          refine z_aload_n (hX (k + 1) (by omega)) 1 dL_law_775 rfl rfl ?_
          refine z_iload (hX (k + 1) (by omega)) 11 dL_law_776 rfl ?_
          obtain ⟨q87, e88, hf⟩ := zbind hf
          refine z_callV (stk := []) (stk' := [.int q87.1]) (hX (k + 1) (by omega)) (c_X6_state X.l q83.2 q83.1 q87 e88) zb_X6_state 0 dL_law_778 zm_571 (by decide) shC_0 rfl rfl rfl rfl ⟨by decide, by decide⟩ ⟨rfl, rfl⟩ (Nat.le_of_ble_eq_true rfl) rfl ?_
          refine z_if_ne (hX (k + 1) (by omega)) 801 dL_law_781 (by decide) (fun c89 => ?_) (fun c89 => ?_)
          · have hf := (if_neg c89).symm.trans hf
            refine z_locals [0, 1, 2, 3, 5, 6, 11] [(0, .ref b0), (1, .ref (X.ad 0)), (2, .int v2), (3, .int v3), (5, .int v5), (6, .int v6), (11, .int q83.1)] rfl ?_
            exact t_L_law_801 X out hX hZ hfl hs hnl EXIT M hM K244 hK244 (k + 1) q87.2 v2 v3 v5 v6 q83.1 (by omega) hf
          have hf := (if_pos c89).symm.trans hf
          refine z_aload_n (hX (k + 1) (by omega)) 1 dL_law_784 rfl rfl ?_
          refine z_iconst (v := 1) (hX (k + 1) (by omega)) dL_law_785 (by decide) ?_
          refine z_iload (hX (k + 1) (by omega)) 10 dL_law_786 rfl ?_
          refine z_iconst (v := 0) (hX (k + 1) (by omega)) dL_law_788 (by decide) ?_
          obtain ⟨q90, e91, hf⟩ := zbind hf
          refine z_callWk (stk := []) (stk' := [.int q90.1]) hX (k := k + 1) (by omega) hZ (cg_L_acts1 X.l hfl q87.2 v10 0 q90 e91) zbW_L_acts dL_law_789 zm_620 rfl rfl rfl ⟨by decide, by decide⟩ ⟨rfl, rfl⟩ (Nat.le_of_ble_eq_true rfl) rfl ?_
          refine z_bipush (v := (-9)) (hX (k + 2) (by omega)) dL_law_792 (by decide) ?_
          refine z_icmp_ne (hX (k + 2) (by omega)) 801 dL_law_794 (by decide) (fun c92 => ?_) (fun c92 => ?_)
          · have hf := (if_neg c92).symm.trans hf
            refine z_locals [0, 1, 2, 3, 5, 6, 11] [(0, .ref b0), (1, .ref (X.ad 0)), (2, .int v2), (3, .int v3), (5, .int v5), (6, .int v6), (11, .int q83.1)] rfl ?_
            exact t_L_law_801 X out hX hZ hfl hs hnl EXIT M hM K244 hK244 (k + 2) q90.2 v2 v3 v5 v6 q83.1 (by omega) hf
          have hf := (if_pos c92).symm.trans hf
          refine z_locals [0, 1, 2, 3, 5, 6, 11] [(0, .ref b0), (1, .ref (X.ad 0)), (2, .int v2), (3, .int v3), (5, .int v5), (6, .int v6), (11, .int q83.1)] rfl ?_
          exact t_L_law_797 X out hX hZ hfl hs hnl EXIT M hM K244 hK244 (k + 2) q90.2 v2 v3 v5 v6 q83.1 (by omega) hf
        have hf := (if_neg c57).symm.trans hf
        refine z_aload_n (hX k (by omega)) 1 dL_law_668 rfl rfl ?_
        refine z_iload (hX k (by omega)) 10 dL_law_669 rfl ?_
        obtain ⟨q93, e94, hf⟩ := zbind hf
        refine z_callV (stk := []) (stk' := [.int q93.1]) (hX k (by omega)) (c_X6_state X.l st v10 q93 e94) zb_X6_state 0 dL_law_671 zm_571 (by decide) shC_0 rfl rfl rfl rfl ⟨by decide, by decide⟩ ⟨rfl, rfl⟩ (Nat.le_of_ble_eq_true rfl) rfl ?_
        refine z_if_ne (hX k (by omega)) 681 dL_law_674 (by decide) (fun c95 => ?_) (fun c95 => ?_)
        · have hf := (if_neg c95).symm.trans hf
          refine z_iconst (v := 0) (hX k (by omega)) dL_law_681 (by decide) ?_
          refine z_istore (hX k (by omega)) [(0, .ref b0), (1, .ref (X.ad 0)), (2, .int v2), (3, .int v3), (4, .int v4), (5, .int v5), (6, .int v6), (7, .int v7), (8, .int v8), (9, .int v9), (10, .int v10), (11, .int 0)] dL_law_682 (by show _ < X.nL; rw [hnl]; decide) [1, 2, 3, 4, 5, 6, 7, 8, 9, 10, 11, 0] rfl ?_
          refine z_locals [0, 1, 2, 3, 5, 6, 10, 11] [(0, .ref b0), (1, .ref (X.ad 0)), (2, .int v2), (3, .int v3), (5, .int v5), (6, .int v6), (10, .int v10), (11, .int 0)] rfl ?_
          exact t_L_law_684 X out hX hZ hfl hs hnl EXIT M hM K244 hK244 k q93.2 v2 v3 v5 v6 v10 0 (by omega) hf
        have hf := (if_pos c95).symm.trans hf
        refine z_iconst (v := 1) (hX k (by omega)) dL_law_677 (by decide) ?_
        refine z_goto (hX k (by omega)) 682 dL_law_678 (by decide) ?_
        refine z_istore (hX k (by omega)) [(0, .ref b0), (1, .ref (X.ad 0)), (2, .int v2), (3, .int v3), (4, .int v4), (5, .int v5), (6, .int v6), (7, .int v7), (8, .int v8), (9, .int v9), (10, .int v10), (11, .int 1)] dL_law_682 (by show _ < X.nL; rw [hnl]; decide) [1, 2, 3, 4, 5, 6, 7, 8, 9, 10, 11, 0] rfl ?_
        refine z_locals [0, 1, 2, 3, 5, 6, 10, 11] [(0, .ref b0), (1, .ref (X.ad 0)), (2, .int v2), (3, .int v3), (5, .int v5), (6, .int v6), (10, .int v10), (11, .int 1)] rfl ?_
        exact t_L_law_684 X out hX hZ hfl hs hnl EXIT M hM K244 hK244 k q93.2 v2 v3 v5 v6 v10 1 (by omega) hf
      have hf := (if_neg c56).symm.trans hf
      refine z_iload (hX k (by omega)) 9 dL_law_608 rfl ?_
      refine z_sipush (v := 8000) (hX k (by omega)) dL_law_610 (by decide) ?_
      refine z_icmp_gt (hX k (by omega)) 651 dL_law_613 (by decide) (fun c96 => ?_) (fun c96 => ?_)
      · have hf := (if_pos c96).symm.trans hf
        refine z_locals [0, 1, 2, 3, 5, 6] [(0, .ref b0), (1, .ref (X.ad 0)), (2, .int v2), (3, .int v3), (5, .int v5), (6, .int v6)] rfl ?_
        exact t_L_law_651 X out hX hZ hfl hs hnl EXIT M hM K244 hK244 k st v2 v3 v5 v6 (by omega) hf
      have hf := (if_neg c96).symm.trans hf
      refine z_aload_n (hX k (by omega)) 1 dL_law_616 rfl rfl ?_
      refine z_iconst (v := 1) (hX k (by omega)) dL_law_617 (by decide) ?_
      refine z_iload (hX k (by omega)) 7 dL_law_618 rfl ?_
      refine z_iload (hX k (by omega)) 7 dL_law_620 rfl ?_
      refine z_bipush (v := 8) (hX k (by omega)) dL_law_622 (by decide) ?_
      refine z_ishr (hX k (by omega)) dL_law_624 ?_
      refine z_iconst (v := 2) (hX k (by omega)) dL_law_625 (by decide) ?_
      obtain ⟨q97, e98, hf⟩ := zbind hf
      refine z_callS (stk := [.int v7, .int 1, .ref (X.ad 0)]) (stk' := [.int q97.1, .int v7, .int 1, .ref (X.ad 0)]) (hX k (by omega)) (c_L_low X.l st (zshr v7 8) 2 q97 e98) zb_L_low dL_law_626 zm_591 rfl rfl rfl ⟨by decide, by decide⟩ ⟨rfl, rfl⟩ (Nat.le_of_ble_eq_true rfl) rfl ?_
      refine z_if_ne (hX k (by omega)) 637 dL_law_629 (by decide) (fun c99 => ?_) (fun c99 => ?_)
      · have hf := (if_neg c99).symm.trans hf
        refine z_bipush (v := 40) (hX k (by omega)) dL_law_637 (by decide) ?_
        obtain ⟨q100, e101, hf⟩ := zbind hf
        refine z_callS (stk := [.int 1, .ref (X.ad 0)]) (stk' := [.int q100.1, .int 1, .ref (X.ad 0)]) (hX k (by omega)) (c_L_low X.l q97.2 v7 40 q100 e101) zb_L_low dL_law_639 zm_591 rfl rfl rfl ⟨by decide, by decide⟩ ⟨rfl, rfl⟩ (Nat.le_of_ble_eq_true rfl) rfl ?_
        refine z_iadd (hX k (by omega)) dL_law_642 ?_
        obtain ⟨q102, e103, hf⟩ := zbind hf
        refine z_callV (stk := []) (stk' := [.int q102.1]) (hX k (by omega)) (c_X6_pass X.l q100.2 (1 + q100.1) q102 e103) zb_X6_pass 0 dL_law_643 zm_448 (by decide) shC_0 rfl rfl rfl rfl ⟨by decide, by decide⟩ ⟨rfl, rfl⟩ (Nat.le_of_ble_eq_true rfl) rfl ?_
        refine z_iload (hX k (by omega)) 9 dL_law_646 rfl ?_
        refine z_icmp_le (hX k (by omega)) 655 dL_law_648 (by decide) (fun c104 => ?_) (fun c104 => ?_)
        · have hf := (if_pos c104).symm.trans hf
          refine z_locals [0, 1, 2, 3, 5, 6] [(0, .ref b0), (1, .ref (X.ad 0)), (2, .int v2), (3, .int v3), (5, .int v5), (6, .int v6)] rfl ?_
          exact t_L_law_655 X out hX hZ hfl hs hnl EXIT M hM K244 hK244 k q102.2 v2 v3 v5 v6 (by omega) hf
        have hf := (if_neg c104).symm.trans hf
        refine z_locals [0, 1, 2, 3, 5, 6] [(0, .ref b0), (1, .ref (X.ad 0)), (2, .int v2), (3, .int v3), (5, .int v5), (6, .int v6)] rfl ?_
        exact t_L_law_651 X out hX hZ hfl hs hnl EXIT M hM K244 hK244 k q102.2 v2 v3 v5 v6 (by omega) hf
      have hf := (if_pos c99).symm.trans hf
      refine z_bipush (v := 6) (hX k (by omega)) dL_law_632 (by decide) ?_
      refine z_goto (hX k (by omega)) 639 dL_law_634 (by decide) ?_
      obtain ⟨q105, e106, hf⟩ := zbind hf
      refine z_callS (stk := [.int 1, .ref (X.ad 0)]) (stk' := [.int q105.1, .int 1, .ref (X.ad 0)]) (hX k (by omega)) (c_L_low X.l q97.2 v7 6 q105 e106) zb_L_low dL_law_639 zm_591 rfl rfl rfl ⟨by decide, by decide⟩ ⟨rfl, rfl⟩ (Nat.le_of_ble_eq_true rfl) rfl ?_
      refine z_iadd (hX k (by omega)) dL_law_642 ?_
      obtain ⟨q107, e108, hf⟩ := zbind hf
      refine z_callV (stk := []) (stk' := [.int q107.1]) (hX k (by omega)) (c_X6_pass X.l q105.2 (1 + q105.1) q107 e108) zb_X6_pass 0 dL_law_643 zm_448 (by decide) shC_0 rfl rfl rfl rfl ⟨by decide, by decide⟩ ⟨rfl, rfl⟩ (Nat.le_of_ble_eq_true rfl) rfl ?_
      refine z_iload (hX k (by omega)) 9 dL_law_646 rfl ?_
      refine z_icmp_le (hX k (by omega)) 655 dL_law_648 (by decide) (fun c109 => ?_) (fun c109 => ?_)
      · have hf := (if_pos c109).symm.trans hf
        refine z_locals [0, 1, 2, 3, 5, 6] [(0, .ref b0), (1, .ref (X.ad 0)), (2, .int v2), (3, .int v3), (5, .int v5), (6, .int v6)] rfl ?_
        exact t_L_law_655 X out hX hZ hfl hs hnl EXIT M hM K244 hK244 k q107.2 v2 v3 v5 v6 (by omega) hf
      have hf := (if_neg c109).symm.trans hf
      refine z_locals [0, 1, 2, 3, 5, 6] [(0, .ref b0), (1, .ref (X.ad 0)), (2, .int v2), (3, .int v3), (5, .int v5), (6, .int v6)] rfl ?_
      exact t_L_law_651 X out hX hZ hfl hs hnl EXIT M hM K244 hK244 k q107.2 v2 v3 v5 v6 (by omega) hf
    have hf := (if_neg c55).symm.trans hf
    refine z_iload (hX k (by omega)) 7 dL_law_428 rfl ?_
    refine z_iconst (v := 4) (hX k (by omega)) dL_law_430 (by decide) ?_
    obtain ⟨q110, e111, hf⟩ := zbind hf
    refine z_callS (stk := []) (stk' := [.int q110.1]) (hX k (by omega)) (c_L_low X.l st v7 4 q110 e111) zb_L_low dL_law_431 zm_591 rfl rfl rfl ⟨by decide, by decide⟩ ⟨rfl, rfl⟩ (Nat.le_of_ble_eq_true rfl) rfl ?_
    refine z_istore (hX k (by omega)) [(0, .ref b0), (1, .ref (X.ad 0)), (2, .int v2), (3, .int v3), (4, .int v4), (5, .int v5), (6, .int v6), (7, .int v7), (8, .int v8), (9, .int v9), (10, .int v10), (11, .int q110.1)] dL_law_434 (by show _ < X.nL; rw [hnl]; decide) [1, 2, 3, 4, 5, 6, 7, 8, 9, 10, 11, 0] rfl ?_
    refine z_iload (hX k (by omega)) 11 dL_law_436 rfl ?_
    refine z_if_le (hX k (by omega)) 456 dL_law_438 (by decide) (fun c112 => ?_) (fun c112 => ?_)
    · have hf := (if_pos c112).symm.trans hf
      refine z_locals [0, 1, 2, 3, 5, 6, 7, 10, 11] [(0, .ref b0), (1, .ref (X.ad 0)), (2, .int v2), (3, .int v3), (5, .int v5), (6, .int v6), (7, .int v7), (10, .int v10), (11, .int q110.1)] rfl ?_
      exact t_L_law_456 X out hX hZ hfl hs hnl EXIT M hM K244 hK244 k q110.2 v2 v3 v5 v6 v7 v10 q110.1 (by omega) hf
    have hf := (if_neg c112).symm.trans hf
    refine z_iload (hX k (by omega)) 7 dL_law_441 rfl ?_
    refine z_iconst (v := 4) (hX k (by omega)) dL_law_443 (by decide) ?_
    refine z_ishr (hX k (by omega)) dL_law_444 ?_
    refine z_iconst (v := 5) (hX k (by omega)) dL_law_445 (by decide) ?_
    obtain ⟨q113, e114, hf⟩ := zbind hf
    refine z_callS (stk := []) (stk' := [.int q113.1]) (hX k (by omega)) (c_L_low X.l q110.2 (zshr v7 4) 5 q113 e114) zb_L_low dL_law_446 zm_591 rfl rfl rfl ⟨by decide, by decide⟩ ⟨rfl, rfl⟩ (Nat.le_of_ble_eq_true rfl) rfl ?_
    refine z_if_ne (hX k (by omega)) 456 dL_law_449 (by decide) (fun c115 => ?_) (fun c115 => ?_)
    · have hf := (if_neg c115).symm.trans hf
      refine z_locals [0, 1, 2, 3, 5, 6, 7, 10, 11] [(0, .ref b0), (1, .ref (X.ad 0)), (2, .int v2), (3, .int v3), (5, .int v5), (6, .int v6), (7, .int v7), (10, .int v10), (11, .int q110.1)] rfl ?_
      exact t_L_law_456 X out hX hZ hfl hs hnl EXIT M hM K244 hK244 k q113.2 v2 v3 v5 v6 v7 v10 q110.1 (by omega) hf
    have hf := (if_pos c115).symm.trans hf
    refine z_iconst (v := 1) (hX k (by omega)) dL_law_452 (by decide) ?_
    refine z_goto (hX k (by omega)) 457 dL_law_453 (by decide) ?_
    refine z_istore (hX k (by omega)) [(0, .ref b0), (1, .ref (X.ad 0)), (2, .int v2), (3, .int v3), (4, .int v4), (5, .int v5), (6, .int v6), (7, .int v7), (8, .int v8), (9, .int v9), (10, .int v10), (11, .int q110.1), (12, .int 1)] dL_law_457 (by show _ < X.nL; rw [hnl]; decide) [1, 2, 3, 4, 5, 6, 7, 8, 9, 10, 11, 12, 0] rfl ?_
    refine z_locals [0, 1, 2, 3, 5, 6, 7, 10, 11, 12] [(0, .ref b0), (1, .ref (X.ad 0)), (2, .int v2), (3, .int v3), (5, .int v5), (6, .int v6), (7, .int v7), (10, .int v10), (11, .int q110.1), (12, .int 1)] rfl ?_
    exact t_L_law_459 X out hX hZ hfl hs hnl EXIT M hM K244 hK244 k q113.2 v2 v3 v5 v6 v7 v10 q110.1 1 (by omega) hf
  have hf := (if_neg c54).symm.trans hf
  refine z_locals [0, 1, 2, 3, 5, 6, 7, 9] [(0, .ref b0), (1, .ref (X.ad 0)), (2, .int v2), (3, .int v3), (5, .int v5), (6, .int v6), (7, .int v7), (9, .int v9)] rfl ?_
  exact t_L_law_313 X out hX hZ hfl hs hnl EXIT M hM K244 hK244 k st v2 v3 v5 v6 v7 v9 (by omega) hf
set_option maxHeartbeats 4000000 in
set_option maxRecDepth 100000 in
theorem t_L_law_244 (X : zCx) (out : Unit × zSt) {B N : Nat} (hX : ∀ j, j ≤ 130 → zOk (zat X (B + j) (N + 6 * j)) RL code room_1) (hZ : zXs X.A X.s X.s.heap) (hfl : X.l.stackTraces = false) {b0 L : Nat} {xs : Nat → Int32} (hs : zScr X b0 L xs) (hnl : X.nL = 14) (EXIT : ∀ (k : Nat) (st : zSt) (lv : List (Nat × Value)), k ≤ 130 → zG 98 shC (zat X (B + k) (N + 6 * k)) st 976 lv [.int 1]) : ∀ (n k : Nat) (st : zSt) (v2 : Int32) (v3 : Int32) (v4 : Int32) (v5 : Int32) (v6 : Int32), k + 2 * n ≤ 130 → f_L_law_244 L xs n st v2 v3 v4 v5 v6 = some out → zG 98 shC (zat X (B + k) (N + 6 * k)) st 244 [(0, .ref b0), (1, .ref (X.ad 0)), (2, .int v2), (3, .int v3), (4, .int v4), (5, .int v5), (6, .int v6)] [] := by
  intro n
  induction n with
  | zero => intro k st v2 v3 v4 v5 v6 hk hf; rw [f_L_law_244] at hf; exact (znone hf).elim
  | succ n ih =>
    intro k st v2 v3 v4 v5 v6 hk hf
    rw [f_L_law_244] at hf
    refine z_iload (hX k (by omega)) 6 dL_law_244 rfl ?_
    refine z_iload (hX k (by omega)) 5 dL_law_246 rfl ?_
    refine z_icmp_ge (hX k (by omega)) 974 dL_law_248 (by decide) (fun c42 => ?_) (fun c42 => ?_)
    · have hf := (if_pos c42).symm.trans hf
      refine z_iload (hX k (by omega)) 4 dL_law_974 rfl ?_
      obtain ⟨i, hf⟩ := zifd hf
      rw [i]
      exact EXIT k _ _ (by omega)
    have hf := (if_neg c42).symm.trans hf
    refine z_iload (hX k (by omega)) 4 dL_law_251 rfl ?_
    refine z_if_eq (hX k (by omega)) 974 dL_law_253 (by decide) (fun c43 => ?_) (fun c43 => ?_)
    · have hf := (if_pos c43).symm.trans hf
      refine z_iload (hX k (by omega)) 4 dL_law_974 rfl ?_
      obtain ⟨i, hf⟩ := zifd hf
      rw [i]
      exact EXIT k _ _ (by omega)
    have hf := (if_neg c43).symm.trans hf
    refine z_aload_n (hX k (by omega)) 0 dL_law_256 rfl rfl ?_
    refine z_bipush (v := 7) (hX k (by omega)) dL_law_257 (by decide) ?_
    refine z_iload (hX k (by omega)) 6 dL_law_259 rfl ?_
    refine z_iadd (hX k (by omega)) dL_law_261 ?_
    obtain ⟨q44, e45, hf⟩ := zbind hf
    refine z_callCell (stk := []) (hX k (by omega)) hs e45 zb_L_cell dL_law_262 zm_595 rfl ⟨by decide, by decide⟩ (Nat.le_of_ble_eq_true rfl) ?_
    refine z_istore (hX k (by omega)) [(0, .ref b0), (1, .ref (X.ad 0)), (2, .int v2), (3, .int v3), (4, .int v4), (5, .int v5), (6, .int v6), (7, .int q44.1)] dL_law_265 (by show _ < X.nL; rw [hnl]; decide) [1, 2, 3, 4, 5, 6, 7, 0] rfl ?_
    refine z_iload (hX k (by omega)) 7 dL_law_267 rfl ?_
    refine z_bipush (v := 20) (hX k (by omega)) dL_law_269 (by decide) ?_
    refine z_ishr (hX k (by omega)) dL_law_271 ?_
    refine z_bipush (v := 22) (hX k (by omega)) dL_law_272 (by decide) ?_
    obtain ⟨q46, e47, hf⟩ := zbind hf
    refine z_callS (stk := []) (stk' := [.int q46.1]) (hX k (by omega)) (c_L_low X.l q44.2 (zshr q44.1 20) 22 q46 e47) zb_L_low dL_law_274 zm_591 rfl rfl rfl ⟨by decide, by decide⟩ ⟨rfl, rfl⟩ (Nat.le_of_ble_eq_true rfl) rfl ?_
    refine z_istore (hX k (by omega)) [(0, .ref b0), (1, .ref (X.ad 0)), (2, .int v2), (3, .int v3), (4, .int v4), (5, .int v5), (6, .int v6), (7, .int q44.1), (8, .int q46.1)] dL_law_277 (by show _ < X.nL; rw [hnl]; decide) [1, 2, 3, 4, 5, 6, 7, 8, 0] rfl ?_
    refine z_aload_n (hX k (by omega)) 1 dL_law_279 rfl rfl ?_
    obtain ⟨q48, e49, hf⟩ := zbind hf
    refine z_callV (stk := []) (stk' := [.int q48.1]) (hX k (by omega)) (c_X6_now X.l q46.2 q48 e49) zb_X6_now 0 dL_law_280 zm_567 (by decide) shC_0 rfl rfl rfl rfl ⟨by decide, by decide⟩ ⟨rfl, rfl⟩ (Nat.le_of_ble_eq_true rfl) rfl ?_
    refine z_istore (hX k (by omega)) [(0, .ref b0), (1, .ref (X.ad 0)), (2, .int v2), (3, .int v3), (4, .int v4), (5, .int v5), (6, .int v6), (7, .int q44.1), (8, .int q46.1), (9, .int q48.1)] dL_law_283 (by show _ < X.nL; rw [hnl]; decide) [1, 2, 3, 4, 5, 6, 7, 8, 9, 0] rfl ?_
    refine z_iload_n (hX k (by omega)) 2 dL_law_285 rfl rfl ?_
    refine z_if_ne (hX k (by omega)) 293 dL_law_286 (by decide) (fun c50 => ?_) (fun c50 => ?_)
    · have hf := (if_neg c50).symm.trans hf
      refine z_iload (hX k (by omega)) 7 dL_law_293 rfl ?_
      refine z_iconst (v := 5) (hX k (by omega)) dL_law_295 (by decide) ?_
      refine z_ishr (hX k (by omega)) dL_law_296 ?_
      refine z_iload_n (hX k (by omega)) 2 dL_law_297 rfl rfl ?_
      obtain ⟨q51, e52, hf⟩ := zbind hf
      refine z_callS (stk := []) (stk' := [.int q51.1]) (hX k (by omega)) (c_L_low X.l q48.2 (zshr q44.1 5) v2 q51 e52) zb_L_low dL_law_298 zm_591 rfl rfl rfl ⟨by decide, by decide⟩ ⟨rfl, rfl⟩ (Nat.le_of_ble_eq_true rfl) rfl ?_
      refine z_istore (hX k (by omega)) [(0, .ref b0), (1, .ref (X.ad 0)), (2, .int v2), (3, .int v3), (4, .int v4), (5, .int v5), (6, .int v6), (7, .int q44.1), (8, .int q46.1), (9, .int q48.1), (10, .int q51.1)] dL_law_301 (by show _ < X.nL; rw [hnl]; decide) [1, 2, 3, 4, 5, 6, 7, 8, 9, 10, 0] rfl ?_
      exact t_L_law_303 X out hX hZ hfl hs hnl EXIT (k + 2) (by omega) (fun st v2 v3 v4 v5 v6 => f_L_law_244 L xs n st v2 v3 v4 v5 v6) (fun k st v2 v3 v4 v5 v6 _ => ih k st v2 v3 v4 v5 v6 (by omega)) k q51.2 v2 v3 v4 v5 v6 q44.1 q46.1 q48.1 q51.1 (by omega) hf
    have hf := (if_pos c50).symm.trans hf
    refine z_iconst (v := 0) (hX k (by omega)) dL_law_289 (by decide) ?_
    refine z_goto (hX k (by omega)) 301 dL_law_290 (by decide) ?_
    refine z_istore (hX k (by omega)) [(0, .ref b0), (1, .ref (X.ad 0)), (2, .int v2), (3, .int v3), (4, .int v4), (5, .int v5), (6, .int v6), (7, .int q44.1), (8, .int q46.1), (9, .int q48.1), (10, .int 0)] dL_law_301 (by show _ < X.nL; rw [hnl]; decide) [1, 2, 3, 4, 5, 6, 7, 8, 9, 10, 0] rfl ?_
    exact t_L_law_303 X out hX hZ hfl hs hnl EXIT (k + 2) (by omega) (fun st v2 v3 v4 v5 v6 => f_L_law_244 L xs n st v2 v3 v4 v5 v6) (fun k st v2 v3 v4 v5 v6 _ => ih k st v2 v3 v4 v5 v6 (by omega)) k q48.2 v2 v3 v4 v5 v6 q44.1 q46.1 q48.1 0 (by omega) hf
set_option maxHeartbeats 4000000 in
set_option maxRecDepth 100000 in
theorem t_L_law_170 (X : zCx) (out : Unit × zSt) {B N : Nat} (hX : ∀ j, j ≤ 130 → zOk (zat X (B + j) (N + 6 * j)) RL code room_1) (hZ : zXs X.A X.s X.s.heap) (hfl : X.l.stackTraces = false) {b0 L : Nat} {xs : Nat → Int32} (hs : zScr X b0 L xs) (hnl : X.nL = 14) (EXIT : ∀ (k : Nat) (st : zSt) (lv : List (Nat × Value)), k ≤ 130 → zG 98 shC (zat X (B + k) (N + 6 * k)) st 976 lv [.int 1]) : ∀ (n k : Nat) (st : zSt) (v2 : Int32) (v3 : Int32) (v4 : Int32) (v5 : Int32), k + 128 ≤ 130 → f_L_law_170 L xs n st v2 v3 v4 v5 = some out → zG 98 shC (zat X (B + k) (N + 6 * k)) st 170 [(0, .ref b0), (1, .ref (X.ad 0)), (2, .int v2), (3, .int v3), (4, .int v4), (5, .int v5)] [] := by
  intro n
  induction n with
  | zero => intro k st v2 v3 v4 v5 hk hf; rw [f_L_law_170] at hf; exact (znone hf).elim
  | succ n ih =>
    intro k st v2 v3 v4 v5 hk hf
    rw [f_L_law_170] at hf
    refine z_iload (hX k (by omega)) 5 dL_law_170 rfl ?_
    refine z_iconst (v := 4) (hX k (by omega)) dL_law_172 (by decide) ?_
    refine z_icmp_ge (hX k (by omega)) 219 dL_law_173 (by decide) (fun c18 => ?_) (fun c18 => ?_)
    · have hf := (if_pos c18).symm.trans hf
      refine z_aload_n (hX k (by omega)) 1 dL_law_219 rfl rfl ?_
      refine z_iconst (v := 0) (hX k (by omega)) dL_law_220 (by decide) ?_
      refine z_iconst (v := 5) (hX k (by omega)) dL_law_221 (by decide) ?_
      refine z_iconst (v := 2) (hX k (by omega)) dL_law_222 (by decide) ?_
      obtain ⟨q19, e20, hf⟩ := zbind hf
      refine z_callV (stk := []) (stk' := []) (hX k (by omega)) (c_X6_bus X.l st 0 5 2 q19 e20) zb_X6_bus 0 dL_law_223 zm_440 (by decide) shC_0 rfl rfl rfl rfl ⟨by decide, by decide⟩ ⟨rfl, rfl⟩ (Nat.le_of_ble_eq_true rfl) rfl ?_
      refine z_bipush (v := 8) (hX k (by omega)) dL_law_226 (by decide) ?_
      refine z_aload_n (hX k (by omega)) 0 dL_law_228 rfl rfl ?_
      refine z_iconst (v := 0) (hX k (by omega)) dL_law_229 (by decide) ?_
      obtain ⟨q21, e22, hf⟩ := zbind hf
      refine z_callCell (stk := [.int 8]) (hX k (by omega)) hs e22 zb_L_cell dL_law_230 zm_595 rfl ⟨by decide, by decide⟩ (Nat.le_of_ble_eq_true rfl) ?_
      refine z_bipush (v := 50) (hX k (by omega)) dL_law_233 (by decide) ?_
      obtain ⟨q23, e24, hf⟩ := zbind hf
      refine z_callS (stk := [.int 8]) (stk' := [.int q23.1, .int 8]) (hX k (by omega)) (c_L_low X.l q21.2 q21.1 50 q23 e24) zb_L_low dL_law_235 zm_591 rfl rfl rfl ⟨by decide, by decide⟩ ⟨rfl, rfl⟩ (Nat.le_of_ble_eq_true rfl) rfl ?_
      refine z_iadd (hX k (by omega)) dL_law_238 ?_
      refine z_istore (hX k (by omega)) [(0, .ref b0), (1, .ref (X.ad 0)), (2, .int v2), (3, .int v3), (4, .int v4), (5, .int (8 + q23.1))] dL_law_239 (by show _ < X.nL; rw [hnl]; decide) [1, 2, 3, 4, 5, 0] rfl ?_
      refine z_iconst (v := 0) (hX k (by omega)) dL_law_241 (by decide) ?_
      refine z_istore (hX k (by omega)) [(0, .ref b0), (1, .ref (X.ad 0)), (2, .int v2), (3, .int v3), (4, .int v4), (5, .int (8 + q23.1)), (6, .int 0)] dL_law_242 (by show _ < X.nL; rw [hnl]; decide) [1, 2, 3, 4, 5, 6, 0] rfl ?_
      exact t_L_law_244 X out hX hZ hfl hs hnl EXIT 64 k q23.2 v2 v3 v4 (8 + q23.1) 0 (by omega) hf
    have hf := (if_neg c18).symm.trans hf
    refine z_iload (hX k (by omega)) 4 dL_law_176 rfl ?_
    refine z_if_eq (hX k (by omega)) 210 dL_law_178 (by decide) (fun c25 => ?_) (fun c25 => ?_)
    · have hf := (if_pos c25).symm.trans hf
      refine z_iconst (v := 0) (hX k (by omega)) dL_law_210 (by decide) ?_
      refine z_istore (hX k (by omega)) [(0, .ref b0), (1, .ref (X.ad 0)), (2, .int v2), (3, .int v3), (4, .int 0), (5, .int v5)] dL_law_211 (by show _ < X.nL; rw [hnl]; decide) [1, 2, 3, 4, 0, 5] rfl ?_
      refine z_iinc (j := 5) (v := 1) (hX k (by omega)) [(0, .ref b0), (1, .ref (X.ad 0)), (2, .int v2), (3, .int v3), (4, .int 0), (5, .int (v5 + 1))] dL_law_213 rfl (by decide) (by show _ < X.nL; rw [hnl]; decide) [1, 2, 3, 4, 5, 0] rfl ?_
      refine z_goto (hX k (by omega)) 170 dL_law_216 (by decide) ?_
      exact ih k st v2 v3 0 (v5 + 1) (by omega) hf
    have hf := (if_neg c25).symm.trans hf
    refine z_aload_n (hX k (by omega)) 1 dL_law_181 rfl rfl ?_
    refine z_iload (hX k (by omega)) 5 dL_law_182 rfl ?_
    refine z_aload_n (hX k (by omega)) 0 dL_law_184 rfl rfl ?_
    refine z_iconst (v := 3) (hX k (by omega)) dL_law_185 (by decide) ?_
    refine z_iload (hX k (by omega)) 5 dL_law_186 rfl ?_
    refine z_iadd (hX k (by omega)) dL_law_188 ?_
    obtain ⟨q26, e27, hf⟩ := zbind hf
    refine z_callCell (stk := [.int v5, .ref (X.ad 0)]) (hX k (by omega)) hs e27 zb_L_cell dL_law_189 zm_595 rfl ⟨by decide, by decide⟩ (Nat.le_of_ble_eq_true rfl) ?_
    refine z_bipush (v := 7) (hX k (by omega)) dL_law_192 (by decide) ?_
    obtain ⟨q28, e29, hf⟩ := zbind hf
    refine z_callS (stk := [.int v5, .ref (X.ad 0)]) (stk' := [.int q28.1, .int v5, .ref (X.ad 0)]) (hX k (by omega)) (c_L_low X.l q26.2 q26.1 7 q28 e29) zb_L_low dL_law_194 zm_591 rfl rfl rfl ⟨by decide, by decide⟩ ⟨rfl, rfl⟩ (Nat.le_of_ble_eq_true rfl) rfl ?_
    refine z_iconst (v := 1) (hX k (by omega)) dL_law_197 (by decide) ?_
    refine z_isub (hX k (by omega)) dL_law_198 ?_
    obtain ⟨q30, e31, hf⟩ := zbind hf
    refine z_callV (stk := []) (stk' := [.int q30.1]) (hX k (by omega)) (c_X6_reside X.l q28.2 v5 (q28.1 - 1) q30 e31) zb_X6_reside 0 dL_law_199 zm_444 (by decide) shC_0 rfl rfl rfl rfl ⟨by decide, by decide⟩ ⟨rfl, rfl⟩ (Nat.le_of_ble_eq_true rfl) rfl ?_
    refine z_iconst (v := (-1)) (hX k (by omega)) dL_law_202 (by decide) ?_
    refine z_icmp_ne (hX k (by omega)) 210 dL_law_203 (by decide) (fun c32 => ?_) (fun c32 => ?_)
    · have hf := (if_neg c32).symm.trans hf
      refine z_iconst (v := 0) (hX k (by omega)) dL_law_210 (by decide) ?_
      refine z_istore (hX k (by omega)) [(0, .ref b0), (1, .ref (X.ad 0)), (2, .int v2), (3, .int v3), (4, .int 0), (5, .int v5)] dL_law_211 (by show _ < X.nL; rw [hnl]; decide) [1, 2, 3, 4, 0, 5] rfl ?_
      refine z_iinc (j := 5) (v := 1) (hX k (by omega)) [(0, .ref b0), (1, .ref (X.ad 0)), (2, .int v2), (3, .int v3), (4, .int 0), (5, .int (v5 + 1))] dL_law_213 rfl (by decide) (by show _ < X.nL; rw [hnl]; decide) [1, 2, 3, 4, 5, 0] rfl ?_
      refine z_goto (hX k (by omega)) 170 dL_law_216 (by decide) ?_
      exact ih k q30.2 v2 v3 0 (v5 + 1) (by omega) hf
    have hf := (if_pos c32).symm.trans hf
    refine z_iconst (v := 1) (hX k (by omega)) dL_law_206 (by decide) ?_
    refine z_goto (hX k (by omega)) 211 dL_law_207 (by decide) ?_
    refine z_istore (hX k (by omega)) [(0, .ref b0), (1, .ref (X.ad 0)), (2, .int v2), (3, .int v3), (4, .int 1), (5, .int v5)] dL_law_211 (by show _ < X.nL; rw [hnl]; decide) [1, 2, 3, 4, 0, 5] rfl ?_
    refine z_iinc (j := 5) (v := 1) (hX k (by omega)) [(0, .ref b0), (1, .ref (X.ad 0)), (2, .int v2), (3, .int v3), (4, .int 1), (5, .int (v5 + 1))] dL_law_213 rfl (by decide) (by show _ < X.nL; rw [hnl]; decide) [1, 2, 3, 4, 5, 0] rfl ?_
    refine z_goto (hX k (by omega)) 170 dL_law_216 (by decide) ?_
    exact ih k q30.2 v2 v3 1 (v5 + 1) (by omega) hf
set_option maxHeartbeats 4000000 in
set_option maxRecDepth 100000 in
theorem t_L_law_109 (X : zCx) (out : Unit × zSt) {B N : Nat} (hX : ∀ j, j ≤ 130 → zOk (zat X (B + j) (N + 6 * j)) RL code room_1) (hZ : zXs X.A X.s X.s.heap) (hfl : X.l.stackTraces = false) {b0 L : Nat} {xs : Nat → Int32} (hs : zScr X b0 L xs) (hnl : X.nL = 14) (EXIT : ∀ (k : Nat) (st : zSt) (lv : List (Nat × Value)), k ≤ 130 → zG 98 shC (zat X (B + k) (N + 6 * k)) st 976 lv [.int 1]) (K18 : zSt → Int32 → Int32 → Int32 → Int32 → Option (Unit × zSt)) (hK18 : ∀ (k : Nat) (st : zSt) (v2 : Int32) (v3 : Int32) (v4 : Int32) (v5 : Int32), k + 128 ≤ 130 → K18 st v2 v3 v4 v5 = some out → zG 98 shC (zat X (B + k) (N + 6 * k)) st 18 [(0, .ref b0), (1, .ref (X.ad 0)), (2, .int v2), (3, .int v3), (4, .int v4), (5, .int v5)] []) (k : Nat) (st : zSt) (v2 : Int32) (v3 : Int32) (v5 : Int32) (v6 : Int32) (hk : k + 128 ≤ 130) (hf : f_L_law_109 L xs K18 st v2 v3 v5 v6 = some out) : zG 98 shC (zat X (B + k) (N + 6 * k)) st 109 [(0, .ref b0), (1, .ref (X.ad 0)), (2, .int v2), (3, .int v3), (5, .int v5), (6, .int v6)] [] := by
  unfold f_L_law_109 at hf
  refine z_iconst (v := 0) (hX k (by omega)) dL_law_109 (by decide) ?_
  refine z_istore (hX k (by omega)) [(0, .ref b0), (1, .ref (X.ad 0)), (2, .int v2), (3, .int v3), (4, .int 0), (5, .int v5), (6, .int v6)] dL_law_110 (by show _ < X.nL; rw [hnl]; decide) [1, 2, 3, 4, 0, 5, 6] rfl ?_
  exact t_L_law_112 X out hX hZ hfl hs hnl EXIT K18 hK18 k st v2 v3 0 v5 v6 (by omega) hf
set_option maxHeartbeats 4000000 in
set_option maxRecDepth 100000 in
theorem t_L_law_18 (X : zCx) (out : Unit × zSt) {B N : Nat} (hX : ∀ j, j ≤ 130 → zOk (zat X (B + j) (N + 6 * j)) RL code room_1) (hZ : zXs X.A X.s X.s.heap) (hfl : X.l.stackTraces = false) {b0 L : Nat} {xs : Nat → Int32} (hs : zScr X b0 L xs) (hnl : X.nL = 14) (EXIT : ∀ (k : Nat) (st : zSt) (lv : List (Nat × Value)), k ≤ 130 → zG 98 shC (zat X (B + k) (N + 6 * k)) st 976 lv [.int 1]) : ∀ (n k : Nat) (st : zSt) (v2 : Int32) (v3 : Int32) (v4 : Int32) (v5 : Int32), k + 128 ≤ 130 → f_L_law_18 L xs n st v2 v3 v4 v5 = some out → zG 98 shC (zat X (B + k) (N + 6 * k)) st 18 [(0, .ref b0), (1, .ref (X.ad 0)), (2, .int v2), (3, .int v3), (4, .int v4), (5, .int v5)] [] := by
  intro n
  induction n with
  | zero => intro k st v2 v3 v4 v5 hk hf; rw [f_L_law_18] at hf; exact (znone hf).elim
  | succ n ih =>
    intro k st v2 v3 v4 v5 hk hf
    rw [f_L_law_18] at hf
    refine z_iload (hX k (by omega)) 5 dL_law_18 rfl ?_
    refine z_iconst (v := 2) (hX k (by omega)) dL_law_20 (by decide) ?_
    refine z_icmp_ge (hX k (by omega)) 167 dL_law_21 (by decide) (fun c1 => ?_) (fun c1 => ?_)
    · have hf := (if_pos c1).symm.trans hf
      refine z_iconst (v := 0) (hX k (by omega)) dL_law_167 (by decide) ?_
      refine z_istore (hX k (by omega)) [(0, .ref b0), (1, .ref (X.ad 0)), (2, .int v2), (3, .int v3), (4, .int v4), (5, .int 0)] dL_law_168 (by show _ < X.nL; rw [hnl]; decide) [1, 2, 3, 4, 5, 0] rfl ?_
      exact t_L_law_170 X out hX hZ hfl hs hnl EXIT 64 k st v2 v3 v4 0 (by omega) hf
    have hf := (if_neg c1).symm.trans hf
    refine z_aload_n (hX k (by omega)) 0 dL_law_24 rfl rfl ?_
    refine z_iconst (v := 1) (hX k (by omega)) dL_law_25 (by decide) ?_
    refine z_iload (hX k (by omega)) 5 dL_law_26 rfl ?_
    refine z_iadd (hX k (by omega)) dL_law_28 ?_
    obtain ⟨q2, e3, hf⟩ := zbind hf
    refine z_callCell (stk := []) (hX k (by omega)) hs e3 zb_L_cell dL_law_29 zm_595 rfl ⟨by decide, by decide⟩ (Nat.le_of_ble_eq_true rfl) ?_
    refine z_istore (hX k (by omega)) [(0, .ref b0), (1, .ref (X.ad 0)), (2, .int v2), (3, .int v3), (4, .int v4), (5, .int v5), (6, .int q2.1)] dL_law_32 (by show _ < X.nL; rw [hnl]; decide) [1, 2, 3, 4, 5, 6, 0] rfl ?_
    refine z_iload (hX k (by omega)) 4 dL_law_34 rfl ?_
    refine z_if_eq (hX k (by omega)) 109 dL_law_36 (by decide) (fun c4 => ?_) (fun c4 => ?_)
    · have hf := (if_pos c4).symm.trans hf
      refine z_locals [0, 1, 2, 3, 5, 6] [(0, .ref b0), (1, .ref (X.ad 0)), (2, .int v2), (3, .int v3), (5, .int v5), (6, .int q2.1)] rfl ?_
      exact t_L_law_109 X out hX hZ hfl hs hnl EXIT (fun st v2 v3 v4 v5 => f_L_law_18 L xs n st v2 v3 v4 v5) (fun k st v2 v3 v4 v5 _ => ih k st v2 v3 v4 v5 (by omega)) k q2.2 v2 v3 v5 q2.1 (by omega) hf
    have hf := (if_neg c4).symm.trans hf
    refine z_aload_n (hX k (by omega)) 1 dL_law_39 rfl rfl ?_
    refine z_iload (hX k (by omega)) 5 dL_law_40 rfl ?_
    refine z_iconst (v := 1) (hX k (by omega)) dL_law_42 (by decide) ?_
    refine z_iload (hX k (by omega)) 6 dL_law_43 rfl ?_
    refine z_iconst (v := 4) (hX k (by omega)) dL_law_45 (by decide) ?_
    obtain ⟨q5, e6, hf⟩ := zbind hf
    refine z_callS (stk := [.int 1, .int v5, .ref (X.ad 0)]) (stk' := [.int q5.1, .int 1, .int v5, .ref (X.ad 0)]) (hX k (by omega)) (c_L_low X.l q2.2 q2.1 4 q5 e6) zb_L_low dL_law_46 zm_591 rfl rfl rfl ⟨by decide, by decide⟩ ⟨rfl, rfl⟩ (Nat.le_of_ble_eq_true rfl) rfl ?_
    refine z_iadd (hX k (by omega)) dL_law_49 ?_
    refine z_bipush (v := 10) (hX k (by omega)) dL_law_50 (by decide) ?_
    refine z_iload (hX k (by omega)) 6 dL_law_52 rfl ?_
    refine z_iconst (v := 3) (hX k (by omega)) dL_law_54 (by decide) ?_
    refine z_ishr (hX k (by omega)) dL_law_55 ?_
    refine z_bipush (v := 40) (hX k (by omega)) dL_law_56 (by decide) ?_
    obtain ⟨q7, e8, hf⟩ := zbind hf
    refine z_callS (stk := [.int 10, .int (1 + q5.1), .int v5, .ref (X.ad 0)]) (stk' := [.int q7.1, .int 10, .int (1 + q5.1), .int v5, .ref (X.ad 0)]) (hX k (by omega)) (c_L_low X.l q5.2 (zshr q2.1 3) 40 q7 e8) zb_L_low dL_law_58 zm_591 rfl rfl rfl ⟨by decide, by decide⟩ ⟨rfl, rfl⟩ (Nat.le_of_ble_eq_true rfl) rfl ?_
    refine z_iadd (hX k (by omega)) dL_law_61 ?_
    refine z_iconst (v := 1) (hX k (by omega)) dL_law_62 (by decide) ?_
    refine z_iload (hX k (by omega)) 6 dL_law_63 rfl ?_
    refine z_iconst (v := 5) (hX k (by omega)) dL_law_65 (by decide) ?_
    refine z_ishr (hX k (by omega)) dL_law_66 ?_
    refine z_sipush (v := 400) (hX k (by omega)) dL_law_67 (by decide) ?_
    obtain ⟨q9, e10, hf⟩ := zbind hf
    refine z_callS (stk := [.int 1, .int (10 + q7.1), .int (1 + q5.1), .int v5, .ref (X.ad 0)]) (stk' := [.int q9.1, .int 1, .int (10 + q7.1), .int (1 + q5.1), .int v5, .ref (X.ad 0)]) (hX k (by omega)) (c_L_low X.l q7.2 (zshr q2.1 5) 400 q9 e10) zb_L_low dL_law_70 zm_591 rfl rfl rfl ⟨by decide, by decide⟩ ⟨rfl, rfl⟩ (Nat.le_of_ble_eq_true rfl) rfl ?_
    refine z_iadd (hX k (by omega)) dL_law_73 ?_
    refine z_iconst (v := 1) (hX k (by omega)) dL_law_74 (by decide) ?_
    refine z_iload (hX k (by omega)) 6 dL_law_75 rfl ?_
    refine z_bipush (v := 7) (hX k (by omega)) dL_law_77 (by decide) ?_
    refine z_ishr (hX k (by omega)) dL_law_79 ?_
    refine z_iconst (v := 5) (hX k (by omega)) dL_law_80 (by decide) ?_
    obtain ⟨q11, e12, hf⟩ := zbind hf
    refine z_callS (stk := [.int 1, .int (1 + q9.1), .int (10 + q7.1), .int (1 + q5.1), .int v5, .ref (X.ad 0)]) (stk' := [.int q11.1, .int 1, .int (1 + q9.1), .int (10 + q7.1), .int (1 + q5.1), .int v5, .ref (X.ad 0)]) (hX k (by omega)) (c_L_low X.l q9.2 (zshr q2.1 7) 5 q11 e12) zb_L_low dL_law_81 zm_591 rfl rfl rfl ⟨by decide, by decide⟩ ⟨rfl, rfl⟩ (Nat.le_of_ble_eq_true rfl) rfl ?_
    refine z_iadd (hX k (by omega)) dL_law_84 ?_
    refine z_iconst (v := 5) (hX k (by omega)) dL_law_85 (by decide) ?_
    refine z_iload (hX k (by omega)) 6 dL_law_86 rfl ?_
    refine z_bipush (v := 9) (hX k (by omega)) dL_law_88 (by decide) ?_
    refine z_ishr (hX k (by omega)) dL_law_90 ?_
    refine z_bipush (v := 20) (hX k (by omega)) dL_law_91 (by decide) ?_
    obtain ⟨q13, e14, hf⟩ := zbind hf
    refine z_callS (stk := [.int 5, .int (1 + q11.1), .int (1 + q9.1), .int (10 + q7.1), .int (1 + q5.1), .int v5, .ref (X.ad 0)]) (stk' := [.int q13.1, .int 5, .int (1 + q11.1), .int (1 + q9.1), .int (10 + q7.1), .int (1 + q5.1), .int v5, .ref (X.ad 0)]) (hX k (by omega)) (c_L_low X.l q11.2 (zshr q2.1 9) 20 q13 e14) zb_L_low dL_law_93 zm_591 rfl rfl rfl ⟨by decide, by decide⟩ ⟨rfl, rfl⟩ (Nat.le_of_ble_eq_true rfl) rfl ?_
    refine z_iadd (hX k (by omega)) dL_law_96 ?_
    obtain ⟨q15, e16, hf⟩ := zbind hf
    refine z_callV (stk := []) (stk' := [.int q15.1]) (hX k (by omega)) (c_X6_ship X.l q13.2 v5 (1 + q5.1) (10 + q7.1) (1 + q9.1) (1 + q11.1) (5 + q13.1) q15 e16) zb_X6_ship 0 dL_law_97 zm_302 (by decide) shC_0 rfl rfl rfl rfl ⟨by decide, by decide⟩ ⟨rfl, rfl⟩ (Nat.le_of_ble_eq_true rfl) rfl ?_
    refine z_iload (hX k (by omega)) 5 dL_law_100 rfl ?_
    refine z_icmp_ne (hX k (by omega)) 109 dL_law_102 (by decide) (fun c17 => ?_) (fun c17 => ?_)
    · have hf := (if_neg c17).symm.trans hf
      refine z_locals [0, 1, 2, 3, 5, 6] [(0, .ref b0), (1, .ref (X.ad 0)), (2, .int v2), (3, .int v3), (5, .int v5), (6, .int q2.1)] rfl ?_
      exact t_L_law_109 X out hX hZ hfl hs hnl EXIT (fun st v2 v3 v4 v5 => f_L_law_18 L xs n st v2 v3 v4 v5) (fun k st v2 v3 v4 v5 _ => ih k st v2 v3 v4 v5 (by omega)) k q15.2 v2 v3 v5 q2.1 (by omega) hf
    have hf := (if_pos c17).symm.trans hf
    refine z_iconst (v := 1) (hX k (by omega)) dL_law_105 (by decide) ?_
    refine z_goto (hX k (by omega)) 110 dL_law_106 (by decide) ?_
    refine z_istore (hX k (by omega)) [(0, .ref b0), (1, .ref (X.ad 0)), (2, .int v2), (3, .int v3), (4, .int 1), (5, .int v5), (6, .int q2.1)] dL_law_110 (by show _ < X.nL; rw [hnl]; decide) [1, 2, 3, 4, 0, 5, 6] rfl ?_
    exact t_L_law_112 X out hX hZ hfl hs hnl EXIT (fun st v2 v3 v4 v5 => f_L_law_18 L xs n st v2 v3 v4 v5) (fun k st v2 v3 v4 v5 _ => ih k st v2 v3 v4 v5 (by omega)) k q15.2 v2 v3 1 v5 q2.1 (by omega) hf
set_option maxHeartbeats 4000000 in
set_option maxRecDepth 100000 in
theorem t_L_law (X : zCx) (out : Unit × zSt) {B N : Nat} (hX : ∀ j, j ≤ 130 → zOk (zat X (B + j) (N + 6 * j)) RL code room_1) (hZ : zXs X.A X.s X.s.heap) (hfl : X.l.stackTraces = false) {b0 L : Nat} {xs : Nat → Int32} (hs : zScr X b0 L xs) (hnl : X.nL = 14) (EXIT : ∀ (k : Nat) (st : zSt) (lv : List (Nat × Value)), k ≤ 130 → zG 98 shC (zat X (B + k) (N + 6 * k)) st 976 lv [.int 1]) (k : Nat) (st : zSt) (hk : k + 128 ≤ 130) (hf : f_L_law L xs st = some out) : zG 98 shC (zat X (B + k) (N + 6 * k)) st 8 [(0, .ref b0), (1, .ref (X.ad 0))] [] := by
  unfold f_L_law at hf
  refine z_iconst (v := 0) (hX k (by omega)) dL_law_8 (by decide) ?_
  refine z_istore_n (hX k (by omega)) [(0, .ref b0), (1, .ref (X.ad 0)), (2, .int 0)] dL_law_9 rfl (by show _ < X.nL; rw [hnl]; decide) [1, 2, 0] rfl ?_
  refine z_iconst (v := 0) (hX k (by omega)) dL_law_10 (by decide) ?_
  refine z_istore_n (hX k (by omega)) [(0, .ref b0), (1, .ref (X.ad 0)), (2, .int 0), (3, .int 0)] dL_law_11 rfl (by show _ < X.nL; rw [hnl]; decide) [1, 2, 3, 0] rfl ?_
  refine z_iconst (v := 1) (hX k (by omega)) dL_law_12 (by decide) ?_
  refine z_istore (hX k (by omega)) [(0, .ref b0), (1, .ref (X.ad 0)), (2, .int 0), (3, .int 0), (4, .int 1)] dL_law_13 (by show _ < X.nL; rw [hnl]; decide) [1, 2, 3, 4, 0] rfl ?_
  refine z_iconst (v := 0) (hX k (by omega)) dL_law_15 (by decide) ?_
  refine z_istore (hX k (by omega)) [(0, .ref b0), (1, .ref (X.ad 0)), (2, .int 0), (3, .int 0), (4, .int 1), (5, .int 0)] dL_law_16 (by show _ < X.nL; rw [hnl]; decide) [1, 2, 3, 4, 5, 0] rfl ?_
  exact t_L_law_18 X out hX hZ hfl hs hnl EXIT 64 k st 0 0 1 0 (by omega) hf
