/-! the two worlds: their cells and kinds; small facts; words of classes and of private methods -/
theorem znone {α : Type} {b : α} (h : (none : Option α) = some b) : False := nomatch h
theorem zifd {α : Type} {c : Prop} [Decidable c] {a : Option α} {b : α} (h : (if c then a else none) = some b) : c ∧ a = some b := by
  by_cases hc : c
  · rw [if_pos hc] at h
    exact ⟨hc, h⟩
  · rw [if_neg hc] at h
    exact (znone h).elim
theorem zbind {α β : Type} {x : Option α} {f : α → Option β} {b : β} (h : x.bind f = some b) : ∃ a, x = some a ∧ f a = some b := by
  cases x with
  | none => exact (znone h).elim
  | some a => exact ⟨a, rfl, h⟩
def zlet {α : Type} (S : zSt) (k : zSt → Option α) : Option α := k S
theorem zlet_ex {α : Type} {S : zSt} {k : zSt → Option α} {b : α} (h : zlet S k = some b) : ∃ s1, s1 = S ∧ k s1 = some b := ⟨S, rfl, h⟩
theorem z_name {n : Nat} {sh : Nat → zShp} {X : zCx} {S s1 : zSt} {pc : Nat} {lv : List (Nat × Value)} {stk : List Value} (h : s1 = S) (kk : zG n sh X s1 pc lv stk) : zG n sh X S pc lv stk := h ▸ kk
abbrev zin (i : Int32) (n : Nat) : Prop := ¬ (i < 0 ∨ n ≤ i.toNatClampNeg)
abbrev zn32 (r : UInt32) : Prop := r &&& 0x7fffffff ≤ 0x7f800000
abbrev zabs (x : Int32) : Int32 := if 0 ≤ x then x else 0 - x
abbrev zmax (x y : Int32) : Int32 := if x < y then y else x
theorem znb {v : Int32} (h : v = 0 ∨ v = 1) : narrow .boolean (.int v) = .int v := by rcases h with rfl | rfl <;> rfl
theorem znf {v : Int32} (h : v = 0 ∨ v = 1) : fits .boolean (.int v) = true := by rcases h with rfl | rfl <;> rfl
abbrev zkShip (c : Nat) : Prop := 14 ≤ c ∧ c < 18
theorem zkShip_at {i : Int32} (h : zin i 4) : zkShip (14 + i.toNatClampNeg) := by
  have h2 : ¬ 4 ≤ i.toNatClampNeg := fun q => h (Or.inr q)
  exact ⟨by omega, by omega⟩
abbrev zkCrew (c : Nat) : Prop := 22 ≤ c ∧ c < 28
theorem zkCrew_at {i : Int32} (h : zin i 6) : zkCrew (22 + i.toNatClampNeg) := by
  have h2 : ¬ 6 ≤ i.toNatClampNeg := fun q => h (Or.inr q)
  exact ⟨by omega, by omega⟩
abbrev zkSailing (c : Nat) : Prop := 34 ≤ c ∧ c < 58
theorem zkSailing_at {i : Int32} (h : zin i 24) : zkSailing (34 + i.toNatClampNeg) := by
  have h2 : ¬ 24 ≤ i.toNatClampNeg := fun q => h (Or.inr q)
  exact ⟨by omega, by omega⟩
abbrev zkBooking (c : Nat) : Prop := 58 ≤ c ∧ c < 98
theorem zkBooking_at {i : Int32} (h : zin i 40) : zkBooking (58 + i.toNatClampNeg) := by
  have h2 : ¬ 40 ≤ i.toNatClampNeg := fun q => h (Or.inr q)
  exact ⟨by omega, by omega⟩
abbrev zkSpan (c : Nat) : Prop := c = 9 ∨ c = 10 ∨ (18 ≤ c ∧ c < 22) ∨ (28 ≤ c ∧ c < 34)
theorem zkSpan_9 : zkSpan 9 := Or.inl rfl
theorem zkSpan_10 : zkSpan 10 := Or.inr (Or.inl rfl)
theorem zsp_out {c : Nat} (h : zkShip c) : zkSpan (c + 4) := Or.inr (Or.inr (Or.inl ⟨by omega, by omega⟩))
theorem zsp_days {c : Nat} (h : zkCrew c) : zkSpan (c + 6) := Or.inr (Or.inr (Or.inr ⟨by omega, by omega⟩))
def shC0 : Nat → zShp
  | 0 => .inl (6, [3, 4, 5, 6, 7, 8, 9, 10, 11, 12, 13, 0, 0, 0, 0, 0])
  | 1 => .inr (3, 4, 16)
  | 2 => .inr (4, 6, 24)
  | 3 => .inr (5, 24, 36)
  | 4 => .inr (6, 40, 60)
  | 5 => .inr (0, 10, 0)
  | 6 => .inr (0, 6, 0)
  | 7 => .inr (0, 6, 0)
  | 8 => .inr (1, 3, 1)
  | 9 => .inl (5, [0, 0])
  | 10 => .inl (5, [0, 0])
  | 11 => .inl (2, [14, 15, 0, 0, 0, 0, 0, 0, 0])
  | 12 => .inr (0, 4, 0)
  | _ => .inr (2, 4, 0)
def shC (c : Nat) : zShp := if c < 14 then shC0 c else if c < 18 then .inl (4, [0, 0, 0, 0, 0, 0, 0, c + 4 + 2]) else if c < 22 then .inl (5, [0, 0]) else if c < 28 then .inl (1, [0, c + 6 + 2]) else if c < 34 then .inl (5, [0, 0]) else if c < 58 then .inl (3, [0, 0, 0, 0, 0, 0, 0, 0, 0, 0, 0]) else if c < 98 then .inl (0, [0, 0, 0, 0, 0, 0, 0, 0, 0, 0, 0, 0]) else .inr (1, 1, 1)
theorem shC_0 : shC 0 = .inl (6, [3, 4, 5, 6, 7, 8, 9, 10, 11, 12, 13, 0, 0, 0, 0, 0]) := rfl
theorem shC_1 : shC 1 = .inr (3, 4, 16) := rfl
theorem shC_2 : shC 2 = .inr (4, 6, 24) := rfl
theorem shC_3 : shC 3 = .inr (5, 24, 36) := rfl
theorem shC_4 : shC 4 = .inr (6, 40, 60) := rfl
theorem shC_5 : shC 5 = .inr (0, 10, 0) := rfl
theorem shC_6 : shC 6 = .inr (0, 6, 0) := rfl
theorem shC_7 : shC 7 = .inr (0, 6, 0) := rfl
theorem shC_8 : shC 8 = .inr (1, 3, 1) := rfl
theorem shC_9 : shC 9 = .inl (5, [0, 0]) := rfl
theorem shC_10 : shC 10 = .inl (5, [0, 0]) := rfl
theorem shC_11 : shC 11 = .inl (2, [14, 15, 0, 0, 0, 0, 0, 0, 0]) := rfl
theorem shC_12 : shC 12 = .inr (0, 4, 0) := rfl
theorem shC_13 : shC 13 = .inr (2, 4, 0) := rfl
theorem zsh_Ship {c : Nat} (h : zkShip c) : shC c = .inl (4, [0, 0, 0, 0, 0, 0, 0, c + 4 + 2]) := by
  unfold shC
  rw [if_neg (show ¬ c < 14 by omega), if_pos h.2]
theorem zlt_Ship {c : Nat} (h : zkShip c) : c < 98 := by omega
theorem zsh_Crew {c : Nat} (h : zkCrew c) : shC c = .inl (1, [0, c + 6 + 2]) := by
  unfold shC
  rw [if_neg (show ¬ c < 14 by omega), if_neg (show ¬ c < 18 by omega), if_neg (show ¬ c < 22 by omega), if_pos h.2]
theorem zlt_Crew {c : Nat} (h : zkCrew c) : c < 98 := by omega
theorem zsh_Sailing {c : Nat} (h : zkSailing c) : shC c = .inl (3, [0, 0, 0, 0, 0, 0, 0, 0, 0, 0, 0]) := by
  unfold shC
  rw [if_neg (show ¬ c < 14 by omega), if_neg (show ¬ c < 18 by omega), if_neg (show ¬ c < 22 by omega), if_neg (show ¬ c < 28 by omega), if_neg (show ¬ c < 34 by omega), if_pos h.2]
theorem zlt_Sailing {c : Nat} (h : zkSailing c) : c < 98 := by omega
theorem zsh_Booking {c : Nat} (h : zkBooking c) : shC c = .inl (0, [0, 0, 0, 0, 0, 0, 0, 0, 0, 0, 0, 0]) := by
  unfold shC
  rw [if_neg (show ¬ c < 14 by omega), if_neg (show ¬ c < 18 by omega), if_neg (show ¬ c < 22 by omega), if_neg (show ¬ c < 28 by omega), if_neg (show ¬ c < 34 by omega), if_neg (show ¬ c < 58 by omega), if_pos h.2]
theorem zlt_Booking {c : Nat} (h : zkBooking c) : c < 98 := by omega
theorem zsh_Span {c : Nat} (h : zkSpan c) : shC c = .inl (5, [0, 0]) := by
  rcases h with rfl | rfl | h | h
  · rfl
  · rfl
  · unfold shC
    rw [if_neg (show ¬ c < 14 by omega), if_neg (show ¬ c < 18 by omega), if_pos h.2]
  · unfold shC
    rw [if_neg (show ¬ c < 14 by omega), if_neg (show ¬ c < 18 by omega), if_neg (show ¬ c < 22 by omega), if_neg (show ¬ c < 28 by omega), if_pos h.2]
theorem zlt_Span {c : Nat} (h : zkSpan c) : c < 98 := by rcases h with rfl | rfl | h | h <;> omega
set_option maxRecDepth 20000 in
theorem zin_X0 : ∀ w ∈ u_ws RX0 TX0 12, w ∈ zWL := List.forall_mem_cons.mpr ⟨zwl_in zm_228 rfl, List.forall_mem_cons.mpr ⟨zwl_in zm_230 rfl, List.forall_mem_cons.mpr ⟨zwl_in zm_232 rfl, List.forall_mem_cons.mpr ⟨zwl_in zm_234 rfl, List.forall_mem_cons.mpr ⟨zwl_in zm_236 rfl, List.forall_mem_cons.mpr ⟨zwl_in zm_238 rfl, List.forall_mem_cons.mpr ⟨zwl_in zm_240 rfl, List.forall_mem_cons.mpr ⟨zwl_in zm_242 rfl, List.forall_mem_cons.mpr ⟨zwl_in zm_244 rfl, List.forall_mem_cons.mpr ⟨zwl_in zm_246 rfl, List.forall_mem_cons.mpr ⟨zwl_in zm_248 rfl, List.forall_mem_cons.mpr ⟨zwl_in zm_250 rfl, fun _ h => absurd h List.not_mem_nil⟩⟩⟩⟩⟩⟩⟩⟩⟩⟩⟩⟩
set_option maxRecDepth 20000 in
theorem zin_X1 : ∀ w ∈ u_ws RX1 TX1 2, w ∈ zWL := List.forall_mem_cons.mpr ⟨zwl_in zm_137 rfl, List.forall_mem_cons.mpr ⟨zwl_in zm_139 rfl, fun _ h => absurd h List.not_mem_nil⟩⟩
set_option maxRecDepth 20000 in
theorem zin_X2 : ∀ w ∈ u_ws RX2 TX2 9, w ∈ zWL := List.forall_mem_cons.mpr ⟨zwl_in zm_63 rfl, List.forall_mem_cons.mpr ⟨zwl_in zm_65 rfl, List.forall_mem_cons.mpr ⟨zwl_in zm_67 rfl, List.forall_mem_cons.mpr ⟨zwl_in zm_69 rfl, List.forall_mem_cons.mpr ⟨zwl_in zm_71 rfl, List.forall_mem_cons.mpr ⟨zwl_in zm_73 rfl, List.forall_mem_cons.mpr ⟨zwl_in zm_75 rfl, List.forall_mem_cons.mpr ⟨zwl_in zm_77 rfl, List.forall_mem_cons.mpr ⟨zwl_in zm_79 rfl, fun _ h => absurd h List.not_mem_nil⟩⟩⟩⟩⟩⟩⟩⟩⟩
set_option maxRecDepth 20000 in
theorem zin_X3 : ∀ w ∈ u_ws RX3 TX3 11, w ∈ zWL := List.forall_mem_cons.mpr ⟨zwl_in zm_169 rfl, List.forall_mem_cons.mpr ⟨zwl_in zm_171 rfl, List.forall_mem_cons.mpr ⟨zwl_in zm_173 rfl, List.forall_mem_cons.mpr ⟨zwl_in zm_175 rfl, List.forall_mem_cons.mpr ⟨zwl_in zm_177 rfl, List.forall_mem_cons.mpr ⟨zwl_in zm_179 rfl, List.forall_mem_cons.mpr ⟨zwl_in zm_181 rfl, List.forall_mem_cons.mpr ⟨zwl_in zm_183 rfl, List.forall_mem_cons.mpr ⟨zwl_in zm_185 rfl, List.forall_mem_cons.mpr ⟨zwl_in zm_187 rfl, List.forall_mem_cons.mpr ⟨zwl_in zm_189 rfl, fun _ h => absurd h List.not_mem_nil⟩⟩⟩⟩⟩⟩⟩⟩⟩⟩⟩
set_option maxRecDepth 20000 in
theorem zin_X4 : ∀ w ∈ u_ws RX4 TX4 8, w ∈ zWL := List.forall_mem_cons.mpr ⟨zwl_in zm_109 rfl, List.forall_mem_cons.mpr ⟨zwl_in zm_111 rfl, List.forall_mem_cons.mpr ⟨zwl_in zm_113 rfl, List.forall_mem_cons.mpr ⟨zwl_in zm_115 rfl, List.forall_mem_cons.mpr ⟨zwl_in zm_117 rfl, List.forall_mem_cons.mpr ⟨zwl_in zm_119 rfl, List.forall_mem_cons.mpr ⟨zwl_in zm_121 rfl, List.forall_mem_cons.mpr ⟨zwl_in zm_123 rfl, fun _ h => absurd h List.not_mem_nil⟩⟩⟩⟩⟩⟩⟩⟩
set_option maxRecDepth 20000 in
theorem zin_X5 : ∀ w ∈ u_ws RX5 TX5 2, w ∈ zWL := List.forall_mem_cons.mpr ⟨zwl_in zm_40 rfl, List.forall_mem_cons.mpr ⟨zwl_in zm_42 rfl, fun _ h => absurd h List.not_mem_nil⟩⟩
set_option maxRecDepth 20000 in
theorem zin_X6 : ∀ w ∈ u_ws RX6 TX6 16, w ∈ zWL := List.forall_mem_cons.mpr ⟨zwl_in zm_269 rfl, List.forall_mem_cons.mpr ⟨zwl_in zm_271 rfl, List.forall_mem_cons.mpr ⟨zwl_in zm_273 rfl, List.forall_mem_cons.mpr ⟨zwl_in zm_275 rfl, List.forall_mem_cons.mpr ⟨zwl_in zm_277 rfl, List.forall_mem_cons.mpr ⟨zwl_in zm_279 rfl, List.forall_mem_cons.mpr ⟨zwl_in zm_281 rfl, List.forall_mem_cons.mpr ⟨zwl_in zm_283 rfl, List.forall_mem_cons.mpr ⟨zwl_in zm_285 rfl, List.forall_mem_cons.mpr ⟨zwl_in zm_287 rfl, List.forall_mem_cons.mpr ⟨zwl_in zm_289 rfl, List.forall_mem_cons.mpr ⟨zwl_in zm_291 rfl, List.forall_mem_cons.mpr ⟨zwl_in zm_293 rfl, List.forall_mem_cons.mpr ⟨zwl_in zm_295 rfl, List.forall_mem_cons.mpr ⟨zwl_in zm_297 rfl, List.forall_mem_cons.mpr ⟨zwl_in zm_299 rfl, fun _ h => absurd h List.not_mem_nil⟩⟩⟩⟩⟩⟩⟩⟩⟩⟩⟩⟩⟩⟩⟩⟩
theorem zsel {q : MethodName × Nat} (h : q ∈ lw_privs) : Cond.selects q.1.cls q.1 q.1 ∈ zWL := List.mem_filter.mpr ⟨List.mem_append_left _ (List.mem_map.mpr ⟨q, h, rfl⟩), rfl⟩
theorem zws_X6_knownShip : Cond.selects yX6_knownShip.cls yX6_knownShip yX6_knownShip ∈ zWL := zsel (q := (yX6_knownShip, 16)) (List.mem_append_left _ (List.mem_of_getElem? (l := lw_privs_1) (i := 1) rfl))
theorem zws_X6_knownCrew : Cond.selects yX6_knownCrew.cls yX6_knownCrew yX6_knownCrew ∈ zWL := zsel (q := (yX6_knownCrew, 16)) (List.mem_append_left _ (List.mem_of_getElem? (l := lw_privs_1) (i := 2) rfl))
theorem zws_X5_tell : Cond.selects yX5_tell.cls yX5_tell yX5_tell ∈ zWL := zsel (q := (yX5_tell, 2)) (List.mem_append_left _ (List.mem_of_getElem? (l := lw_privs_1) (i := 3) rfl))
theorem zws_X6_spanFor : Cond.selects yX6_spanFor.cls yX6_spanFor yX6_spanFor ∈ zWL := zsel (q := (yX6_spanFor, 16)) (List.mem_append_left _ (List.mem_of_getElem? (l := lw_privs_1) (i := 4) rfl))
theorem zws_X6_lookAt : Cond.selects yX6_lookAt.cls yX6_lookAt yX6_lookAt ∈ zWL := zsel (q := (yX6_lookAt, 16)) (List.mem_append_left _ (List.mem_of_getElem? (l := lw_privs_1) (i := 5) rfl))
theorem zws_X6_knownSailing : Cond.selects yX6_knownSailing.cls yX6_knownSailing yX6_knownSailing ∈ zWL := zsel (q := (yX6_knownSailing, 16)) (List.mem_append_left _ (List.mem_of_getElem? (l := lw_privs_1) (i := 6) rfl))
theorem zws_X6_reasonAgainst : Cond.selects yX6_reasonAgainst.cls yX6_reasonAgainst yX6_reasonAgainst ∈ zWL := zsel (q := (yX6_reasonAgainst, 16)) (List.mem_append_left _ (List.mem_of_getElem? (l := lw_privs_1) (i := 7) rfl))
theorem zws_X6_whereWas : Cond.selects yX6_whereWas.cls yX6_whereWas yX6_whereWas ∈ zWL := zsel (q := (yX6_whereWas, 16)) (List.mem_append_left _ (List.mem_of_getElem? (l := lw_privs_1) (i := 8) rfl))
theorem zws_X5_has : Cond.selects yX5_has.cls yX5_has yX5_has ∈ zWL := zsel (q := (yX5_has, 2)) (List.mem_append_left _ (List.mem_of_getElem? (l := lw_privs_1) (i := 9) rfl))
theorem zws_X6_crewFor : Cond.selects yX6_crewFor.cls yX6_crewFor yX6_crewFor ∈ zWL := zsel (q := (yX6_crewFor, 16)) (List.mem_append_left _ (List.mem_of_getElem? (l := lw_privs_1) (i := 10) rfl))
theorem zws_X6_hoursSailed : Cond.selects yX6_hoursSailed.cls yX6_hoursSailed yX6_hoursSailed ∈ zWL := zsel (q := (yX6_hoursSailed, 16)) (List.mem_append_left _ (List.mem_of_getElem? (l := lw_privs_1) (i := 11) rfl))
theorem zws_X4_burns : Cond.selects yX4_burns.cls yX4_burns yX4_burns ∈ zWL := zsel (q := (yX4_burns, 8)) (List.mem_append_left _ (List.mem_of_getElem? (l := lw_privs_1) (i := 12) rfl))
theorem zws_X6_setSail : Cond.selects yX6_setSail.cls yX6_setSail yX6_setSail ∈ zWL := zsel (q := (yX6_setSail, 16)) (List.mem_append_left _ (List.mem_of_getElem? (l := lw_privs_1) (i := 13) rfl))
theorem zws_X2_clear : Cond.selects yX2_clear.cls yX2_clear yX2_clear ∈ zWL := zsel (q := (yX2_clear, 9)) (List.mem_append_left _ (List.mem_of_getElem? (l := lw_privs_1) (i := 14) rfl))
theorem zws_X6_takeThose : Cond.selects yX6_takeThose.cls yX6_takeThose yX6_takeThose ∈ zWL := zsel (q := (yX6_takeThose, 16)) (List.mem_append_left _ (List.mem_of_getElem? (l := lw_privs_1) (i := 15) rfl))
theorem zws_X6_knownBooking : Cond.selects yX6_knownBooking.cls yX6_knownBooking yX6_knownBooking ∈ zWL := zsel (q := (yX6_knownBooking, 16)) (List.mem_append_right _ (List.mem_append_left _ (List.mem_of_getElem? (l := lw_privs_2) (i := 0) rfl)))
theorem zws_X2_take : Cond.selects yX2_take.cls yX2_take yX2_take ∈ zWL := zsel (q := (yX2_take, 9)) (List.mem_append_right _ (List.mem_append_left _ (List.mem_of_getElem? (l := lw_privs_2) (i := 1) rfl)))
theorem zws_X2_bestLane : Cond.selects yX2_bestLane.cls yX2_bestLane yX2_bestLane ∈ zWL := zsel (q := (yX2_bestLane, 9)) (List.mem_append_right _ (List.mem_append_left _ (List.mem_of_getElem? (l := lw_privs_2) (i := 2) rfl)))
theorem zws_X2_leanOf : Cond.selects yX2_leanOf.cls yX2_leanOf yX2_leanOf ∈ zWL := zsel (q := (yX2_leanOf, 9)) (List.mem_append_right _ (List.mem_append_left _ (List.mem_of_getElem? (l := lw_privs_2) (i := 3) rfl)))
theorem zws_X2_isNearDangerous : Cond.selects yX2_isNearDangerous.cls yX2_isNearDangerous yX2_isNearDangerous ∈ zWL := zsel (q := (yX2_isNearDangerous, 9)) (List.mem_append_right _ (List.mem_append_left _ (List.mem_of_getElem? (l := lw_privs_2) (i := 4) rfl)))
theorem zws_X2_put : Cond.selects yX2_put.cls yX2_put yX2_put ∈ zWL := zsel (q := (yX2_put, 9)) (List.mem_append_right _ (List.mem_append_left _ (List.mem_of_getElem? (l := lw_privs_2) (i := 5) rfl)))
theorem zws_X6_evenOut : Cond.selects yX6_evenOut.cls yX6_evenOut yX6_evenOut ∈ zWL := zsel (q := (yX6_evenOut, 16)) (List.mem_append_right _ (List.mem_append_left _ (List.mem_of_getElem? (l := lw_privs_2) (i := 6) rfl)))
theorem zws_X6_putOffLast : Cond.selects yX6_putOffLast.cls yX6_putOffLast yX6_putOffLast ∈ zWL := zsel (q := (yX6_putOffLast, 16)) (List.mem_append_right _ (List.mem_append_left _ (List.mem_of_getElem? (l := lw_privs_2) (i := 7) rfl)))
theorem zws_X2_isOnHeavierSide : Cond.selects yX2_isOnHeavierSide.cls yX2_isOnHeavierSide yX2_isOnHeavierSide ∈ zWL := zsel (q := (yX2_isOnHeavierSide, 9)) (List.mem_append_right _ (List.mem_append_left _ (List.mem_of_getElem? (l := lw_privs_2) (i := 8) rfl)))
theorem zws_X2_putOff : Cond.selects yX2_putOff.cls yX2_putOff yX2_putOff ∈ zWL := zsel (q := (yX2_putOff, 9)) (List.mem_append_right _ (List.mem_append_left _ (List.mem_of_getElem? (l := lw_privs_2) (i := 9) rfl)))
theorem zws_X6_sendOver : Cond.selects yX6_sendOver.cls yX6_sendOver yX6_sendOver ∈ zWL := zsel (q := (yX6_sendOver, 16)) (List.mem_append_right _ (List.mem_append_left _ (List.mem_of_getElem? (l := lw_privs_2) (i := 10) rfl)))
theorem zws_X6_nextLike : Cond.selects yX6_nextLike.cls yX6_nextLike yX6_nextLike ∈ zWL := zsel (q := (yX6_nextLike, 16)) (List.mem_append_right _ (List.mem_append_left _ (List.mem_of_getElem? (l := lw_privs_2) (i := 11) rfl)))
theorem zws_X6_goOver : Cond.selects yX6_goOver.cls yX6_goOver yX6_goOver ∈ zWL := zsel (q := (yX6_goOver, 16)) (List.mem_append_right _ (List.mem_append_left _ (List.mem_of_getElem? (l := lw_privs_2) (i := 12) rfl)))
theorem zws_X6_payBack : Cond.selects yX6_payBack.cls yX6_payBack yX6_payBack ∈ zWL := zsel (q := (yX6_payBack, 16)) (List.mem_append_right _ (List.mem_append_left _ (List.mem_of_getElem? (l := lw_privs_2) (i := 13) rfl)))
theorem zws_X6_callOff : Cond.selects yX6_callOff.cls yX6_callOff yX6_callOff ∈ zWL := zsel (q := (yX6_callOff, 16)) (List.mem_append_right _ (List.mem_append_left _ (List.mem_of_getElem? (l := lw_privs_2) (i := 14) rfl)))
theorem zws_X6_lastSailing : Cond.selects yX6_lastSailing.cls yX6_lastSailing yX6_lastSailing ∈ zWL := zsel (q := (yX6_lastSailing, 16)) (List.mem_append_right _ (List.mem_append_left _ (List.mem_of_getElem? (l := lw_privs_2) (i := 15) rfl)))
theorem zws_X6_addSailing : Cond.selects yX6_addSailing.cls yX6_addSailing yX6_addSailing ∈ zWL := zsel (q := (yX6_addSailing, 16)) (List.mem_append_right _ (List.mem_append_right _ (List.mem_of_getElem? (l := lw_privs_3) (i := 0) rfl)))
theorem zws_X4_hoursFor : Cond.selects yX4_hoursFor.cls yX4_hoursFor yX4_hoursFor ∈ zWL := zsel (q := (yX4_hoursFor, 8)) (List.mem_append_right _ (List.mem_append_right _ (List.mem_of_getElem? (l := lw_privs_3) (i := 1) rfl)))
theorem zws_X6_isFree : Cond.selects yX6_isFree.cls yX6_isFree yX6_isFree ∈ zWL := zsel (q := (yX6_isFree, 16)) (List.mem_append_right _ (List.mem_append_right _ (List.mem_of_getElem? (l := lw_privs_3) (i := 2) rfl)))
theorem zws_X6_payFor : Cond.selects yX6_payFor.cls yX6_payFor yX6_payFor ∈ zWL := zsel (q := (yX6_payFor, 16)) (List.mem_append_right _ (List.mem_append_right _ (List.mem_of_getElem? (l := lw_privs_3) (i := 3) rfl)))
section ZG
variable {X : zCx} {own : String} {cc : ByteArray} {rm : Room} {pc : Nat} {lv : List (Nat × Value)} {stk : List Value} {n : Nat} {sh : Nat → zShp} {st : zSt}
theorem z_getI (hX : zOk X own cc rm) (c j : Nat) {ci : Nat} {L : List Nat} {C : String} {T : u_T} {N index : Nat} (hdg : decode cc pc = .ok (.getfield index, 3)) (hc : c < n) (hs : sh c = .inl (ci, L)) (hL : L[j]? = some (0)) (hcl : vwCl[ci]? = some (C, T, N)) (hin : ∀ w ∈ u_ws C T N, w ∈ zWL) (hj : j < N) (hlk : Cond.fieldLink own index (T j).1 (T j).2.1 (T j).2.2.1 ∈ tables_1) (kk : zG n sh X st (pc + 3) lv (.int (st.1 c j) :: stk)) : zG n sh X st pc lv (.ref (X.ad c) :: stk) := z_get hX c j (0) hdg hc hs hL hcl hin hj hlk rfl kk
theorem z_getL (hX : zOk X own cc rm) (c j : Nat) {ci : Nat} {L : List Nat} {C : String} {T : u_T} {N index : Nat} (hdg : decode cc pc = .ok (.getfield index, 3)) (hc : c < n) (hs : sh c = .inl (ci, L)) (hL : L[j]? = some (1)) (hcl : vwCl[ci]? = some (C, T, N)) (hin : ∀ w ∈ u_ws C T N, w ∈ zWL) (hj : j < N) (hlk : Cond.fieldLink own index (T j).1 (T j).2.1 (T j).2.2.1 ∈ tables_1) (kk : zG n sh X st (pc + 3) lv (.long (st.2 c j) :: stk)) : zG n sh X st pc lv (.ref (X.ad c) :: stk) := z_get hX c j (1) hdg hc hs hL hcl hin hj hlk rfl kk
theorem z_getR (hX : zOk X own cc rm) (c j r : Nat) {ci : Nat} {L : List Nat} {C : String} {T : u_T} {N index : Nat} (hdg : decode cc pc = .ok (.getfield index, 3)) (hc : c < n) (hs : sh c = .inl (ci, L)) (hL : L[j]? = some (r + 2)) (hcl : vwCl[ci]? = some (C, T, N)) (hin : ∀ w ∈ u_ws C T N, w ∈ zWL) (hj : j < N) (hlk : Cond.fieldLink own index (T j).1 (T j).2.1 (T j).2.2.1 ∈ tables_1) (kk : zG n sh X st (pc + 3) lv (.ref (X.ad r) :: stk)) : zG n sh X st pc lv (.ref (X.ad c) :: stk) := z_get hX c j (r + 2) hdg hc hs hL hcl hin hj hlk rfl kk
theorem z_putZ (hX : zOk X own cc rm) (c j : Nat) {ci : Nat} {L : List Nat} {C : String} {T : u_T} {N index : Nat} {ty0 : Nat → FieldType} {v : Int32} (hdg : decode cc pc = .ok (.putfield index, 3)) (hc : c < n) (hs : sh c = .inl (ci, L)) (hL : L[j]? = some 0) (hcl : vwCl[ci]? = some (C, T, N)) (hin : ∀ w ∈ u_ws C T N, w ∈ zWL) (hty : ∀ k, k < N → parseFieldDescriptor (T k).2.2.1 = some (ty0 k)) (hnm : ∀ a, a < N → ∀ b, b < N → a ≠ b → (T a).2.1 ≠ (T b).2.1) (hj : j < N) (hlk : Cond.fieldLink own index (T j).1 (T j).2.1 (T j).2.2.1 ∈ tables_1) (hfin : (T j).2.2.2 = false) (hd : ty0 j = .boolean) (hb : v = 0 ∨ v = 1) (kk : zG n sh X (zwI st c j v) (pc + 3) lv stk) : zG n sh X st pc lv (.int v :: .ref (X.ad c) :: stk) := z_putI0 hX c j hdg hc hs hL hcl hin hty hnm hj hlk hfin hd (znb hb) (znf hb) kk
theorem z_putI (hX : zOk X own cc rm) (c j : Nat) {ci : Nat} {L : List Nat} {C : String} {T : u_T} {N index : Nat} {ty0 : Nat → FieldType} {v : Int32} (hdg : decode cc pc = .ok (.putfield index, 3)) (hc : c < n) (hs : sh c = .inl (ci, L)) (hL : L[j]? = some 0) (hcl : vwCl[ci]? = some (C, T, N)) (hin : ∀ w ∈ u_ws C T N, w ∈ zWL) (hty : ∀ k, k < N → parseFieldDescriptor (T k).2.2.1 = some (ty0 k)) (hnm : ∀ a, a < N → ∀ b, b < N → a ≠ b → (T a).2.1 ≠ (T b).2.1) (hj : j < N) (hlk : Cond.fieldLink own index (T j).1 (T j).2.1 (T j).2.2.1 ∈ tables_1) (hfin : (T j).2.2.2 = false) (hd : ty0 j = .int) (kk : zG n sh X (zwI st c j v) (pc + 3) lv stk) : zG n sh X st pc lv (.int v :: .ref (X.ad c) :: stk) := z_putI0 hX c j hdg hc hs hL hcl hin hty hnm hj hlk hfin hd rfl rfl kk
theorem z_getIN (hX : zOk X own cc rm) (c j : Nat) {ci : Nat} {L : List Nat} {C : String} {T : u_T} {N index : Nat} {host : String} (hdg : decode cc pc = .ok (.getfield index, 3)) (hc : c < n) (hs : sh c = .inl (ci, L)) (hL : L[j]? = some (0)) (hcl : vwCl[ci]? = some (C, T, N)) (hin : ∀ w ∈ u_ws C T N, w ∈ zWL) (hj : j < N) (hlk : Cond.fieldLinkNest own index (T j).1 (T j).2.1 (T j).2.2.1 host ∈ tables_1) (kk : zG n sh X st (pc + 3) lv (.int (st.1 c j) :: stk)) : zG n sh X st pc lv (.ref (X.ad c) :: stk) := z_getN hX c j (0) hdg hc hs hL hcl hin hj hlk rfl kk
theorem z_getLN (hX : zOk X own cc rm) (c j : Nat) {ci : Nat} {L : List Nat} {C : String} {T : u_T} {N index : Nat} {host : String} (hdg : decode cc pc = .ok (.getfield index, 3)) (hc : c < n) (hs : sh c = .inl (ci, L)) (hL : L[j]? = some (1)) (hcl : vwCl[ci]? = some (C, T, N)) (hin : ∀ w ∈ u_ws C T N, w ∈ zWL) (hj : j < N) (hlk : Cond.fieldLinkNest own index (T j).1 (T j).2.1 (T j).2.2.1 host ∈ tables_1) (kk : zG n sh X st (pc + 3) lv (.long (st.2 c j) :: stk)) : zG n sh X st pc lv (.ref (X.ad c) :: stk) := z_getN hX c j (1) hdg hc hs hL hcl hin hj hlk rfl kk
theorem z_getRN (hX : zOk X own cc rm) (c j r : Nat) {ci : Nat} {L : List Nat} {C : String} {T : u_T} {N index : Nat} {host : String} (hdg : decode cc pc = .ok (.getfield index, 3)) (hc : c < n) (hs : sh c = .inl (ci, L)) (hL : L[j]? = some (r + 2)) (hcl : vwCl[ci]? = some (C, T, N)) (hin : ∀ w ∈ u_ws C T N, w ∈ zWL) (hj : j < N) (hlk : Cond.fieldLinkNest own index (T j).1 (T j).2.1 (T j).2.2.1 host ∈ tables_1) (kk : zG n sh X st (pc + 3) lv (.ref (X.ad r) :: stk)) : zG n sh X st pc lv (.ref (X.ad c) :: stk) := z_getN hX c j (r + 2) hdg hc hs hL hcl hin hj hlk rfl kk
theorem z_putZN (hX : zOk X own cc rm) (c j : Nat) {ci : Nat} {L : List Nat} {C : String} {T : u_T} {N index : Nat} {host : String} {ty0 : Nat → FieldType} {v : Int32} (hdg : decode cc pc = .ok (.putfield index, 3)) (hc : c < n) (hs : sh c = .inl (ci, L)) (hL : L[j]? = some 0) (hcl : vwCl[ci]? = some (C, T, N)) (hin : ∀ w ∈ u_ws C T N, w ∈ zWL) (hty : ∀ k, k < N → parseFieldDescriptor (T k).2.2.1 = some (ty0 k)) (hnm : ∀ a, a < N → ∀ b, b < N → a ≠ b → (T a).2.1 ≠ (T b).2.1) (hj : j < N) (hlk : Cond.fieldLinkNest own index (T j).1 (T j).2.1 (T j).2.2.1 host ∈ tables_1) (hfin : (T j).2.2.2 = false) (hd : ty0 j = .boolean) (hb : v = 0 ∨ v = 1) (kk : zG n sh X (zwI st c j v) (pc + 3) lv stk) : zG n sh X st pc lv (.int v :: .ref (X.ad c) :: stk) := z_putI0N hX c j hdg hc hs hL hcl hin hty hnm hj hlk hfin hd (znb hb) (znf hb) kk
theorem z_putIN (hX : zOk X own cc rm) (c j : Nat) {ci : Nat} {L : List Nat} {C : String} {T : u_T} {N index : Nat} {host : String} {ty0 : Nat → FieldType} {v : Int32} (hdg : decode cc pc = .ok (.putfield index, 3)) (hc : c < n) (hs : sh c = .inl (ci, L)) (hL : L[j]? = some 0) (hcl : vwCl[ci]? = some (C, T, N)) (hin : ∀ w ∈ u_ws C T N, w ∈ zWL) (hty : ∀ k, k < N → parseFieldDescriptor (T k).2.2.1 = some (ty0 k)) (hnm : ∀ a, a < N → ∀ b, b < N → a ≠ b → (T a).2.1 ≠ (T b).2.1) (hj : j < N) (hlk : Cond.fieldLinkNest own index (T j).1 (T j).2.1 (T j).2.2.1 host ∈ tables_1) (hfin : (T j).2.2.2 = false) (hd : ty0 j = .int) (kk : zG n sh X (zwI st c j v) (pc + 3) lv stk) : zG n sh X st pc lv (.int v :: .ref (X.ad c) :: stk) := z_putI0N hX c j hdg hc hs hL hcl hin hty hnm hj hlk hfin hd rfl rfl kk
theorem z_swIn {ws : va_W} (hX : zOk X own cc rm) {dflt lo hi : Int} {offs : Array Int} {len : Nat} {x : Int32} {off : Int} (tgt : Nat) (hdg : decode cc pc = .ok (.tableswitch dflt lo hi offs, len)) (h1 : ¬ x.toInt < lo) (h2 : ¬ hi < x.toInt) (ho : offs[(x.toInt - lo).toNat]? = some off) (ht : (pc : Int) + off = (tgt : Int)) (kk : zGw X ws tgt lv stk) : zGw X ws pc lv (.int x :: stk) := fun H locs ls hP hD hS hl => lv_tableIn hX.1.1 hX.1.2 hdg h1 h2 ho ht (kk H locs ls hP hD hS hl)
theorem z_swOut {ws : va_W} (hX : zOk X own cc rm) {dflt lo hi : Int} {offs : Array Int} {len : Nat} {x : Int32} (tgt : Nat) (hdg : decode cc pc = .ok (.tableswitch dflt lo hi offs, len)) (h : x.toInt < lo ∨ hi < x.toInt) (ht : (pc : Int) + dflt = (tgt : Int)) (kk : zGw X ws tgt lv stk) : zGw X ws pc lv (.int x :: stk) := fun H locs ls hP hD hS hl => lv_tableOut hX.1.1 hX.1.2 hdg h ht (kk H locs ls hP hD hS hl)
theorem zsw_3 {x : Int32} (h0 : ¬ x = 0) (h1 : ¬ x = 1) (h2 : ¬ x = 2) : x.toInt < 0 ∨ 2 < x.toInt := by
  have e : ∀ n : Int32, ¬ x = n → x.toInt ≠ n.toInt := fun n h q => h (Int32.toInt_inj.mp q)
  have a0 := e 0 h0
  have a1 := e 1 h1
  have a2 := e 2 h2
  have b0 : (0 : Int32).toInt = 0 := rfl
  have b1 : (1 : Int32).toInt = 1 := rfl
  have b2 : (2 : Int32).toInt = 2 := rfl
  omega
end ZG
