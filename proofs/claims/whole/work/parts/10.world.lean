/-! the two worlds: their cells and kinds; small facts; words of classes and of private methods -/
theorem znone {α : Type} {b : α} (h : (none : Option α) = some b) : False := nomatch h
theorem zifd {α : Type} {c : Prop} [Decidable c] {a : Option α} {b : α} (h : (if c then a else none) = some b) : c ∧ a = some b := by
  by_cases hc : c
  · rw [if_pos hc] at h
    exact ⟨hc, h⟩
  · rw [if_neg hc] at h
    exact (znone h).elim
theorem zbind {α β : Type} {x : Option α} {f : α → Option β} {b : β} (h : x.bind f = some b) : ∃ a, x = some a ∧ f a = some b := by
  cases x with
  | none => exact (znone h).elim
  | some a => exact ⟨a, rfl, h⟩
def zlet {α : Type} (S : zSt) (k : zSt → Option α) : Option α := k S
theorem zlet_ex {α : Type} {S : zSt} {k : zSt → Option α} {b : α} (h : zlet S k = some b) : ∃ s1, s1 = S ∧ k s1 = some b := ⟨S, rfl, h⟩
theorem z_name {n : Nat} {sh : Nat → zShp} {X : zCx} {S s1 : zSt} {pc : Nat} {lv : List (Nat × Value)} {stk : List Value} (h : s1 = S) (kk : zG n sh X s1 pc lv stk) : zG n sh X S pc lv stk := h ▸ kk
abbrev zin (i : Int32) (n : Nat) : Prop := ¬ (i < 0 ∨ n ≤ i.toNatClampNeg)
abbrev zn32 (r : UInt32) : Prop := r &&& 0x7fffffff ≤ 0x7f800000
abbrev zabs (x : Int32) : Int32 := if 0 ≤ x then x else 0 - x
abbrev zmax (x y : Int32) : Int32 := if x < y then y else x
theorem znb {v : Int32} (h : v = 0 ∨ v = 1) : narrow .boolean (.int v) = .int v := by rcases h with rfl | rfl <;> rfl
theorem znf {v : Int32} (h : v = 0 ∨ v = 1) : fits .boolean (.int v) = true := by rcases h with rfl | rfl <;> rfl
abbrev zkShip (c : Nat) : Prop := 14 ≤ c ∧ c < 18
theorem zkShip_at {i : Int32} (h : zin i 4) : zkShip (14 + i.toNatClampNeg) := by
  have h2 : ¬ 4 ≤ i.toNatClampNeg := fun q => h (Or.inr q)
  exact ⟨by omega, by omega⟩
abbrev zkCrew (c : Nat) : Prop := 22 ≤ c ∧ c < 28
theorem zkCrew_at {i : Int32} (h : zin i 6) : zkCrew (22 + i.toNatClampNeg) := by
  have h2 : ¬ 6 ≤ i.toNatClampNeg := fun q => h (Or.inr q)
  exact ⟨by omega, by omega⟩
abbrev zkSailing (c : Nat) : Prop := 34 ≤ c ∧ c < 58
theorem zkSailing_at {i : Int32} (h : zin i 24) : zkSailing (34 + i.toNatClampNeg) := by
  have h2 : ¬ 24 ≤ i.toNatClampNeg := fun q => h (Or.inr q)
  exact ⟨by omega, by omega⟩
abbrev zkBooking (c : Nat) : Prop := 58 ≤ c ∧ c < 98
theorem zkBooking_at {i : Int32} (h : zin i 40) : zkBooking (58 + i.toNatClampNeg) := by
  have h2 : ¬ 40 ≤ i.toNatClampNeg := fun q => h (Or.inr q)
  exact ⟨by omega, by omega⟩
abbrev zkSpan (c : Nat) : Prop := c = 9 ∨ c = 10 ∨ (18 ≤ c ∧ c < 22) ∨ (28 ≤ c ∧ c < 34)
theorem zkSpan_9 : zkSpan 9 := Or.inl rfl
theorem zkSpan_10 : zkSpan 10 := Or.inr (Or.inl rfl)
theorem zsp_out {c : Nat} (h : zkShip c) : zkSpan (c + 4) := Or.inr (Or.inr (Or.inl ⟨by omega, by omega⟩))
theorem zsp_days {c : Nat} (h : zkCrew c) : zkSpan (c + 6) := Or.inr (Or.inr (Or.inr ⟨by omega, by omega⟩))
def shC0 : Nat → zShp
  | 0 => .inl (6, [3, 4, 5, 6, 7, 8, 9, 10, 11, 12, 13, 0, 0, 0, 0, 0])
  | 1 => .inr (3, 4, 16)
  | 2 => .inr (4, 6, 24)
  | 3 => .inr (5, 24, 36)
  | 4 => .inr (6, 40, 60)
  | 5 => .inr (0, 10, 0)
  | 6 => .inr (0, 6, 0)
  | 7 => .inr (0, 6, 0)
  | 8 => .inr (1, 3, 1)
  | 9 => .inl (5, [0, 0])
  | 10 => .inl (5, [0, 0])
  | 11 => .inl (2, [14, 15, 0, 0, 0, 0, 0, 0, 0])
  | 12 => .inr (0, 4, 0)
  | _ => .inr (2, 4, 0)
def shC (c : Nat) : zShp := if c < 14 then shC0 c else if c < 18 then .inl (4, [0, 0, 0, 0, 0, 0, 0, c + 4 + 2]) else if c < 22 then .inl (5, [0, 0]) else if c < 28 then .inl (1, [0, c + 6 + 2]) else if c < 34 then .inl (5, [0, 0]) else if c < 58 then .inl (3, [0, 0, 0, 0, 0, 0, 0, 0, 0, 0, 0]) else if c < 98 then .inl (0, [0, 0, 0, 0, 0, 0, 0, 0, 0, 0, 0, 0]) else .inr (1, 1, 1)
theorem shC_0 : shC 0 = .inl (6, [3, 4, 5, 6, 7, 8, 9, 10, 11, 12, 13, 0, 0, 0, 0, 0]) := rfl
theorem shC_1 : shC 1 = .inr (3, 4, 16) := rfl
theorem shC_2 : shC 2 = .inr (4, 6, 24) := rfl
theorem shC_3 : shC 3 = .inr (5, 24, 36) := rfl
theorem shC_4 : shC 4 = .inr (6, 40, 60) := rfl
theorem shC_5 : shC 5 = .inr (0, 10, 0) := rfl
theorem shC_6 : shC 6 = .inr (0, 6, 0) := rfl
theorem shC_7 : shC 7 = .inr (0, 6, 0) := rfl
theorem shC_8 : shC 8 = .inr (1, 3, 1) := rfl
theorem shC_9 : shC 9 = .inl (5, [0, 0]) := rfl
theorem shC_10 : shC 10 = .inl (5, [0, 0]) := rfl
theorem shC_11 : shC 11 = .inl (2, [14, 15, 0, 0, 0, 0, 0, 0, 0]) := rfl
theorem shC_12 : shC 12 = .inr (0, 4, 0) := rfl
theorem shC_13 : shC 13 = .inr (2, 4, 0) := rfl
theorem shC_98 : shC 98 = .inr (1, 1, 1) := rfl
theorem zsh_Ship {c : Nat} (h : zkShip c) : shC c = .inl (4, [0, 0, 0, 0, 0, 0, 0, c + 4 + 2]) := by
  unfold shC
  rw [if_neg (show ¬ c < 14 by omega), if_pos h.2]
theorem zlt_Ship {c : Nat} (h : zkShip c) : c < 99 := by omega
theorem zsh_Crew {c : Nat} (h : zkCrew c) : shC c = .inl (1, [0, c + 6 + 2]) := by
  unfold shC
  rw [if_neg (show ¬ c < 14 by omega), if_neg (show ¬ c < 18 by omega), if_neg (show ¬ c < 22 by omega), if_pos h.2]
theorem zlt_Crew {c : Nat} (h : zkCrew c) : c < 99 := by omega
theorem zsh_Sailing {c : Nat} (h : zkSailing c) : shC c = .inl (3, [0, 0, 0, 0, 0, 0, 0, 0, 0, 0, 0]) := by
  unfold shC
  rw [if_neg (show ¬ c < 14 by omega), if_neg (show ¬ c < 18 by omega), if_neg (show ¬ c < 22 by omega), if_neg (show ¬ c < 28 by omega), if_neg (show ¬ c < 34 by omega), if_pos h.2]
theorem zlt_Sailing {c : Nat} (h : zkSailing c) : c < 99 := by omega
theorem zsh_Booking {c : Nat} (h : zkBooking c) : shC c = .inl (0, [0, 0, 0, 0, 0, 0, 0, 0, 0, 0, 0, 0]) := by
  unfold shC
  rw [if_neg (show ¬ c < 14 by omega), if_neg (show ¬ c < 18 by omega), if_neg (show ¬ c < 22 by omega), if_neg (show ¬ c < 28 by omega), if_neg (show ¬ c < 34 by omega), if_neg (show ¬ c < 58 by omega), if_pos h.2]
theorem zlt_Booking {c : Nat} (h : zkBooking c) : c < 99 := by omega
theorem zsh_Span {c : Nat} (h : zkSpan c) : shC c = .inl (5, [0, 0]) := by
  rcases h with rfl | rfl | h | h
  · rfl
  · rfl
  · unfold shC
    rw [if_neg (show ¬ c < 14 by omega), if_neg (show ¬ c < 18 by omega), if_pos h.2]
  · unfold shC
    rw [if_neg (show ¬ c < 14 by omega), if_neg (show ¬ c < 18 by omega), if_neg (show ¬ c < 22 by omega), if_neg (show ¬ c < 28 by omega), if_pos h.2]
theorem zlt_Span {c : Nat} (h : zkSpan c) : c < 99 := by rcases h with rfl | rfl | h | h <;> omega
def shM : Nat → zShp
  | 0 => .inl (7, [0, 0, 3, 4, 5, 6, 7, 8, 9, 0, 10, 11, 12, 13, 14, 15, 16, 17, 18, 0, 19, 20, 21, 22, 23, 24, 25, 26, 27, 28, 0, 29, 30, 31, 32, 33, 34, 35, 36, 37, 38, 39, 40, 41, 42, 43, 0, 0, 0, 1, 1, 1, 0])
  | 1 => .inr (0, 4, 0)
  | 2 => .inr (0, 4, 0)
  | 3 => .inr (0, 4, 0)
  | 4 => .inr (0, 4, 0)
  | 5 => .inr (0, 4, 0)
  | 6 => .inr (0, 4, 0)
  | 7 => .inr (0, 4, 0)
  | 8 => .inr (0, 6, 0)
  | 9 => .inr (0, 6, 0)
  | 10 => .inr (0, 6, 0)
  | 11 => .inr (0, 3006, 0)
  | 12 => .inr (0, 6, 0)
  | 13 => .inr (0, 6, 0)
  | 14 => .inr (0, 6, 0)
  | 15 => .inr (0, 6, 0)
  | 16 => .inr (0, 10, 0)
  | 17 => .inr (0, 24, 0)
  | 18 => .inr (0, 24, 0)
  | 19 => .inr (0, 24, 0)
  | 20 => .inr (0, 24, 0)
  | 21 => .inr (0, 24, 0)
  | 22 => .inr (0, 24, 0)
  | 23 => .inr (0, 24, 0)
  | 24 => .inr (0, 24, 0)
  | 25 => .inr (0, 24, 0)
  | 26 => .inr (0, 24, 0)
  | 27 => .inr (0, 40, 0)
  | 28 => .inr (0, 40, 0)
  | 29 => .inr (0, 40, 0)
  | 30 => .inr (0, 40, 0)
  | 31 => .inr (0, 40, 0)
  | 32 => .inr (0, 40, 0)
  | 33 => .inr (0, 40, 0)
  | 34 => .inr (0, 40, 0)
  | 35 => .inr (0, 40, 0)
  | 36 => .inr (0, 40, 0)
  | 37 => .inr (0, 40, 0)
  | 38 => .inr (0, 40, 0)
  | 39 => .inr (0, 4, 0)
  | 40 => .inr (0, 4, 0)
  | _ => .inr (0, 40, 0)
theorem shM_0 : shM 0 = .inl (7, [0, 0, 3, 4, 5, 6, 7, 8, 9, 0, 10, 11, 12, 13, 14, 15, 16, 17, 18, 0, 19, 20, 21, 22, 23, 24, 25, 26, 27, 28, 0, 29, 30, 31, 32, 33, 34, 35, 36, 37, 38, 39, 40, 41, 42, 43, 0, 0, 0, 1, 1, 1, 0]) := rfl
theorem shM_1 : shM 1 = .inr (0, 4, 0) := rfl
theorem shM_2 : shM 2 = .inr (0, 4, 0) := rfl
theorem shM_3 : shM 3 = .inr (0, 4, 0) := rfl
theorem shM_4 : shM 4 = .inr (0, 4, 0) := rfl
theorem shM_5 : shM 5 = .inr (0, 4, 0) := rfl
theorem shM_6 : shM 6 = .inr (0, 4, 0) := rfl
theorem shM_7 : shM 7 = .inr (0, 4, 0) := rfl
theorem shM_8 : shM 8 = .inr (0, 6, 0) := rfl
theorem shM_9 : shM 9 = .inr (0, 6, 0) := rfl
theorem shM_10 : shM 10 = .inr (0, 6, 0) := rfl
theorem shM_11 : shM 11 = .inr (0, 3006, 0) := rfl
theorem shM_12 : shM 12 = .inr (0, 6, 0) := rfl
theorem shM_13 : shM 13 = .inr (0, 6, 0) := rfl
theorem shM_14 : shM 14 = .inr (0, 6, 0) := rfl
theorem shM_15 : shM 15 = .inr (0, 6, 0) := rfl
theorem shM_16 : shM 16 = .inr (0, 10, 0) := rfl
theorem shM_17 : shM 17 = .inr (0, 24, 0) := rfl
theorem shM_18 : shM 18 = .inr (0, 24, 0) := rfl
theorem shM_19 : shM 19 = .inr (0, 24, 0) := rfl
theorem shM_20 : shM 20 = .inr (0, 24, 0) := rfl
theorem shM_21 : shM 21 = .inr (0, 24, 0) := rfl
theorem shM_22 : shM 22 = .inr (0, 24, 0) := rfl
theorem shM_23 : shM 23 = .inr (0, 24, 0) := rfl
theorem shM_24 : shM 24 = .inr (0, 24, 0) := rfl
theorem shM_25 : shM 25 = .inr (0, 24, 0) := rfl
theorem shM_26 : shM 26 = .inr (0, 24, 0) := rfl
theorem shM_27 : shM 27 = .inr (0, 40, 0) := rfl
theorem shM_28 : shM 28 = .inr (0, 40, 0) := rfl
theorem shM_29 : shM 29 = .inr (0, 40, 0) := rfl
theorem shM_30 : shM 30 = .inr (0, 40, 0) := rfl
theorem shM_31 : shM 31 = .inr (0, 40, 0) := rfl
theorem shM_32 : shM 32 = .inr (0, 40, 0) := rfl
theorem shM_33 : shM 33 = .inr (0, 40, 0) := rfl
theorem shM_34 : shM 34 = .inr (0, 40, 0) := rfl
theorem shM_35 : shM 35 = .inr (0, 40, 0) := rfl
theorem shM_36 : shM 36 = .inr (0, 40, 0) := rfl
theorem shM_37 : shM 37 = .inr (0, 40, 0) := rfl
theorem shM_38 : shM 38 = .inr (0, 40, 0) := rfl
theorem shM_39 : shM 39 = .inr (0, 4, 0) := rfl
theorem shM_40 : shM 40 = .inr (0, 4, 0) := rfl
theorem shM_41 : shM 41 = .inr (0, 40, 0) := rfl
set_option maxRecDepth 20000 in
theorem zin_X0 : ∀ w ∈ u_ws RX0 TX0 12, w ∈ zWL := List.forall_mem_cons.mpr ⟨zwl_in zm_229 rfl, List.forall_mem_cons.mpr ⟨zwl_in zm_231 rfl, List.forall_mem_cons.mpr ⟨zwl_in zm_233 rfl, List.forall_mem_cons.mpr ⟨zwl_in zm_235 rfl, List.forall_mem_cons.mpr ⟨zwl_in zm_237 rfl, List.forall_mem_cons.mpr ⟨zwl_in zm_239 rfl, List.forall_mem_cons.mpr ⟨zwl_in zm_241 rfl, List.forall_mem_cons.mpr ⟨zwl_in zm_243 rfl, List.forall_mem_cons.mpr ⟨zwl_in zm_245 rfl, List.forall_mem_cons.mpr ⟨zwl_in zm_247 rfl, List.forall_mem_cons.mpr ⟨zwl_in zm_249 rfl, List.forall_mem_cons.mpr ⟨zwl_in zm_251 rfl, fun _ h => absurd h List.not_mem_nil⟩⟩⟩⟩⟩⟩⟩⟩⟩⟩⟩⟩
set_option maxRecDepth 20000 in
theorem zin_X1 : ∀ w ∈ u_ws RX1 TX1 2, w ∈ zWL := List.forall_mem_cons.mpr ⟨zwl_in zm_138 rfl, List.forall_mem_cons.mpr ⟨zwl_in zm_140 rfl, fun _ h => absurd h List.not_mem_nil⟩⟩
set_option maxRecDepth 20000 in
theorem zin_X2 : ∀ w ∈ u_ws RX2 TX2 9, w ∈ zWL := List.forall_mem_cons.mpr ⟨zwl_in zm_64 rfl, List.forall_mem_cons.mpr ⟨zwl_in zm_66 rfl, List.forall_mem_cons.mpr ⟨zwl_in zm_68 rfl, List.forall_mem_cons.mpr ⟨zwl_in zm_70 rfl, List.forall_mem_cons.mpr ⟨zwl_in zm_72 rfl, List.forall_mem_cons.mpr ⟨zwl_in zm_74 rfl, List.forall_mem_cons.mpr ⟨zwl_in zm_76 rfl, List.forall_mem_cons.mpr ⟨zwl_in zm_78 rfl, List.forall_mem_cons.mpr ⟨zwl_in zm_80 rfl, fun _ h => absurd h List.not_mem_nil⟩⟩⟩⟩⟩⟩⟩⟩⟩
set_option maxRecDepth 20000 in
theorem zin_X3 : ∀ w ∈ u_ws RX3 TX3 11, w ∈ zWL := List.forall_mem_cons.mpr ⟨zwl_in zm_170 rfl, List.forall_mem_cons.mpr ⟨zwl_in zm_172 rfl, List.forall_mem_cons.mpr ⟨zwl_in zm_174 rfl, List.forall_mem_cons.mpr ⟨zwl_in zm_176 rfl, List.forall_mem_cons.mpr ⟨zwl_in zm_178 rfl, List.forall_mem_cons.mpr ⟨zwl_in zm_180 rfl, List.forall_mem_cons.mpr ⟨zwl_in zm_182 rfl, List.forall_mem_cons.mpr ⟨zwl_in zm_184 rfl, List.forall_mem_cons.mpr ⟨zwl_in zm_186 rfl, List.forall_mem_cons.mpr ⟨zwl_in zm_188 rfl, List.forall_mem_cons.mpr ⟨zwl_in zm_190 rfl, fun _ h => absurd h List.not_mem_nil⟩⟩⟩⟩⟩⟩⟩⟩⟩⟩⟩
set_option maxRecDepth 20000 in
theorem zin_X4 : ∀ w ∈ u_ws RX4 TX4 8, w ∈ zWL := List.forall_mem_cons.mpr ⟨zwl_in zm_110 rfl, List.forall_mem_cons.mpr ⟨zwl_in zm_112 rfl, List.forall_mem_cons.mpr ⟨zwl_in zm_114 rfl, List.forall_mem_cons.mpr ⟨zwl_in zm_116 rfl, List.forall_mem_cons.mpr ⟨zwl_in zm_118 rfl, List.forall_mem_cons.mpr ⟨zwl_in zm_120 rfl, List.forall_mem_cons.mpr ⟨zwl_in zm_122 rfl, List.forall_mem_cons.mpr ⟨zwl_in zm_124 rfl, fun _ h => absurd h List.not_mem_nil⟩⟩⟩⟩⟩⟩⟩⟩
set_option maxRecDepth 20000 in
theorem zin_X5 : ∀ w ∈ u_ws RX5 TX5 2, w ∈ zWL := List.forall_mem_cons.mpr ⟨zwl_in zm_41 rfl, List.forall_mem_cons.mpr ⟨zwl_in zm_43 rfl, fun _ h => absurd h List.not_mem_nil⟩⟩
set_option maxRecDepth 20000 in
theorem zin_X6 : ∀ w ∈ u_ws RX6 TX6 16, w ∈ zWL := List.forall_mem_cons.mpr ⟨zwl_in zm_270 rfl, List.forall_mem_cons.mpr ⟨zwl_in zm_272 rfl, List.forall_mem_cons.mpr ⟨zwl_in zm_274 rfl, List.forall_mem_cons.mpr ⟨zwl_in zm_276 rfl, List.forall_mem_cons.mpr ⟨zwl_in zm_278 rfl, List.forall_mem_cons.mpr ⟨zwl_in zm_280 rfl, List.forall_mem_cons.mpr ⟨zwl_in zm_282 rfl, List.forall_mem_cons.mpr ⟨zwl_in zm_284 rfl, List.forall_mem_cons.mpr ⟨zwl_in zm_286 rfl, List.forall_mem_cons.mpr ⟨zwl_in zm_288 rfl, List.forall_mem_cons.mpr ⟨zwl_in zm_290 rfl, List.forall_mem_cons.mpr ⟨zwl_in zm_292 rfl, List.forall_mem_cons.mpr ⟨zwl_in zm_294 rfl, List.forall_mem_cons.mpr ⟨zwl_in zm_296 rfl, List.forall_mem_cons.mpr ⟨zwl_in zm_298 rfl, List.forall_mem_cons.mpr ⟨zwl_in zm_300 rfl, fun _ h => absurd h List.not_mem_nil⟩⟩⟩⟩⟩⟩⟩⟩⟩⟩⟩⟩⟩⟩⟩⟩
set_option maxRecDepth 20000 in
theorem zin_X7 : ∀ w ∈ u_ws RX7 TX7 53, w ∈ zWL := List.forall_mem_cons.mpr ⟨zwl_in zm_833 rfl, List.forall_mem_cons.mpr ⟨zwl_in zm_835 rfl, List.forall_mem_cons.mpr ⟨zwl_in zm_837 rfl, List.forall_mem_cons.mpr ⟨zwl_in zm_839 rfl, List.forall_mem_cons.mpr ⟨zwl_in zm_841 rfl, List.forall_mem_cons.mpr ⟨zwl_in zm_843 rfl, List.forall_mem_cons.mpr ⟨zwl_in zm_845 rfl, List.forall_mem_cons.mpr ⟨zwl_in zm_847 rfl, List.forall_mem_cons.mpr ⟨zwl_in zm_849 rfl, List.forall_mem_cons.mpr ⟨zwl_in zm_851 rfl, List.forall_mem_cons.mpr ⟨zwl_in zm_853 rfl, List.forall_mem_cons.mpr ⟨zwl_in zm_855 rfl, List.forall_mem_cons.mpr ⟨zwl_in zm_857 rfl, List.forall_mem_cons.mpr ⟨zwl_in zm_859 rfl, List.forall_mem_cons.mpr ⟨zwl_in zm_861 rfl, List.forall_mem_cons.mpr ⟨zwl_in zm_863 rfl, List.forall_mem_cons.mpr ⟨zwl_in zm_865 rfl, List.forall_mem_cons.mpr ⟨zwl_in zm_867 rfl, List.forall_mem_cons.mpr ⟨zwl_in zm_869 rfl, List.forall_mem_cons.mpr ⟨zwl_in zm_871 rfl, List.forall_mem_cons.mpr ⟨zwl_in zm_873 rfl, List.forall_mem_cons.mpr ⟨zwl_in zm_875 rfl, List.forall_mem_cons.mpr ⟨zwl_in zm_877 rfl, List.forall_mem_cons.mpr ⟨zwl_in zm_879 rfl, List.forall_mem_cons.mpr ⟨zwl_in zm_881 rfl, List.forall_mem_cons.mpr ⟨zwl_in zm_883 rfl, List.forall_mem_cons.mpr ⟨zwl_in zm_885 rfl, List.forall_mem_cons.mpr ⟨zwl_in zm_887 rfl, List.forall_mem_cons.mpr ⟨zwl_in zm_889 rfl, List.forall_mem_cons.mpr ⟨zwl_in zm_891 rfl, List.forall_mem_cons.mpr ⟨zwl_in zm_893 rfl, List.forall_mem_cons.mpr ⟨zwl_in zm_895 rfl, List.forall_mem_cons.mpr ⟨zwl_in zm_897 rfl, List.forall_mem_cons.mpr ⟨zwl_in zm_899 rfl, List.forall_mem_cons.mpr ⟨zwl_in zm_901 rfl, List.forall_mem_cons.mpr ⟨zwl_in zm_903 rfl, List.forall_mem_cons.mpr ⟨zwl_in zm_905 rfl, List.forall_mem_cons.mpr ⟨zwl_in zm_907 rfl, List.forall_mem_cons.mpr ⟨zwl_in zm_909 rfl, List.forall_mem_cons.mpr ⟨zwl_in zm_911 rfl, List.forall_mem_cons.mpr ⟨zwl_in zm_913 rfl, List.forall_mem_cons.mpr ⟨zwl_in zm_915 rfl, List.forall_mem_cons.mpr ⟨zwl_in zm_917 rfl, List.forall_mem_cons.mpr ⟨zwl_in zm_919 rfl, List.forall_mem_cons.mpr ⟨zwl_in zm_921 rfl, List.forall_mem_cons.mpr ⟨zwl_in zm_923 rfl, List.forall_mem_cons.mpr ⟨zwl_in zm_925 rfl, List.forall_mem_cons.mpr ⟨zwl_in zm_927 rfl, List.forall_mem_cons.mpr ⟨zwl_in zm_929 rfl, List.forall_mem_cons.mpr ⟨zwl_in zm_931 rfl, List.forall_mem_cons.mpr ⟨zwl_in zm_933 rfl, List.forall_mem_cons.mpr ⟨zwl_in zm_935 rfl, List.forall_mem_cons.mpr ⟨zwl_in zm_937 rfl, fun _ h => absurd h List.not_mem_nil⟩⟩⟩⟩⟩⟩⟩⟩⟩⟩⟩⟩⟩⟩⟩⟩⟩⟩⟩⟩⟩⟩⟩⟩⟩⟩⟩⟩⟩⟩⟩⟩⟩⟩⟩⟩⟩⟩⟩⟩⟩⟩⟩⟩⟩⟩⟩⟩⟩⟩⟩⟩⟩
theorem zsel {q : MethodName × Nat} (h : q ∈ lw_privs) : Cond.selects q.1.cls q.1 q.1 ∈ zWL := List.mem_filter.mpr ⟨List.mem_append_left _ (List.mem_map.mpr ⟨q, h, rfl⟩), rfl⟩
theorem zws_X6_knownShip : Cond.selects yX6_knownShip.cls yX6_knownShip yX6_knownShip ∈ zWL := zsel (q := (yX6_knownShip, 16)) (List.mem_append_left _ (List.mem_of_getElem? (l := lw_privs_1) (i := 1) rfl))
theorem zws_X6_knownCrew : Cond.selects yX6_knownCrew.cls yX6_knownCrew yX6_knownCrew ∈ zWL := zsel (q := (yX6_knownCrew, 16)) (List.mem_append_left _ (List.mem_of_getElem? (l := lw_privs_1) (i := 2) rfl))
theorem zws_X5_tell : Cond.selects yX5_tell.cls yX5_tell yX5_tell ∈ zWL := zsel (q := (yX5_tell, 2)) (List.mem_append_left _ (List.mem_of_getElem? (l := lw_privs_1) (i := 3) rfl))
theorem zws_X6_hoursSailed : Cond.selects yX6_hoursSailed.cls yX6_hoursSailed yX6_hoursSailed ∈ zWL := zsel (q := (yX6_hoursSailed, 16)) (List.mem_append_left _ (List.mem_of_getElem? (l := lw_privs_1) (i := 4) rfl))
theorem zws_X6_knownSailing : Cond.selects yX6_knownSailing.cls yX6_knownSailing yX6_knownSailing ∈ zWL := zsel (q := (yX6_knownSailing, 16)) (List.mem_append_left _ (List.mem_of_getElem? (l := lw_privs_1) (i := 5) rfl))
theorem zws_X6_spanFor : Cond.selects yX6_spanFor.cls yX6_spanFor yX6_spanFor ∈ zWL := zsel (q := (yX6_spanFor, 16)) (List.mem_append_left _ (List.mem_of_getElem? (l := lw_privs_1) (i := 6) rfl))
theorem zws_X6_lastSailing : Cond.selects yX6_lastSailing.cls yX6_lastSailing yX6_lastSailing ∈ zWL := zsel (q := (yX6_lastSailing, 16)) (List.mem_append_left _ (List.mem_of_getElem? (l := lw_privs_1) (i := 7) rfl))
theorem zws_X6_addSailing : Cond.selects yX6_addSailing.cls yX6_addSailing yX6_addSailing ∈ zWL := zsel (q := (yX6_addSailing, 16)) (List.mem_append_left _ (List.mem_of_getElem? (l := lw_privs_1) (i := 8) rfl))
theorem zws_X4_hoursFor : Cond.selects yX4_hoursFor.cls yX4_hoursFor yX4_hoursFor ∈ zWL := zsel (q := (yX4_hoursFor, 8)) (List.mem_append_left _ (List.mem_of_getElem? (l := lw_privs_1) (i := 9) rfl))
theorem zws_X6_callOff : Cond.selects yX6_callOff.cls yX6_callOff yX6_callOff ∈ zWL := zsel (q := (yX6_callOff, 16)) (List.mem_append_left _ (List.mem_of_getElem? (l := lw_privs_1) (i := 10) rfl))
theorem zws_X6_sendOver : Cond.selects yX6_sendOver.cls yX6_sendOver yX6_sendOver ∈ zWL := zsel (q := (yX6_sendOver, 16)) (List.mem_append_left _ (List.mem_of_getElem? (l := lw_privs_1) (i := 11) rfl))
theorem zws_X6_knownBooking : Cond.selects yX6_knownBooking.cls yX6_knownBooking yX6_knownBooking ∈ zWL := zsel (q := (yX6_knownBooking, 16)) (List.mem_append_left _ (List.mem_of_getElem? (l := lw_privs_1) (i := 12) rfl))
theorem zws_X6_nextLike : Cond.selects yX6_nextLike.cls yX6_nextLike yX6_nextLike ∈ zWL := zsel (q := (yX6_nextLike, 16)) (List.mem_append_left _ (List.mem_of_getElem? (l := lw_privs_1) (i := 13) rfl))
theorem zws_X6_goOver : Cond.selects yX6_goOver.cls yX6_goOver yX6_goOver ∈ zWL := zsel (q := (yX6_goOver, 16)) (List.mem_append_left _ (List.mem_of_getElem? (l := lw_privs_1) (i := 14) rfl))
theorem zws_X6_payBack : Cond.selects yX6_payBack.cls yX6_payBack yX6_payBack ∈ zWL := zsel (q := (yX6_payBack, 16)) (List.mem_append_left _ (List.mem_of_getElem? (l := lw_privs_1) (i := 15) rfl))
theorem zws_X6_isFree : Cond.selects yX6_isFree.cls yX6_isFree yX6_isFree ∈ zWL := zsel (q := (yX6_isFree, 16)) (List.mem_append_right _ (List.mem_append_left _ (List.mem_of_getElem? (l := lw_privs_2) (i := 0) rfl)))
theorem zws_X6_whereWas : Cond.selects yX6_whereWas.cls yX6_whereWas yX6_whereWas ∈ zWL := zsel (q := (yX6_whereWas, 16)) (List.mem_append_right _ (List.mem_append_left _ (List.mem_of_getElem? (l := lw_privs_2) (i := 1) rfl)))
theorem zws_X5_has : Cond.selects yX5_has.cls yX5_has yX5_has ∈ zWL := zsel (q := (yX5_has, 2)) (List.mem_append_right _ (List.mem_append_left _ (List.mem_of_getElem? (l := lw_privs_2) (i := 2) rfl)))
theorem zws_X6_lookAt : Cond.selects yX6_lookAt.cls yX6_lookAt yX6_lookAt ∈ zWL := zsel (q := (yX6_lookAt, 16)) (List.mem_append_right _ (List.mem_append_left _ (List.mem_of_getElem? (l := lw_privs_2) (i := 3) rfl)))
theorem zws_X6_reasonAgainst : Cond.selects yX6_reasonAgainst.cls yX6_reasonAgainst yX6_reasonAgainst ∈ zWL := zsel (q := (yX6_reasonAgainst, 16)) (List.mem_append_right _ (List.mem_append_left _ (List.mem_of_getElem? (l := lw_privs_2) (i := 4) rfl)))
theorem zws_X6_crewFor : Cond.selects yX6_crewFor.cls yX6_crewFor yX6_crewFor ∈ zWL := zsel (q := (yX6_crewFor, 16)) (List.mem_append_right _ (List.mem_append_left _ (List.mem_of_getElem? (l := lw_privs_2) (i := 5) rfl)))
theorem zws_X4_burns : Cond.selects yX4_burns.cls yX4_burns yX4_burns ∈ zWL := zsel (q := (yX4_burns, 8)) (List.mem_append_right _ (List.mem_append_left _ (List.mem_of_getElem? (l := lw_privs_2) (i := 6) rfl)))
theorem zws_X6_setSail : Cond.selects yX6_setSail.cls yX6_setSail yX6_setSail ∈ zWL := zsel (q := (yX6_setSail, 16)) (List.mem_append_right _ (List.mem_append_left _ (List.mem_of_getElem? (l := lw_privs_2) (i := 7) rfl)))
theorem zws_X2_clear : Cond.selects yX2_clear.cls yX2_clear yX2_clear ∈ zWL := zsel (q := (yX2_clear, 9)) (List.mem_append_right _ (List.mem_append_left _ (List.mem_of_getElem? (l := lw_privs_2) (i := 8) rfl)))
theorem zws_X6_takeThose : Cond.selects yX6_takeThose.cls yX6_takeThose yX6_takeThose ∈ zWL := zsel (q := (yX6_takeThose, 16)) (List.mem_append_right _ (List.mem_append_left _ (List.mem_of_getElem? (l := lw_privs_2) (i := 9) rfl)))
theorem zws_X2_take : Cond.selects yX2_take.cls yX2_take yX2_take ∈ zWL := zsel (q := (yX2_take, 9)) (List.mem_append_right _ (List.mem_append_left _ (List.mem_of_getElem? (l := lw_privs_2) (i := 10) rfl)))
theorem zws_X2_bestLane : Cond.selects yX2_bestLane.cls yX2_bestLane yX2_bestLane ∈ zWL := zsel (q := (yX2_bestLane, 9)) (List.mem_append_right _ (List.mem_append_left _ (List.mem_of_getElem? (l := lw_privs_2) (i := 11) rfl)))
theorem zws_X2_leanOf : Cond.selects yX2_leanOf.cls yX2_leanOf yX2_leanOf ∈ zWL := zsel (q := (yX2_leanOf, 9)) (List.mem_append_right _ (List.mem_append_left _ (List.mem_of_getElem? (l := lw_privs_2) (i := 12) rfl)))
theorem zws_X2_isNearDangerous : Cond.selects yX2_isNearDangerous.cls yX2_isNearDangerous yX2_isNearDangerous ∈ zWL := zsel (q := (yX2_isNearDangerous, 9)) (List.mem_append_right _ (List.mem_append_left _ (List.mem_of_getElem? (l := lw_privs_2) (i := 13) rfl)))
theorem zws_X2_put : Cond.selects yX2_put.cls yX2_put yX2_put ∈ zWL := zsel (q := (yX2_put, 9)) (List.mem_append_right _ (List.mem_append_left _ (List.mem_of_getElem? (l := lw_privs_2) (i := 14) rfl)))
theorem zws_X6_evenOut : Cond.selects yX6_evenOut.cls yX6_evenOut yX6_evenOut ∈ zWL := zsel (q := (yX6_evenOut, 16)) (List.mem_append_right _ (List.mem_append_left _ (List.mem_of_getElem? (l := lw_privs_2) (i := 15) rfl)))
theorem zws_X6_putOffLast : Cond.selects yX6_putOffLast.cls yX6_putOffLast yX6_putOffLast ∈ zWL := zsel (q := (yX6_putOffLast, 16)) (List.mem_append_right _ (List.mem_append_right _ (List.mem_append_left _ (List.mem_of_getElem? (l := lw_privs_3) (i := 0) rfl))))
theorem zws_X2_isOnHeavierSide : Cond.selects yX2_isOnHeavierSide.cls yX2_isOnHeavierSide yX2_isOnHeavierSide ∈ zWL := zsel (q := (yX2_isOnHeavierSide, 9)) (List.mem_append_right _ (List.mem_append_right _ (List.mem_append_left _ (List.mem_of_getElem? (l := lw_privs_3) (i := 1) rfl))))
theorem zws_X2_putOff : Cond.selects yX2_putOff.cls yX2_putOff yX2_putOff ∈ zWL := zsel (q := (yX2_putOff, 9)) (List.mem_append_right _ (List.mem_append_right _ (List.mem_append_left _ (List.mem_of_getElem? (l := lw_privs_3) (i := 2) rfl))))
theorem zws_X6_payFor : Cond.selects yX6_payFor.cls yX6_payFor yX6_payFor ∈ zWL := zsel (q := (yX6_payFor, 16)) (List.mem_append_right _ (List.mem_append_right _ (List.mem_append_left _ (List.mem_of_getElem? (l := lw_privs_3) (i := 3) rfl))))
theorem zws_X7_isShip : Cond.selects yX7_isShip.cls yX7_isShip yX7_isShip ∈ zWL := zsel (q := (yX7_isShip, 53)) (List.mem_append_right _ (List.mem_append_right _ (List.mem_append_left _ (List.mem_of_getElem? (l := lw_privs_3) (i := 4) rfl))))
theorem zws_X7_lastOf : Cond.selects yX7_lastOf.cls yX7_lastOf yX7_lastOf ∈ zWL := zsel (q := (yX7_lastOf, 53)) (List.mem_append_right _ (List.mem_append_right _ (List.mem_append_left _ (List.mem_of_getElem? (l := lw_privs_3) (i := 5) rfl))))
theorem zws_X7_placeIn : Cond.selects yX7_placeIn.cls yX7_placeIn yX7_placeIn ∈ zWL := zsel (q := (yX7_placeIn, 53)) (List.mem_append_right _ (List.mem_append_right _ (List.mem_append_left _ (List.mem_of_getElem? (l := lw_privs_3) (i := 6) rfl))))
theorem zws_X7_endOf : Cond.selects yX7_endOf.cls yX7_endOf yX7_endOf ∈ zWL := zsel (q := (yX7_endOf, 53)) (List.mem_append_right _ (List.mem_append_right _ (List.mem_append_left _ (List.mem_of_getElem? (l := lw_privs_3) (i := 7) rfl))))
theorem zws_X7_hoursOf : Cond.selects yX7_hoursOf.cls yX7_hoursOf yX7_hoursOf ∈ zWL := zsel (q := (yX7_hoursOf, 53)) (List.mem_append_right _ (List.mem_append_right _ (List.mem_append_left _ (List.mem_of_getElem? (l := lw_privs_3) (i := 8) rfl))))
theorem zws_X7_makes : Cond.selects yX7_makes.cls yX7_makes yX7_makes ∈ zWL := zsel (q := (yX7_makes, 53)) (List.mem_append_right _ (List.mem_append_right _ (List.mem_append_left _ (List.mem_of_getElem? (l := lw_privs_3) (i := 9) rfl))))
theorem zws_X7_hasSailing : Cond.selects yX7_hasSailing.cls yX7_hasSailing yX7_hasSailing ∈ zWL := zsel (q := (yX7_hasSailing, 53)) (List.mem_append_right _ (List.mem_append_right _ (List.mem_append_left _ (List.mem_of_getElem? (l := lw_privs_3) (i := 10) rfl))))
theorem zws_X7_empties : Cond.selects yX7_empties.cls yX7_empties yX7_empties ∈ zWL := zsel (q := (yX7_empties, 53)) (List.mem_append_right _ (List.mem_append_right _ (List.mem_append_left _ (List.mem_of_getElem? (l := lw_privs_3) (i := 11) rfl))))
theorem zws_X7_goesOver : Cond.selects yX7_goesOver.cls yX7_goesOver yX7_goesOver ∈ zWL := zsel (q := (yX7_goesOver, 53)) (List.mem_append_right _ (List.mem_append_right _ (List.mem_append_left _ (List.mem_of_getElem? (l := lw_privs_3) (i := 12) rfl))))
theorem zws_X7_hinders : Cond.selects yX7_hinders.cls yX7_hinders yX7_hinders ∈ zWL := zsel (q := (yX7_hinders, 53)) (List.mem_append_right _ (List.mem_append_right _ (List.mem_append_left _ (List.mem_of_getElem? (l := lw_privs_3) (i := 13) rfl))))
theorem zws_X7_reasonFor : Cond.selects yX7_reasonFor.cls yX7_reasonFor yX7_reasonFor ∈ zWL := zsel (q := (yX7_reasonFor, 53)) (List.mem_append_right _ (List.mem_append_right _ (List.mem_append_left _ (List.mem_of_getElem? (l := lw_privs_3) (i := 14) rfl))))
theorem zws_X7_crewFor : Cond.selects yX7_crewFor.cls yX7_crewFor yX7_crewFor ∈ zWL := zsel (q := (yX7_crewFor, 53)) (List.mem_append_right _ (List.mem_append_right _ (List.mem_append_left _ (List.mem_of_getElem? (l := lw_privs_3) (i := 15) rfl))))
theorem zws_X7_burns : Cond.selects yX7_burns.cls yX7_burns yX7_burns ∈ zWL := zsel (q := (yX7_burns, 53)) (List.mem_append_right _ (List.mem_append_right _ (List.mem_append_right _ (List.mem_of_getElem? (l := lw_privs_4) (i := 0) rfl))))
theorem zws_X7_sails : Cond.selects yX7_sails.cls yX7_sails yX7_sails ∈ zWL := zsel (q := (yX7_sails, 53)) (List.mem_append_right _ (List.mem_append_right _ (List.mem_append_right _ (List.mem_of_getElem? (l := lw_privs_4) (i := 1) rfl))))
theorem zws_X7_takes : Cond.selects yX7_takes.cls yX7_takes yX7_takes ∈ zWL := zsel (q := (yX7_takes, 53)) (List.mem_append_right _ (List.mem_append_right _ (List.mem_append_right _ (List.mem_of_getElem? (l := lw_privs_4) (i := 2) rfl))))
theorem zws_X7_difference : Cond.selects yX7_difference.cls yX7_difference yX7_difference ∈ zWL := zsel (q := (yX7_difference, 53)) (List.mem_append_right _ (List.mem_append_right _ (List.mem_append_right _ (List.mem_of_getElem? (l := lw_privs_4) (i := 3) rfl))))
theorem zws_X7_sideOf : Cond.selects yX7_sideOf.cls yX7_sideOf yX7_sideOf ∈ zWL := zsel (q := (yX7_sideOf, 53)) (List.mem_append_right _ (List.mem_append_right _ (List.mem_append_right _ (List.mem_of_getElem? (l := lw_privs_4) (i := 4) rfl))))
theorem zws_X7_fits : Cond.selects yX7_fits.cls yX7_fits yX7_fits ∈ zWL := zsel (q := (yX7_fits, 53)) (List.mem_append_right _ (List.mem_append_right _ (List.mem_append_right _ (List.mem_of_getElem? (l := lw_privs_4) (i := 5) rfl))))
theorem zws_X7_puts : Cond.selects yX7_puts.cls yX7_puts yX7_puts ∈ zWL := zsel (q := (yX7_puts, 53)) (List.mem_append_right _ (List.mem_append_right _ (List.mem_append_right _ (List.mem_of_getElem? (l := lw_privs_4) (i := 6) rfl))))
theorem zws_X7_putsOff : Cond.selects yX7_putsOff.cls yX7_putsOff yX7_putsOff ∈ zWL := zsel (q := (yX7_putsOff, 53)) (List.mem_append_right _ (List.mem_append_right _ (List.mem_append_right _ (List.mem_of_getElem? (l := lw_privs_4) (i := 7) rfl))))
theorem zws_X7_hasBooking : Cond.selects yX7_hasBooking.cls yX7_hasBooking yX7_hasBooking ∈ zWL := zsel (q := (yX7_hasBooking, 53)) (List.mem_append_right _ (List.mem_append_right _ (List.mem_append_right _ (List.mem_of_getElem? (l := lw_privs_4) (i := 8) rfl))))
section ZG
variable {X : zCx} {own : String} {cc : ByteArray} {rm : Room} {pc : Nat} {lv : List (Nat × Value)} {stk : List Value} {n : Nat} {sh : Nat → zShp} {st : zSt}
theorem z_getI (hX : zOk X own cc rm) (c j : Nat) {ci : Nat} {L : List Nat} {C : String} {T : u_T} {N index : Nat} (hdg : decode cc pc = .ok (.getfield index, 3)) (hc : c < n) (hs : sh c = .inl (ci, L)) (hL : L[j]? = some (0)) (hcl : vwCl[ci]? = some (C, T, N)) (hin : ∀ w ∈ u_ws C T N, w ∈ zWL) (hj : j < N) (hlk : Cond.fieldLink own index (T j).1 (T j).2.1 (T j).2.2.1 ∈ tables_1) (kk : zG n sh X st (pc + 3) lv (.int (st.1 c j) :: stk)) : zG n sh X st pc lv (.ref (X.ad c) :: stk) := z_get hX c j (0) hdg hc hs hL hcl hin hj hlk rfl kk
theorem z_getL (hX : zOk X own cc rm) (c j : Nat) {ci : Nat} {L : List Nat} {C : String} {T : u_T} {N index : Nat} (hdg : decode cc pc = .ok (.getfield index, 3)) (hc : c < n) (hs : sh c = .inl (ci, L)) (hL : L[j]? = some (1)) (hcl : vwCl[ci]? = some (C, T, N)) (hin : ∀ w ∈ u_ws C T N, w ∈ zWL) (hj : j < N) (hlk : Cond.fieldLink own index (T j).1 (T j).2.1 (T j).2.2.1 ∈ tables_1) (kk : zG n sh X st (pc + 3) lv (.long (st.2 c j) :: stk)) : zG n sh X st pc lv (.ref (X.ad c) :: stk) := z_get hX c j (1) hdg hc hs hL hcl hin hj hlk rfl kk
theorem z_getR (hX : zOk X own cc rm) (c j r : Nat) {ci : Nat} {L : List Nat} {C : String} {T : u_T} {N index : Nat} (hdg : decode cc pc = .ok (.getfield index, 3)) (hc : c < n) (hs : sh c = .inl (ci, L)) (hL : L[j]? = some (r + 2)) (hcl : vwCl[ci]? = some (C, T, N)) (hin : ∀ w ∈ u_ws C T N, w ∈ zWL) (hj : j < N) (hlk : Cond.fieldLink own index (T j).1 (T j).2.1 (T j).2.2.1 ∈ tables_1) (kk : zG n sh X st (pc + 3) lv (.ref (X.ad r) :: stk)) : zG n sh X st pc lv (.ref (X.ad c) :: stk) := z_get hX c j (r + 2) hdg hc hs hL hcl hin hj hlk rfl kk
theorem z_putZ (hX : zOk X own cc rm) (c j : Nat) {ci : Nat} {L : List Nat} {C : String} {T : u_T} {N index : Nat} {ty0 : Nat → FieldType} {v : Int32} (hdg : decode cc pc = .ok (.putfield index, 3)) (hc : c < n) (hs : sh c = .inl (ci, L)) (hL : L[j]? = some 0) (hcl : vwCl[ci]? = some (C, T, N)) (hin : ∀ w ∈ u_ws C T N, w ∈ zWL) (hty : ∀ k, k < N → parseFieldDescriptor (T k).2.2.1 = some (ty0 k)) (hnm : ∀ a, a < N → ∀ b, b < N → a ≠ b → (T a).2.1 ≠ (T b).2.1) (hj : j < N) (hlk : Cond.fieldLink own index (T j).1 (T j).2.1 (T j).2.2.1 ∈ tables_1) (hfin : (T j).2.2.2 = false) (hd : ty0 j = .boolean) (hb : v = 0 ∨ v = 1) (kk : zG n sh X (zwI st c j v) (pc + 3) lv stk) : zG n sh X st pc lv (.int v :: .ref (X.ad c) :: stk) := z_putI0 hX c j hdg hc hs hL hcl hin hty hnm hj hlk hfin hd (znb hb) (znf hb) kk
theorem z_putI (hX : zOk X own cc rm) (c j : Nat) {ci : Nat} {L : List Nat} {C : String} {T : u_T} {N index : Nat} {ty0 : Nat → FieldType} {v : Int32} (hdg : decode cc pc = .ok (.putfield index, 3)) (hc : c < n) (hs : sh c = .inl (ci, L)) (hL : L[j]? = some 0) (hcl : vwCl[ci]? = some (C, T, N)) (hin : ∀ w ∈ u_ws C T N, w ∈ zWL) (hty : ∀ k, k < N → parseFieldDescriptor (T k).2.2.1 = some (ty0 k)) (hnm : ∀ a, a < N → ∀ b, b < N → a ≠ b → (T a).2.1 ≠ (T b).2.1) (hj : j < N) (hlk : Cond.fieldLink own index (T j).1 (T j).2.1 (T j).2.2.1 ∈ tables_1) (hfin : (T j).2.2.2 = false) (hd : ty0 j = .int) (kk : zG n sh X (zwI st c j v) (pc + 3) lv stk) : zG n sh X st pc lv (.int v :: .ref (X.ad c) :: stk) := z_putI0 hX c j hdg hc hs hL hcl hin hty hnm hj hlk hfin hd rfl rfl kk
theorem z_getIN (hX : zOk X own cc rm) (c j : Nat) {ci : Nat} {L : List Nat} {C : String} {T : u_T} {N index : Nat} {host : String} (hdg : decode cc pc = .ok (.getfield index, 3)) (hc : c < n) (hs : sh c = .inl (ci, L)) (hL : L[j]? = some (0)) (hcl : vwCl[ci]? = some (C, T, N)) (hin : ∀ w ∈ u_ws C T N, w ∈ zWL) (hj : j < N) (hlk : Cond.fieldLinkNest own index (T j).1 (T j).2.1 (T j).2.2.1 host ∈ tables_1) (kk : zG n sh X st (pc + 3) lv (.int (st.1 c j) :: stk)) : zG n sh X st pc lv (.ref (X.ad c) :: stk) := z_getN hX c j (0) hdg hc hs hL hcl hin hj hlk rfl kk
theorem z_getLN (hX : zOk X own cc rm) (c j : Nat) {ci : Nat} {L : List Nat} {C : String} {T : u_T} {N index : Nat} {host : String} (hdg : decode cc pc = .ok (.getfield index, 3)) (hc : c < n) (hs : sh c = .inl (ci, L)) (hL : L[j]? = some (1)) (hcl : vwCl[ci]? = some (C, T, N)) (hin : ∀ w ∈ u_ws C T N, w ∈ zWL) (hj : j < N) (hlk : Cond.fieldLinkNest own index (T j).1 (T j).2.1 (T j).2.2.1 host ∈ tables_1) (kk : zG n sh X st (pc + 3) lv (.long (st.2 c j) :: stk)) : zG n sh X st pc lv (.ref (X.ad c) :: stk) := z_getN hX c j (1) hdg hc hs hL hcl hin hj hlk rfl kk
theorem z_getRN (hX : zOk X own cc rm) (c j r : Nat) {ci : Nat} {L : List Nat} {C : String} {T : u_T} {N index : Nat} {host : String} (hdg : decode cc pc = .ok (.getfield index, 3)) (hc : c < n) (hs : sh c = .inl (ci, L)) (hL : L[j]? = some (r + 2)) (hcl : vwCl[ci]? = some (C, T, N)) (hin : ∀ w ∈ u_ws C T N, w ∈ zWL) (hj : j < N) (hlk : Cond.fieldLinkNest own index (T j).1 (T j).2.1 (T j).2.2.1 host ∈ tables_1) (kk : zG n sh X st (pc + 3) lv (.ref (X.ad r) :: stk)) : zG n sh X st pc lv (.ref (X.ad c) :: stk) := z_getN hX c j (r + 2) hdg hc hs hL hcl hin hj hlk rfl kk
theorem z_putZN (hX : zOk X own cc rm) (c j : Nat) {ci : Nat} {L : List Nat} {C : String} {T : u_T} {N index : Nat} {host : String} {ty0 : Nat → FieldType} {v : Int32} (hdg : decode cc pc = .ok (.putfield index, 3)) (hc : c < n) (hs : sh c = .inl (ci, L)) (hL : L[j]? = some 0) (hcl : vwCl[ci]? = some (C, T, N)) (hin : ∀ w ∈ u_ws C T N, w ∈ zWL) (hty : ∀ k, k < N → parseFieldDescriptor (T k).2.2.1 = some (ty0 k)) (hnm : ∀ a, a < N → ∀ b, b < N → a ≠ b → (T a).2.1 ≠ (T b).2.1) (hj : j < N) (hlk : Cond.fieldLinkNest own index (T j).1 (T j).2.1 (T j).2.2.1 host ∈ tables_1) (hfin : (T j).2.2.2 = false) (hd : ty0 j = .boolean) (hb : v = 0 ∨ v = 1) (kk : zG n sh X (zwI st c j v) (pc + 3) lv stk) : zG n sh X st pc lv (.int v :: .ref (X.ad c) :: stk) := z_putI0N hX c j hdg hc hs hL hcl hin hty hnm hj hlk hfin hd (znb hb) (znf hb) kk
theorem z_putIN (hX : zOk X own cc rm) (c j : Nat) {ci : Nat} {L : List Nat} {C : String} {T : u_T} {N index : Nat} {host : String} {ty0 : Nat → FieldType} {v : Int32} (hdg : decode cc pc = .ok (.putfield index, 3)) (hc : c < n) (hs : sh c = .inl (ci, L)) (hL : L[j]? = some 0) (hcl : vwCl[ci]? = some (C, T, N)) (hin : ∀ w ∈ u_ws C T N, w ∈ zWL) (hty : ∀ k, k < N → parseFieldDescriptor (T k).2.2.1 = some (ty0 k)) (hnm : ∀ a, a < N → ∀ b, b < N → a ≠ b → (T a).2.1 ≠ (T b).2.1) (hj : j < N) (hlk : Cond.fieldLinkNest own index (T j).1 (T j).2.1 (T j).2.2.1 host ∈ tables_1) (hfin : (T j).2.2.2 = false) (hd : ty0 j = .int) (kk : zG n sh X (zwI st c j v) (pc + 3) lv stk) : zG n sh X st pc lv (.int v :: .ref (X.ad c) :: stk) := z_putI0N hX c j hdg hc hs hL hcl hin hty hnm hj hlk hfin hd rfl rfl kk
theorem z_swIn {ws : va_W} (hX : zOk X own cc rm) {dflt lo hi : Int} {offs : Array Int} {len : Nat} {x : Int32} {off : Int} (tgt : Nat) (hdg : decode cc pc = .ok (.tableswitch dflt lo hi offs, len)) (h1 : ¬ x.toInt < lo) (h2 : ¬ hi < x.toInt) (ho : offs[(x.toInt - lo).toNat]? = some off) (ht : (pc : Int) + off = (tgt : Int)) (kk : zGw X ws tgt lv stk) : zGw X ws pc lv (.int x :: stk) := fun H locs ls hP hD hS hl => lv_tableIn hX.1.1 hX.1.2 hdg h1 h2 ho ht (kk H locs ls hP hD hS hl)
theorem z_swOut {ws : va_W} (hX : zOk X own cc rm) {dflt lo hi : Int} {offs : Array Int} {len : Nat} {x : Int32} (tgt : Nat) (hdg : decode cc pc = .ok (.tableswitch dflt lo hi offs, len)) (h : x.toInt < lo ∨ hi < x.toInt) (ht : (pc : Int) + dflt = (tgt : Int)) (kk : zGw X ws tgt lv stk) : zGw X ws pc lv (.int x :: stk) := fun H locs ls hP hD hS hl => lv_tableOut hX.1.1 hX.1.2 hdg h ht (kk H locs ls hP hD hS hl)
theorem zsw_3 {x : Int32} (h0 : ¬ x = 0) (h1 : ¬ x = 1) (h2 : ¬ x = 2) : x.toInt < 0 ∨ 2 < x.toInt := by
  have e : ∀ n : Int32, ¬ x = n → x.toInt ≠ n.toInt := fun n h q => h (Int32.toInt_inj.mp q)
  have a0 := e 0 h0
  have a1 := e 1 h1
  have a2 := e 2 h2
  have b0 : (0 : Int32).toInt = 0 := rfl
  have b1 : (1 : Int32).toInt = 1 := rfl
  have b2 : (2 : Int32).toInt = 2 := rfl
  omega
end ZG
