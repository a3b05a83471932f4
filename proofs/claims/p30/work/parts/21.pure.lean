/-! PHASE 2, the pure part: reads and writes, small numbers, the smallest functions -/
theorem zr_e (st : zSt) (c j : Nat) (v : Int32) : (zwI st c j v).1 c j = v := by simp [zwI, zup]
theorem zr_n {st : zSt} {c j c' j' : Nat} {v : Int32} (h : c' ≠ c ∨ j' ≠ j) : (zwI st c j v).1 c' j' = st.1 c' j' := by
  have : ¬ (c' = c ∧ j' = j) := by omega
  simp [zwI, zup, this]
theorem zr_I2 (st : zSt) (c j : Nat) (v : Int32) : (zwI st c j v).2 = st.2 := rfl
theorem zr_L1 (st : zSt) (c j : Nat) (v : Int64) : (zwL st c j v).1 = st.1 := rfl
theorem zrL_e (st : zSt) (c j : Nat) (v : Int64) : (zwL st c j v).2 c j = v := by simp [zwL, zup]
theorem zrL_n {st : zSt} {c j c' j' : Nat} {v : Int64} (h : c' ≠ c ∨ j' ≠ j) : (zwL st c j v).2 c' j' = st.2 c' j' := by
  have : ¬ (c' = c ∧ j' = j) := by omega
  simp [zwL, zup, this]
theorem zbs {α β : Type} (a : α) (f : α → Option β) : (some a).bind f = f a := rfl
theorem zlet_eq {α : Type} (S : zSt) (k : zSt → Option α) : zlet S k = k S := rfl
theorem zorx_s {α : Type} (a : α) (b : Option α) : zorx (some a) b = some a := rfl
theorem zorx_n {α : Type} (b : Option α) : zorx none b = b := rfl
theorem zin_t {i n : Nat} (h : i < n) (hn : n < 10000) : zin (nI i) n := vp_in_nI h (by omega)
theorem zif_in {α : Type} {i n : Nat} {a b : α} (h : i < n) (hn : n < 10000) : (if zin (nI i) n then a else b) = a := if_pos (zin_t h hn)
theorem ztN {i : Nat} (h : i < 1000000) : (nI i).toNatClampNeg = i := nI_clamp (by omega)
theorem zif_le {α : Type} {a b : Nat} {x y : α} (h : a ≤ b) (hb : b < 1000000) : (if nI a ≤ nI b then x else y) = x := if_pos (nI_le h (by omega))
theorem zif_nle {α : Type} {a b : Nat} {x y : α} (h : b < a) (hb : a < 1000000) : (if nI a ≤ nI b then x else y) = y := if_neg (nI_ge h (by omega))
theorem zif_lt {α : Type} {a b : Nat} {x y : α} (h : a < b) (hb : b < 1000000) : (if nI a < nI b then x else y) = x := if_pos (nI_lt h (by omega))
theorem zif_nlt {α : Type} {a b : Nat} {x y : α} (h : b ≤ a) (hb : a < 1000000) : (if nI a < nI b then x else y) = y := if_neg (nI_nlt h (by omega))
theorem zif_eq {α : Type} {a b : Nat} {x y : α} (h : a = b) : (if nI a = nI b then x else y) = x := if_pos (by rw [h])
theorem zif_neq {α : Type} {a b : Nat} {x y : α} (h : a ≠ b) (ha : a < 1000000) (hb : b < 1000000) : (if nI a = nI b then x else y) = y := if_neg (fun q => h ((nI_eq (by omega) (by omega)).mp q))
theorem znI_ne_m1 {a : Nat} (h : a < 1000000) : ¬ nI a = -1 := by
  intro q
  have h1 := congrArg Int32.toInt q
  rw [nI_toInt (by omega)] at h1
  have h2 : (-1 : Int32).toInt = -1 := rfl
  omega
theorem zm1 (n : Nat) : nI (n + 1) - 1 = nI n := nI_pred n
theorem z10 : ¬ (1 : Int32) = 0 := by decide
theorem z20 : ¬ (2 : Int32) = 0 := by decide
theorem z0 : (0 : Int32) = nI 0 := rfl
theorem z1 : (1 : Int32) = nI 1 := rfl
theorem z2 : (2 : Int32) = nI 2 := rfl
theorem z3 : (3 : Int32) = nI 3 := rfl
theorem z4 : (4 : Int32) = nI 4 := rfl
theorem zlt_i (a b : Int32) : a < b ↔ a.toInt < b.toInt := Int32.lt_iff_toInt_lt
theorem zle_i (a b : Int32) : a ≤ b ↔ a.toInt ≤ b.toInt := Int32.le_iff_toInt_le
theorem zti {n : Nat} (h : n < 1000000) : (nI n).toInt = n := nI_toInt (by omega)
theorem zti0 : (0 : Int32).toInt = 0 := rfl
theorem zIx (x : Int32) {n : Nat} (hn : n < 1000000) : (x < 0 ∨ nI n ≤ x) ∨ ∃ j : Nat, j < n ∧ x = nI j := by
  rcases pk_ix x (show n < 2 ^ 31 by omega) with h | h | h
  · exact Or.inl (Or.inl h)
  · exact Or.inl (Or.inr h)
  · exact Or.inr h
/-- what both sides' range test answers -/
def zwi (a lo hi : Int32) : Int32 := if a < lo then 0 else if hi < a then 0 else 1
theorem isWithin_eq (st : zSt) (a lo hi : Int32) : f_X6_isWithin st a lo hi = some (zwi a lo hi, st) := by
  unfold f_X6_isWithin zwi
  by_cases h : a < lo
  · rw [if_pos h, if_pos h]
  · rw [if_neg h, if_neg h]
    by_cases h2 : hi < a
    · rw [if_pos h2, if_pos h2]
    · rw [if_neg h2, if_neg h2]
theorem in_eq (st : zSt) (a lo hi : Int32) : f_X7_in st a lo hi = some (zwi a lo hi, st) := by
  unfold f_X7_in zwi
  by_cases h : a < lo
  · rw [if_pos h, if_pos h]
  · rw [if_neg h, if_neg h]
    by_cases h2 : hi < a
    · rw [if_pos h2, if_pos h2]
    · rw [if_neg h2, if_neg h2]
theorem zwi_01 (a lo hi : Int32) : zwi a lo hi = 0 ∨ zwi a lo hi = 1 := by
  unfold zwi
  by_cases h : a < lo
  · rw [if_pos h]; exact Or.inl rfl
  · rw [if_neg h]
    by_cases h2 : hi < a
    · rw [if_pos h2]; exact Or.inl rfl
    · rw [if_neg h2]; exact Or.inr rfl
theorem zwi_yes {a : Int32} {lo hi : Nat} (hl : lo < 1000000) (hh : hi < 1000000) (h : ¬ zwi a (nI lo) (nI hi) = 0) : ∃ k : Nat, lo ≤ k ∧ k ≤ hi ∧ a = nI k := by
  unfold zwi at h
  by_cases h1 : a < nI lo
  · rw [if_pos h1] at h; exact absurd rfl h
  · rw [if_neg h1] at h
    by_cases h2 : nI hi < a
    · rw [if_pos h2] at h; exact absurd rfl h
    · rw [zlt_i, zti hl] at h1
      rw [zlt_i, zti hh] at h2
      have h0 : ¬ a < 0 := by rw [zlt_i, zti0]; omega
      obtain ⟨j, hj, rfl⟩ := nI_of h0
      rw [nI_toInt hj] at h1 h2
      exact ⟨j, by omega, by omega, rfl⟩
theorem zwi_in {k lo hi : Nat} (h1 : lo ≤ k) (h2 : k ≤ hi) (hh : hi < 1000000) : zwi (nI k) (nI lo) (nI hi) = 1 := by
  unfold zwi
  rw [if_neg (nI_nlt h1 (by omega)), if_neg (nI_nlt h2 (by omega))]
/-- the index test of both sides -/
theorem zidx_no {a : Int32} {n : Nat} (hn : n < 1000000) (h : a < 0 ∨ nI n ≤ a) : zwi a 0 (nI n - 1) = 0 := by
  unfold zwi
  by_cases h1 : a < 0
  · rw [if_pos h1]
  · rw [if_neg h1]
    have h2 : nI n ≤ a := h.resolve_left h1
    obtain ⟨j, hj, rfl⟩ := nI_of h1
    rw [zle_i, zti hn, nI_toInt hj] at h2
    rw [if_pos]
    rw [zlt_i, nI_toInt hj, z1, pk_sub_toInt (by omega) (by omega)]
    omega
theorem zidx_yes {i n : Nat} (h : i < n) (hn : n < 1000000) : zwi (nI i) 0 (nI n - 1) = 1 := by
  obtain ⟨q, rfl⟩ : ∃ q, n = q + 1 := ⟨n - 1, by omega⟩
  rw [zm1, z0]
  exact zwi_in (by omega) (by omega) (by omega)
theorem dI_yes {st : zSt} {i n : Nat} (h : i < n) (hn : n < 1000000) : f_X6_demandIndex st (nI i) (nI n) = some ((), st) := by
  unfold f_X6_demandIndex
  rw [if_neg (by rw [z0]; exact nI_nlt (by omega) (by omega)), if_pos (nI_lt h (by omega))]
theorem dIx_yes {st : zSt} {i n : Nat} (h : i < n) (hn : n < 1000000) : fx_X6_demandIndex st (nI i) (nI n) = none := by
  unfold fx_X6_demandIndex
  rw [if_neg (by rw [z0]; exact nI_nlt (by omega) (by omega)), if_pos (nI_lt h (by omega))]
theorem dIx_no {st : zSt} {a : Int32} {n : Nat} (h : a < 0 ∨ nI n ≤ a) : fx_X6_demandIndex st a (nI n) = some (1, st) := by
  unfold fx_X6_demandIndex
  by_cases h1 : a < 0
  · rw [if_pos h1]
  · rw [if_neg h1, if_neg]
    have h2 : nI n ≤ a := h.resolve_left h1
    rw [zlt_i]
    rw [zle_i] at h2
    omega
theorem dA_yes {st : zSt} {a : Int32} (h : ¬ a = 0) : f_X6_demandArgument st a = some ((), st) := by
  unfold f_X6_demandArgument
  rw [if_neg h]
theorem dAx_yes {st : zSt} {a : Int32} (h : ¬ a = 0) : fx_X6_demandArgument st a = none := by
  unfold fx_X6_demandArgument
  rw [if_neg h]
theorem dAx_no (st : zSt) : fx_X6_demandArgument st 0 = some (2, st) := by
  unfold fx_X6_demandArgument
  rw [if_pos rfl]
theorem dSx_no (st : zSt) : fx_X6_demandState st 0 = some (3, st) := by
  unfold fx_X6_demandState
  rw [if_pos rfl]
theorem kS_yes {st : zSt} {i n : Nat} (hn : st.1 0 11 = nI n) (h : i < n) (hl : n ≤ 4) : f_X6_knownShip st (nI i) = some (14 + i, st) := by
  unfold f_X6_knownShip
  rw [hn, dI_yes h (by omega), zbs, zif_in (by omega) (by omega), ztN (by omega)]
theorem kK_yes {st : zSt} {i n : Nat} (hn : st.1 0 12 = nI n) (h : i < n) (hl : n ≤ 6) : f_X6_knownCrew st (nI i) = some (22 + i, st) := by
  unfold f_X6_knownCrew
  rw [hn, dI_yes h (by omega), zbs, zif_in (by omega) (by omega), ztN (by omega)]
theorem kG_yes {st : zSt} {i n : Nat} (hn : st.1 0 13 = nI n) (h : i < n) (hl : n ≤ 24) : f_X6_knownSailing st (nI i) = some (34 + i, st) := by
  unfold f_X6_knownSailing
  rw [hn, dI_yes h (by omega), zbs, zif_in (by omega) (by omega), ztN (by omega)]
theorem kB_yes {st : zSt} {i n : Nat} (hn : st.1 0 14 = nI n) (h : i < n) (hl : n ≤ 40) : f_X6_knownBooking st (nI i) = some (58 + i, st) := by
  unfold f_X6_knownBooking
  rw [hn, dI_yes h (by omega), zbs, zif_in (by omega) (by omega), ztN (by omega)]
theorem kSx_yes {st : zSt} {i n : Nat} (hn : st.1 0 11 = nI n) (h : i < n) (hl : n ≤ 4) : fx_X6_knownShip st (nI i) = none := by
  unfold fx_X6_knownShip
  rw [hn, dI_yes h (by omega), dIx_yes h (by omega), zorx_n, zbs]
theorem kSx_no {st : zSt} {a : Int32} {n : Nat} (hn : st.1 0 11 = nI n) (h : a < 0 ∨ nI n ≤ a) : fx_X6_knownShip st a = some (1, st) := by
  unfold fx_X6_knownShip
  rw [hn, dIx_no h, zorx_s]
theorem kGx_yes {st : zSt} {i n : Nat} (hn : st.1 0 13 = nI n) (h : i < n) (hl : n ≤ 24) : fx_X6_knownSailing st (nI i) = none := by
  unfold fx_X6_knownSailing
  rw [hn, dI_yes h (by omega), dIx_yes h (by omega), zorx_n, zbs]
theorem kGx_no {st : zSt} {a : Int32} {n : Nat} (hn : st.1 0 13 = nI n) (h : a < 0 ∨ nI n ≤ a) : fx_X6_knownSailing st a = some (1, st) := by
  unfold fx_X6_knownSailing
  rw [hn, dIx_no h, zorx_s]
theorem kBx_yes {st : zSt} {i n : Nat} (hn : st.1 0 14 = nI n) (h : i < n) (hl : n ≤ 40) : fx_X6_knownBooking st (nI i) = none := by
  unfold fx_X6_knownBooking
  rw [hn, dI_yes h (by omega), dIx_yes h (by omega), zorx_n, zbs]
theorem kBx_no {st : zSt} {a : Int32} {n : Nat} (hn : st.1 0 14 = nI n) (h : a < 0 ∨ nI n ≤ a) : fx_X6_knownBooking st a = some (1, st) := by
  unfold fx_X6_knownBooking
  rw [hn, dIx_no h, zorx_s]
/-! the reference's small ones -/
theorem isShip_eq {st : zSt} {a : Int32} {n : Nat} (hn : st.1 0 1 = nI n) : f_X7_isShip st a = some (zwi a 0 (nI n - 1), st) := by
  unfold f_X7_isShip
  rw [hn, in_eq, zbs]
theorem isIsland_eq (st : zSt) (a : Int32) : f_X7_isIsland st a = some (zwi a 0 (nI 6 - 1), st) := by
  unfold f_X7_isIsland
  rw [in_eq, zbs]
  rfl
theorem hasG_yes {st : zSt} {i n : Nat} (hn : st.1 0 19 = nI n) (h : i < n) (hl : n ≤ 24) : f_X7_hasSailing st (nI i) = some (1, zwI st 0 52 0) := by
  unfold f_X7_hasSailing f_X7_hasSailing_23
  rw [hn, in_eq, zbs, zidx_yes h (by omega), if_neg z10, zlet_eq, if_pos (zr_e _ _ _ _)]
theorem hasG_no {st : zSt} {a : Int32} {n : Nat} (hn : st.1 0 19 = nI n) (hl : n ≤ 24) (h : a < 0 ∨ nI n ≤ a) : f_X7_hasSailing st a = some (0, zwI st 0 52 1) := by
  unfold f_X7_hasSailing f_X7_hasSailing_23
  rw [hn, in_eq, zbs, zidx_no (by omega) h, if_pos rfl, zlet_eq, if_neg (by rw [zr_e]; decide)]
theorem hasB_yes {st : zSt} {i n : Nat} (hn : st.1 0 30 = nI n) (h : i < n) (hl : n ≤ 40) : f_X7_hasBooking st (nI i) = some (1, zwI st 0 52 0) := by
  unfold f_X7_hasBooking f_X7_hasBooking_23
  rw [hn, in_eq, zbs, zidx_yes h (by omega), if_neg z10, zlet_eq, if_pos (zr_e _ _ _ _)]
theorem hasB_no {st : zSt} {a : Int32} {n : Nat} (hn : st.1 0 30 = nI n) (hl : n ≤ 40) (h : a < 0 ∨ nI n ≤ a) : f_X7_hasBooking st a = some (0, zwI st 0 52 1) := by
  unfold f_X7_hasBooking f_X7_hasBooking_23
  rw [hn, in_eq, zbs, zidx_no (by omega) h, if_pos rfl, zlet_eq, if_neg (by rw [zr_e]; decide)]
