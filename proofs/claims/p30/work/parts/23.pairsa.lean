/-! the pairs of methods, one theorem each: both sides answer alike, and the coupling stays (part one) -/
def zPair {α β : Type} (ks : List (Nat × Int32)) (f : Option (α × zSt)) (fx : Option (Nat × zSt)) (fM : Option (β × zSt)) (eq : α → β → Prop) : Prop :=
  (∃ (r : α) (c' : zSt) (b : β) (m' : zSt), f = some (r, c') ∧ fM = some (b, m') ∧ m'.1 0 52 = 0 ∧ eq r b ∧ zR c' m') ∨ (∃ (k : Nat) (v : Int32) (c' : zSt) (b : β) (m' : zSt), (k, v) ∈ ks ∧ fx = some (k, c') ∧ fM = some (b, m') ∧ m'.1 0 52 = v ∧ zR c' m')
theorem zPair_ok {α β : Type} {ks : List (Nat × Int32)} {f : Option (α × zSt)} {fx : Option (Nat × zSt)} {fM : Option (β × zSt)} {eq : α → β → Prop} {r : α} {c' : zSt} {b : β} {m' : zSt} (h1 : f = some (r, c')) (h2 : fM = some (b, m')) (h3 : m'.1 0 52 = 0) (h4 : eq r b) (h5 : zR c' m') : zPair ks f fx fM eq := Or.inl ⟨r, c', b, m', h1, h2, h3, h4, h5⟩
theorem zPair_x {α β : Type} {ks : List (Nat × Int32)} {f : Option (α × zSt)} {fx : Option (Nat × zSt)} {fM : Option (β × zSt)} {eq : α → β → Prop} {k : Nat} {v : Int32} {c' : zSt} {b : β} {m' : zSt} (h0 : (k, v) ∈ ks) (h1 : fx = some (k, c')) (h2 : fM = some (b, m')) (h3 : m'.1 0 52 = v) (h5 : zR c' m') : zPair ks f fx fM eq := Or.inr ⟨k, v, c', b, m', h0, h1, h2, h3, h5⟩
section ZP1
variable {c m : zSt}

theorem P_sailingOf (a : Int32) (hR : zR c m) : zPair [(1, 1)] (f_X6_sailingOf c a) (fx_X6_sailingOf c a) (f_X7_sailingOf m a) (fun r b : Int32 => r = b) := by
  obtain ⟨nS, nK, nG, nB, nw, h5⟩ := id hR
  obtain ⟨hn, hs, hv, hw, hk, hh, hb, hp, hg, hgv, ho, hz, hB, hBv, hZ, ha⟩ := h5
  rcases zIx a (n := nB) (by have := hn.2.2; omega) with h | ⟨i, hi, rfl⟩
  · refine zPair_x (k := 1) (v := 1) (c' := c) (b := 0) (m' := zwI m 0 52 1) (by simp) ?_ ?_ (zr_e _ _ _ _) (zR_th hR 1)
    · unfold fx_X6_sailingOf
      rw [kBx_no hn.1.2.2.2.1 h, zorx_s]
    · unfold f_X7_sailingOf
      rw [hasB_no hn.2.1.2.2.2.1 hn.2.2.2.2.2.1 h, zbs, if_pos rfl]
  · have hBi := hB i hi
    have hl : nB ≤ 40 := hn.2.2.2.2.2.1
    refine zPair_ok (r := c.1 (58 + i) 0) (c' := c) (b := c.1 (58 + i) 0) (m' := zwI m 0 52 0) ?_ ?_ (zr_e _ _ _ _) rfl (zR_th hR 0)
    · unfold f_X6_sailingOf
      rw [kB_yes hn.1.2.2.2.1 hi hl, zbs]
    · unfold f_X7_sailingOf
      rw [hasB_yes hn.2.1.2.2.2.1 hi hl, zbs, if_neg z10, zif_in (by omega) (by omega), ztN (by omega), zr_n (by omega), hBi.1, Int32.add_sub_cancel]
theorem P_lane (a : Int32) (hR : zR c m) : zPair [(1, 1)] (f_X6_lane c a) (fx_X6_lane c a) (f_X7_lane m a) (fun r b : Int32 => r = b) := by
  obtain ⟨nS, nK, nG, nB, nw, h5⟩ := id hR
  obtain ⟨hn, hs, hv, hw, hk, hh, hb, hp, hg, hgv, ho, hz, hB, hBv, hZ, ha⟩ := h5
  rcases zIx a (n := nB) (by have := hn.2.2; omega) with h | ⟨i, hi, rfl⟩
  · refine zPair_x (k := 1) (v := 1) (c' := c) (b := 0) (m' := zwI m 0 52 1) (by simp) ?_ ?_ (zr_e _ _ _ _) (zR_th hR 1)
    · unfold fx_X6_lane
      rw [kBx_no hn.1.2.2.2.1 h, zorx_s]
    · unfold f_X7_lane
      rw [hasB_no hn.2.1.2.2.2.1 hn.2.2.2.2.2.1 h, zbs, if_pos rfl]
  · have hBi := hB i hi
    have hl : nB ≤ 40 := hn.2.2.2.2.2.1
    refine zPair_ok (r := c.1 (58 + i) 4) (c' := c) (b := c.1 (58 + i) 4) (m' := zwI m 0 52 0) ?_ ?_ (zr_e _ _ _ _) rfl (zR_th hR 0)
    · unfold f_X6_lane
      rw [kB_yes hn.1.2.2.2.1 hi hl, zbs]
    · unfold f_X7_lane
      rw [hasB_yes hn.2.1.2.2.2.1 hi hl, zbs, if_neg z10, zif_in (by omega) (by omega), ztN (by omega), zr_n (by omega), hBi.2.2.2.2.2.2.2.2.2.1, Int32.add_sub_cancel]
theorem P_paid (a : Int32) (hR : zR c m) : zPair [(1, 1)] (f_X6_paid c a) (fx_X6_paid c a) (f_X7_paid m a) (fun r b : Int32 => r = b) := by
  obtain ⟨nS, nK, nG, nB, nw, h5⟩ := id hR
  obtain ⟨hn, hs, hv, hw, hk, hh, hb, hp, hg, hgv, ho, hz, hB, hBv, hZ, ha⟩ := h5
  rcases zIx a (n := nB) (by have := hn.2.2; omega) with h | ⟨i, hi, rfl⟩
  · refine zPair_x (k := 1) (v := 1) (c' := c) (b := 0) (m' := zwI m 0 52 1) (by simp) ?_ ?_ (zr_e _ _ _ _) (zR_th hR 1)
    · unfold fx_X6_paid
      rw [kBx_no hn.1.2.2.2.1 h, zorx_s]
    · unfold f_X7_paid
      rw [hasB_no hn.2.1.2.2.2.1 hn.2.2.2.2.2.1 h, zbs, if_pos rfl]
  · have hBi := hB i hi
    have hl : nB ≤ 40 := hn.2.2.2.2.2.1
    refine zPair_ok (r := c.1 (58 + i) 7) (c' := c) (b := c.1 (58 + i) 7) (m' := zwI m 0 52 0) ?_ ?_ (zr_e _ _ _ _) rfl (zR_th hR 0)
    · unfold f_X6_paid
      rw [kB_yes hn.1.2.2.2.1 hi hl, zbs]
    · unfold f_X7_paid
      rw [hasB_yes hn.2.1.2.2.2.1 hi hl, zbs, if_neg z10, zif_in (by omega) (by omega), ztN (by omega), zr_n (by omega), hBi.2.2.2.2.2.2.1]
theorem P_now (hR : zR c m) : ∃ (q qM : Int32 × zSt), f_X6_now c = some q ∧ f_X7_now m = some qM ∧ q.1 = qM.1 ∧ zR q.2 qM.2 := by
  obtain ⟨nS, nK, nG, nB, nw, h5⟩ := id hR
  obtain ⟨hn, hs, hv, hw, hk, hh, hb, hp, hg, hgv, ho, hz, hB, hBv, hZ, ha⟩ := h5
  refine ⟨(c.1 0 15, c), ((zwI m 0 52 0).1 0 0, zwI m 0 52 0), rfl, rfl, ?_, zR_th hR 0⟩
  show c.1 0 15 = (zwI m 0 52 0).1 0 0
  rw [zr_n (by omega), hn.1.2.2.2.2, hn.2.1.2.2.2.2]
theorem P_state (a : Int32) (hR : zR c m) : zPair [(1, 1)] (f_X6_state c a) (fx_X6_state c a) (f_X7_state m a) (fun r b : Int32 => r = b) := by
  obtain ⟨nS, nK, nG, nB, nw, h5⟩ := id hR
  obtain ⟨hn, hs, hv, hw, hk, hh, hb, hp, hg, hgv, ho, hz, hB, hBv, hZ, ha⟩ := h5
  rcases zIx a (n := nG) (by have := hn.2.2; omega) with h | ⟨i, hi, rfl⟩
  · refine zPair_x (k := 1) (v := 1) (c' := c) (b := 0) (m' := zwI m 0 52 1) (by simp) ?_ ?_ (zr_e _ _ _ _) (zR_th hR 1)
    · unfold fx_X6_state
      rw [kGx_no hn.1.2.2.1 h, zorx_s]
    · unfold f_X7_state
      rw [hasG_no hn.2.1.2.2.1 hn.2.2.2.2.1 h, zbs, if_pos rfl]
  · have hgi := hg i hi
    have hl : nG ≤ 24 := hn.2.2.2.2.1
    refine zPair_ok (r := c.1 (34 + i) 6 + 10 * c.1 (34 + i) 7) (c' := c) (b := c.1 (34 + i) 6 + 10 * c.1 (34 + i) 7) (m' := zwI m 0 52 0) ?_ ?_ (zr_e _ _ _ _) rfl (zR_th hR 0)
    · unfold f_X6_state
      rw [kG_yes hn.1.2.2.1 hi hl, zbs]
    · unfold f_X7_state
      rw [hasG_yes hn.2.1.2.2.1 hi hl]
      simp (disch := omega) only [zbs, zlet_eq, zr_e, zr_n, zr_I2, zr_L1, zrL_e, zrL_n, zif_in, ztN, z10, z20, eq_self, not_false_eq_true, ↓reduceIte, hgi.2.2.2.2.2.1]
      by_cases h1 : c.1 (34 + i) 6 = 1
      · rw [if_pos h1, hgi.2.2.2.2.2.2.2.1 h1, h1]
      · rw [if_neg h1, hgi.2.2.2.2.2.2.2.2.1 h1, Int32.mul_zero, Int32.add_zero]
theorem P_list (a : Int32) (hR : zR c m) : zPair [(1, 1), (4, 2)] (f_X6_list c a) (fx_X6_list c a) (f_X7_list m a) (fun r b : Int32 => r = b) := by
  obtain ⟨nS, nK, nG, nB, nw, h5⟩ := id hR
  obtain ⟨hn, hs, hv, hw, hk, hh, hb, hp, hg, hgv, ho, hz, hB, hBv, hZ, ha⟩ := h5
  rcases zIx a (n := nG) (by have := hn.2.2; omega) with h | ⟨i, hi, rfl⟩
  · refine zPair_x (k := 1) (v := 1) (c' := c) (b := 0) (m' := zwI m 0 52 1) (by simp) ?_ ?_ (zr_e _ _ _ _) (zR_th hR 1)
    · unfold fx_X6_list
      rw [kGx_no hn.1.2.2.1 h, zorx_s]
    · unfold f_X7_list
      rw [hasG_no hn.2.1.2.2.1 hn.2.2.2.2.1 h, zbs, if_pos rfl]
  · have hgi := hg i hi
    have hl : nG ≤ 24 := hn.2.2.2.2.1
    by_cases h2 : c.1 (34 + i) 6 = 2
    · refine zPair_ok (r := c.1 (34 + i) 9) (c' := c) (b := c.1 (34 + i) 9) (m' := zwI (zwI m 0 52 0) 0 52 0) ?_ ?_ (zr_e _ _ _ _) rfl (zR_th (zR_th hR 0) 0)
      · unfold f_X6_list
        rw [kG_yes hn.1.2.2.1 hi hl, zbs, if_pos h2]
      · unfold f_X7_list f_X7_list_29
        rw [hasG_yes hn.2.1.2.2.1 hi hl]
        simp (disch := omega) only [zbs, zlet_eq, zr_e, zr_n, zr_I2, zr_L1, zrL_e, zrL_n, zif_in, ztN, z10, z20, eq_self, not_false_eq_true, ↓reduceIte, hgi.2.2.2.2.2.1, h2, hgi.2.2.2.2.2.2.2.2.2.1 h2]
    · refine zPair_x (k := 4) (v := 2) (c' := c) (b := 0) (m' := zwI (zwI m 0 52 0) 0 52 2) (by simp) ?_ ?_ (zr_e _ _ _ _) (zR_th (zR_th hR 0) 2)
      · unfold fx_X6_list
        rw [kGx_yes hn.1.2.2.1 hi hl, zorx_n, kG_yes hn.1.2.2.1 hi hl, zbs, if_neg h2]
      · unfold f_X7_list f_X7_list_29
        rw [hasG_yes hn.2.1.2.2.1 hi hl]
        simp (disch := omega) only [zbs, zlet_eq, zr_e, zr_n, zr_I2, zr_L1, zrL_e, zrL_n, zif_in, ztN, z10, z20, eq_self, not_false_eq_true, ↓reduceIte, hgi.2.2.2.2.2.1, h2] 
theorem zceil_eq {d sp : Nat} (hd : d ≤ 400) (h1 : 1 ≤ sp) (h2 : sp ≤ 40) : (nI d + nI sp - 1) / nI sp = nI ((d + sp - 1) / sp) := by
  rw [nI_add, z1, pk_sub (by omega), pk_div (by omega) (by omega) (by omega)]
/-- what is known of a sailing -/
theorem zG_of {nS nK nG nB nw : Nat} (h : zR5 nS nK nG nB nw c m) {i : Nat} (hi : i < nG) : ∃ s f t hh d e z sp : Nat, (s < nS ∧ f < 6 ∧ t < 6 ∧ hh ≤ 10000 ∧ 1 ≤ d ∧ d ≤ 400 ∧ z ≤ 2 ∧ 1 ≤ sp ∧ sp ≤ 40 ∧ e = hh + (d + sp - 1) / sp ∧ (z = 0 → nw ≤ hh)) ∧ c.1 (34 + i) 0 = nI s ∧ c.1 (34 + i) 1 = nI f ∧ c.1 (34 + i) 2 = nI t ∧ c.1 (34 + i) 3 = nI hh ∧ c.1 (34 + i) 4 = nI e ∧ c.1 (34 + i) 5 = nI d ∧ c.1 (34 + i) 6 = nI z ∧ c.1 (14 + s) 5 = nI sp ∧ (c.1 (34 + i) 8 = -1 ∨ ∃ j : Nat, j < nK ∧ c.1 (34 + i) 8 = nI j) := h.2.2.2.2.2.2.2.2.2.1 i hi
theorem hoursOf_eq {nS nK nG nB nw : Nat} (h : zR5 nS nK nG nB nw c m) {i : Nat} (hi : i < nG) {m2 : zSt} (hm : m2.1 17 i = m.1 17 i ∧ m2.1 21 i = m.1 21 i ∧ ∀ k, m2.1 6 k = m.1 6 k) : ∃ q : Nat, q ≤ 400 ∧ 1 ≤ q ∧ f_X7_hoursOf m2 (nI i) = some (nI q, m2) ∧ c.1 (34 + i) 4 = c.1 (34 + i) 3 + nI q ∧ c.1 (34 + i) 4 - c.1 (34 + i) 3 = nI q := by
  obtain ⟨s, f, t, hh, d, e, z, sp, ⟨b1, b2, b3, b4, b5, b6, b7, b8, b9, b10, b11⟩, e0, e1, e2, e3, e4, e5, e6, e7, e8⟩ := zG_of h hi
  have hl : nG ≤ 24 := h.1.2.2.2.2.1
  have hS : nS ≤ 4 := h.1.2.2.1
  have hgi := h.2.2.2.2.2.2.2.2.1 i hi
  have hsp := (h.2.1 s (by omega)).1.2.2.2.2.2.1
  have hq1 : 1 ≤ (d + sp - 1) / sp := (Nat.le_div_iff_mul_le (by omega)).mpr (by omega)
  have hq2 : (d + sp - 1) / sp ≤ 400 := by
    have : (d + sp - 1) / sp < 401 := (Nat.div_lt_iff_lt_mul (by omega)).mpr (by
      have : 401 * 1 ≤ 401 * sp := Nat.mul_le_mul (Nat.le_refl _) b8
      have h2 : 401 * sp = 400 * sp + sp := by omega
      have : 400 * 1 ≤ 400 * sp := Nat.mul_le_mul (Nat.le_refl _) b8
      omega)
    omega
  refine ⟨(d + sp - 1) / sp, hq2, hq1, ?_, ?_, ?_⟩
  · unfold f_X7_hoursOf
    have hne : ¬ nI sp = 0 := nI_ne0 (by omega) (by omega)
    simp (disch := omega) only [zbs, zlet_eq, zr_e, zr_n, zr_I2, zr_L1, zrL_e, zrL_n, zif_in, ztN, z10, z20, eq_self, not_false_eq_true, ↓reduceIte, hm.1, hm.2.1, hgi.1, hgi.2.2.2.2.1, e0, e5, hm.2.2, hsp, e7, hne, zceil_eq b6 b8 b9]
  · rw [e4, e3, b10, nI_add]
  · rw [e4, e3, b10, pk_sub (by omega)]
    congr 1
    omega
theorem endOf_eq {nS nK nG nB nw : Nat} (h : zR5 nS nK nG nB nw c m) {i : Nat} (hi : i < nG) {m2 : zSt} (hm : (m2.1 17 i = m.1 17 i ∧ m2.1 21 i = m.1 21 i ∧ ∀ k, m2.1 6 k = m.1 6 k) ∧ m2.1 20 i = m.1 20 i) : f_X7_endOf m2 (nI i) = some (c.1 (34 + i) 4, m2) := by
  obtain ⟨q, _, _, h1, h2, _⟩ := hoursOf_eq h hi hm.1
  have hl : nG ≤ 24 := h.1.2.2.2.2.1
  unfold f_X7_endOf
  rw [zif_in (by omega) (by omega), h1, zbs, ztN (by omega), hm.2, (h.2.2.2.2.2.2.2.2.1 i hi).2.2.2.1, h2]
theorem P_ends (a : Int32) (hR : zR c m) : zPair [(1, 1)] (f_X6_ends c a) (fx_X6_ends c a) (f_X7_ends m a) (fun r b : Int32 => r = b) := by
  obtain ⟨nS, nK, nG, nB, nw, h5⟩ := id hR
  obtain ⟨hn, hs, hv, hw, hk, hh, hb, hp, hg, hgv, ho, hz, hB, hBv, hZ, ha⟩ := id h5
  rcases zIx a (n := nG) (by have := hn.2.2; omega) with h | ⟨i, hi, rfl⟩
  · refine zPair_x (k := 1) (v := 1) (c' := c) (b := 0) (m' := zwI m 0 52 1) (by simp) ?_ ?_ (zr_e _ _ _ _) (zR_th hR 1)
    · unfold fx_X6_ends
      rw [kGx_no hn.1.2.2.1 h, zorx_s]
    · unfold f_X7_ends
      rw [hasG_no hn.2.1.2.2.1 hn.2.2.2.2.1 h, zbs, if_pos rfl]
  · have hl : nG ≤ 24 := hn.2.2.2.2.1
    refine zPair_ok (r := c.1 (34 + i) 4) (c' := c) (b := c.1 (34 + i) 4) (m' := zwI m 0 52 0) ?_ ?_ (zr_e _ _ _ _) rfl (zR_th hR 0)
    · unfold f_X6_ends
      rw [kG_yes hn.1.2.2.1 hi hl, zbs]
    · unfold f_X7_ends
      rw [hasG_yes hn.2.1.2.2.1 hi hl, zbs, if_neg z10, endOf_eq h5 hi ⟨⟨zr_n (by omega), zr_n (by omega), fun k => zr_n (by omega)⟩, zr_n (by omega)⟩, zbs]
theorem P_fuel (a : Int32) (hR : zR c m) : zPair [(1, 1)] (f_X6_fuel c a) (fx_X6_fuel c a) (f_X7_fuel m a) (fun r b : Int32 => r = b) := by
  obtain ⟨nS, nK, nG, nB, nw, h5⟩ := id hR
  obtain ⟨hn, hs, hv, hw, hk, hh, hb, hp, hg, hgv, ho, hz, hB, hBv, hZ, ha⟩ := h5
  have hl : nS ≤ 4 := hn.2.2.1
  rcases zIx a (n := nS) (by omega) with h | ⟨i, hi, rfl⟩
  · refine zPair_x (k := 1) (v := 1) (c' := c) (b := 0) (m' := zwI m 0 52 1) (by simp) ?_ ?_ (zr_e _ _ _ _) (zR_th hR 1)
    · unfold fx_X6_fuel
      rw [kSx_no hn.1.1 h, zorx_s]
    · unfold f_X7_fuel f_X7_fuel_17
      rw [isShip_eq hn.2.1.1, zbs, zidx_no (by omega) h, if_pos rfl, zlet_eq, if_neg (by rw [zr_e]; decide)]
  · refine zPair_ok (r := c.1 (14 + i) 6) (c' := c) (b := c.1 (14 + i) 6) (m' := zwI m 0 52 0) ?_ ?_ (zr_e _ _ _ _) rfl (zR_th hR 0)
    · unfold f_X6_fuel
      rw [kS_yes hn.1.1 hi hl, zbs]
    · unfold f_X7_fuel f_X7_fuel_17
      rw [isShip_eq hn.2.1.1, zbs, zidx_yes hi (by omega), if_neg z10, zlet_eq, if_pos (zr_e _ _ _ _), zif_in (by omega) (by omega), ztN (by omega), zr_n (by omega), (hs i (by omega)).1.2.2.2.2.2.2]
theorem P_account (a : Int32) (hR : zR c m) : zPair [(2, 1)] (f_X6_account c a) (fx_X6_account c a) (f_X7_account m a) (fun r b : Int64 => r = b) := by
  obtain ⟨nS, nK, nG, nB, nw, h5⟩ := id hR
  obtain ⟨hn, hs, hv, hw, hk, hh, hb, hp, hg, hgv, ho, hz, hB, hBv, hZ, ha⟩ := h5
  by_cases h : zwi a 0 2 = 0
  · refine zPair_x (k := 2) (v := 1) (c' := c) (b := 0) (m' := zwI m 0 52 1) (by simp) ?_ ?_ (zr_e _ _ _ _) (zR_th hR 1)
    · unfold fx_X6_account
      rw [isWithin_eq, zbs, h, dAx_no, zorx_s]
    · unfold f_X7_account f_X7_account_18
      rw [in_eq, zbs, if_pos h, zlet_eq, if_neg (by rw [zr_e]; decide)]
  · obtain ⟨k, -, hk, rfl⟩ := zwi_yes (lo := 0) (hi := 2) (by omega) (by omega) h
    refine zPair_ok (r := c.2 8 k) (c' := c) (b := c.2 8 k) (m' := zwI m 0 52 0) ?_ ?_ (zr_e _ _ _ _) rfl (zR_th hR 0)
    · unfold f_X6_account
      rw [isWithin_eq, zbs, dA_yes h, zbs, zif_in (by omega) (by omega), ztN (by omega)]
    · unfold f_X7_account f_X7_account_18
      rw [in_eq, zbs, if_neg h, zlet_eq, if_pos (by rw [zr_e]; decide), zr_I2, ha.1, ha.2.1, ha.2.2]
      match k, hk with
      | 0, _ => rfl
      | 1, _ => rfl
      | 2, _ => rfl
theorem depth_eq (a h : Int32) : f_X6_depthAt c a h = some (3 + zabs (((h + 2 * a) - (h + 2 * a) / 12 * 12) - 6), c) := rfl
theorem depthOf_eq (a h : Int32) : f_X7_depthOf m a h = some (3 + zabs (((h + 2 * a) - (h + 2 * a) / 12 * 12) - 6), m) := by
  unfold f_X7_depthOf zabs
  by_cases h1 : 0 ≤ (((h + 2 * a) - (h + 2 * a) / 12 * 12) - 6)
  · rw [if_pos h1, if_pos h1]
  · rw [if_neg h1, if_neg h1, Int32.zero_sub]
theorem P_depth (a h : Int32) (hR : zR c m) : zPair [(1, 1), (2, 2)] (f_X6_depth c a h) (fx_X6_depth c a h) (f_X7_depth m a h) (fun r b : Int32 => r = b) := by
  rcases zIx a (n := 6) (by omega) with h0 | ⟨i, hi, rfl⟩
  · refine zPair_x (k := 1) (v := 1) (c' := c) (b := 0) (m' := zwI m 0 52 1) (by simp) ?_ ?_ (zr_e _ _ _ _) (zR_th hR 1)
    · unfold fx_X6_depth
      rw [show (6 : Int32) = nI 6 from rfl, dIx_no h0, zorx_s]
    · unfold f_X7_depth f_X7_depth_31
      rw [isIsland_eq, zbs, zidx_no (by omega) h0, if_pos rfl, zlet_eq, if_neg (by rw [zr_e]; decide)]
  · by_cases h1 : zwi h 0 10000 = 0
    · refine zPair_x (k := 2) (v := 2) (c' := c) (b := 0) (m' := zwI m 0 52 2) (by simp) ?_ ?_ (zr_e _ _ _ _) (zR_th hR 2)
      · unfold fx_X6_depth
        rw [show (6 : Int32) = nI 6 from rfl, dIx_yes hi (by omega), zorx_n, dI_yes hi (by omega), zbs, isWithin_eq, zbs, h1, dAx_no, zorx_s]
      · unfold f_X7_depth f_X7_depth_31
        rw [isIsland_eq, zbs, zidx_yes hi (by omega), if_neg z10, in_eq, zbs, if_pos h1, zlet_eq, if_neg (by rw [zr_e]; decide)]
    · refine zPair_ok (r := 3 + zabs (((h + 2 * nI i) - (h + 2 * nI i) / 12 * 12) - 6)) (c' := c) (b := 3 + zabs (((h + 2 * nI i) - (h + 2 * nI i) / 12 * 12) - 6)) (m' := zwI m 0 52 0) ?_ ?_ (zr_e _ _ _ _) rfl (zR_th hR 0)
      · unfold f_X6_depth
        rw [show f_X6_demandIndex c (nI i) 6 = some ((), c) from dI_yes (n := 6) hi (by omega), zbs, isWithin_eq, zbs, dA_yes h1, zbs, depth_eq, zbs]
      · unfold f_X7_depth f_X7_depth_31
        rw [isIsland_eq, zbs, zidx_yes hi (by omega), if_neg z10, in_eq, zbs, if_neg h1, zlet_eq, if_pos (zr_e _ _ _ _), depthOf_eq, zbs]
end ZP1
