/-! pairs, part four: where ships are; plan, replace -/
section ZP4
variable {c m : zSt} {nS nK nG nB nw : Nat}
theorem zG2 (h : zR5 nS nK nG nB nw c m) {i : Nat} (hi : i < nG) : ∃ s f t hh d e z : Nat, (s < nS ∧ f < 6 ∧ t < 6 ∧ hh ≤ 10000 ∧ hh < e ∧ e ≤ hh + 400 ∧ z ≤ 2 ∧ (z = 0 → nw ≤ hh) ∧ 1 ≤ d ∧ d ≤ 400) ∧ (c.1 (34 + i) 0 = nI s ∧ c.1 (34 + i) 1 = nI f ∧ c.1 (34 + i) 2 = nI t ∧ c.1 (34 + i) 3 = nI hh ∧ c.1 (34 + i) 4 = nI e ∧ c.1 (34 + i) 5 = nI d ∧ c.1 (34 + i) 6 = nI z) := by
  obtain ⟨s, f, t, hh, d, e, z, sp, ⟨b1, b2, b3, b4, b5, b6, b7, b8, b9, b10, b11⟩, e0, e1, e2, e3, e4, e5, e6, e7, e8⟩ := zG_of h hi
  obtain ⟨q, h1, h2, _, h3, _⟩ := hoursOf_eq h hi (m2 := m) ⟨rfl, rfl, fun _ => rfl⟩
  have hq1 : 1 ≤ (d + sp - 1) / sp := (Nat.le_div_iff_mul_le (by omega)).mpr (by omega)
  rw [e4, e3, nI_add] at h3
  have hq2 : (d + sp - 1) / sp ≤ d + sp - 1 := Nat.div_le_self _ _
  have := (nI_eq (by omega) (by omega)).mp h3
  exact ⟨s, f, t, hh, d, e, z, ⟨b1, b2, b3, b4, by omega, by omega, b7, b11, b5, b6⟩, e0, e1, e2, e3, e4, e5, e6⟩
/-- the order of the sailings of one ship, in hours -/
theorem zOrd (h : zR5 nS nK nG nB nw c m) {i j : Nat} (hij : i < j) (hj : j < nG) (hs : c.1 (34 + i) 0 = c.1 (34 + j) 0) (hi1 : ¬ c.1 (34 + i) 6 = 1) (hj1 : ¬ c.1 (34 + j) 6 = 1) : ∃ a b e : Nat, a < b ∧ b ≤ e ∧ e ≤ 10000 ∧ c.1 (34 + i) 3 = nI a ∧ c.1 (34 + i) 4 = nI b ∧ c.1 (34 + j) 3 = nI e := by
  have ho := h.2.2.2.2.2.2.2.2.2.2.1 i j hij hj hs hi1 hj1
  obtain ⟨s, f, t, hh, d, e, z, b, e0, e1, e2, e3, e4, e5, e6⟩ := zG2 h (show i < nG by omega)
  obtain ⟨s', f', t', hh', d', e', z', b', e0', e1', e2', e3', e4', e5', e6'⟩ := zG2 h hj
  refine ⟨hh, e, hh', by omega, ?_, by omega, e3, e4, e3'⟩
  rw [e4, e3', zle_i, zti (by omega), zti (by omega)] at ho
  omega
def zls (c : zSt) (v : Int32) : Nat → Int32
  | 0 => -1
  | n + 1 => if c.1 (34 + n) 0 = v ∧ ¬ c.1 (34 + n) 6 = 1 then nI n else zls c v n
theorem zls_spec (c : zSt) (v : Int32) : ∀ n, (zls c v n = -1 ∧ ∀ k, k < n → c.1 (34 + k) 0 = v → c.1 (34 + k) 6 = 1) ∨ ∃ j, j < n ∧ zls c v n = nI j ∧ c.1 (34 + j) 0 = v ∧ ¬ c.1 (34 + j) 6 = 1 ∧ ∀ k, j < k → k < n → c.1 (34 + k) 0 = v → c.1 (34 + k) 6 = 1
  | 0 => Or.inl ⟨rfl, fun k hk => absurd hk (Nat.not_lt_zero _)⟩
  | n + 1 => by
    by_cases h : c.1 (34 + n) 0 = v ∧ ¬ c.1 (34 + n) 6 = 1
    · exact Or.inr ⟨n, by omega, by rw [zls, if_pos h], h.1, h.2, fun k h1 h2 => by omega⟩
    · have hq : ∀ k, k = n → c.1 (34 + k) 0 = v → c.1 (34 + k) 6 = 1 := fun k hk h1 => by
        subst hk
        by_cases h2 : c.1 (34 + k) 6 = 1
        · exact h2
        · exact absurd ⟨h1, h2⟩ h
      rcases zls_spec c v n with ⟨e, g⟩ | ⟨j, hj, e, g1, g2, g3⟩
      · exact Or.inl ⟨by rw [zls, if_neg h, e], fun k hk => by
          by_cases hkn : k = n
          · exact hq k hkn
          · exact g k (by omega)⟩
      · exact Or.inr ⟨j, by omega, by rw [zls, if_neg h, e], g1, g2, fun k h1 h2 => by
          by_cases hkn : k = n
          · exact hq k hkn
          · exact g3 k h1 (by omega)⟩
theorem last_lp {v : Int32} (h13 : c.1 0 13 = nI nG) (hl : nG ≤ 24) : ∀ (r n i : Nat) (acc : Int32), i + r = nG → r < n → acc = zls c v i → f_X6_lastSailing_4 n c v acc (nI i) = some (zls c v nG, c)
  | 0, n + 1, i, acc, hi, _, ha => by
    rw [f_X6_lastSailing_4, h13, zif_le (by omega) (by omega), ha, show i = nG by omega]
  | r + 1, n + 1, i, acc, hi, hr, ha => by
    rw [f_X6_lastSailing_4, h13, zif_nle (by omega) (by omega), kG_yes h13 (by omega) hl, zbs, nI_1]
    have ih := last_lp (v := v) h13 hl r n (i + 1)
    by_cases h1 : c.1 (34 + i) 0 = v
    · rw [if_pos h1]
      by_cases h2 : c.1 (34 + i) 6 = 1
      · rw [if_pos h2]
        exact ih _ (by omega) (by omega) (by rw [zls, if_neg (fun q => q.2 h2), ha])
      · rw [if_neg h2]
        exact ih _ (by omega) (by omega) (by rw [zls, if_pos ⟨h1, h2⟩])
    · rw [if_neg h1]
      exact ih _ (by omega) (by omega) (by rw [zls, if_neg (fun q => h1 q.1), ha])
theorem lastM_lp (h : zR5 nS nK nG nB nw c m) {v : Int32} : ∀ (r n i : Nat) (acc : Int32), i + r = nG → r < n → acc = zls c v i → f_X7_lastOf_4 n m v acc (nI i) = some (zls c v nG, m)
  | 0, n + 1, i, acc, hi, _, ha => by
    have hl : nG ≤ 24 := h.1.2.2.2.2.1
    rw [f_X7_lastOf_4, h.1.2.1.2.2.1, zif_le (by omega) (by omega), ha, show i = nG by omega]
  | r + 1, n + 1, i, acc, hi, hr, ha => by
    have hl : nG ≤ 24 := h.1.2.2.2.2.1
    have hgi := h.2.2.2.2.2.2.2.2.1 i (by omega)
    rw [f_X7_lastOf_4, h.1.2.1.2.2.1, zif_nle (by omega) (by omega), zif_in (by omega) (by omega), zif_in (by omega) (by omega), ztN (by omega), hgi.1, hgi.2.2.2.2.2.1]
    have ih := lastM_lp h (v := v) r n (i + 1)
    have skip : ∀ v3 : Int32, v3 = nI i → ¬ (c.1 (34 + i) 0 = v ∧ ¬ c.1 (34 + i) 6 = 1) → f_X7_lastOf_36 (fun st v1 v2 v3 => f_X7_lastOf_4 n st v1 v2 v3) m v acc v3 = some (zls c v nG, m) := fun v3 e hq => by
      unfold f_X7_lastOf_36 f_X7_lastOf_39
      rw [if_pos rfl, e, nI_1]
      exact ih _ (by omega) (by omega) (by rw [zls, if_neg hq, ha])
    by_cases h1 : c.1 (34 + i) 0 = v
    · rw [if_pos h1]
      by_cases h2 : c.1 (34 + i) 6 = 1
      · rw [if_pos h2]
        exact skip _ rfl (fun q => q.2 h2)
      · rw [if_neg h2]
        have go : f_X7_lastOf_64 (fun st v1 v2 v3 => f_X7_lastOf_4 n st v1 v2 v3) m v (nI i) = some (zls c v nG, m) := by
          unfold f_X7_lastOf_64
          rw [nI_1]
          exact ih _ (by omega) (by omega) (by rw [zls, if_pos ⟨h1, h2⟩])
        unfold f_X7_lastOf_39
        rw [if_neg z10]
        rcases zls_spec c v i with ⟨e, g⟩ | ⟨j, hj, e, g1, g2, g3⟩
        · rw [if_pos (ha.trans e)]
          exact go
        · obtain ⟨a, b, x, q1, q2, q3, q4, q5, q6⟩ := zOrd h hj (by omega) (g1.trans h1.symm) g2 h2
          have hgj := h.2.2.2.2.2.2.2.2.1 j (by omega)
          rw [ha, e, if_neg (znI_ne_m1 (by omega)), zif_in (by omega) (by omega), zif_in (by omega) (by omega), ztN (by omega), ztN (by omega), hgi.2.2.2.1, hgj.2.2.2.1, q4, q6, zif_nlt (by omega) (by omega)]
          exact go
    · rw [if_neg h1]
      exact skip _ rfl (fun q => h1 q.1)
theorem last_eq (h : zR5 nS nK nG nB nw c m) (v : Int32) : f_X6_lastSailing c v = some (zls c v nG, c) := by
  have hl : nG ≤ 24 := h.1.2.2.2.2.1
  exact last_lp h.1.1.2.2.1 hl nG 64 0 (-1) (by omega) (by omega) rfl
theorem lastM_eq (h : zR5 nS nK nG nB nw c m) (v : Int32) : f_X7_lastOf m v = some (zls c v nG, m) := by
  have hl : nG ≤ 24 := h.1.2.2.2.2.1
  exact lastM_lp h nG 64 0 (-1) (by omega) (by omega) rfl
def zww (c : zSt) (v t ho : Int32) : Nat → Int32
  | 0 => ho
  | n + 1 => if c.1 (34 + n) 0 = v ∧ c.1 (34 + n) 6 = 2 ∧ ¬ t < c.1 (34 + n) 3 then (if c.1 (34 + n) 4 ≤ t then c.1 (34 + n) 2 else -1) else zww c v t ho n
theorem zww_home {v t ho : Int32} : ∀ n, (∀ k, k < n → c.1 (34 + k) 0 = v → c.1 (34 + k) 6 = 1) → zww c v t ho n = ho
  | 0, _ => rfl
  | n + 1, g => by
    rw [zww, if_neg (fun q => absurd ((g n (by omega) q.1).symm.trans q.2.1) (by decide))]
    exact zww_home n (fun k hk => g k (by omega))
theorem where_lp {v t ho : Int32} (h13 : c.1 0 13 = nI nG) (hl : nG ≤ 24) : ∀ (r n i : Nat) (acc : Int32), i + r = nG → r < n → acc = zww c v t ho i → f_X6_whereWas_12 n c v t acc (nI i) = some (zww c v t ho nG, c)
  | 0, n + 1, i, acc, hi, _, ha => by
    rw [f_X6_whereWas_12, h13, zif_le (by omega) (by omega), ha, show i = nG by omega]
  | r + 1, n + 1, i, acc, hi, hr, ha => by
    rw [f_X6_whereWas_12, h13, zif_nle (by omega) (by omega), kG_yes h13 (by omega) hl, zbs, nI_1]
    have ih := where_lp (v := v) (t := t) (ho := ho) h13 hl r n (i + 1)
    have ih := fun acc => ih acc (by omega) (by omega)
    rw [zww] at ih
    by_cases h1 : c.1 (34 + i) 0 = v
    · rw [if_pos h1]
      by_cases h2 : c.1 (34 + i) 6 = 2
      · rw [if_pos h2]
        by_cases h3 : t < c.1 (34 + i) 3
        · rw [if_pos h3]
          rw [if_neg (fun q => q.2.2 h3)] at ih
          exact ih _ ha
        · rw [if_neg h3]
          rw [if_pos ⟨h1, h2, h3⟩] at ih
          by_cases h4 : c.1 (34 + i) 4 ≤ t
          · rw [if_pos h4]
            rw [if_pos h4] at ih
            exact ih _ rfl
          · rw [if_neg h4]
            rw [if_neg h4] at ih
            exact ih _ rfl
      · rw [if_neg h2]
        rw [if_neg (fun q => h2 q.2.1)] at ih
        exact ih _ ha
    · rw [if_neg h1]
      rw [if_neg (fun q => h1 q.1)] at ih
      exact ih _ ha
theorem whereM_lp (h : zR5 nS nK nG nB nw c m) {v t ho : Int32} : ∀ (r n i : Nat) (acc la : Int32), i + r = nG → r < n → acc = zww c v t ho i → (la = -1 ∨ ∃ j, j < i ∧ c.1 (34 + j) 0 = v ∧ c.1 (34 + j) 6 = 2 ∧ la = c.1 (34 + j) 3) → f_X7_placeIn_13 n m v t acc la (nI i) = some (zww c v t ho nG, m)
  | 0, n + 1, i, acc, la, hi, _, ha, _ => by
    have hl : nG ≤ 24 := h.1.2.2.2.2.1
    rw [f_X7_placeIn_13, h.1.2.1.2.2.1, zif_le (by omega) (by omega), ha, show i = nG by omega]
  | r + 1, n + 1, i, acc, la, hi, hr, ha, hla => by
    have hl : nG ≤ 24 := h.1.2.2.2.2.1
    have hgi := h.2.2.2.2.2.2.2.2.1 i (by omega)
    have en := endOf_eq h (i := i) (by omega) (m2 := m) ⟨⟨rfl, rfl, fun _ => rfl⟩, rfl⟩
    rw [f_X7_placeIn_13, h.1.2.1.2.2.1, zif_nle (by omega) (by omega)]
    simp (disch := omega) only [zif_in, ztN, hgi.1, hgi.2.2.1, hgi.2.2.2.1, hgi.2.2.2.2.2.1, en, zbs, nI_1]
    have ih := whereM_lp h (v := v) (t := t) (ho := ho) r n (i + 1)
    have ih := fun acc la => ih acc la (by omega) (by omega)
    rw [zww] at ih
    have hla' : la = -1 ∨ ∃ j, j < i + 1 ∧ c.1 (34 + j) 0 = v ∧ c.1 (34 + j) 6 = 2 ∧ la = c.1 (34 + j) 3 := hla.imp_right (fun ⟨j, q1, q2⟩ => ⟨j, by omega, q2⟩)
    by_cases h1 : c.1 (34 + i) 0 = v
    · rw [if_pos h1]
      by_cases h2 : c.1 (34 + i) 6 = 2
      · rw [if_pos h2]
        by_cases h3 : t < c.1 (34 + i) 3
        · rw [if_pos h3]
          rw [if_neg (fun q => q.2.2 h3)] at ih
          exact ih _ _ ha hla'
        · rw [if_neg h3]
          rw [if_pos ⟨h1, h2, h3⟩] at ih
          have hnn : ¬ c.1 (34 + i) 3 ≤ la := by
            rcases hla with e | ⟨j, hj, g1, g2, e⟩
            · obtain ⟨s, f, t', hh, d, x, z, b, e0, e1, e2, e3, e4, e5, e6⟩ := zG2 h (show i < nG by omega)
              rw [e, e3, zle_i, zti (by omega)]
              have : (-1 : Int32).toInt = -1 := rfl
              omega
            · obtain ⟨a, b, x, q1, q2, q3, q4, q5, q6⟩ := zOrd h hj (by omega) (g1.trans h1.symm) (fun q => absurd (g2.symm.trans q) (by decide)) (fun q => absurd (h2.symm.trans q) (by decide))
              rw [e, q4, q6]
              exact nI_ge (by omega) (by omega)
          have hla2 : ∃ j, j < i + 1 ∧ c.1 (34 + j) 0 = v ∧ c.1 (34 + j) 6 = 2 ∧ c.1 (34 + i) 3 = c.1 (34 + j) 3 := ⟨i, by omega, h1, h2, rfl⟩
          rw [if_neg hnn]
          by_cases h4 : c.1 (34 + i) 4 ≤ t
          · rw [if_pos h4]
            rw [if_pos h4] at ih
            exact ih _ _ rfl (Or.inr hla2)
          · rw [if_neg h4]
            rw [if_neg h4] at ih
            exact ih _ _ rfl (Or.inr hla2)
      · rw [if_neg h2]
        rw [if_neg (fun q => h2 q.2.1)] at ih
        exact ih _ _ ha hla'
    · rw [if_neg h1]
      rw [if_neg (fun q => h1 q.1)] at ih
      exact ih _ _ ha hla'
theorem where_eq (h : zR5 nS nK nG nB nw c m) {i : Nat} (hi : i < nS) (t : Int32) : f_X6_whereWas c (nI i) t = some (zww c (nI i) t (c.1 (14 + i) 0) nG, c) := by
  have hl : nG ≤ 24 := h.1.2.2.2.2.1
  unfold f_X6_whereWas
  rw [kS_yes h.1.1.1 hi h.1.2.2.1, zbs]
  exact where_lp h.1.1.2.2.1 hl nG 64 0 _ (by omega) (by omega) rfl
theorem whereM_eq (h : zR5 nS nK nG nB nw c m) {i : Nat} (hi : i < nS) (t : Int32) : f_X7_placeIn m (nI i) t = some (zww c (nI i) t (c.1 (14 + i) 0) nG, m) := by
  have hl : nG ≤ 24 := h.1.2.2.2.2.1
  have hS : nS ≤ 4 := h.1.2.2.1
  unfold f_X7_placeIn
  rw [zif_in (by omega) (by omega), ztN (by omega), (h.2.1 i (by omega)).1.1]
  exact whereM_lp h nG 64 0 _ _ (by omega) (by omega) rfl (Or.inl rfl)
theorem P_place (a : Int32) (hR : zR c m) : zPair [(1, 1)] (f_X6_place c a) (fx_X6_place c a) (f_X7_place m a) (fun r b : Int32 => r = b) := by
  obtain ⟨nS, nK, nG, nB, nw, h5⟩ := id hR
  obtain ⟨hn, hs, hv, hw, hk, hh, hb, hp, hg, hgv, ho, hz, hB, hBv, hZ, ha⟩ := id h5
  obtain ⟨l1, l2, l3, l4, l5⟩ := hn.2.2
  have hm1 : m.1 0 1 = nI nS := hn.2.1.1
  rcases zIx a (n := nS) (by omega) with h | ⟨i, hi, rfl⟩
  · refine zPair_x (k := 1) (v := 1) (c' := c) (b := 0) (m' := zwI m 0 52 1) (by simp) ?_ ?_ (zr_e _ _ _ _) (zR_th hR 1)
    · unfold fx_X6_place
      rw [hn.1.1, dIx_no h, zorx_s]
    · unfold f_X7_place f_X7_place_17
      rw [isShip_eq hm1, zbs, zidx_no (by omega) h, if_pos rfl, zlet_eq, zr_e, if_neg z10]
  · have h5' := zR5_th h5 0
    refine zPair_ok (r := zww c (nI i) (nI nw) (c.1 (14 + i) 0) nG) (c' := c) (b := zww c (nI i) (nI nw) (c.1 (14 + i) 0) nG) (m' := zwI m 0 52 0) ?_ ?_ (zr_e _ _ _ _) rfl (zR_th hR 0)
    · unfold f_X6_place
      rw [hn.1.1, dI_yes hi (by omega), zbs, hn.1.2.2.2.2, where_eq h5 hi, zbs]
    · unfold f_X7_place f_X7_place_17
      rw [isShip_eq hm1, zbs, zidx_yes hi (by omega), if_neg z10, zlet_eq, zr_e, if_pos rfl, zr_n (by omega), hn.2.1.2.2.2.2, whereM_eq h5' hi, zbs]
theorem P_placeByLine (a t : Int32) (hR : zR c m) : zPair [(1, 1), (2, 2)] (f_X6_placeByLine c a t) (fx_X6_placeByLine c a t) (f_X7_placeByLine m a t) (fun r b : Int32 => r = b) := by
  obtain ⟨nS, nK, nG, nB, nw, h5⟩ := id hR
  obtain ⟨hn, hs, hv, hw, hk, hh, hb, hp, hg, hgv, ho, hz, hB, hBv, hZ, ha⟩ := id h5
  obtain ⟨l1, l2, l3, l4, l5⟩ := hn.2.2
  have hm1 : m.1 0 1 = nI nS := hn.2.1.1
  have hc15 : c.1 0 15 = nI nw := hn.1.2.2.2.2
  have hm0 : m.1 0 0 = nI nw := hn.2.1.2.2.2.2
  rcases zIx a (n := nS) (by omega) with h | ⟨i, hi, rfl⟩
  · refine zPair_x (k := 1) (v := 1) (c' := c) (b := 0) (m' := zwI m 0 52 1) (by simp) ?_ ?_ (zr_e _ _ _ _) (zR_th hR 1)
    · unfold fx_X6_placeByLine
      rw [hn.1.1, dIx_no h, zorx_s]
    · unfold f_X7_placeByLine f_X7_placeByLine_33
      rw [isShip_eq hm1, zbs, zidx_no (by omega) h, if_pos rfl, zlet_eq, zr_e, if_neg z10]
  · have h5' := zR5_th h5 0
    by_cases g : zwi t 0 (nI nw) = 0
    · refine zPair_x (k := 2) (v := 2) (c' := c) (b := 0) (m' := zwI m 0 52 2) (by simp) ?_ ?_ (zr_e _ _ _ _) (zR_th hR 2)
      · unfold fx_X6_placeByLine
        rw [hn.1.1, dIx_yes hi (by omega), zorx_n, dI_yes hi (by omega), zbs, hc15, isWithin_eq, zbs, g, dAx_no, zorx_s]
      · unfold f_X7_placeByLine f_X7_placeByLine_33
        rw [isShip_eq hm1, zbs, zidx_yes hi (by omega), if_neg z10, hm0, in_eq, zbs, if_pos g, zlet_eq, zr_e, if_neg z20]
    · refine zPair_ok (r := zww c (nI i) t (c.1 (14 + i) 0) nG) (c' := c) (b := zww c (nI i) t (c.1 (14 + i) 0) nG) (m' := zwI m 0 52 0) ?_ ?_ (zr_e _ _ _ _) rfl (zR_th hR 0)
      · unfold f_X6_placeByLine
        rw [hn.1.1, dI_yes hi (by omega), zbs, hc15, isWithin_eq, zbs, dA_yes g, zbs, where_eq h5 hi, zbs]
      · unfold f_X7_placeByLine f_X7_placeByLine_33
        rw [isShip_eq hm1, zbs, zidx_yes hi (by omega), if_neg z10, hm0, in_eq, zbs, if_neg g, zlet_eq, zr_e, if_pos rfl, whereM_eq h5' hi, zbs]
theorem zRBv_mono (h : zRBv c nG nB) (hG : nG < 24) : zRBv c (nG + 1) nB := fun k hk => by
  obtain ⟨h1, h2, h3, h4, h5, h6, h7, h8, h9⟩ := h k hk
  refine ⟨h1, h2, h3, h4, h5.imp_right (fun ⟨j, hj, e⟩ => ⟨j, by omega, e⟩), h6, h7, h8, fun q j hj e => ?_⟩
  rcases h5 with e' | ⟨j', hj', e'⟩
  · exact absurd (e.symm.trans e') (znI_ne_m1 (by omega))
  · have := (nI_eq (by omega) (by omega)).mp (e'.symm.trans e)
    exact h9 q j (by omega) e
set_option maxHeartbeats 8000000 in
theorem zMake (h5 : zR5 nS nK nG nB nw c m) (hG : nG < 24) {i f t hr d : Nat} (hi : i < nS) (hf : f < 6) (ht : t < 6) (hr1 : nw ≤ hr) (hr2 : hr ≤ 10000) (hd1 : 1 ≤ d) (hd2 : d ≤ 400) (hord : ∀ k, k < nG → c.1 (34 + k) 0 = nI i → ¬ c.1 (34 + k) 6 = 1 → c.1 (34 + k) 4 ≤ nI hr) : ∃ c' m', f_X6_addSailing c (nI i) (nI f) (nI t) (nI hr) (nI d) = some (nI nG, c') ∧ f_X7_makes m (nI i) (nI f) (nI t) (nI hr) (nI d) = some (nI nG, m') ∧ m'.1 0 52 = m.1 0 52 ∧ zR c' m' := by
  obtain ⟨hn, hs, hv, hw, hk, hh, hb, hp, hg, hgv, ho, hz, hB, hBv, hZ, ha⟩ := id h5
  obtain ⟨l1, l2, l3, l4, l5⟩ := hn.2.2
  obtain ⟨pho, pla, ple, pwe, pdr, sp, pb, p0, p1, p2, p3, p4, psp⟩ := hv i hi
  have hc13 : c.1 0 13 = nI nG := hn.1.2.2.1
  have hc11 : c.1 0 11 = nI nS := hn.1.1
  have hm19 : m.1 0 19 = nI nG := hn.2.1.2.2.1
  have hzn := hz nG (Nat.le_refl _) hG
  have hq1 : 1 ≤ (d + sp - 1) / sp := (Nat.le_div_iff_mul_le (by omega)).mpr (by omega)
  have hq2 : (d + sp - 1) / sp ≤ d + sp - 1 := Nat.div_le_self _ _
  generalize hqq : (d + sp - 1) / sp = q at hq1 hq2
  refine ⟨zwI (zwI (zwI (zwI (zwI (zwI (zwI c 0 13 (nI (nG + 1))) (34 + nG) 0 (nI i)) (34 + nG) 1 (nI f)) (34 + nG) 2 (nI t)) (34 + nG) 3 (nI hr)) (34 + nG) 5 (nI d)) (34 + nG) 4 (nI (hr + q)), zwI (zwI (zwI (zwI (zwI (zwI (zwI m 17 nG (nI i)) 18 nG (nI f)) 19 nG (nI t)) 20 nG (nI hr)) 21 nG (nI d)) 22 nG 0) 0 19 (nI (nG + 1)), ?_, ?_, by simp (disch := omega) only [zr_n], ?_⟩
  · have kk : ∀ st : zSt, st.1 0 13 = nI (nG + 1) → f_X6_knownSailing st (nI nG) = some (34 + nG, st) := fun st h => kG_yes h (by omega) (by omega)
    have k1 := kk (zwI c 0 13 (nI (nG + 1))) (zr_e _ _ _ _)
    have kS : ∀ st : zSt, st.1 0 11 = nI nS → f_X6_knownShip st (nI i) = some (14 + i, st) := fun st h => kS_yes h hi l1
    have hne : ¬ nI sp = 0 := nI_ne0 (by omega) (by omega)
    have hle : (1 : Int32) ≤ nI sp := nI_le (a := 1) (by omega) (by omega)
    unfold f_X6_addSailing f_X4_hoursFor
    rw [zlet_eq, hc13, nI_1, k1, zbs]
    simp only [zlet_eq]
    rw [kS _ (by simp (disch := omega) only [zr_n]; exact hc11), zbs]
    simp (disch := omega) only [zr_n, zbs, zlet_eq, psp, if_pos hle, hne, not_false_eq_true, ↓reduceIte, zceil_eq hd2 (show 1 ≤ sp by omega) (show sp ≤ 40 by omega), hqq]
    rw [nI_add]
  · unfold f_X7_makes
    simp (maxSteps := 2000000) (disch := omega) only [↓zbs, ↓zlet_eq, zr_e, zr_n, zr_I2, zr_L1, zrL_e, zrL_n, zif_in, ztN, z10, z20, z30, z1le0, z2le0, z3le0, z00, eq_self, not_false_eq_true, ↓reduceIte, hm19, nI_1, zm1]
  · refine ⟨nS, nK, nG + 1, nB, nw, ⟨?_, ?_, ?_⟩, zRs_cg hs (by intros; first | rfl | simp (disch := omega) only [zr_n, zr_L1, zr_I2, zrL_n]) (by intros; first | rfl | simp (disch := omega) only [zr_n, zr_L1, zr_I2, zrL_n]) (by intros; first | rfl | simp (disch := omega) only [zr_n, zr_L1, zr_I2, zrL_n]) (by intros; first | rfl | simp (disch := omega) only [zr_n, zr_L1, zr_I2, zrL_n]), zRv_cg hv (by omega) (by intros; first | rfl | simp (disch := omega) only [zr_n, zr_L1, zr_I2, zrL_n]), zRw_cg hw (by intros; first | rfl | simp (disch := omega) only [zr_n, zr_L1, zr_I2, zrL_n]) (by intros; first | rfl | simp (disch := omega) only [zr_n, zr_L1, zr_I2, zrL_n]) (by intros; first | rfl | simp (disch := omega) only [zr_n, zr_L1, zr_I2, zrL_n]), zRk_cg hk (by omega) (by intros; first | rfl | simp (disch := omega) only [zr_n, zr_L1, zr_I2, zrL_n]) (by intros; first | rfl | simp (disch := omega) only [zr_n, zr_L1, zr_I2, zrL_n]) (by intros; first | rfl | simp (disch := omega) only [zr_n, zr_L1, zr_I2, zrL_n]), ?_, zRb_cg hb (by intros; first | rfl | simp (disch := omega) only [zr_n, zr_L1, zr_I2, zrL_n]) (by intros; first | rfl | simp (disch := omega) only [zr_n, zr_L1, zr_I2, zrL_n]) (by intros; first | rfl | simp (disch := omega) only [zr_n, zr_L1, zr_I2, zrL_n]), zRp_cg hp (by intros; first | rfl | simp (disch := omega) only [zr_n, zr_L1, zr_I2, zrL_n]) (by intros; first | rfl | simp (disch := omega) only [zr_n, zr_L1, zr_I2, zrL_n]), ?_, ?_, ?_, ?_, zRB_cg hB (by intros; first | rfl | simp (disch := omega) only [zr_n, zr_L1, zr_I2, zrL_n]) (by intros; first | rfl | simp (disch := omega) only [zr_n, zr_L1, zr_I2, zrL_n]), ?_, zRZ_cg hZ (by intros; first | rfl | simp (disch := omega) only [zr_n, zr_L1, zr_I2, zrL_n]) (by intros; first | rfl | simp (disch := omega) only [zr_n, zr_L1, zr_I2, zrL_n]), zRa_cg ha (by intros; first | rfl | simp (disch := omega) only [zr_n, zr_L1, zr_I2, zrL_n]) (by intros; first | rfl | simp (disch := omega) only [zr_n, zr_L1, zr_I2, zrL_n])⟩
    · exact ⟨by simp (disch := omega) only [zr_n]; exact hn.1.1, by simp (disch := omega) only [zr_n]; exact hn.1.2.1, by simp (disch := omega) only [zr_n, zr_e], by simp (disch := omega) only [zr_n]; exact hn.1.2.2.2.1, by simp (disch := omega) only [zr_n]; exact hn.1.2.2.2.2⟩
    · exact ⟨by simp (disch := omega) only [zr_n]; exact hn.2.1.1, by simp (disch := omega) only [zr_n]; exact hn.2.1.2.1, by simp (disch := omega) only [zr_n, zr_e], by simp (disch := omega) only [zr_n]; exact hn.2.1.2.2.2.1, by simp (disch := omega) only [zr_n]; exact hn.2.1.2.2.2.2⟩
    · exact ⟨l1, l2, by omega, l4, l5⟩
    · intro k d' hk6 hd5
      rw [zsum, if_neg]
      · simp (disch := omega) only [zr_n]
        rw [hh k d' hk6 hd5]
        exact (zsum_cg nG (fun j hj => by simp (disch := omega) only [zr_n, and_self])).symm
      · intro qq
        have := qq.1
        simp (disch := omega) only [zr_n] at this
        exact znI_ne_m1 (a := k) (by omega) (this.symm.trans hzn.1.2.2.1)
    · intro k hkk
      by_cases hkn : k = nG
      · subst hkn
        have e10 : (0 : Int32) = 1 ↔ False := by decide
        have e20 : (0 : Int32) = 2 ↔ False := by decide
        simp (disch := omega) only [zr_e, zr_n, hzn.1.1, hzn.1.2.1, hzn.1.2.2.2, hzn.2.1, hzn.2.2.1, hzn.2.2.2, hzn.1.2.2.1, e10, e20, false_implies, and_self, implies_true]
      · have := hg k (by omega)
        simp (disch := omega) only [zr_n]
        exact this
    · intro k hkk
      by_cases hkn : k = nG
      · subst hkn
        refine ⟨i, f, t, hr, d, hr + q, 0, sp, ⟨hi, hf, ht, hr2, hd1, hd2, by omega, by omega, by omega, by rw [hqq], fun _ => hr1⟩, ?_⟩
        simp (disch := omega) only [zr_e, zr_n, hzn.1.1, hzn.1.2.2.1, psp, true_and, true_or, and_true]
        rfl
      · obtain ⟨s', f', t', h', d', x', z', sp', b', e0, e1, e2, e3, e4, e5, e6, e7, e8⟩ := hgv k (by omega)
        refine ⟨s', f', t', h', d', x', z', sp', b', ?_⟩
        simp (disch := omega) only [zr_n]
        exact ⟨e0, e1, e2, e3, e4, e5, e6, e7, e8⟩
    · intro i' j' hij hj' e6 g1 g2
      by_cases hjn : j' = nG
      · subst hjn
        simp (disch := omega) only [zr_e, zr_n] at e6 g1 g2 ⊢
        exact hord i' hij e6 g1
      · simp (disch := omega) only [zr_n] at e6 g1 g2 ⊢
        exact ho i' j' hij (by omega) e6 g1 g2
    · intro k hk1 hk2
      have := hz k (by omega) hk2
      simp (disch := omega) only [zr_n]
      exact this
    · exact zRBv_cg (zRBv_mono hBv hG) (by intros; simp (disch := omega) only [zr_n]) (fun k hk e => by
        by_cases hkn : k = nG
        · subst hkn
          exact absurd (hzn.1.1.symm.trans e) (by decide)
        · simp (disch := omega) only [zr_n]
          exact e)
theorem zhas {s : Nat} {hf ht : Int32} (h : zspan (c.1 s) hf ht) {w q : Nat} (hw : w ≤ 100000) (hq : q < 6) (h12 : m.1 12 q = hf) (h13 : m.1 13 q = ht) : ∃ b : Int32, f_X5_has c s (nI w) = some (b, c) ∧ f_X7_hinders m (nI q) (nI w) = some (b, m) := by
  unfold f_X5_has f_X7_hinders
  rw [zif_in hq (by omega), zif_in hq (by omega), zif_in hq (by omega), ztN (by omega), h12, h13]
  rcases h with ⟨h0, h1, e⟩ | ⟨a, b, ha, hb, h0, h1, e, e2⟩
  · have k0 : ¬ nI w < (0 : Int32) := by rw [z0]; exact nI_nlt (by omega) (by omega)
    have k1 : (-1 : Int32) < nI w := by
      rw [zlt_i, zti (by omega)]
      have : (-1 : Int32).toInt = -1 := rfl
      omega
    refine ⟨0, ?_, ?_⟩
    · rw [h0, h1, if_neg k0, if_pos k1]
    · rw [e, if_pos z00]
  · have k0 : ¬ nI (a + 1) ≤ (0 : Int32) := by rw [z0]; exact nI_ge (by omega) (by omega)
    rw [h0, h1, e, e2, if_neg k0, zm1, in_eq, zbs]
    unfold zwi
    by_cases g1 : nI w < nI a
    · exact ⟨0, by rw [if_pos g1], by rw [if_pos g1, if_pos rfl]⟩
    · by_cases g2 : nI b < nI w
      · exact ⟨0, by rw [if_neg g1, if_pos g2], by rw [if_neg g1, if_pos g2, if_pos rfl]⟩
      · exact ⟨1, by rw [if_neg g1, if_neg g2], by rw [if_neg g1, if_neg g2, if_neg z10]⟩
theorem P_plan (a0 a1 a2 a3 : Int32) (hR : zR c m) : zPair [(1, 1), (2, 2), (3, 3)] (f_X6_plan c a0 a1 a2 a3) (fx_X6_plan c a0 a1 a2 a3) (f_X7_plan m a0 a1 a2 a3) (fun r b : Int32 => r = b) := by
  obtain ⟨nS, nK, nG, nB, nw, h5⟩ := id hR
  obtain ⟨hn, hs, hv, hw, hk, hh, hb, hp, hg, hgv, ho, hz, hB, hBv, hZ, ha⟩ := id h5
  obtain ⟨l1, l2, l3, l4, l5⟩ := hn.2.2
  have hm1 : m.1 0 1 = nI nS := hn.2.1.1
  have hc15 : c.1 0 15 = nI nw := hn.1.2.2.2.2
  have hc13 : c.1 0 13 = nI nG := hn.1.2.2.1
  have hm0 : m.1 0 0 = nI nw := hn.2.1.2.2.2.2
  have hm19 : m.1 0 19 = nI nG := hn.2.1.2.2.1
  rcases zIx a0 (n := nS) (by omega) with h | ⟨i, hi, rfl⟩
  · refine zPair_x (k := 1) (v := 1) (c' := c) (b := 0) (m' := zwI m 0 52 1) (by simp) ?_ ?_ (zr_e _ _ _ _) (zR_th hR 1)
    · unfold fx_X6_plan
      rw [kSx_no hn.1.1 h, zorx_s]
    · unfold f_X7_plan f_X7_plan_24
      rw [isShip_eq hm1, zbs, zidx_no (by omega) h, if_pos rfl, zlet_eq, zr_e, if_neg z1le0]
  rcases zIx a1 (n := 6) (by omega) with h | ⟨t, ht, rfl⟩
  · refine zPair_x (k := 1) (v := 1) (c' := c) (b := 0) (m' := zwI m 0 52 1) (by simp) ?_ ?_ (zr_e _ _ _ _) (zR_th hR 1)
    · unfold fx_X6_plan
      rw [kSx_yes hn.1.1 hi l1, zorx_n, kS_yes hn.1.1 hi l1, zbs, show fx_X6_demandIndex c a1 6 = some (1, c) from dIx_no (n := 6) h, zorx_s]
    · unfold f_X7_plan f_X7_plan_24
      rw [isShip_eq hm1, zbs, zidx_yes hi (by omega), if_neg z10, isIsland_eq, zbs, zidx_no (by omega) h, if_pos rfl, zlet_eq, zr_e, if_neg z1le0]
  have h5' := zR5_th h5 0
  -- what both sides do once the last sailing is known
  have key : ∀ (f : Nat) (fr : Int32) (la : Int32), f < 6 → 
      ((la = -1 ∧ fr = 0) ∨ (¬ la = -1 ∧ f_X7_endOf (zwI m 0 52 0) la = some (fr, zwI m 0 52 0))) →
      (∀ k, k < nG → c.1 (34 + k) 0 = nI i → ¬ c.1 (34 + k) 6 = 1 → c.1 (34 + k) 4 ≤ fr) →
      zPair [(1, 1), (2, 2), (3, 3)] (f_X6_plan_66 c (nI i) (nI t) a2 a3 (nI f) fr) (fx_X6_plan_66 c (nI i) (nI t) a2 a3 (nI f) fr) (f_X7_plan_67 (zwI m 0 52 0) (nI i) (nI t) a2 a3 la (nI f)) (fun r b : Int32 => r = b) := by
    intro f fr la hf hla hord
    have e0 : (zwI m 0 52 0).1 0 0 = nI nw := by rw [zr_n (by omega)]; exact hm0
    have e19 : (zwI m 0 52 0).1 0 19 = nI nG := by rw [zr_n (by omega)]; exact hm19
    have bad2 : zR c (zwI (zwI m 0 52 0) 0 52 2) := zR_th (zR_th hR 0) 2
    have bad3 : zR c (zwI (zwI m 0 52 0) 0 52 3) := zR_th (zR_th hR 0) 3
    have g137 : ∀ v : Int32, ¬ v ≤ 0 → f_X7_plan_137 (zwI (zwI m 0 52 0) 0 52 v) (nI i) (nI t) a2 a3 (nI f) = some (0, zwI (zwI m 0 52 0) 0 52 v) := fun v hv => by
      unfold f_X7_plan_137
      rw [zr_e, if_neg hv]
    unfold f_X6_plan_66 fx_X6_plan_66 f_X7_plan_67 f_X6_plan_102 f_X6_plan_125 fx_X6_plan_102 fx_X6_plan_125
    rw [hc15, e0, isWithin_eq, in_eq, zbs, zbs, zbs]
    by_cases g1 : zwi a2 (nI nw) 10000 = 0
    · rw [if_pos g1, if_pos g1, if_pos g1, zlet_eq]
      exact zPair_x (k := 2) (v := 2) (by simp) rfl (g137 2 z2le0) (zr_e _ _ _ _) bad2
    rw [if_neg g1, if_neg g1, if_neg g1, isWithin_eq, in_eq, zbs, zbs, zbs]
    by_cases g2 : zwi a3 1 400 = 0
    · rw [if_pos g2, if_pos g2, if_pos g2, zlet_eq]
      exact zPair_x (k := 2) (v := 2) (by simp) rfl (g137 2 z2le0) (zr_e _ _ _ _) bad2
    rw [if_neg g2, if_neg g2, if_neg g2]
    by_cases g3 : nI t = nI f
    · rw [if_pos g3, if_pos g3, if_pos g3, zlet_eq]
      exact zPair_x (k := 2) (v := 2) (by simp) rfl (g137 2 z2le0) (zr_e _ _ _ _) bad2
    rw [if_neg g3, if_neg g3, if_neg g3]
    obtain ⟨hr, hr1, hr2, rfl⟩ := zwi_yes (lo := nw) (hi := 10000) (by omega) (by omega) g1
    obtain ⟨d, hd1, hd2, rfl⟩ := zwi_yes (lo := 1) (hi := 400) (by omega) (by omega) g2
    have refuse : ∀ mm : Option (Int32 × zSt), mm = some (0, zwI (zwI m 0 52 0) 0 52 3) → ∀ ff : Option (Int32 × zSt), zPair [(1, 1), (2, 2), (3, 3)] ff (some (3, c)) mm (fun r b : Int32 => r = b) := fun mm e ff => by
      rw [e]
      exact zPair_x (k := 3) (v := 3) (by simp) rfl rfl (zr_e _ _ _ _) bad3
    rw [hc13, e19]
    have full : ∀ hG : nG = 24, (24 : Int32) ≤ nI nG ∧ nI nG = (24 : Int32) := fun hG => ⟨nI_le (a := 24) (by omega) (by omega), by rw [hG]; rfl⟩
    have room : ∀ hG : ¬ nG = 24, ¬ (24 : Int32) ≤ nI nG ∧ ¬ nI nG = (24 : Int32) := fun hG => ⟨nI_ge (b := 24) (by omega) (by omega), fun q => hG ((nI_eq (b := 24) (by omega) (by omega)).mp q)⟩
    have go : ∀ hG : ¬ nG = 24, ¬ nI hr < fr → zPair [(1, 1), (2, 2), (3, 3)] ((f_X6_addSailing c (nI i) (nI f) (nI t) (nI hr) (nI d)).bind fun q26 => some (q26.1, q26.2)) none (f_X7_plan_137 (zwI (zwI m 0 52 0) 0 52 0) (nI i) (nI t) (nI hr) (nI d) (nI f)) (fun r b : Int32 => r = b) := fun hG hfr => by
      obtain ⟨c', m', e1, e2, e3, e4⟩ := zMake (zR5_th h5' 0) (by omega) hi hf ht hr1 hr2 hd1 hd2 (fun k hk q1 q2 => by
        have := hord k hk q1 q2
        rw [zle_i] at this ⊢
        rw [zlt_i] at hfr
        omega)
      refine zPair_ok (r := nI nG) (c' := c') (b := nI nG) (m' := m') ?_ ?_ (e3.trans (zr_e _ _ _ _)) rfl e4
      · rw [e1, zbs]
      · unfold f_X7_plan_137
        rw [zr_e, if_pos z00, e2, zbs]
    rcases hla with ⟨q1, q2⟩ | ⟨q1, q2⟩
    · have hfr : ¬ nI hr < fr := by rw [q2, z0]; exact nI_nlt (by omega) (by omega)
      rw [if_neg hfr, if_neg hfr, if_pos q1]
      by_cases hG : nG = 24
      · rw [if_pos (full hG).1, if_pos (full hG).1, if_pos (full hG).2, zlet_eq]
        exact refuse _ (g137 3 z3le0) _
      · rw [if_neg (room hG).1, if_neg (room hG).1, if_neg (room hG).2, zlet_eq]
        exact go hG hfr
    · rw [if_neg q1, q2, zbs]
      by_cases hfr : nI hr < fr
      · rw [if_pos hfr, if_pos hfr, if_pos hfr, zlet_eq]
        exact refuse _ (g137 3 z3le0) _
      · rw [if_neg hfr, if_neg hfr, if_neg hfr, e19]
        by_cases hG : nG = 24
        · rw [if_pos (full hG).1, if_pos (full hG).1, if_pos (full hG).2, zlet_eq]
          exact refuse _ (g137 3 z3le0) _
        · rw [if_neg (room hG).1, if_neg (room hG).1, if_neg (room hG).2, zlet_eq]
          exact go hG hfr
  have hc : f_X6_demandIndex c (nI t) 6 = some ((), c) := dI_yes (n := 6) ht (by omega)
  have hcx : fx_X6_demandIndex c (nI t) 6 = none := dIx_yes (n := 6) ht (by omega)
  unfold f_X6_plan fx_X6_plan f_X7_plan f_X7_plan_24
  rw [kSx_yes hn.1.1 hi l1, zorx_n, kS_yes hn.1.1 hi l1, zbs, zbs, hc, hcx, zorx_n, zbs, zbs, last_eq h5, zbs, zbs, isShip_eq hm1, zbs, zidx_yes hi (by omega), if_neg z10, isIsland_eq, zbs, zidx_yes ht (by omega), if_neg z10, zlet_eq, zr_e, if_pos z00, lastM_eq h5', zbs]
  unfold f_X6_plan_45 fx_X6_plan_45
  rcases zls_spec c (nI i) nG with ⟨e, g⟩ | ⟨j, hj, e, g1, g2, g3⟩
  · obtain ⟨pho, pla, ple, pwe, pdr, sp, pb, p0, -⟩ := hv i hi
    rw [e, if_pos rfl, if_pos rfl, if_pos rfl, if_pos rfl, if_pos rfl, whereM_eq h5' hi, zbs, zww_home nG g, p0]
    exact key pho 0 (-1) (by omega) (Or.inl ⟨rfl, rfl⟩) (fun k hk q1 q2 => absurd (g k hk q1) q2)
  · obtain ⟨s, f, t', hh', d, e', z, b, e0, e1, e2, e3, e4, e5, e6⟩ := zG2 h5 hj
    have hne := znI_ne_m1 (a := j) (by omega)
    rw [e, if_neg hne, if_neg hne, if_neg hne, kG_yes hc13 hj l3, zbs, zbs, if_neg hne, if_neg hne, kG_yes hc13 hj l3, zbs, zbs, e2, e4, zif_in (by omega) (by omega), ztN (by omega), zr_n (by omega), (hg j hj).2.2.1, e2]
    refine key t' (nI e') (nI j) (by omega) (Or.inr ⟨hne, by rw [endOf_eq h5 hj (m2 := zwI m 0 52 0) ⟨⟨zr_n (by omega), zr_n (by omega), fun _ => zr_n (by omega)⟩, zr_n (by omega)⟩, e4]⟩) (fun k hk q1 q2 => ?_)
    by_cases hkj : k < j
    · obtain ⟨x, y, w, o1, o2, o3, o4, o5, o6⟩ := zOrd h5 hkj hj (q1.trans g1.symm) q2 g2
      rw [o5]
      have := (nI_eq (by omega) (by omega)).mp (o6.symm.trans e3)
      exact nI_le (by omega) (by omega)
    · by_cases hkj2 : k = j
      · rw [hkj2, e4]
        exact nI_le (Nat.le_refl _) (by omega)
      · exact absurd (g3 k (by omega) hk q1) q2
/-- every sailing of v among the first n is cancelled, or has ended -/
def zfr (c : zSt) (v w : Int32) (lo n : Nat) : Prop := ∀ k, lo ≤ k → k < n → c.1 (34 + k) 0 = v → c.1 (34 + k) 6 = 1 ∨ (c.1 (34 + k) 6 = 2 ∧ ¬ w < c.1 (34 + k) 4)
theorem free_eq (h : zR5 nS nK nG nB nw c m) (v : Int32) : ∃ b : Int32, f_X6_isFree c v = some (b, c) ∧ ((b = 0 ∧ ¬ zfr c v (nI nw) 0 nG) ∨ (b = 1 ∧ zfr c v (nI nw) 0 nG)) := by
  have hl : nG ≤ 24 := h.1.2.2.2.2.1
  have hw : nw ≤ 9000 := h.1.2.2.2.2.2.2
  have hc13 : c.1 0 13 = nI nG := h.1.1.2.2.1
  unfold f_X6_isFree
  rw [last_eq h, zbs]
  rcases zls_spec c v nG with ⟨e, g⟩ | ⟨j, hj, e, g1, g2, g3⟩
  · refine ⟨1, by rw [e, if_pos rfl], Or.inr ⟨rfl, fun k _ hk q => Or.inl (g k hk q)⟩⟩
  · have hne := znI_ne_m1 (a := j) (by omega)
    rw [e, if_neg hne, kG_yes hc13 hj hl, zbs]
    by_cases h2 : c.1 (34 + j) 6 = 2
    · rw [if_pos h2, kG_yes hc13 hj hl, zbs, h.1.1.2.2.2.2]
      by_cases h3 : nI nw < c.1 (34 + j) 4
      · refine ⟨0, by rw [if_pos h3], Or.inl ⟨rfl, fun q => ?_⟩⟩
        rcases q j (by omega) hj g1 with q1 | ⟨_, q2⟩
        · exact g2 q1
        · exact q2 h3
      · refine ⟨1, by rw [if_neg h3], Or.inr ⟨rfl, fun k _ hk q => ?_⟩⟩
        by_cases k1 : c.1 (34 + k) 6 = 1
        · exact Or.inl k1
        by_cases hkj : k = j
        · exact Or.inr ⟨by rw [hkj]; exact h2, by rw [hkj]; exact h3⟩
        by_cases hlt : j < k
        · exact absurd (g3 k hlt hk q) k1
        obtain ⟨a, b, x, o1, o2, o3, o4, o5, o6⟩ := zOrd h (show k < j by omega) hj (q.trans g1.symm) k1 g2
        obtain ⟨s, f, t', hh, d, y, z, bb, e0, e1, e2, e3, e4, e5, e6⟩ := zG2 h hj
        obtain ⟨s', f', t'', hh', d', y', z', bb', e0', e1', e2', e3', e4', e5', e6'⟩ := zG2 h hk
        have r1 := (nI_eq (by omega) (by omega)).mp (o6.symm.trans e3)
        have r2 := (nI_eq (by omega) (by omega)).mp (o4.symm.trans e3')
        have r3 : ¬ nw < y := fun q => h3 (by rw [e4]; exact nI_lt q (by omega))
        refine Or.inr ⟨?_, by rw [o5]; exact nI_nlt (by omega) (by omega)⟩
        have hz0 : ¬ z' = 0 := by omega
        have hz1 : ¬ z' = 1 := fun q => k1 (by rw [e6', q]; rfl)
        rw [e6', show z' = 2 by omega]
        rfl
    · refine ⟨0, by rw [if_neg h2], Or.inl ⟨rfl, fun q => ?_⟩⟩
      rcases q j (by omega) hj g1 with q1 | ⟨q2, _⟩
      · exact g2 q1
      · exact h2 q2
theorem rep_lp0 (h : zR5 nS nK nG nB nw c m) {a0 a1 : Int32} : ∀ (r n i : Nat), i + r = nG → r < n → f_X7_replace_100 n m a0 a1 0 (nI i) = f_X7_replace_193 (zwI m 0 52 2) a0 a1
  | 0, n + 1, i, hi, _ => by
    have hl : nG ≤ 24 := h.1.2.2.2.2.1
    rw [f_X7_replace_100, h.1.2.1.2.2.1, zif_le (by omega) (by omega), if_pos rfl, zlet_eq]
  | r + 1, n + 1, i, hi, hr => by
    have hl : nG ≤ 24 := h.1.2.2.2.2.1
    rw [f_X7_replace_100, h.1.2.1.2.2.1, zif_nle (by omega) (by omega), if_pos rfl, nI_1]
    exact rep_lp0 h r n (i + 1) (by omega) (by omega)
theorem rep_lp1 (h : zR5 nS nK nG nB nw c m) {a0 a1 : Int32} : ∀ (r n i : Nat), i + r = nG → r < n → (zfr c a1 (nI nw) i nG ∧ f_X7_replace_100 n m a0 a1 1 (nI i) = (if 24 ≤ nI nG then f_X7_replace_193 (zwI m 0 52 2) a0 a1 else f_X7_replace_193 (zwI m 0 52 0) a0 a1)) ∨ (¬ zfr c a1 (nI nw) i nG ∧ f_X7_replace_100 n m a0 a1 1 (nI i) = f_X7_replace_193 (zwI m 0 52 2) a0 a1)
  | 0, n + 1, i, hi, _ => by
    have hl : nG ≤ 24 := h.1.2.2.2.2.1
    refine Or.inl ⟨fun k h1 h2 => absurd h2 (by omega), ?_⟩
    rw [f_X7_replace_100, h.1.2.1.2.2.1, zif_le (by omega) (by omega), if_neg z10, zlet_eq, zlet_eq]
  | r + 1, n + 1, i, hi, hr => by
    have hl : nG ≤ 24 := h.1.2.2.2.2.1
    have hgi := h.2.2.2.2.2.2.2.2.1 i (by omega)
    have en := endOf_eq h (i := i) (by omega) (m2 := m) ⟨⟨rfl, rfl, fun _ => rfl⟩, rfl⟩
    have ih := rep_lp1 h (a0 := a0) (a1 := a1) r n (i + 1) (by omega) (by omega)
    have ih0 := rep_lp0 h (a0 := a0) (a1 := a1) r n (i + 1) (by omega) (by omega)
    have good : (c.1 (34 + i) 0 = a1 → c.1 (34 + i) 6 = 1 ∨ (c.1 (34 + i) 6 = 2 ∧ ¬ nI nw < c.1 (34 + i) 4)) → ∀ x : Option (Int32 × zSt), x = f_X7_replace_100 n m a0 a1 1 (nI (i + 1)) → (zfr c a1 (nI nw) i nG ∧ x = (if 24 ≤ nI nG then f_X7_replace_193 (zwI m 0 52 2) a0 a1 else f_X7_replace_193 (zwI m 0 52 0) a0 a1)) ∨ (¬ zfr c a1 (nI nw) i nG ∧ x = f_X7_replace_193 (zwI m 0 52 2) a0 a1) := fun g x e => by
      rw [e]
      rcases ih with ⟨q1, q2⟩ | ⟨q1, q2⟩
      · refine Or.inl ⟨fun k h1 h2 h3 => ?_, q2⟩
        by_cases hki : k = i
        · rw [hki]
          rw [hki] at h3
          exact g h3
        · exact q1 k (by omega) h2 h3
      · exact Or.inr ⟨fun q => q1 (fun k h1 h2 h3 => q k (by omega) h2 h3), q2⟩
    have bad : c.1 (34 + i) 0 = a1 → ¬ (c.1 (34 + i) 6 = 1 ∨ (c.1 (34 + i) 6 = 2 ∧ ¬ nI nw < c.1 (34 + i) 4)) → ∀ x : Option (Int32 × zSt), x = f_X7_replace_100 n m a0 a1 0 (nI (i + 1)) → (zfr c a1 (nI nw) i nG ∧ x = (if 24 ≤ nI nG then f_X7_replace_193 (zwI m 0 52 2) a0 a1 else f_X7_replace_193 (zwI m 0 52 0) a0 a1)) ∨ (¬ zfr c a1 (nI nw) i nG ∧ x = f_X7_replace_193 (zwI m 0 52 2) a0 a1) := fun g0 g x e => by
      rw [e]
      exact Or.inr ⟨fun q => g (q i (Nat.le_refl _) (by omega) g0), ih0⟩
    rw [f_X7_replace_100, h.1.2.1.2.2.1, zif_nle (by omega) (by omega), if_neg z10]
    simp (disch := omega) only [zif_in, ztN, hgi.1, hgi.2.2.2.2.2.1, en, zbs, nI_1, f_X7_replace_159, h.1.2.1.2.2.2.2]
    by_cases h1 : c.1 (34 + i) 0 = a1
    · rw [if_pos h1]
      by_cases h2 : c.1 (34 + i) 6 = 1
      · rw [if_pos h2]
        exact good (fun _ => Or.inl h2) _ rfl
      · rw [if_neg h2]
        by_cases h3 : c.1 (34 + i) 6 = 2
        · rw [if_pos h3]
          by_cases h4 : nI nw < c.1 (34 + i) 4
          · rw [if_pos h4]
            exact bad h1 (fun q => q.elim h2 (fun q => q.2 h4)) _ rfl
          · rw [if_neg h4]
            exact good (fun _ => Or.inr ⟨h3, h4⟩) _ rfl
        · rw [if_neg h3]
          exact bad h1 (fun q => q.elim h2 (fun q => h3 q.1)) _ rfl
    · rw [if_neg h1]
      exact good (fun q => absurd q h1) _ rfl
theorem P_replace (a0 a1 : Int32) (hR : zR c m) : zPair [(1, 1), (3, 2)] (f_X6_replace c a0 a1) (fx_X6_replace c a0 a1) (f_X7_replace m a0 a1) (fun r b : Int32 => r = b) := by
  obtain ⟨nS, nK, nG, nB, nw, h5⟩ := id hR
  obtain ⟨hn, hs, hv, hw, hk, hh, hb, hp, hg, hgv, ho, hz, hB, hBv, hZ, ha⟩ := id h5
  obtain ⟨l1, l2, l3, l4, l5⟩ := hn.2.2
  have hm1 : m.1 0 1 = nI nS := hn.2.1.1
  have hc15 : c.1 0 15 = nI nw := hn.1.2.2.2.2
  have hc13 : c.1 0 13 = nI nG := hn.1.2.2.1
  have hm0 : m.1 0 0 = nI nw := hn.2.1.2.2.2.2
  have hm19 : m.1 0 19 = nI nG := hn.2.1.2.2.1
  rcases zIx a0 (n := nG) (by omega) with h | ⟨g, hgG, rfl⟩
  · refine zPair_x (k := 1) (v := 1) (c' := c) (b := 0) (m' := zwI m 0 52 1) (by simp) ?_ ?_ (zr_e _ _ _ _) (zR_th hR 1)
    · unfold fx_X6_replace
      rw [kGx_no hc13 h, zorx_s]
    · unfold f_X7_replace f_X7_replace_31
      rw [hm19, in_eq, zbs, zidx_no (by omega) h, if_pos rfl, zlet_eq, zr_e, if_neg z1le0]
  rcases zIx a1 (n := nS) (by omega) with h | ⟨i, hi, rfl⟩
  · refine zPair_x (k := 1) (v := 1) (c' := c) (b := 0) (m' := zwI m 0 52 1) (by simp) ?_ ?_ (zr_e _ _ _ _) (zR_th hR 1)
    · unfold fx_X6_replace
      rw [kGx_yes hc13 hgG l3, zorx_n, kG_yes hc13 hgG l3, zbs, kSx_no hn.1.1 h, zorx_s]
    · unfold f_X7_replace f_X7_replace_31
      rw [hm19, in_eq, zbs, zidx_yes hgG (by omega), if_neg z10, isShip_eq hm1, zbs, zidx_no (by omega) h, if_pos rfl, zlet_eq, zr_e, if_neg z1le0]
  have h5' := zR5_th h5 0
  have hgi := hg g hgG
  obtain ⟨s, f, t, hr, d, e, z, bb, e0, e1, e2, e3, e4, e5, e6⟩ := zG2 h5 hgG
  have g193 : ∀ st : zSt, f_X7_replace_193 (zwI st 0 52 2) (nI g) (nI i) = some (0, zwI st 0 52 2) := fun st => by
    unfold f_X7_replace_193
    rw [zr_e, if_neg z2le0]
  have refuse : ∀ (ff : Option (Int32 × zSt)) (fx : Option (Nat × zSt)) (mm : Option (Int32 × zSt)), fx = some (3, c) → mm = f_X7_replace_193 (zwI (zwI m 0 52 0) 0 52 2) (nI g) (nI i) → zPair [(1, 1), (3, 2)] ff fx mm (fun r b : Int32 => r = b) := fun ff fx mm q1 q2 => by
    exact zPair_x (k := 3) (v := 2) (by simp) q1 (q2.trans (g193 _)) (zr_e _ _ _ _) (zR_th (zR_th hR 0) 2)
  have lp0 := rep_lp0 h5' (a0 := nI g) (a1 := nI i) nG 64 0 (by omega) (by omega)
  have lp1 := rep_lp1 h5' (a0 := nI g) (a1 := nI i) nG 64 0 (by omega) (by omega)
  rw [← z0] at lp0 lp1
  have m0 : (zwI m 0 52 0).1 0 0 = nI nw := by rw [zr_n (by omega)]; exact hm0
  have m22 : (zwI m 0 52 0).1 22 g = c.1 (34 + g) 6 := by rw [zr_n (by omega)]; exact hgi.2.2.2.2.2.1
  have m24 : (zwI m 0 52 0).1 24 g = c.1 (34 + g) 10 := by rw [zr_n (by omega)]; exact hgi.2.2.2.2.2.2.1
  have m18 : (zwI m 0 52 0).1 18 g = c.1 (34 + g) 1 := by rw [zr_n (by omega)]; exact hgi.2.1
  have en0 : f_X7_replace m (nI g) (nI i) = f_X7_replace_31 (zwI m 0 52 0) (nI g) (nI i) := by
    unfold f_X7_replace
    rw [hm19, in_eq, zbs, zidx_yes hgG (by omega), if_neg z10, isShip_eq hm1, zbs, zidx_yes hi (by omega), if_neg z10, zlet_eq]
  rw [en0]
  unfold f_X6_replace fx_X6_replace f_X7_replace_31 f_X6_replace_80 fx_X6_replace_80
  rw [zr_e, if_pos z00, kGx_yes hc13 hgG l3, zorx_n, kG_yes hc13 hgG l3, zbs, zbs, kSx_yes hn.1.1 hi l1, zorx_n, kS_yes hn.1.1 hi l1, zbs, zbs]
  simp (disch := omega) only [zif_in, ztN, m22, m24]
  rcases (Classical.em (c.1 (34 + g) 6 = 1)).symm with q1 | q1
  · rw [if_neg q1, if_neg q1, if_neg q1]
    exact refuse _ _ _ rfl lp0
  rw [if_pos q1, if_pos q1, if_pos q1]
  rcases (Classical.em (c.1 (34 + g) 10 = 0)).symm with q2 | q2
  · rw [if_neg q2, if_neg q2, if_neg q2]
    exact refuse _ _ _ rfl lp0
  have h2i : (2 : Int32) + nI i = nI (2 + i) := by rw [z2, nI_add]
  obtain ⟨bs, hb1, hb2⟩ := zhas (c := c) (m := zwI m 0 52 0) (s := 18 + i) (w := nw) (q := 2 + i) (hs i (by omega)).2.1 (by omega) (by omega) (zr_n (by omega)) (zr_n (by omega))
  obtain ⟨bf, hf1, hf2⟩ := free_eq h5 (nI i)
  have e184 : 14 + i + 4 = 18 + i := by omega
  rw [if_pos q2, if_pos q2, if_pos q2, hf1, zbs, zbs, m0, h2i, hb2, zbs, hc15, where_eq h5 hi, zbs, zbs, e184]
  dsimp only
  rw [hc15, hb1, zbs, zbs]
  dsimp only
  rw [hc13]
  rcases hf2 with ⟨rfl, nfr⟩ | ⟨rfl, fr⟩
  · rw [if_pos rfl, if_pos rfl]
    refine refuse _ _ _ rfl ?_
    rcases lp1 with ⟨y, _⟩ | ⟨_, y⟩
    · exact absurd y nfr
    · by_cases k1 : bs = 0
      · rw [if_pos k1, m0, whereM_eq h5' hi, zbs]
        by_cases k2 : zww c (nI i) (nI nw) (c.1 (14 + i) 0) nG = (zwI m 0 52 0).1 18 g
        · rw [if_pos k2]
          exact y
        · rw [if_neg k2]
          exact lp0
      · rw [if_neg k1]
        exact lp0
  rw [if_neg z10, if_neg z10, m0, whereM_eq h5' hi, zbs, m18]
  rcases lp1.symm with ⟨y, _⟩ | ⟨_, y⟩
  · exact absurd fr y
  rcases (Classical.em (zww c (nI i) (nI nw) (c.1 (14 + i) 0) nG = c.1 (34 + g) 1)).symm with k2 | k2
  · rw [if_neg k2, if_neg k2, if_neg k2]
    refine refuse _ _ _ rfl ?_
    by_cases k1 : bs = 0
    · rw [if_pos k1]
      exact lp0
    · rw [if_neg k1]
      exact lp0
  rw [if_pos k2, if_pos k2, if_pos k2]
  rcases (Classical.em (bs = 0)).symm with k1 | k1
  · rw [if_neg k1, if_neg k1, if_neg k1]
    exact refuse _ _ _ rfl lp0
  rw [if_pos k1, if_pos k1, if_pos k1, y]
  by_cases hG : nG = 24
  · have q24 : (24 : Int32) ≤ nI nG := nI_le (a := 24) (by omega) (by omega)
    rw [if_pos q24, if_pos q24, if_pos q24]
    exact refuse _ _ _ rfl rfl
  have q24 : ¬ (24 : Int32) ≤ nI nG := nI_ge (b := 24) (by omega) (by omega)
  rw [if_neg q24, if_neg q24, if_neg q24]
  -- both make the new sailing
  have hz52 : ∀ st : zSt, (zwI (zwI st 0 52 0) 24 g 1).1 0 52 = 0 := fun st => by simp (disch := omega) only [zr_n, zr_e]
  have h6 : zR5 nS nK nG nB nw (zwI c (34 + g) 10 1) (zwI (zwI (zwI m 0 52 0) 0 52 0) 24 g 1) := by
    refine ⟨⟨⟨by simp (disch := omega) only [zr_n, zr_L1]; exact hn.1.1, by simp (disch := omega) only [zr_n, zr_L1]; exact hn.1.2.1, by simp (disch := omega) only [zr_n, zr_L1]; exact hn.1.2.2.1, by simp (disch := omega) only [zr_n, zr_L1]; exact hn.1.2.2.2.1, by simp (disch := omega) only [zr_n, zr_L1]; exact hn.1.2.2.2.2⟩, ⟨by simp (disch := omega) only [zr_n, zr_L1]; exact hn.2.1.1, by simp (disch := omega) only [zr_n, zr_L1]; exact hn.2.1.2.1, by simp (disch := omega) only [zr_n, zr_L1]; exact hn.2.1.2.2.1, by simp (disch := omega) only [zr_n, zr_L1]; exact hn.2.1.2.2.2.1, by simp (disch := omega) only [zr_n, zr_L1]; exact hn.2.1.2.2.2.2⟩, hn.2.2⟩, zRs_cg hs (by intros; first | rfl | simp (disch := omega) only [zr_n, zr_L1, zr_I2, zrL_n]) (by intros; first | rfl | simp (disch := omega) only [zr_n, zr_L1, zr_I2, zrL_n]) (by intros; first | rfl | simp (disch := omega) only [zr_n, zr_L1, zr_I2, zrL_n]) (by intros; first | rfl | simp (disch := omega) only [zr_n, zr_L1, zr_I2, zrL_n]), zRv_cg hv (by omega) (by intros; first | rfl | simp (disch := omega) only [zr_n, zr_L1, zr_I2, zrL_n]), zRw_cg hw (by intros; first | rfl | simp (disch := omega) only [zr_n, zr_L1, zr_I2, zrL_n]) (by intros; first | rfl | simp (disch := omega) only [zr_n, zr_L1, zr_I2, zrL_n]) (by intros; first | rfl | simp (disch := omega) only [zr_n, zr_L1, zr_I2, zrL_n]), zRk_cg hk (by omega) (by intros; first | rfl | simp (disch := omega) only [zr_n, zr_L1, zr_I2, zrL_n]) (by intros; first | rfl | simp (disch := omega) only [zr_n, zr_L1, zr_I2, zrL_n]) (by intros; first | rfl | simp (disch := omega) only [zr_n, zr_L1, zr_I2, zrL_n]), zRh_cg hh (by intro i hi; refine ⟨?_, ?_, ?_⟩ <;> first | rfl | simp (disch := omega) only [zr_n, zr_L1, zr_I2, zrL_n]) (by intros; first | rfl | simp (disch := omega) only [zr_n, zr_L1, zr_I2, zrL_n]), zRb_cg hb (by intros; first | rfl | simp (disch := omega) only [zr_n, zr_L1, zr_I2, zrL_n]) (by intros; first | rfl | simp (disch := omega) only [zr_n, zr_L1, zr_I2, zrL_n]) (by intros; first | rfl | simp (disch := omega) only [zr_n, zr_L1, zr_I2, zrL_n]), zRp_cg hp (by intros; first | rfl | simp (disch := omega) only [zr_n, zr_L1, zr_I2, zrL_n]) (by intros; first | rfl | simp (disch := omega) only [zr_n, zr_L1, zr_I2, zrL_n]), ?_, ?_, ?_, zRz_cg hz (by intros; first | rfl | simp (disch := omega) only [zr_n, zr_L1, zr_I2, zrL_n]) (by intros; first | rfl | simp (disch := omega) only [zr_n, zr_L1, zr_I2, zrL_n]), zRB_cg hB (by intros; first | rfl | simp (disch := omega) only [zr_n, zr_L1, zr_I2, zrL_n]) (by intros; first | rfl | simp (disch := omega) only [zr_n, zr_L1, zr_I2, zrL_n]), zRBv_cg hBv (by intros; first | rfl | simp (disch := omega) only [zr_n, zr_L1, zr_I2, zrL_n]) (by intro k hk e; first | exact e | (simp (disch := omega) only [zr_n, zr_L1, zr_I2, zrL_n]; exact e)), zRZ_cg hZ (by intros; first | rfl | simp (disch := omega) only [zr_n, zr_L1, zr_I2, zrL_n]) (by intros; first | rfl | simp (disch := omega) only [zr_n, zr_L1, zr_I2, zrL_n]), zRa_cg ha (by intros; first | rfl | simp (disch := omega) only [zr_n, zr_L1, zr_I2, zrL_n]) (by intros; first | rfl | simp (disch := omega) only [zr_n, zr_L1, zr_I2, zrL_n])⟩
    · intro k hk'
      have hq := hg k hk'
      by_cases hkg : k = g
      · subst hkg
        simp (disch := omega) only [zr_n, zr_e, hq.1, hq.2.1, hq.2.2.1, hq.2.2.2.1, hq.2.2.2.2.1, hq.2.2.2.2.2.1, true_and]
        exact ⟨hq.2.2.2.2.2.2.2.1, hq.2.2.2.2.2.2.2.2⟩
      · simp (disch := omega) only [zr_n]
        exact hq
    · intro k hk'
      obtain ⟨s', f', t', h', d', x', z', sp', b', r0, r1, r2, r3, r4, r5, r6, r7, r8⟩ := hgv k hk'
      refine ⟨s', f', t', h', d', x', z', sp', b', ?_⟩
      simp (disch := omega) only [zr_n]
      exact ⟨r0, r1, r2, r3, r4, r5, r6, r7, r8⟩
    · intro i' j' x1 x2
      have := ho i' j' x1 x2
      simp (disch := omega) only [zr_n]
      exact this
  obtain ⟨c', m', w1, w2, w3, w4⟩ := zMake h6 (show nG < 24 by omega) hi (f := f) (t := t) (hr := nw) (d := d) (by omega) (by omega) (by omega) (by omega) (by omega) (by omega) (fun k hk x1 x2 => by
    simp (disch := omega) only [zr_n] at x1 x2 ⊢
    rcases fr k (by omega) hk x1 with x | ⟨_, x⟩
    · exact absurd x x2
    · rw [zlt_i] at x
      rw [zle_i]
      omega)
  refine zPair_ok (r := nI nG) (c' := c') (b := nI nG) (m' := m') ?_ ?_ (w3.trans (hz52 _)) rfl w4
  · rw [zlet_eq, zr_n (by omega), zr_n (by omega), zr_n (by omega), zr_n (by omega), e1, e2, e5, hc15, w1, zbs]
  · unfold f_X7_replace_193
    rw [zr_e, if_pos z00]
    have y18 : (zwI (zwI (zwI m 0 52 0) 0 52 0) 24 g 1).1 18 g = nI f := by simp (disch := omega) only [zr_n]; exact hgi.2.1.trans e1
    have y19 : (zwI (zwI (zwI m 0 52 0) 0 52 0) 24 g 1).1 19 g = nI t := by simp (disch := omega) only [zr_n]; exact hgi.2.2.1.trans e2
    have y21 : (zwI (zwI (zwI m 0 52 0) 0 52 0) 24 g 1).1 21 g = nI d := by simp (disch := omega) only [zr_n]; exact hgi.2.2.2.2.1.trans e5
    have y0 : (zwI (zwI (zwI m 0 52 0) 0 52 0) 24 g 1).1 0 0 = nI nw := by simp (disch := omega) only [zr_n]; exact hm0
    simp (disch := omega) only [zif_in, ztN, zlet_eq, y18, y19, y21, y0, w2, zbs]
end ZP4
