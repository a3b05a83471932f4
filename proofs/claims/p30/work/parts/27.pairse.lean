/-! pairs, part five: the bus, what is sent over, cancel -/
section ZP5
variable {c m : zSt} {nS nK nG nB nw : Nat}
theorem zxor0 (x : Int32) {n : Nat} (hn : n < 10000) : (0 ≤ x ^^^ nI n) ↔ 0 ≤ x := by
  have e : ((x.toBitVec ^^^ (nI n).toBitVec).msb) = (x.toBitVec.msb ^^ (nI n).toBitVec.msb) := BitVec.msb_xor
  rw [BitVec.msb_eq_toInt, BitVec.msb_eq_toInt, BitVec.msb_eq_toInt] at e
  have h2 : (nI n).toBitVec.toInt = n := nI_toInt (by omega)
  have h3 : decide ((nI n).toBitVec.toInt < 0) = false := decide_eq_false (by rw [h2]; omega)
  rw [h3, Bool.xor_false] at e
  have h4 := decide_eq_decide.mp e
  rw [zle_i, zle_i, zti0]
  have h5 : (x ^^^ nI n).toInt = (x.toBitVec ^^^ (nI n).toBitVec).toInt := rfl
  have h6 : x.toInt = x.toBitVec.toInt := rfl
  rw [h5, h6]
  omega
theorem zrc (a b c : Int32) : a + b + c = a + c + b := by rw [Int32.add_assoc, Int32.add_comm b c, ← Int32.add_assoc]
theorem zmod_nI {a n : Nat} (ha : a < 1000000) (h1 : 1 ≤ n) (hn : n < 1000000) : nI a - nI a / nI n * nI n = nI (a % n) := by
  rw [pk_div (by omega) (by omega) (by omega), pk_mul, pk_sub (by have := Nat.div_mul_le_self a n; omega)]
  congr 1
  have := Nat.div_add_mod a n
  rw [Nat.mul_comm] at this
  omega
theorem zmod_neg {y n : Nat} (hy : y < 1000000) (h1 : 1 ≤ n) (hn : n < 1000000) : -nI y - -nI y / nI n * nI n = -nI (y % n) := by
  have hq : -nI y / nI n = -nI (y / n) := by
    apply Int32.toInt_inj.mp
    have hle := Nat.div_le_self y n
    have t1 : (-nI y).toInt = -(y : Int) := by
      have := pk_sub_toInt (a := 0) (b := y) (by omega) (by omega)
      rw [← z0, Int32.zero_sub] at this
      omega
    have t2 : (-nI (y / n)).toInt = -((y / n : Nat) : Int) := by
      have := pk_sub_toInt (a := 0) (b := y / n) (by omega) (by omega)
      rw [← z0, Int32.zero_sub] at this
      omega
    have hmin : -nI y ≠ Int32.minValue := fun q => by
      have := congrArg Int32.toInt q
      rw [t1] at this
      have t3 : Int32.minValue.toInt = -2147483648 := rfl
      omega
    rw [Int32.toInt_div_of_ne_left _ _ hmin, t1, t2, zti hn, Int.neg_tdiv, Int.ofNat_tdiv]
  rw [hq, Int32.neg_mul, pk_mul, Int32.sub_eq_add_neg, Int32.neg_neg]
  have h2 := Nat.div_add_mod y n
  rw [Nat.mul_comm] at h2
  have e : nI y = nI (y / n * n) + nI (y % n) := by rw [nI_add, h2]
  rw [e, Int32.neg_add, Int32.sub_eq_add_neg, zrc, Int32.add_left_neg, Int32.zero_add]
theorem zbusN {f e n : Nat} (h1 : 1 ≤ n) (h2 : n ≤ 12) : (e ≤ f → (f + n - e % n) % n = (f - e) % n) ∧ (f < e → (f + n - e % n) % n = if (e - f) % n = 0 then 0 else n - (e - f) % n) := by
  rcases (show n = 1 ∨ n = 2 ∨ n = 3 ∨ n = 4 ∨ n = 5 ∨ n = 6 ∨ n = 7 ∨ n = 8 ∨ n = 9 ∨ n = 10 ∨ n = 11 ∨ n = 12 by omega) with h | h | h | h | h | h | h | h | h | h | h | h <;> subst h <;> refine ⟨fun h => by omega, fun h => ?_⟩ <;> split <;> omega
theorem zbus {f e n : Nat} (hf : f ≤ 12) (he : e ≤ 20000) (h1 : 1 ≤ n) (h2 : n ≤ 12) (st : zSt) : f_J9_floorMod_7cf53 st (nI f - nI e) (nI n) = some (nI ((f + n - e % n) % n), st) := by
  have hz := zbusN (f := f) (e := e) h1 h2
  have hne : ¬ nI n = 0 := nI_ne0 (by omega) (by omega)
  unfold f_J9_floorMod_7cf53
  rw [if_pos hne]
  by_cases h : e ≤ f
  · rw [pk_sub h, if_pos ((zxor0 _ (by omega)).mpr (by rw [z0]; exact nI_le (by omega) (by omega))), zmod_nI (by omega) h1 (by omega), hz.1 h]
  · have hx : nI f - nI e = -nI (e - f) := by
      have e1 : nI e = nI f + nI (e - f) := by rw [nI_add]; congr 1; omega
      rw [e1, Int32.sub_eq_add_neg, Int32.neg_add, Int32.sub_eq_add_neg (-nI f), ← Int32.add_assoc, Int32.add_right_neg, Int32.zero_add]
    have hmod : (e - f) % n < n := Nat.mod_lt _ (by omega)
    rw [hx, if_neg (fun q => by
      have := (zxor0 _ (by omega)).mp q
      rw [zle_i, zti0] at this
      have t1 := pk_sub_toInt (a := f) (b := e) (by omega) (by omega)
      rw [hx] at t1
      omega), zmod_neg (by omega) h1 (by omega), hz.2 (by omega)]
    by_cases h0 : (e - f) % n = 0
    · rw [h0, if_pos rfl, if_pos (by decide)]
      rfl
    · rw [if_neg h0, if_neg (fun q => by
        have h9 := congrArg (fun x : Int32 => -x) q
        simp only [Int32.neg_neg] at h9
        have : nI ((e - f) % n) = 0 := h9.trans (by decide)
        exact absurd this (nI_ne0 (by omega) (by omega))), Int32.add_comm, ← Int32.sub_eq_add_neg, pk_sub (by omega)]
theorem P_busAfter (a : Int32) (hR : zR c m) : zPair [(1, 1)] (f_X6_busAfter c a) (fx_X6_busAfter c a) (f_X7_busAfter m a) (fun r b : Int32 => r = b) := by
  obtain ⟨nS, nK, nG, nB, nw, h5⟩ := id hR
  obtain ⟨hn, hs, hv, hw, hk, hh, hb, hp, hg, hgv, ho, hz, hB, hBv, hZ, ha⟩ := id h5
  obtain ⟨l1, l2, l3, l4, l5⟩ := hn.2.2
  have hc13 : c.1 0 13 = nI nG := hn.1.2.2.1
  have hm19 : m.1 0 19 = nI nG := hn.2.1.2.2.1
  rcases zIx a (n := nG) (by omega) with h | ⟨g, hgG, rfl⟩
  · refine zPair_x (k := 1) (v := 1) (c' := c) (b := 0) (m' := zwI m 0 52 1) (by simp) ?_ ?_ (zr_e _ _ _ _) (zR_th hR 1)
    · unfold fx_X6_busAfter
      rw [kGx_no hc13 h, zorx_s]
    · unfold f_X7_busAfter
      rw [hasG_no hm19 l3 h, zbs, if_pos rfl]
  have h5' := zR5_th h5 0
  have hgi := hg g hgG
  obtain ⟨s, f, t, hr, d, e, z, bb, e0, e1, e2, e3, e4, e5, e6⟩ := zG2 h5 hgG
  obtain ⟨q14, q15, n, f0, hnn, hff, e14, e15⟩ := hb t (by omega)
  have hd : f_X6_demandIndex c (nI t) 6 = some ((), c) := dI_yes (n := 6) (by omega) (by omega)
  have m19 : (zwI m 0 52 0).1 19 g = nI t := by rw [zr_n (by omega)]; exact hgi.2.2.1.trans e2
  have m22 : (zwI m 0 52 0).1 22 g = c.1 (34 + g) 6 := by rw [zr_n (by omega)]; exact hgi.2.2.2.2.2.1
  have m14 : (zwI m 0 52 0).1 14 t = nI n := by rw [zr_n (by omega)]; exact q14.trans e14
  have m15 : (zwI m 0 52 0).1 15 t = nI f0 := by rw [zr_n (by omega)]; exact q15.trans e15
  have en : f_X7_endOf (zwI m 0 52 0) (nI g) = some (nI e, zwI m 0 52 0) := by
    rw [endOf_eq h5 hgG (m2 := zwI m 0 52 0) ⟨⟨zr_n (by omega), zr_n (by omega), fun _ => zr_n (by omega)⟩, zr_n (by omega)⟩, e4]
  have both : ∃ r : Int32, f_X6_busAfter c (nI g) = some (r, c) ∧ f_X7_busAfter m (nI g) = some (r, zwI m 0 52 0) := by
    unfold f_X6_busAfter f_X7_busAfter
    rw [kG_yes hc13 hgG l3, zbs, hasG_yes hm19 hgG l3, zbs, if_neg z10]
    simp (disch := omega) only [zif_in, ztN, e2, e4, m19, m22, m14, m15, hd, zbs, e14, e15]
    by_cases h2 : c.1 (34 + g) 6 = 2
    · rw [if_pos h2, if_pos h2]
      by_cases hn0 : n = 0
      · subst hn0
        exact ⟨-1, by rw [if_neg (by decide)], by rw [if_pos (show nI 0 = 0 from rfl)]⟩
      · have hne : ¬ nI n = 0 := nI_ne0 (by omega) (by omega)
        have hle : (1 : Int32) ≤ nI n := nI_le (a := 1) (by omega) (by omega)
        refine ⟨nI ((f0 + n - e % n) % n), ?_, ?_⟩
        · rw [if_pos hle, zbus hff (by omega) (by omega) hnn, zbs]
        · have hmod : e % n < n := Nat.mod_lt _ (by omega)
          rw [if_neg hne, en, zbs, if_pos hne, if_pos hne]
          dsimp only
          rw [zmod_nI (a := e) (by omega) (by omega) (by omega), Int32.sub_eq_add_neg (nI f0), zrc, ← Int32.sub_eq_add_neg, nI_add, pk_sub (by omega), zmod_nI (by omega) (by omega) (by omega)]
    · exact ⟨-1, by rw [if_neg h2], by rw [if_neg h2]⟩
  obtain ⟨r, w1, w2⟩ := both
  exact zPair_ok w1 w2 (zr_e _ _ _ _) rfl (zR_th hR 0)
def zln (c : zSt) (g : Nat) : Nat → Int32 × Int32
  | 0 => (-1, 10001)
  | n + 1 => if c.1 (34 + n) 6 = 0 ∧ c.1 (34 + n) 1 = c.1 (34 + g) 1 ∧ c.1 (34 + n) 2 = c.1 (34 + g) 2 ∧ ¬ (zln c g n).2 ≤ c.1 (34 + n) 3 then (nI n, c.1 (34 + n) 3) else zln c g n
theorem zln_spec (c : zSt) (g : Nat) : ∀ n, zln c g n = (-1, 10001) ∨ ∃ j, j < n ∧ zln c g n = (nI j, c.1 (34 + j) 3)
  | 0 => Or.inl rfl
  | n + 1 => by
    by_cases h : c.1 (34 + n) 6 = 0 ∧ c.1 (34 + n) 1 = c.1 (34 + g) 1 ∧ c.1 (34 + n) 2 = c.1 (34 + g) 2 ∧ ¬ (zln c g n).2 ≤ c.1 (34 + n) 3
    · exact Or.inr ⟨n, by omega, by rw [zln, if_pos h]⟩
    · rw [zln, if_neg h]
      exact (zln_spec c g n).imp_right (fun ⟨j, hj, e⟩ => ⟨j, by omega, e⟩)
theorem next_lp {g : Nat} (h13 : c.1 0 13 = nI nG) (hl : nG ≤ 24) : ∀ (r n i : Nat) (acc : Int32 × Int32), i + r = nG → r < n → acc = zln c g i → f_X6_nextLike_16 n c (34 + g) acc.1 acc.2 (nI i) = some ((zln c g nG).1, c)
  | 0, n + 1, i, acc, hi, _, ha => by
    rw [f_X6_nextLike_16, h13, zif_le (by omega) (by omega), ha, show i = nG by omega]
  | r + 1, n + 1, i, acc, hi, hr, ha => by
    rw [f_X6_nextLike_16, h13, zif_nle (by omega) (by omega), kG_yes h13 (by omega) hl, zbs, nI_1]
    have ih := next_lp (g := g) h13 hl r n (i + 1)
    have ih := fun acc => ih acc (by omega) (by omega)
    rw [zln] at ih
    have skip : ¬ (c.1 (34 + i) 6 = 0 ∧ c.1 (34 + i) 1 = c.1 (34 + g) 1 ∧ c.1 (34 + i) 2 = c.1 (34 + g) 2 ∧ ¬ (zln c g i).2 ≤ c.1 (34 + i) 3) → f_X6_nextLike_16 n c (34 + g) acc.1 acc.2 (nI (i + 1)) = some ((zln c g nG).1, c) := fun hq => by
      rw [if_neg hq] at ih
      exact ih acc ha
    by_cases h1 : c.1 (34 + i) 6 = 0
    · rw [if_pos h1]
      by_cases h2 : c.1 (34 + i) 1 = c.1 (34 + g) 1
      · rw [if_pos h2]
        by_cases h3 : c.1 (34 + i) 2 = c.1 (34 + g) 2
        · rw [if_pos h3]
          by_cases h4 : acc.2 ≤ c.1 (34 + i) 3
          · rw [if_pos h4]
            exact skip (fun q => q.2.2.2 (by rw [← ha]; exact h4))
          · rw [if_neg h4]
            rw [if_pos ⟨h1, h2, h3, by rw [← ha]; exact h4⟩] at ih
            exact ih _ rfl
        · rw [if_neg h3]
          exact skip (fun q => h3 q.2.2.1)
      · rw [if_neg h2]
        exact skip (fun q => h2 q.2.1)
    · rw [if_neg h1]
      exact skip (fun q => h1 q.1)
theorem next_eq (h : zR5 nS nK nG nB nw c m) {g : Nat} (hg : g < nG) : f_X6_nextLike c (nI g) = some ((zln c g nG).1, c) := by
  have hl : nG ≤ 24 := h.1.2.2.2.2.1
  unfold f_X6_nextLike
  rw [kG_yes h.1.1.2.2.1 hg hl, zbs]
  exact next_lp h.1.1.2.2.1 hl nG 64 0 (-1, 10001) (by omega) (by omega) rfl
theorem nextM_lp (h : zR5 nS nK nG nB nw c m) {k g : Nat} (hg : g < nG) : ∀ (r n i : Nat) (acc : Int32), i + r = nG → r < n → acc = (zln c g i).1 → f_X7_goesOver_14 n m (nI k) (nI g) acc (nI i) = f_X7_goesOver_14 (0 + 1) m (nI k) (nI g) (zln c g nG).1 (nI nG)
  | 0, n + 1, i, acc, hi, _, ha => by
    have hl : nG ≤ 24 := h.1.2.2.2.2.1
    have hi' : i = nG := by omega
    subst hi'
    rw [f_X7_goesOver_14, h.1.2.1.2.2.1, zif_le (by omega) (by omega), ha, f_X7_goesOver_14, h.1.2.1.2.2.1, zif_le (by omega) (by omega)]
  | r + 1, n + 1, i, acc, hi, hr, ha => by
    have hl : nG ≤ 24 := h.1.2.2.2.2.1
    have hgi := h.2.2.2.2.2.2.2.2.1 i (by omega)
    have hgg := h.2.2.2.2.2.2.2.2.1 g hg
    have ih := nextM_lp h (k := k) hg r n (i + 1)
    have ih := fun acc => ih acc (by omega) (by omega)
    generalize hT : f_X7_goesOver_14 (0 + 1) m (nI k) (nI g) (zln c g nG).1 (nI nG) = T at ih ⊢
    rw [f_X7_goesOver_14, h.1.2.1.2.2.1, zif_nle (by omega) (by omega)]
    simp (disch := omega) only [zif_in, ztN, hgi.2.1, hgi.2.2.1, hgi.2.2.2.2.2.1, hgg.2.1, hgg.2.2.1]
    rw [zln] at ih
    have skip : ¬ (c.1 (34 + i) 6 = 0 ∧ c.1 (34 + i) 1 = c.1 (34 + g) 1 ∧ c.1 (34 + i) 2 = c.1 (34 + g) 2 ∧ ¬ (zln c g i).2 ≤ c.1 (34 + i) 3) → f_X7_goesOver_14 n m (nI k) (nI g) acc (nI (i + 1)) = T := fun hq => by
      rw [if_neg hq] at ih
      exact ih acc ha
    have skip2 : ¬ (c.1 (34 + i) 6 = 0 ∧ c.1 (34 + i) 1 = c.1 (34 + g) 1 ∧ c.1 (34 + i) 2 = c.1 (34 + g) 2 ∧ ¬ (zln c g i).2 ≤ c.1 (34 + i) 3) → f_X7_goesOver_69 (fun st v1 v2 v3 v4 => f_X7_goesOver_14 n st v1 v2 v3 v4) m (nI k) (nI g) acc (nI i) = T := fun hq => by
      unfold f_X7_goesOver_69 f_X7_goesOver_72
      rw [if_pos rfl, nI_1]
      exact skip hq
    by_cases h1 : c.1 (34 + i) 6 = 0
    · rw [if_pos h1]
      by_cases h2 : c.1 (34 + i) 1 = c.1 (34 + g) 1
      · rw [if_pos h2]
        by_cases h3 : c.1 (34 + i) 2 = c.1 (34 + g) 2
        · rw [if_pos h3]
          unfold f_X7_goesOver_72 f_X7_goesOver_98
          rw [if_neg z10, nI_1]
          obtain ⟨s, f, t', hh, d, x, z, b, e0, e1, e2, e3, e4, e5, e6⟩ := zG2 h (show i < nG by omega)
          rcases zln_spec c g i with e | ⟨j, hj, e⟩
          · rw [e] at ha
            have hq : ¬ (10001 : Int32) ≤ c.1 (34 + i) 3 := by rw [e3]; exact nI_ge (b := 10001) (by omega) (by omega)
            rw [e, if_pos ⟨h1, h2, h3, hq⟩] at ih
            rw [if_pos ha]
            exact ih _ rfl
          · have hgj := h.2.2.2.2.2.2.2.2.1 j (by omega)
            have ha' := ha
            rw [e] at ha'
            rw [ha', if_neg (znI_ne_m1 (by omega)), zif_in (by omega) (by omega), zif_in (by omega) (by omega), ztN (by omega), ztN (by omega), hgi.2.2.2.1, hgj.2.2.2.1]
            by_cases h4 : c.1 (34 + j) 3 ≤ c.1 (34 + i) 3
            · rw [if_pos h4]
              have := skip (fun q => q.2.2.2 (by rw [e]; exact h4))
              rw [ha'] at this
              exact this
            · rw [if_neg h4]
              rw [e, if_pos ⟨h1, h2, h3, h4⟩] at ih
              exact ih _ rfl
        · rw [if_neg h3]
          exact skip2 (fun q => h3 q.2.2.1)
      · rw [if_neg h2]
        exact skip2 (fun q => h2 q.2.1)
    · rw [if_neg h1]
      exact skip2 (fun q => h1 q.1)
theorem zc0 : (0 : Int32).toNatClampNeg = 0 := rfl
theorem zc1 : (1 : Int32).toNatClampNeg = 1 := rfl
theorem zGo (h5 : zR5 nS nK nG nB nw c m) {k g : Nat} (hk : k < nB) (hgG : g < nG) (hsg : c.1 (58 + k) 0 = nI g) (hon : c.1 (58 + k) 11 = 0) (nl : Int32) (hnl : nl = -1 ∨ ∃ j : Nat, j < nG ∧ nl = nI j) : ∃ c' m', f_X6_goOver c (58 + k) nl = some ((), c') ∧ f_X7_goesOver_14 (0 + 1) m (nI k) (nI g) nl (nI nG) = some ((), m') ∧ m'.1 0 52 = m.1 0 52 ∧ zR5 nS nK nG nB nw c' m' ∧ (∀ q j, q < 58 → c'.1 q j = c.1 q j) := by
  have hK := hk
  obtain ⟨hn, hs, hv, hw, hk, hh, hb, hp, hg, hgv, ho, hz, hB, hBv, hZ, ha⟩ := id h5
  obtain ⟨l1, l2, l3, l4, l5⟩ := hn.2.2
  have hm19 : m.1 0 19 = nI nG := hn.2.1.2.2.1
  have hBk := hB k hK
  obtain ⟨⟨ki, le, we, ti, u1, u2, u3, u4, u5, u6, u7, u8⟩, v2, v3, v4, v5, v6, v7, v8, v9⟩ := hBv k hK
  have e36 : m.1 36 k = nI ti := (hBk.2.2.2.2.2.2.2.2.2.2 (by rw [hsg]; exact znI_ne_m1 (by omega))).trans u8
  have e34 : m.1 34 k = c.1 (58 + k) 7 := hBk.2.2.2.2.2.2.1
  have e35 : m.1 35 k = c.1 (58 + k) 8 := hBk.2.2.2.2.2.2.2.1
  have pay : ∃ c' m', f_X6_goOver_13 c (58 + k) = some ((), c') ∧ f_X7_goesOver_136 (zwI m 36 k (nI (ti + 1))) (nI k) = some ((), m') ∧ m'.1 0 52 = m.1 0 52 ∧ zR5 nS nK nG nB nw c' m' ∧ (∀ q j, q < 58 → c'.1 q j = c.1 q j) := by
    refine ⟨zwI (zwI (zwI (zwL (zwL c 8 0 (c.2 8 0 - (c.1 (58 + k) 7).toInt64)) 8 1 (c.2 8 1 - (c.1 (58 + k) 8).toInt64)) (58 + k) 7 0) (58 + k) 8 0) (58 + k) 0 (-1), zwI (zwI (zwI (zwL (zwL (zwI m 36 k (nI (ti + 1))) 0 49 (m.2 0 49 - (m.1 34 k).toInt64)) 0 50 (m.2 0 50 - (m.1 35 k).toInt64)) 34 k 0) 35 k 0) 28 k 0, ?_, ?_, by simp (disch := omega) only [zr_n, zr_L1], ?_, by intro q j hq; simp (disch := omega) only [zr_n, zr_L1]⟩
    · unfold f_X6_goOver_13 f_X6_payBack
      simp (disch := omega) only [↓zlet_eq, zbs, zc0, zc1, zr_n, zr_L1, zrL_n]
    · unfold f_X7_goesOver_136
      simp (disch := omega) only [↓zlet_eq, zbs, zif_in, ztN, zr_n, zr_L1, zr_I2, zrL_n]
    · refine ⟨⟨⟨by simp (disch := omega) only [zr_n, zr_L1]; exact hn.1.1, by simp (disch := omega) only [zr_n, zr_L1]; exact hn.1.2.1, by simp (disch := omega) only [zr_n, zr_L1]; exact hn.1.2.2.1, by simp (disch := omega) only [zr_n, zr_L1]; exact hn.1.2.2.2.1, by simp (disch := omega) only [zr_n, zr_L1]; exact hn.1.2.2.2.2⟩, ⟨by simp (disch := omega) only [zr_n, zr_L1]; exact hn.2.1.1, by simp (disch := omega) only [zr_n, zr_L1]; exact hn.2.1.2.1, by simp (disch := omega) only [zr_n, zr_L1]; exact hn.2.1.2.2.1, by simp (disch := omega) only [zr_n, zr_L1]; exact hn.2.1.2.2.2.1, by simp (disch := omega) only [zr_n, zr_L1]; exact hn.2.1.2.2.2.2⟩, hn.2.2⟩, zRs_cg hs (by intros; first | rfl | simp (disch := omega) only [zr_n, zr_L1, zr_I2, zrL_n]) (by intros; first | rfl | simp (disch := omega) only [zr_n, zr_L1, zr_I2, zrL_n]) (by intros; first | rfl | simp (disch := omega) only [zr_n, zr_L1, zr_I2, zrL_n]) (by intros; first | rfl | simp (disch := omega) only [zr_n, zr_L1, zr_I2, zrL_n]), zRv_cg hv (by omega) (by intros; first | rfl | simp (disch := omega) only [zr_n, zr_L1, zr_I2, zrL_n]), zRw_cg hw (by intros; first | rfl | simp (disch := omega) only [zr_n, zr_L1, zr_I2, zrL_n]) (by intros; first | rfl | simp (disch := omega) only [zr_n, zr_L1, zr_I2, zrL_n]) (by intros; first | rfl | simp (disch := omega) only [zr_n, zr_L1, zr_I2, zrL_n]), zRk_cg hk (by omega) (by intros; first | rfl | simp (disch := omega) only [zr_n, zr_L1, zr_I2, zrL_n]) (by intros; first | rfl | simp (disch := omega) only [zr_n, zr_L1, zr_I2, zrL_n]) (by intros; first | rfl | simp (disch := omega) only [zr_n, zr_L1, zr_I2, zrL_n]), zRh_cg hh (by intro i hi; refine ⟨?_, ?_, ?_⟩ <;> first | rfl | simp (disch := omega) only [zr_n, zr_L1, zr_I2, zrL_n]) (by intros; first | rfl | simp (disch := omega) only [zr_n, zr_L1, zr_I2, zrL_n]), zRb_cg hb (by intros; first | rfl | simp (disch := omega) only [zr_n, zr_L1, zr_I2, zrL_n]) (by intros; first | rfl | simp (disch := omega) only [zr_n, zr_L1, zr_I2, zrL_n]) (by intros; first | rfl | simp (disch := omega) only [zr_n, zr_L1, zr_I2, zrL_n]), zRp_cg hp (by intros; first | rfl | simp (disch := omega) only [zr_n, zr_L1, zr_I2, zrL_n]) (by intros; first | rfl | simp (disch := omega) only [zr_n, zr_L1, zr_I2, zrL_n]), zRg_cg hg (by intros; first | rfl | simp (disch := omega) only [zr_n, zr_L1, zr_I2, zrL_n]) (by intros; first | rfl | simp (disch := omega) only [zr_n, zr_L1, zr_I2, zrL_n]), zRgv_cg hgv (by omega) (by intros; first | rfl | simp (disch := omega) only [zr_n, zr_L1, zr_I2, zrL_n]) (by intros; first | rfl | simp (disch := omega) only [zr_n, zr_L1, zr_I2, zrL_n]), zRo_cg ho (by intros; first | rfl | simp (disch := omega) only [zr_n, zr_L1, zr_I2, zrL_n]), zRz_cg hz (by intros; first | rfl | simp (disch := omega) only [zr_n, zr_L1, zr_I2, zrL_n]) (by intros; first | rfl | simp (disch := omega) only [zr_n, zr_L1, zr_I2, zrL_n]), ?_, ?_, zRZ_cg hZ (by intros; first | rfl | simp (disch := omega) only [zr_n, zr_L1, zr_I2, zrL_n]) (by intros; first | rfl | simp (disch := omega) only [zr_n, zr_L1, zr_I2, zrL_n]), ?_⟩
      · intro k' hk'
        have hq := hB k' hk'
        by_cases hkk : k' = k
        · subst hkk
          have em : (0 : Int32) = -1 + 1 := by decide
          simp (disch := omega) only [zr_n, zr_e, zr_L1, hq.2.1, hq.2.2.1, hq.2.2.2.1, hq.2.2.2.2.1, hq.2.2.2.2.2.1, hq.2.2.2.2.2.2.2.2.1, hq.2.2.2.2.2.2.2.2.2.1, not_true_eq_false, false_implies, and_true, true_and]
          exact em
        · simp (disch := omega) only [zr_n, zr_L1]
          exact hq
      · intro k' hk'
        have hq := hBv k' hk'
        by_cases hkk : k' = k
        · subst hkk
          simp (disch := omega) only [zr_n, zr_e, zr_L1]
          refine ⟨hq.1, hq.2.1, hq.2.2.1, hq.2.2.2.1, Or.inl trivial, hq.2.2.2.2.2.1, hq.2.2.2.2.2.2.1, fun _ => ⟨trivial, trivial, hon⟩, fun q => absurd (hon.symm.trans q) (by decide)⟩
        · refine ⟨?_, ?_, ?_, ?_, ?_, ?_, ?_, ?_, fun q j hj e => ?_⟩
          · simp (disch := omega) only [zr_n, zr_L1]; exact hq.1
          · simp (disch := omega) only [zr_n, zr_L1]; exact hq.2.1
          · simp (disch := omega) only [zr_n, zr_L1]; exact hq.2.2.1
          · simp (disch := omega) only [zr_n, zr_L1]; exact hq.2.2.2.1
          · simp (disch := omega) only [zr_n, zr_L1]; exact hq.2.2.2.2.1
          · simp (disch := omega) only [zr_n, zr_L1]; exact hq.2.2.2.2.2.1
          · simp (disch := omega) only [zr_n, zr_L1]; exact hq.2.2.2.2.2.2.1
          · simp (disch := omega) only [zr_n, zr_L1]; exact hq.2.2.2.2.2.2.2.1
          · simp (disch := omega) only [zr_n, zr_L1] at q e ⊢; exact hq.2.2.2.2.2.2.2.2 q j hj e
      · refine ⟨?_, ?_, ?_⟩
        · simp (disch := omega) only [zr_I2, zrL_n, zrL_e, ha.1, e34]
        · simp (disch := omega) only [zr_I2, zrL_n, zrL_e, ha.2.1, e35]
        · simp (disch := omega) only [zr_I2, zrL_n]
          exact ha.2.2
  have h31 : nI ti + 1 = nI (ti + 1) := nI_1 _
  rw [f_X7_goesOver_14, hm19, zif_le (Nat.le_refl _) (by omega)]
  unfold f_X6_goOver
  simp (disch := omega) only [zif_in, ztN, ↓zlet_eq, e36, h31, zr_e]
  rcases hnl with rfl | ⟨j, hj, rfl⟩
  · rw [if_pos rfl, if_pos rfl]
    exact pay
  have hne := znI_ne_m1 (a := j) (by omega)
  rw [if_neg hne, if_neg hne, u8]
  by_cases ht : ti = 2
  · subst ht
    rw [if_neg (by decide), if_pos (by decide)]
    exact pay
  have q1 : nI ti < (2 : Int32) := nI_lt (b := 2) (by omega) (by omega)
  have q2 : ¬ nI (ti + 1) = (3 : Int32) := fun q => ht (by
    have := (nI_eq (b := 3) (by omega) (by omega)).mp q
    omega)
  rw [if_pos q1, if_neg q2]
  refine ⟨zwI (zwI c (58 + k) 0 (nI j)) (58 + k) 6 (nI (ti + 1)), zwI (zwI m 36 k (nI (ti + 1))) 28 k (nI (j + 1)), ?_, ?_, by simp (disch := omega) only [zr_n], ?_, by intro q j hq; simp (disch := omega) only [zr_n]⟩
  · simp (disch := omega) only [zr_n, u8, h31]
  · rw [nI_1]
  · refine ⟨⟨⟨by simp (disch := omega) only [zr_n, zr_L1]; exact hn.1.1, by simp (disch := omega) only [zr_n, zr_L1]; exact hn.1.2.1, by simp (disch := omega) only [zr_n, zr_L1]; exact hn.1.2.2.1, by simp (disch := omega) only [zr_n, zr_L1]; exact hn.1.2.2.2.1, by simp (disch := omega) only [zr_n, zr_L1]; exact hn.1.2.2.2.2⟩, ⟨by simp (disch := omega) only [zr_n, zr_L1]; exact hn.2.1.1, by simp (disch := omega) only [zr_n, zr_L1]; exact hn.2.1.2.1, by simp (disch := omega) only [zr_n, zr_L1]; exact hn.2.1.2.2.1, by simp (disch := omega) only [zr_n, zr_L1]; exact hn.2.1.2.2.2.1, by simp (disch := omega) only [zr_n, zr_L1]; exact hn.2.1.2.2.2.2⟩, hn.2.2⟩, zRs_cg hs (by intros; first | rfl | simp (disch := omega) only [zr_n, zr_L1, zr_I2, zrL_n]) (by intros; first | rfl | simp (disch := omega) only [zr_n, zr_L1, zr_I2, zrL_n]) (by intros; first | rfl | simp (disch := omega) only [zr_n, zr_L1, zr_I2, zrL_n]) (by intros; first | rfl | simp (disch := omega) only [zr_n, zr_L1, zr_I2, zrL_n]), zRv_cg hv (by omega) (by intros; first | rfl | simp (disch := omega) only [zr_n, zr_L1, zr_I2, zrL_n]), zRw_cg hw (by intros; first | rfl | simp (disch := omega) only [zr_n, zr_L1, zr_I2, zrL_n]) (by intros; first | rfl | simp (disch := omega) only [zr_n, zr_L1, zr_I2, zrL_n]) (by intros; first | rfl | simp (disch := omega) only [zr_n, zr_L1, zr_I2, zrL_n]), zRk_cg hk (by omega) (by intros; first | rfl | simp (disch := omega) only [zr_n, zr_L1, zr_I2, zrL_n]) (by intros; first | rfl | simp (disch := omega) only [zr_n, zr_L1, zr_I2, zrL_n]) (by intros; first | rfl | simp (disch := omega) only [zr_n, zr_L1, zr_I2, zrL_n]), zRh_cg hh (by intro i hi; refine ⟨?_, ?_, ?_⟩ <;> first | rfl | simp (disch := omega) only [zr_n, zr_L1, zr_I2, zrL_n]) (by intros; first | rfl | simp (disch := omega) only [zr_n, zr_L1, zr_I2, zrL_n]), zRb_cg hb (by intros; first | rfl | simp (disch := omega) only [zr_n, zr_L1, zr_I2, zrL_n]) (by intros; first | rfl | simp (disch := omega) only [zr_n, zr_L1, zr_I2, zrL_n]) (by intros; first | rfl | simp (disch := omega) only [zr_n, zr_L1, zr_I2, zrL_n]), zRp_cg hp (by intros; first | rfl | simp (disch := omega) only [zr_n, zr_L1, zr_I2, zrL_n]) (by intros; first | rfl | simp (disch := omega) only [zr_n, zr_L1, zr_I2, zrL_n]), zRg_cg hg (by intros; first | rfl | simp (disch := omega) only [zr_n, zr_L1, zr_I2, zrL_n]) (by intros; first | rfl | simp (disch := omega) only [zr_n, zr_L1, zr_I2, zrL_n]), zRgv_cg hgv (by omega) (by intros; first | rfl | simp (disch := omega) only [zr_n, zr_L1, zr_I2, zrL_n]) (by intros; first | rfl | simp (disch := omega) only [zr_n, zr_L1, zr_I2, zrL_n]), zRo_cg ho (by intros; first | rfl | simp (disch := omega) only [zr_n, zr_L1, zr_I2, zrL_n]), zRz_cg hz (by intros; first | rfl | simp (disch := omega) only [zr_n, zr_L1, zr_I2, zrL_n]) (by intros; first | rfl | simp (disch := omega) only [zr_n, zr_L1, zr_I2, zrL_n]), ?_, ?_, zRZ_cg hZ (by intros; first | rfl | simp (disch := omega) only [zr_n, zr_L1, zr_I2, zrL_n]) (by intros; first | rfl | simp (disch := omega) only [zr_n, zr_L1, zr_I2, zrL_n]), zRa_cg ha (by intros; first | rfl | simp (disch := omega) only [zr_n, zr_L1, zr_I2, zrL_n]) (by intros; first | rfl | simp (disch := omega) only [zr_n, zr_L1, zr_I2, zrL_n])⟩
    · intro k' hk'
      have hq := hB k' hk'
      by_cases hkk : k' = k
      · subst hkk
        simp (disch := omega) only [zr_n, zr_e, hq.2.1, hq.2.2.1, hq.2.2.2.1, hq.2.2.2.2.1, hq.2.2.2.2.2.1, hq.2.2.2.2.2.2.1, hq.2.2.2.2.2.2.2.1, hq.2.2.2.2.2.2.2.2.1, hq.2.2.2.2.2.2.2.2.2.1, nI_1, implies_true, and_self]
      · simp (disch := omega) only [zr_n]
        exact hq
    · intro k' hk'
      have hq := hBv k' hk'
      by_cases hkk : k' = k
      · subst hkk
        simp (disch := omega) only [zr_n, zr_e]
        refine ⟨⟨ki, le, we, ti + 1, u1, u2, u3, by omega, u5, u6, u7, rfl⟩, hq.2.1, hq.2.2.1, hq.2.2.2.1, Or.inr ⟨j, hj, rfl⟩, hq.2.2.2.2.2.1, hq.2.2.2.2.2.2.1, fun q => absurd q hne, fun q => absurd (hon.symm.trans q) (by decide)⟩
      · refine ⟨?_, ?_, ?_, ?_, ?_, ?_, ?_, ?_, fun q j hj e => ?_⟩
        · simp (disch := omega) only [zr_n]; exact hq.1
        · simp (disch := omega) only [zr_n]; exact hq.2.1
        · simp (disch := omega) only [zr_n]; exact hq.2.2.1
        · simp (disch := omega) only [zr_n]; exact hq.2.2.2.1
        · simp (disch := omega) only [zr_n]; exact hq.2.2.2.2.1
        · simp (disch := omega) only [zr_n]; exact hq.2.2.2.2.2.1
        · simp (disch := omega) only [zr_n]; exact hq.2.2.2.2.2.2.1
        · simp (disch := omega) only [zr_n]; exact hq.2.2.2.2.2.2.2.1
        · simp (disch := omega) only [zr_n] at q e ⊢; exact hq.2.2.2.2.2.2.2.2 q j hj e
theorem zsend_lp {g : Nat} (hgG : g < nG) : ∀ (r n i : Nat) (acc : Int32) (c m : zSt), zR5 nS nK nG nB nw c m → i + r = nB → r < n → ∃ acc' c' m', f_X6_sendOver_4 n c (nI g) acc (nI i) = some (acc', c') ∧ f_X7_empties_4 n m (nI g) acc (nI i) = some (acc', m') ∧ m'.1 0 52 = m.1 0 52 ∧ zR5 nS nK nG nB nw c' m' ∧ (∀ q j, q < 58 → c'.1 q j = c.1 q j)
  | 0, n + 1, i, acc, c, m, h, hi, _ => by
    have hl : nB ≤ 40 := h.1.2.2.2.2.2.1
    refine ⟨acc, c, m, ?_, ?_, rfl, h, fun _ _ _ => rfl⟩
    · rw [f_X6_sendOver_4, h.1.1.2.2.2.1, zif_le (by omega) (by omega)]
    · rw [f_X7_empties_4, h.1.2.1.2.2.2.1, zif_le (by omega) (by omega)]
  | r + 1, n + 1, i, acc, c, m, h, hi, hr => by
    have hl : nB ≤ 40 := h.1.2.2.2.2.2.1
    have hG : nG ≤ 24 := h.1.2.2.2.2.1
    have hBi := h.2.2.2.2.2.2.2.2.2.2.2.2.1 i (by omega)
    rw [f_X6_sendOver_4, h.1.1.2.2.2.1, zif_nle (by omega) (by omega), kB_yes h.1.1.2.2.2.1 (by omega) hl, zbs, nI_1, f_X7_empties_4, h.1.2.1.2.2.2.1, zif_nle (by omega) (by omega)]
    simp (disch := omega) only [zif_in, ztN, nI_1, hBi.1, hBi.2.2.2.2.2.2.2.2.1]
    have hiff : (c.1 (58 + i) 0 + 1 = nI (g + 1)) ↔ c.1 (58 + i) 0 = nI g := by
      rw [← nI_1]
      exact Int32.add_left_inj 1
    have ih := zsend_lp hgG r n (i + 1)
    by_cases h1 : c.1 (58 + i) 0 = nI g
    · rw [if_pos h1, if_pos (hiff.mpr h1)]
      by_cases h2 : c.1 (58 + i) 11 = 0
      · rw [if_pos h2, if_pos h2, next_eq h hgG, zbs]
        have hnl : (zln c g nG).1 = -1 ∨ ∃ j : Nat, j < nG ∧ (zln c g nG).1 = nI j := by
          rcases zln_spec c g nG with e | ⟨j, hj, e⟩
          · exact Or.inl (by rw [e])
          · exact Or.inr ⟨j, hj, by rw [e]⟩
        obtain ⟨c1, m1, w1, w2, w3, w4, w5⟩ := zGo h (show i < nB by omega) hgG h1 h2 _ hnl
        obtain ⟨acc', c', m', x1, x2, x3, x4, x5⟩ := ih (acc + 1) c1 m1 w4 (by omega) (by omega)
        refine ⟨acc', c', m', ?_, ?_, x3.trans w3, x4, fun q j hq => (x5 q j hq).trans (w5 q j hq)⟩
        · dsimp only
          rw [w1, zbs]
          exact x1
        · have : f_X7_goesOver m (nI i) = some ((), m1) := by
            unfold f_X7_goesOver
            rw [zif_in (by omega) (by omega), ztN (by omega), hBi.1, h1, nI_1, zm1]
            exact (nextM_lp h hgG nG 64 0 (-1) (by omega) (by omega) rfl).trans w2
          rw [this, zbs]
          exact x2
      · rw [if_neg h2, if_neg h2]
        exact ih acc c m h (by omega) (by omega)
    · rw [if_neg h1, if_neg (fun q => h1 (hiff.mp q))]
      exact ih acc c m h (by omega) (by omega)
theorem zsend (h : zR5 nS nK nG nB nw c m) {g : Nat} (hgG : g < nG) : ∃ acc' c' m', f_X6_sendOver c (nI g) = some (acc', c') ∧ f_X7_empties m (nI g) = some (acc', m') ∧ m'.1 0 52 = m.1 0 52 ∧ zR5 nS nK nG nB nw c' m' ∧ (∀ q j, q < 58 → c'.1 q j = c.1 q j) := by
  have hl : nB ≤ 40 := h.1.2.2.2.2.2.1
  exact zsend_lp hgG nB 64 0 0 c m h (by omega) (by omega)
/-- a planned sailing is cancelled -/
theorem zOff (h5 : zR5 nS nK nG nB nw c m) {g : Nat} (hgG : g < nG) (h0 : c.1 (34 + g) 6 = 0) (rr : Int32) : zR5 nS nK nG nB nw (zwI (zwI c (34 + g) 6 1) (34 + g) 7 rr) (zwI (zwI m 22 g 1) 23 g rr) := by
  obtain ⟨hn, hs, hv, hw, hk, hh, hb, hp, hg, hgv, ho, hz, hB, hBv, hZ, ha⟩ := id h5
  obtain ⟨l1, l2, l3, l4, l5⟩ := hn.2.2
  refine ⟨⟨⟨by simp (disch := omega) only [zr_n, zr_L1]; exact hn.1.1, by simp (disch := omega) only [zr_n, zr_L1]; exact hn.1.2.1, by simp (disch := omega) only [zr_n, zr_L1]; exact hn.1.2.2.1, by simp (disch := omega) only [zr_n, zr_L1]; exact hn.1.2.2.2.1, by simp (disch := omega) only [zr_n, zr_L1]; exact hn.1.2.2.2.2⟩, ⟨by simp (disch := omega) only [zr_n, zr_L1]; exact hn.2.1.1, by simp (disch := omega) only [zr_n, zr_L1]; exact hn.2.1.2.1, by simp (disch := omega) only [zr_n, zr_L1]; exact hn.2.1.2.2.1, by simp (disch := omega) only [zr_n, zr_L1]; exact hn.2.1.2.2.2.1, by simp (disch := omega) only [zr_n, zr_L1]; exact hn.2.1.2.2.2.2⟩, hn.2.2⟩, zRs_cg hs (by intros; first | rfl | simp (disch := omega) only [zr_n, zr_L1, zr_I2, zrL_n]) (by intros; first | rfl | simp (disch := omega) only [zr_n, zr_L1, zr_I2, zrL_n]) (by intros; first | rfl | simp (disch := omega) only [zr_n, zr_L1, zr_I2, zrL_n]) (by intros; first | rfl | simp (disch := omega) only [zr_n, zr_L1, zr_I2, zrL_n]), zRv_cg hv (by omega) (by intros; first | rfl | simp (disch := omega) only [zr_n, zr_L1, zr_I2, zrL_n]), zRw_cg hw (by intros; first | rfl | simp (disch := omega) only [zr_n, zr_L1, zr_I2, zrL_n]) (by intros; first | rfl | simp (disch := omega) only [zr_n, zr_L1, zr_I2, zrL_n]) (by intros; first | rfl | simp (disch := omega) only [zr_n, zr_L1, zr_I2, zrL_n]), zRk_cg hk (by omega) (by intros; first | rfl | simp (disch := omega) only [zr_n, zr_L1, zr_I2, zrL_n]) (by intros; first | rfl | simp (disch := omega) only [zr_n, zr_L1, zr_I2, zrL_n]) (by intros; first | rfl | simp (disch := omega) only [zr_n, zr_L1, zr_I2, zrL_n]), zRh_cg hh (by intro i hi; refine ⟨?_, ?_, ?_⟩ <;> first | rfl | simp (disch := omega) only [zr_n, zr_L1, zr_I2, zrL_n]) (by intros; first | rfl | simp (disch := omega) only [zr_n, zr_L1, zr_I2, zrL_n]), zRb_cg hb (by intros; first | rfl | simp (disch := omega) only [zr_n, zr_L1, zr_I2, zrL_n]) (by intros; first | rfl | simp (disch := omega) only [zr_n, zr_L1, zr_I2, zrL_n]) (by intros; first | rfl | simp (disch := omega) only [zr_n, zr_L1, zr_I2, zrL_n]), zRp_cg hp (by intros; first | rfl | simp (disch := omega) only [zr_n, zr_L1, zr_I2, zrL_n]) (by intros; first | rfl | simp (disch := omega) only [zr_n, zr_L1, zr_I2, zrL_n]), ?_, ?_, ?_, zRz_cg hz (by intros; first | rfl | simp (disch := omega) only [zr_n, zr_L1, zr_I2, zrL_n]) (by intros; first | rfl | simp (disch := omega) only [zr_n, zr_L1, zr_I2, zrL_n]), zRB_cg hB (by intros; first | rfl | simp (disch := omega) only [zr_n, zr_L1, zr_I2, zrL_n]) (by intros; first | rfl | simp (disch := omega) only [zr_n, zr_L1, zr_I2, zrL_n]), ?_, zRZ_cg hZ (by intros; first | rfl | simp (disch := omega) only [zr_n, zr_L1, zr_I2, zrL_n]) (by intros; first | rfl | simp (disch := omega) only [zr_n, zr_L1, zr_I2, zrL_n]), zRa_cg ha (by intros; first | rfl | simp (disch := omega) only [zr_n, zr_L1, zr_I2, zrL_n]) (by intros; first | rfl | simp (disch := omega) only [zr_n, zr_L1, zr_I2, zrL_n])⟩
  · intro k hk'
    have hq := hg k hk'
    by_cases hkg : k = g
    · subst hkg
      have e12 : (1 : Int32) = 2 ↔ False := by decide
      simp (disch := omega) only [zr_n, zr_e, hq.1, hq.2.1, hq.2.2.1, hq.2.2.2.1, hq.2.2.2.2.1, hq.2.2.2.2.2.2.1, not_true_eq_false, e12, z10, false_implies, implies_true, and_self]
    · simp (disch := omega) only [zr_n]
      exact hq
  · intro k hk'
    obtain ⟨s', f', t', h', d', x', z', sp', b', r0, r1, r2, r3, r4, r5, r6, r7, r8⟩ := hgv k hk'
    by_cases hkg : k = g
    · subst hkg
      refine ⟨s', f', t', h', d', x', 1, sp', ⟨b'.1, b'.2.1, b'.2.2.1, b'.2.2.2.1, b'.2.2.2.2.1, b'.2.2.2.2.2.1, by omega, b'.2.2.2.2.2.2.2.1, b'.2.2.2.2.2.2.2.2.1, b'.2.2.2.2.2.2.2.2.2.1, fun q => by omega⟩, ?_⟩
      simp (disch := omega) only [zr_n, zr_e]
      exact ⟨r0, r1, r2, r3, r4, r5, rfl, r7, r8⟩
    · refine ⟨s', f', t', h', d', x', z', sp', b', ?_⟩
      simp (disch := omega) only [zr_n]
      exact ⟨r0, r1, r2, r3, r4, r5, r6, r7, r8⟩
  · intro i' j' x1 x2 x3 x4 x5
    have k1 : ¬ i' = g := fun q => by rw [q] at x4; simp (disch := omega) only [zr_n, zr_e] at x4; exact x4 trivial
    have k2 : ¬ j' = g := fun q => by rw [q] at x5; simp (disch := omega) only [zr_n, zr_e] at x5; exact x5 trivial
    simp (disch := omega) only [zr_n] at x3 x4 x5 ⊢
    exact ho i' j' x1 x2 x3 x4 x5
  · exact zRBv_cg hBv (by intros; simp (disch := omega) only [zr_n]) (fun k hk e => by
      have : ¬ k = g := fun q => by rw [q, h0] at e; exact absurd e (by decide)
      simp (disch := omega) only [zr_n]
      exact e)
theorem P_cancel (a : Int32) (hR : zR c m) : zPair [(1, 1), (3, 2)] (f_X6_cancel c a) (fx_X6_cancel c a) (f_X7_cancel m a) (fun r b : Int32 => r = b) := by
  obtain ⟨nS, nK, nG, nB, nw, h5⟩ := id hR
  obtain ⟨hn, hs, hv, hw, hk, hh, hb, hp, hg, hgv, ho, hz, hB, hBv, hZ, ha⟩ := id h5
  obtain ⟨l1, l2, l3, l4, l5⟩ := hn.2.2
  have hc13 : c.1 0 13 = nI nG := hn.1.2.2.1
  have hm19 : m.1 0 19 = nI nG := hn.2.1.2.2.1
  rcases zIx a (n := nG) (by omega) with h | ⟨g, hgG, rfl⟩
  · refine zPair_x (k := 1) (v := 1) (c' := c) (b := 0) (m' := zwI m 0 52 1) (by simp) ?_ ?_ (zr_e _ _ _ _) (zR_th hR 1)
    · unfold fx_X6_cancel
      rw [kGx_no hc13 h, zorx_s]
    · unfold f_X7_cancel
      rw [hasG_no hm19 l3 h, zbs, if_pos rfl]
  have h5' := zR5_th (zR5_th h5 0) 0
  have hgi := hg g hgG
  have m22 : (zwI m 0 52 0).1 22 g = c.1 (34 + g) 6 := by rw [zr_n (by omega)]; exact hgi.2.2.2.2.2.1
  unfold f_X6_cancel fx_X6_cancel f_X7_cancel f_X7_cancel_28
  rw [kGx_yes hc13 hgG l3, zorx_n, kG_yes hc13 hgG l3, zbs, zbs, hasG_yes hm19 hgG l3, zbs, if_neg z10]
  simp (disch := omega) only [zif_in, ztN, m22, ↓zlet_eq, zr_e, z00, z2le0, ↓reduceIte]
  by_cases h0 : c.1 (34 + g) 6 = 0
  · rw [if_pos h0, if_pos h0, if_pos h0]
    obtain ⟨acc, c', m', w1, w2, w3, w4, _⟩ := zsend (zOff h5' hgG h0 7) hgG
    refine zPair_ok (r := acc) (c' := c') (b := acc) (m' := m') ?_ ?_ (w3.trans (by simp (disch := omega) only [zr_n, zr_e])) rfl ⟨_, _, _, _, _, w4⟩
    · unfold f_X6_callOff
      rw [kG_yes hc13 hgG l3, zbs, zlet_eq, zlet_eq, w1, zbs, zbs]
    · rw [w2, zbs]
  · rw [if_neg h0, if_neg h0, if_neg h0]
    exact zPair_x (k := 3) (v := 2) (by simp) rfl rfl (zr_e _ _ _ _) (zR_th (zR_th hR 0) 2)
end ZP5
