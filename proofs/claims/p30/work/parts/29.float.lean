/-! pairs, part seven: what a sailing burns, who sails it, what hinders it -/
section ZP7
variable {c m : zSt} {nS nK nG nB nw : Nat}
def zfb (q sp : Nat) : Bool :=
  decide (zn32 (FP.fmul (FP.i2f (nI q)) (FP.i2f (nI sp)))) && decide (zn32 (FP.fmul (FP.fmul (FP.i2f (nI q)) (FP.i2f (nI sp))) (FP.i2f (nI sp)))) && decide (zn32 (FP.fdiv (FP.fmul (FP.fmul (FP.i2f (nI q)) (FP.i2f (nI sp))) (FP.i2f (nI sp))) (1120403456 : UInt32))) && decide (FP.f2i (FP.fdiv (FP.fmul (FP.fmul (FP.i2f (nI q)) (FP.i2f (nI sp))) (FP.i2f (nI sp))) (1120403456 : UInt32)) = nI (q * sp * sp / 100))
theorem zfb_all : ((List.range 40).all fun s => (List.range (439 / (s + 1) + 1)).all fun q => zfb q (s + 1)) = true := by decide +kernel
theorem zfb_of {q sp : Nat} (h1 : 1 ≤ sp) (h2 : sp ≤ 40) (h3 : q * sp ≤ 439) : zfb q sp = true := by
  have a := List.all_eq_true.mp zfb_all (sp - 1) (List.mem_range.mpr (by omega))
  have e : sp - 1 + 1 = sp := by omega
  rw [e] at a
  have hq : q ≤ 439 / sp := (Nat.le_div_iff_mul_le (by omega)).mpr h3
  exact List.all_eq_true.mp a q (List.mem_range.mpr (by omega))
theorem burnsC {st : zSt} {r q sp : Nat} (h5 : st.1 r 5 = nI sp) (h1 : 1 ≤ sp) (h2 : sp ≤ 40) (h3 : q * sp ≤ 439) : f_X4_burns st r (nI q) = some (nI (q * sp * sp / 100), st) := by
  have a := zfb_of h1 h2 h3
  unfold zfb at a
  rw [Bool.and_eq_true, Bool.and_eq_true, Bool.and_eq_true, decide_eq_true_eq, decide_eq_true_eq, decide_eq_true_eq, decide_eq_true_eq] at a
  obtain ⟨⟨⟨a1, a2⟩, a3⟩, a4⟩ := a
  unfold f_X4_burns
  rw [h5, if_pos a1, if_pos a2, if_pos a3, a4]
/-- all that is known of a sailing's ship, hours and fuel -/
theorem zBurn (h : zR5 nS nK nG nB nw c m) {g : Nat} (hg : g < nG) : ∃ s sp q w x : Nat, (s < nS ∧ 1 ≤ sp ∧ sp ≤ 40 ∧ q * sp ≤ 439 ∧ 1 ≤ q ∧ q ≤ 400 ∧ w = q * sp * sp / 100 ∧ w ≤ 200 ∧ x ≤ 10000) ∧ c.1 (34 + g) 0 = nI s ∧ c.1 (14 + s) 5 = nI sp ∧ c.1 (34 + g) 3 = nI x ∧ c.1 (34 + g) 4 = nI (x + q) ∧ c.1 (34 + g) 4 - c.1 (34 + g) 3 = nI q ∧
    (∀ c2 : zSt, c2.1 (14 + s) 5 = c.1 (14 + s) 5 → f_X4_burns c2 (14 + s) (nI q) = some (nI w, c2)) ∧
    (∀ m2 : zSt, (m2.1 17 g = m.1 17 g ∧ m2.1 21 g = m.1 21 g ∧ ∀ k, m2.1 6 k = m.1 6 k) → f_X7_hoursOf m2 (nI g) = some (nI q, m2) ∧ f_X7_burns m2 (nI g) = some (nI w, m2)) := by
  obtain ⟨s, f, t, hh, d, e, z, sp, ⟨b1, b2, b3, b4, b5, b6, b7, b8, b9, b10, b11⟩, e0, e1, e2, e3, e4, e5, e6, e7, e8⟩ := zG_of h hg
  have hl : nG ≤ 24 := h.1.2.2.2.2.1
  have hS : nS ≤ 4 := h.1.2.2.1
  have hgi := h.2.2.2.2.2.2.2.2.1 g hg
  have hsp := (h.2.1 s (by omega)).1.2.2.2.2.2.1
  have hq1 : 1 ≤ (d + sp - 1) / sp := (Nat.le_div_iff_mul_le (by omega)).mpr (by omega)
  have hqs : (d + sp - 1) / sp * sp ≤ d + sp - 1 := Nat.div_mul_le_self _ _
  have hq2 : (d + sp - 1) / sp ≤ d := by
    have h1 : (d + sp - 1) / sp < d + 1 := (Nat.div_lt_iff_lt_mul (by omega)).mpr (by
      have h2 : d * 1 ≤ d * sp := Nat.mul_le_mul (Nat.le_refl _) b8
      have h3 : (d + 1) * sp = d * sp + sp := by rw [Nat.add_mul, Nat.one_mul]
      omega)
    omega
  have hce := zceil_eq b6 b8 b9
  generalize hq : (d + sp - 1) / sp = q at *
  have hw : q * sp * sp / 100 ≤ 200 := by
    have h1 : q * sp * sp ≤ 439 * 40 := Nat.mul_le_mul (by omega) b9
    omega
  have hh' : ∀ m2 : zSt, (m2.1 17 g = m.1 17 g ∧ m2.1 21 g = m.1 21 g ∧ ∀ k, m2.1 6 k = m.1 6 k) → f_X7_hoursOf m2 (nI g) = some (nI q, m2) := fun m2 hm => by
    unfold f_X7_hoursOf
    have hne : ¬ nI sp = 0 := nI_ne0 (by omega) (by omega)
    simp (disch := omega) only [zif_in, ztN, not_false_eq_true, ↓reduceIte, hm.1, hm.2.1, hgi.1, hgi.2.2.2.2.1, e0, e5, hm.2.2, hsp, e7, hne, hce]
  refine ⟨s, sp, q, q * sp * sp / 100, hh, ⟨b1, b8, b9, by omega, hq1, by omega, rfl, hw, b4⟩, e0, e7, e3, by rw [e4, b10], ?_, ?_, ?_⟩
  · rw [e4, e3, b10, pk_sub (by omega)]
    congr 1
    omega
  · intro c2 hc2
    exact burnsC (hc2.trans e7) b8 b9 (by omega)
  · intro m2 hm
    refine ⟨hh' m2 hm, ?_⟩
    unfold f_X7_burns
    have h100 : (100 : Int32) = nI 100 := rfl
    have h1 : q * sp * sp ≤ 439 * 40 := Nat.mul_le_mul (by omega) b9
    simp (disch := omega) only [zif_in, ztN, hm.1, hgi.1, e0, hh' m2 hm, zbs, hm.2.2, hsp, e7, pk_mul, h100]
    rw [pk_div (by omega) (by omega) (by omega)]
theorem zsum_nI (h : zR5 nS nK nG nB nw c m) {k d : Nat} : ∀ n, n ≤ nG → ∃ x : Nat, x ≤ 400 * n ∧ zsum c k d n = nI x
  | 0, _ => ⟨0, by omega, rfl⟩
  | n + 1, hn => by
    obtain ⟨x, hx, e⟩ := zsum_nI h (k := k) (d := d) n (by omega)
    obtain ⟨s, sp, q, w, y, b, e0, e1, e2, e3, e4, _⟩ := zBurn h (show n < nG by omega)
    rw [zsum]
    by_cases hc : c.1 (34 + n) 8 = nI k ∧ c.1 (34 + n) 3 / 24 = nI d
    · exact ⟨x + q, by omega, by rw [if_pos hc, e, e4, nI_add]⟩
    · exact ⟨x, by omega, by rw [if_neg hc, e]⟩
/-- the two searches for a crew answer alike -/
theorem crew_lp (h : zR5 nS nK nG nB nw c m) {g s q d : Nat} (hgG : g < nG) (hd : d < 501) (hq : q ≤ 400) (es : c.1 (34 + g) 0 = nI s) {m2 : zSt} (hm2 : ∀ j i, 8 ≤ j → j ≤ 21 → m2.1 j i = m.1 j i) (h9 : m2.1 0 9 = nI nK) (hho : f_X7_hoursOf m2 (nI g) = some (nI q, m2)) : ∀ (r n i : Nat), i + r = nK → r < n → ∃ k : Int32, f_X6_crewFor_24 n c (34 + g) (nI d) (12 - nI q) (nI i) = some (k, c) ∧ f_X7_crewFor_12 n m2 (nI g) (nI d) (nI i) = some (k, m2) ∧ (k = -1 ∨ ∃ j : Nat, j < nK ∧ k = nI j)
  | 0, n + 1, i, hi, _ => by
    have hK : nK ≤ 6 := h.1.2.2.2.1
    refine ⟨-1, ?_, ?_, Or.inl rfl⟩
    · rw [f_X6_crewFor_24, h.1.1.2.1, zif_le (by omega) (by omega)]
    · rw [f_X7_crewFor_12, h9, zif_le (by omega) (by omega)]
  | r + 1, n + 1, i, hi, hr => by
    have hK : nK ≤ 6 := h.1.2.2.2.1
    have hl : nG ≤ 24 := h.1.2.2.2.2.1
    have ih := crew_lp h hgG hd hq es hm2 h9 hho r n (i + 1) (by omega) (by omega)
    obtain ⟨⟨k1, k2, k3⟩, ks, ka, kb, hks, hka, hkb, e1, e2, e3⟩ := h.2.2.2.2.1 i (by omega)
    have hgi := h.2.2.2.2.2.2.2.2.1 g hgG
    have e286 : 22 + i + 6 = 28 + i := by omega
    have c8 : m2.1 8 i = nI ks := by rw [hm2 _ _ (by omega) (by omega), k1, e1]
    have c9 : m2.1 9 i = nI ka := by rw [hm2 _ _ (by omega) (by omega), k2, e2]
    have c10 : m2.1 10 i = nI kb := by rw [hm2 _ _ (by omega) (by omega), k3, e3]
    have c17 : m2.1 17 g = nI s := by rw [hm2 _ _ (by omega) (by omega), hgi.1, es]
    have c11 : m2.1 11 (501 * i + d) = zsum c i d nG := by rw [hm2 _ _ (by omega) (by omega)]; exact h.2.2.2.2.2.1 i d (by omega) hd
    obtain ⟨x, hx, ex⟩ := zsum_nI h (k := i) (d := d) nG (Nat.le_refl _)
    rw [f_X6_crewFor_24, h.1.1.2.1, zif_nle (by omega) (by omega), kK_yes h.1.1.2.1 (by omega) hK, zbs, f_X7_crewFor_12, h9, zif_nle (by omega) (by omega)]
    simp (disch := omega) only [zif_in, ztN, c8, c9, c10, c17, e1, es, e286, in_eq, zbs, f_X7_crewFor_58, f_X7_crewFor_61, z501, c11, hho, z10, nI_1, ↓reduceIte]
    by_cases h1 : nI ks = nI s
    · rw [if_pos h1, if_pos h1]
      unfold f_X5_has zwi
      rw [e2, e3]
      by_cases g1 : nI d < nI ka
      · rw [if_pos g1, if_pos g1, if_pos rfl, zbs, if_pos rfl]
        exact ih
      rw [if_neg g1, if_neg g1]
      by_cases g2 : nI kb < nI d
      · rw [if_pos g2, if_pos g2, if_pos rfl, zbs, if_pos rfl]
        exact ih
      rw [if_neg g2, if_neg g2, if_neg z10, zbs, if_neg z10, hoursSailed_eq h.1.1.2.2.1 hl, zbs, ex, nI_add]
      by_cases g3 : 12 < x + q
      · have a1 : (12 : Int32) < nI (x + q) := nI_lt (a := 12) g3 (by omega)
        have a2 : (12 : Int32) - nI q < nI x := by
          rw [zlt_i, zti (by omega), show (12 : Int32) = nI 12 from rfl, pk_sub_toInt (by omega) (by omega)]
          omega
        rw [if_pos a1, if_pos a2]
        exact ih
      · have a1 : ¬ (12 : Int32) < nI (x + q) := (show ¬ nI 12 < nI (x + q) from nI_nlt (by omega) (by omega))
        have a2 : ¬ (12 : Int32) - nI q < nI x := by
          rw [zlt_i, zti (by omega), show (12 : Int32) = nI 12 from rfl, pk_sub_toInt (by omega) (by omega)]
          omega
        rw [if_neg a1, if_neg a2]
        exact ⟨nI i, rfl, rfl, Or.inr ⟨i, by omega, rfl⟩⟩
    · rw [if_neg h1, if_neg h1]
      exact ih
/-- the crew that sails it, on both sides; the reference is asked twice -/
theorem zCrew (h : zR5 nS nK nG nB nw c m) {g : Nat} (hgG : g < nG) : ∃ k : Int32, f_X6_crewFor c (34 + g) = some (k, c) ∧ (∀ m2 : zSt, (∀ j i, 8 ≤ j → j ≤ 21 → m2.1 j i = m.1 j i) → (∀ i, m2.1 6 i = m.1 6 i) → m2.1 0 9 = nI nK → f_X7_crewFor m2 (nI g) = some (k, m2)) ∧ (k = -1 ∨ ∃ j : Nat, j < nK ∧ k = nI j) := by
  have hl : nG ≤ 24 := h.1.2.2.2.2.1
  have hK : nK ≤ 6 := h.1.2.2.2.1
  obtain ⟨s, sp, q, w, x, b, e0, e1, e2, e3, e4, e5, e6⟩ := zBurn h hgG
  have hgi := h.2.2.2.2.2.2.2.2.1 g hgG
  have hx24 : nI x / 24 = nI (x / 24) := by rw [show (24 : Int32) = nI 24 from rfl, pk_div (by omega) (by omega) (by omega)]
  have one := fun (m2 : zSt) (a : ∀ j i, 8 ≤ j → j ≤ 21 → m2.1 j i = m.1 j i) (a6 : ∀ i, m2.1 6 i = m.1 6 i) (a9 : m2.1 0 9 = nI nK) => crew_lp h hgG (show x / 24 < 501 by omega) (show q ≤ 400 by omega) e0 a a9 (e6 m2 ⟨a _ _ (by omega) (by omega), a _ _ (by omega) (by omega), a6⟩).1 nK 64 0 (by omega) (by omega)
  obtain ⟨k, r1, r2, r3⟩ := one m (fun _ _ _ _ => rfl) (fun _ => rfl) h.1.2.1.2.1
  refine ⟨k, ?_, ?_, r3⟩
  · unfold f_X6_crewFor
    rw [e2, hx24, ← e2, e4]
    exact r1
  · intro m2 a a6 a9
    obtain ⟨k', r1', r2', r3'⟩ := one m2 a a6 a9
    have : k' = k := congrArg Prod.fst (Option.some.inj (r1'.symm.trans r1))
    unfold f_X7_crewFor
    rw [zif_in (by omega) (by omega), ztN (by omega), a _ _ (by omega) (by omega), hgi.2.2.2.1, e2, hx24, ← this]
    exact r2'
/-- what hinders a sailing at its hour: alike on both sides -/
theorem zReason (h : zR5 nS nK nG nB nw c m) {g : Nat} (hgG : g < nG) : ∃ r : Int32, f_X6_reasonAgainst c (nI g) = some (r, c) ∧ f_X7_reasonFor m (nI g) = some (r, m) ∧ ((r = 0 ∧ (∃ k : Nat, k < nK ∧ f_X6_crewFor c (34 + g) = some (nI k, c)) ∧ ∀ s : Nat, s < nS → c.1 (34 + g) 0 = nI s → ∀ w : Nat, f_X4_burns c (14 + s) (c.1 (34 + g) 4 - c.1 (34 + g) 3) = some (nI w, c) → nI w ≤ c.1 (14 + s) 6) ∨ (¬ r ≤ 0 ∧ ∃ rr : Nat, 1 ≤ rr ∧ rr ≤ 7 ∧ r = nI rr)) := by
  have hl : nG ≤ 24 := h.1.2.2.2.2.1
  have hS : nS ≤ 4 := h.1.2.2.1
  obtain ⟨s, sp, q, w, x, b, e0, e1, e2, e3, e4, e5, e6⟩ := zBurn h hgG
  have e5c := e5 c rfl
  obtain ⟨_, e6b⟩ := e6 m ⟨rfl, rfl, fun _ => rfl⟩
  obtain ⟨k, k1, k2, k3⟩ := zCrew h hgG
  have k2m := k2 m (fun _ _ _ _ => rfl) (fun _ => rfl) h.1.2.1.2.1
  have hgi := h.2.2.2.2.2.2.2.2.1 g hgG
  have hsi := h.2.1 s (by omega)
  obtain ⟨bo, o1, o2⟩ := zhas (c := c) (m := m) (s := 18 + s) (w := x) (q := 2 + s) hsi.2.1 (by omega) (by omega) rfl rfl
  obtain ⟨bt, t1, t2⟩ := zhas (c := c) (m := m) (s := 9) (w := x) (q := 0) h.2.2.2.1.1 (by omega) (by omega) rfl rfl
  obtain ⟨bk, u1, u2⟩ := zhas (c := c) (m := m) (s := 10) (w := x) (q := 1) h.2.2.2.1.2 (by omega) (by omega) rfl rfl
  have e184 : 14 + s + 4 = 18 + s := by omega
  have h2s : (2 : Int32) + nI s = nI (2 + s) := by rw [z2, nI_add]
  have m17 : m.1 17 g = nI s := hgi.1.trans e0
  have m20 : m.1 20 g = nI x := hgi.2.2.2.1.trans e2
  have en := endOf_eq h hgG (m2 := m) ⟨⟨rfl, rfl, fun _ => rfl⟩, rfl⟩
  rw [e3] at en
  have hd5 := hsi.1.2.2.2.2.1
  have hf6 := hsi.1.2.2.2.2.2.2
  -- the last two tests
  have tail : ∃ r : Int32, f_X6_reasonAgainst_127 c (34 + g) (14 + s) = some (r, c) ∧ f_X7_reasonFor_115 m (nI g) (nI s) = some (r, m) ∧ ((r = 0 ∧ (∃ k : Nat, k < nK ∧ f_X6_crewFor c (34 + g) = some (nI k, c)) ∧ nI w ≤ c.1 (14 + s) 6) ∨ (¬ r ≤ 0 ∧ ∃ rr : Nat, 1 ≤ rr ∧ rr ≤ 7 ∧ r = nI rr)) := by
    unfold f_X6_reasonAgainst_127 f_X7_reasonFor_115
    rw [k1, k2m, zbs, zbs]
    rcases k3 with rfl | ⟨j, hj, rfl⟩
    · exact ⟨5, by rw [if_pos rfl], by rw [if_pos rfl], Or.inr ⟨by decide, 5, by decide, by decide, rfl⟩⟩
    · have hne := znI_ne_m1 (a := j) (by have : nK ≤ 6 := h.1.2.2.2.1; omega)
      rw [if_neg hne, if_neg hne, zif_in (by omega) (by omega), ztN (by omega)]
      dsimp only
      rw [e4, e5c, e6b, zbs, zbs, hf6]
      by_cases hw : nI w ≤ c.1 (14 + s) 6
      · exact ⟨0, by rw [if_pos hw], by rw [if_pos hw], Or.inl ⟨rfl, ⟨j, hj, rfl⟩, hw⟩⟩
      · exact ⟨6, by rw [if_neg hw], by rw [if_neg hw], Or.inr ⟨by decide, 6, by decide, by decide, rfl⟩⟩
  have main : ∃ r : Int32, f_X6_reasonAgainst c (nI g) = some (r, c) ∧ f_X7_reasonFor m (nI g) = some (r, m) ∧ ((r = 0 ∧ (∃ k : Nat, k < nK ∧ f_X6_crewFor c (34 + g) = some (nI k, c)) ∧ nI w ≤ c.1 (14 + s) 6) ∨ (¬ r ≤ 0 ∧ ∃ rr : Nat, 1 ≤ rr ∧ rr ≤ 7 ∧ r = nI rr)) := by
    obtain ⟨rt, y1, y2, y3⟩ := tail
    unfold f_X6_reasonAgainst f_X7_reasonFor
    simp (maxSteps := 4000000) (disch := omega) only [kG_yes h.1.1.2.2.1 hgG hl, ↓zbs, e0, kS_yes h.1.1.1 (show s < nS by omega) hS, e2, e3, where_eq h (show s < nS by omega), whereM_eq h (show s < nS by omega), zif_in, ztN, m17, m20, hgi.2.1, hgi.2.2.1, e184, o1, o2, h2s, depth_eq, depthOf_eq, hd5, en, t1, u1, show f_X7_hinders m 0 (nI x) = some (bt, m) from t2, show f_X7_hinders m 1 (nI x) = some (bk, m) from u2]
    by_cases q1 : zww c (nI s) (nI x) (c.1 (14 + s) 0) nG = c.1 (34 + g) 1
    case neg => exact ⟨1, by rw [if_neg q1], by rw [if_neg q1], Or.inr ⟨by decide, 1, by decide, by decide, rfl⟩⟩
    rw [if_pos q1, if_pos q1]
    by_cases q2 : bo = 0
    case neg => exact ⟨1, by rw [if_neg q2], by rw [if_neg q2], Or.inr ⟨by decide, 1, by decide, by decide, rfl⟩⟩
    rw [if_pos q2, if_pos q2]
    split
    · exact ⟨2, rfl, rfl, Or.inr ⟨by decide, 2, by decide, by decide, rfl⟩⟩
    split
    case isFalse => exact ⟨2, rfl, rfl, Or.inr ⟨by decide, 2, by decide, by decide, rfl⟩⟩
    by_cases q3 : bt = 0
    case neg => exact ⟨3, by rw [if_neg q3], by rw [if_neg q3], Or.inr ⟨by decide, 3, by decide, by decide, rfl⟩⟩
    rw [if_pos q3, if_pos q3]
    by_cases q4 : bk = 0
    · rw [if_pos q4, if_pos q4]
      exact ⟨rt, y1, y2, y3⟩
    rw [if_neg q4, if_neg q4]
    split
    · exact ⟨4, rfl, rfl, Or.inr ⟨by decide, 4, by decide, by decide, rfl⟩⟩
    · exact ⟨rt, y1, y2, y3⟩
  obtain ⟨r, r1, r2, r3⟩ := main
  refine ⟨r, r1, r2, r3.imp_left (fun ⟨z1, z2, z3⟩ => ⟨z1, z2, fun s' hs' es w' hw' => ?_⟩)⟩
  have hss : s' = s := (nI_eq (by omega) (by omega)).mp (es.symm.trans e0)
  subst hss
  rw [e4, e5c] at hw'
  have : nI w = nI w' := congrArg Prod.fst (Option.some.inj hw')
  rw [← this]
  exact z3
end ZP7
