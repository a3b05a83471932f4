/-! pairs, part fifteen: a sailing's hour -/
section ZP15
variable {c c' m m' : zSt} {nS nK nG nB nw : Nat}
set_option maxHeartbeats 8000000 in
theorem zSail (h5 : zR5 nS nK nG nB nw c m) {g : Nat} (hgG : g < nG) (h0 : c.1 (34 + g) 6 = 0) (h52 : m.1 0 52 = 0) (hcrew : ∃ k : Nat, k < nK ∧ f_X6_crewFor c (34 + g) = some (nI k, c)) (hfuel : ∀ s : Nat, s < nS → c.1 (34 + g) 0 = nI s → ∀ w : Nat, f_X4_burns c (14 + s) (c.1 (34 + g) 4 - c.1 (34 + g) 3) = some (nI w, c) → nI w ≤ c.1 (14 + s) 6) :
    ∃ c' m1 acc m', f_X6_setSail c (nI g) = some ((), c') ∧ f_X7_sails (zwI m 23 g 0) (nI g) = some ((), m1) ∧ f_X7_empties m1 (nI g) = some (acc, m') ∧ m'.1 0 52 = 0 ∧ zR5 nS nK nG nB nw c' m' ∧ (∀ i, i < nG → c'.1 (34 + i) 3 = c.1 (34 + i) 3) ∧ (∀ i, i < nG → i ≠ g → c'.1 (34 + i) 6 = c.1 (34 + i) 6) ∧ c'.1 (34 + g) 6 = 2  ∧ (∀ F, zJ F nG nB c → zJ F nG nB c') := by
  obtain ⟨l1, l2, l3, l4, l5⟩ := h5.1.2.2
  obtain ⟨s, sp, q, w, x, ⟨hsS, hsp1, hsp2, hqs, hq1, hq4, hwq, hw200, hx⟩, e0, e1, e2, e3, e4, e5, e6⟩ := zBurn h5 hgG
  obtain ⟨kk, hkk, hcr⟩ := hcrew
  obtain ⟨k, k1, k2, _⟩ := zCrew h5 hgG
  have hkk' : k = nI kk := congrArg Prod.fst (Option.some.inj (k1.symm.trans hcr))
  subst hkk'
  have hss := h5.2.1 s (by omega)
  obtain ⟨t, ht1, ht⟩ := hss.2.2
  have hw : w ≤ t := by
    have := hfuel s hsS e0 w (by rw [e4]; exact e5 c rfl)
    rw [ht, zle_i, zti (by omega), zti (by omega)] at this
    omega
  have hgi := h5.2.2.2.2.2.2.2.2.1 g hgG
  have h00 := hgi.2.2.2.2.2.2.2.2.2.2 h0
  have zS := zSetOut (sp := sp) h5 hgG h0 e0 hsS hkk ht ht1 hw e2 hx e4
  have hl0 : ∀ k, k < nB → c.1 (58 + k) 0 = nI g → c.1 (58 + k) 4 = -1 := fun k hk hkg => by
    obtain ⟨p1, p2, p3, p4, p5, p6, p7, p8, p9⟩ := h5.2.2.2.2.2.2.2.2.2.2.2.2.2.1 k hk
    rcases p4 with h | h
    · exact p7 h
    · exact absurd (h0.symm.trans (p9 h g hgG hkg)) (by decide)
  -- the class until the deck is clear
  obtain ⟨cC, C1, C2, C3, C4, C5, C6, C7, C8, C9, C10, C11⟩ := clear_eq (zwI (zwI (zwI c (34 + g) 8 (nI kk)) (34 + g) 6 2) (14 + s) 6 (nI (t - w))) (r := 14 + s) (by omega)
  have CC : ∀ q i, q < 11 ∨ 14 ≤ q → (q ≠ 34 + g ∨ (i ≠ 8 ∧ i ≠ 6)) → (q ≠ 14 + s ∨ i ≠ 6) → cC.1 q i = c.1 q i := fun q i a1 a2 a3 => by
    rw [C3 q i a1]
    simp (disch := omega) only [zr_n]
  have C6' : cC.1 (34 + g) 6 = 2 := by rw [C3 _ _ (by omega)]; simp (disch := omega) only [zr_n, zr_e]
  obtain ⟨la, hla, hla1, hla4⟩ : ∃ la : Nat, c.1 (14 + s) 1 = nI la ∧ 1 ≤ la ∧ la ≤ 4 := by
    obtain ⟨ho', la', le', we', dr', sp', hb', q0, q1, -⟩ := h5.2.2.1 s hsS
    exact ⟨la', q1, hb'.2.1, hb'.2.2.1⟩
  -- the reference until then
  have hidx : 501 * kk + x / 24 < 3006 := by omega
  have hx24 : nI x / 24 = nI (x / 24) := by rw [show (24 : Int32) = nI 24 from rfl, pk_div (by omega) (by omega) (by omega)]
  have hRef : f_X7_sails (zwI m 23 g 0) (nI g) = f_X7_sails_60 64 (zwI (zwI (zwI (zwI m 23 g 0) 22 g 2) 7 s (nI (t - w))) 11 (501 * kk + x / 24) (m.1 11 (501 * kk + x / 24) + nI q)) (nI g) 0 := by
    have b := (e6 (zwI (zwI m 23 g 0) 22 g 2) ⟨by simp (disch := omega) only [zr_n], by simp (disch := omega) only [zr_n], fun k => by simp (disch := omega) only [zr_n]⟩).2
    have hr := (e6 (zwI (zwI (zwI m 23 g 0) 22 g 2) 7 s (nI (t - w))) ⟨by simp (disch := omega) only [zr_n], by simp (disch := omega) only [zr_n], fun k => by simp (disch := omega) only [zr_n]⟩).1
    have cw := k2 (zwI (zwI (zwI m 23 g 0) 22 g 2) 7 s (nI (t - w))) (fun j i a1 a2 => by simp (disch := omega) only [zr_n]) (fun i => by simp (disch := omega) only [zr_n]) (by simp (disch := omega) only [zr_n]; exact h5.1.2.1.2.1)
    have f17 : (zwI (zwI m 23 g 0) 22 g 2).1 17 g = nI s := by simp (disch := omega) only [zr_n]; exact hgi.1.trans e0
    have f7 : (zwI (zwI m 23 g 0) 22 g 2).1 7 s = nI t := by simp (disch := omega) only [zr_n]; exact hss.1.2.2.2.2.2.2.trans ht
    have f20 : (zwI (zwI (zwI m 23 g 0) 22 g 2) 7 s (nI (t - w))).1 20 g = nI x := by simp (disch := omega) only [zr_n]; exact hgi.2.2.2.1.trans e2
    have f11 : (zwI (zwI (zwI m 23 g 0) 22 g 2) 7 s (nI (t - w))).1 11 (501 * kk + x / 24) = m.1 11 (501 * kk + x / 24) := by simp (disch := omega) only [zr_n]
    have c1 : f_X7_sails (zwI m 23 g 0) (nI g) = (zlet (zwI (zwI m 23 g 0) 22 (nI g).toNatClampNeg 2) fun s2 => (if zin (nI g) 24 then (if zin (s2.1 17 (nI g).toNatClampNeg) 4 then ((f_X7_burns s2 (nI g)).bind fun q6 => (if zin (s2.1 17 (nI g).toNatClampNeg) 4 then (zlet (zwI q6.2 7 (s2.1 17 (nI g).toNatClampNeg).toNatClampNeg ((s2.1 7 (s2.1 17 (nI g).toNatClampNeg).toNatClampNeg) - q6.1)) fun s9 => ((f_X7_crewFor s9 (nI g)).bind fun q11 => (if zin (nI g) 24 then (if zin ((501 * q11.1) + ((q11.2.1 20 (nI g).toNatClampNeg) / 24)) 3006 then ((f_X7_hoursOf q11.2 (nI g)).bind fun q15 => (if zin ((501 * q11.1) + ((q11.2.1 20 (nI g).toNatClampNeg) / 24)) 3006 then (zlet (zwI q15.2 11 ((501 * q11.1) + ((q11.2.1 20 (nI g).toNatClampNeg) / 24)).toNatClampNeg ((q11.2.1 11 ((501 * q11.1) + ((q11.2.1 20 (nI g).toNatClampNeg) / 24)).toNatClampNeg) + q15.1)) fun s18 => f_X7_sails_60 64 s18 (nI g) 0) else none)) else none) else none))) else none)) else none) else none)) := by
      unfold f_X7_sails
      rw [zif_in (show g < 24 by omega) (by omega)]
    have e22 : zwI (zwI m 23 g 0) 22 (nI g).toNatClampNeg 2 = zwI (zwI m 23 g 0) 22 g 2 := by rw [ztN (show g < 1000000 by omega)]
    rw [c1, e22]
    generalize f_X7_sails_60 = F
    generalize zwI (zwI m 23 g 0) 22 g 2 = s2 at *
    rw [zlet_eq]
    simp (disch := omega) only [zif_in, ztN, f17, f7]
    rw [b, zbs]
    dsimp only
    rw [zlet_eq, pk_sub hw]
    generalize zwI s2 7 s (nI (t - w)) = s9 at *
    rw [cw, zbs]
    simp (disch := omega) only [ztN, f20, hx24, z501]
    rw [zif_in hidx (by omega), hr, zbs, zif_in hidx (by omega), zlet_eq]
    simp (disch := omega) only [ztN, f11]
  have hAll : ∀ mD : zSt, mD = zwI (zwI (zwI (zwI (zwI (zwI (zwI (zwI (zwI (zwI (zwI (zwI (zwI (zwI (zwI m 23 g 0) 22 g 2) 7 s (nI (t - w))) 11 (501 * kk + x / 24) (m.1 11 (501 * kk + x / 24) + nI q)) 39 0 0) 40 0 0) 39 1 0) 40 1 0) 39 2 0) 40 2 0) 39 3 0) 40 3 0) 0 46 0) 0 47 0) 0 48 0 → zT cC mD nS nK nG nB nw g s la 0 := fun mD hmD => by
    have D25 : mD.1 25 g = 0 := by rw [hmD]; simp (disch := omega) only [zr_n]; exact h00.1
    have D26 : mD.1 26 g = 0 := by rw [hmD]; simp (disch := omega) only [zr_n]; exact h00.2.1
    have hz : ∀ sd : Int32, zsd cC g la sd nB = 0 := fun sd => zsd_zero nB (fun k hk a1 a2 _ => by
      rw [CC _ _ (by omega) (by omega) (by omega)] at a1 a2
      exact a2 (hl0 k hk a1))
    refine ⟨zR5_cg zS ?_ ?_ ?_ ?_, ⟨C6', by omega, ?_, ?_, hla1, hla4, ?_, ?_, ?_⟩, ⟨?_, ?_, ?_, ?_, by omega, ?_, ?_⟩, fun j hj => ⟨?_, 0, by omega, ?_, ?_⟩, ⟨?_, ?_⟩, fun p => p, fun p => p, fun p hp => absurd hp (Nat.not_lt_zero _), fun p p' h1 h2 => absurd h2 (Nat.not_lt_zero _), fun k hk a1 a2 => ?_⟩
    · intro qq j a1 a2 a3 a4
      by_cases hg9 : qq = 34 + g ∧ j = 9
      · rw [hg9.1, hg9.2, zr_e, zr_e, D25, D26]
        decide
      · rw [zr_n (by omega), zr_n (by omega)]
        exact C3 qq j a3
    · intro j _
      simp only [zr_I2]
      rw [C2]
      simp only [zr_I2]
    · intro qq j a1 a2
      rw [hmD]
      simp (disch := omega) only [zr_n]
    · intro j
      rw [hmD]
      simp only [zr_I2]
    · rw [hmD]; simp (disch := omega) only [zr_n]; exact hgi.1.trans e0
    · rw [hmD]; simp (disch := omega) only [zr_n]; exact hss.1.2.1.trans hla
    · rw [C4]; simp (disch := omega) only [zr_n]; exact hla
    · rw [C5, hmD]; simp (disch := omega) only [zr_n]; exact hss.1.2.2.1.symm
    · rw [C6, hmD]; simp (disch := omega) only [zr_n]; exact hss.1.2.2.2.1.symm
    · rw [C7, hmD]; simp (disch := omega) only [zr_n, zr_e]
    · rw [C8, hmD]; simp (disch := omega) only [zr_n, zr_e]
    · rw [C9, z0]
    · rw [hmD]; simp (disch := omega) only [zr_n, zr_e]; exact z0
    · rw [hmD]; simp (disch := omega) only [zr_n]; exact h52
    · rw [C10, D25, D26]; decide
    · rw [(C11 j hj).1, hmD]
      rcases (show j = 0 ∨ j = 1 ∨ j = 2 ∨ j = 3 by omega) with h | h | h | h <;> subst h <;> simp (disch := omega) only [zr_n, zr_e]
    · rw [hmD]
      rcases (show j = 0 ∨ j = 1 ∨ j = 2 ∨ j = 3 by omega) with h | h | h | h <;> subst h <;> simp (disch := omega) only [zr_n, zr_e] <;> exact z0
    · exact Or.inl ⟨(C11 j hj).2, rfl⟩
    · rw [D25, hz, z0]
    · rw [D26, hz, z0]
    · rw [CC _ _ (by omega) (by omega) (by omega)] at a1 a2
      exact absurd (hl0 k hk a1) a2
  generalize hmD : zwI (zwI (zwI (zwI (zwI (zwI (zwI (zwI (zwI (zwI (zwI (zwI (zwI (zwI (zwI m 23 g 0) 22 g 2) 7 s (nI (t - w))) 11 (501 * kk + x / 24) (m.1 11 (501 * kk + x / 24) + nI q)) 39 0 0) 40 0 0) 39 1 0) 40 1 0) 39 2 0) 40 2 0) 39 3 0) 40 3 0) 0 46 0) 0 47 0) 0 48 0 = mD at hAll
  have hT := hAll mD rfl
  have hsum := zct_sum (c := cC) (g := g) nB
  obtain ⟨cP, mP, NP, x1, x2, x3, x4, x5, x6, x7⟩ := zThose (s := s) (la := la) hgG (show (1 : Int32) - 0 = 1 by decide) 0 nB 64 0 cC mD 0 hT (by omega) (by omega) (by omega) (by omega) (fun k _ hk a1 _ => by
    rw [CC _ _ (by omega) (by omega) (by omega)] at a1 ⊢
    exact hl0 k hk a1)
  have hzP : ∀ v n, zct cP g v n = zct cC g v n := fun v n => zct_cg n (fun k _ => ⟨x5 _ _ (by omega) (by omega), x5 _ _ (by omega) (by omega)⟩)
  obtain ⟨cQ, mQ, NQ, y1, y2, y3, y4, y5, y6, y7⟩ := zThose (s := s) (la := la) hgG (show (1 : Int32) - (0 + 1) = 0 by decide) NP nB 64 0 cP mP NP x3 (by omega) (by omega) (by omega) (by rw [hzP]; omega) (fun k _ hk a1 a2 => by
    rw [x5 _ _ (by omega) (by omega)] at a1 a2
    rw [x6 k (by rw [a2]; decide)]
    rw [CC _ _ (by omega) (by omega) (by omega)] at a1 ⊢
    exact hl0 k hk a1)
  rw [hzP] at y4
  obtain ⟨cE, mE, NE, z1, z2, z3, z4, z7, z8⟩ := zEven hgG nB 64 64 0 cQ mQ NQ (zE_of y3) (by omega) (by omega) (by omega) (by omega)
  obtain ⟨E1, E2, ⟨_, E52, E8⟩, ⟨EA, EB⟩, _⟩ := z3
  obtain ⟨acc, c', m', s1, s2, s3, s4, s5⟩ := zsend E1 hgG
  have pres : ∀ qq j, 14 ≤ qq → qq < 58 → (qq ≠ 34 + g ∨ (j ≠ 8 ∧ j ≠ 6 ∧ j ≠ 9)) → (qq ≠ 14 + s ∨ j ≠ 6) → c'.1 qq j = c.1 qq j := fun qq j a1 a2 a3 a4 => by
    rw [s5 qq j a2, zr_n (by omega), z4 _ _ (by omega) (by omega), y5 _ _ (by omega) (by omega), x5 _ _ (by omega) (by omega)]
    exact CC _ _ (by omega) (by omega) a4
  refine ⟨c', mE, acc, m', ?_, ?_, s2, s3.trans E52, s4, fun i hi => pres _ _ (by omega) (by omega) (by omega) (by omega), fun i hi hne => pres _ _ (by omega) (by omega) (by omega) (by omega), ?_, fun F hJ => ?_⟩
  · have b := e5 (zwI (zwI c (34 + g) 8 (nI kk)) (34 + g) 6 2) (by simp (disch := omega) only [zr_n])
    unfold f_X6_setSail f_X6_takeThose f_X6_evenOut
    rw [kG_yes h5.1.1.2.2.1 hgG l3, zbs]
    dsimp only
    rw [e0, kS_yes h5.1.1.1 hsS l1, zbs]
    dsimp only
    rw [hcr, zbs, zlet_eq, zlet_eq]
    simp (disch := omega) only [zr_n, e4, b, zbs, ht, pk_sub, ↓zlet_eq]
    rw [C1, zbs]
    dsimp only
    rw [show f_X6_takeThose_2 64 cC (nI g) 1 0 = some ((), cP) from x1, zbs]
    dsimp only
    rw [show f_X6_takeThose_2 64 cP (nI g) 0 0 = some ((), cQ) from y1, zbs]
    dsimp only
    rw [show f_X6_evenOut_2 64 cQ (nI g) 0 = some ((), cE) from z1, zbs]
    dsimp only
    rw [E8, s1, zbs]
  · rw [hRef, sails60, hmD, f_X7_sails_102, if_neg (by decide)]
    refine (x2 _).trans ?_
    rw [f_X7_sails_102, if_neg (by decide)]
    refine (y2 _).trans ?_
    rw [f_X7_sails_102, if_pos (by decide)]
    exact z2
  · rw [s5 _ _ (by omega), zr_n (by omega), z4 _ _ (by omega) (by omega), y5 _ _ (by omega) (by omega), x5 _ _ (by omega) (by omega)]
    exact C6'
  · refine zsailJ (c2 := zwI cE (34 + g) 9 (mE.1 25 g - mE.1 26 g)) h5 hgG h0 hJ ?_ (fun qq j a1 a3 a4 => ?_) ?_ ?_ s1
    · rw [zr_I2, z7, y7, x7, C2]
      rfl
    · rw [zr_n (by omega), z4 _ _ (by omega) (by omega), y5 _ _ (by omega) (by omega), x5 _ _ (by omega) (by omega)]
      exact CC _ _ (by omega) (by omega) (by omega)
    · rw [zr_n (by omega), z4 _ _ (by omega) (by omega), y5 _ _ (by omega) (by omega), x5 _ _ (by omega) (by omega)]
      exact C6'
    · have wle : ∀ k, k < nB → (cE.1 (58 + k) 3).toNatClampNeg ≤ 200 := fun k hk => by
        obtain ⟨⟨ki, le, we, ti, v1, v2, ⟨v3, v3'⟩, v4, v5, v6, v7, v8⟩, -⟩ := E1.2.2.2.2.2.2.2.2.2.2.2.2.2.1 k hk
        rw [zr_n (by omega)] at v7
        rw [v7, ztN (by omega)]
        exact v3
      have hAl := zsd_le (g := g) (la := la) (sd := 1) nB wle
      have hBl := zsd_le (g := g) (la := la) (sd := 2) nB wle
      rw [zr_e]
      rw [E8, EA, EB] at z8
      rw [EA, EB]
      exact zabs20 (by omega) (by omega) z8
end ZP15
