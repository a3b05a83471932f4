/-! pairs, part three: new ships, crews, hours, counts, sums, buses -/
section ZP3
variable {c m : zSt}
theorem zRk_mono {nS nS' nK : Nat} (h : zRk c m nS nK) (hn : nS ≤ nS') : zRk c m nS' nK := fun k hk => by
  obtain ⟨h1, s, a, b, h2, h3⟩ := h k hk
  exact ⟨h1, s, a, b, by omega, h3⟩
theorem zRgv_mono {nS nS' nK nK' nG nw : Nat} (h : zRgv c nS nK nG nw) (h1 : nS ≤ nS') (h2 : nK ≤ nK') : zRgv c nS' nK' nG nw := fun k hk => by
  obtain ⟨s, f, t, hh, d, e, z, sp, ⟨b1, b2⟩, e0, e1, e2, e3, e4, e5, e6, e7, e8⟩ := h k hk
  exact ⟨s, f, t, hh, d, e, z, sp, ⟨by omega, b2⟩, e0, e1, e2, e3, e4, e5, e6, e7, e8.imp_right (fun ⟨j, hj, e⟩ => ⟨j, by omega, e⟩)⟩
theorem sh98 {v : Int32} (hv : ¬ v ≤ 0) (st : zSt) (a b c d e f : Int32) : f_X7_ship_98 (zwI st 0 52 v) a b c d e f = some (0, zwI st 0 52 v) := by
  unfold f_X7_ship_98
  rw [zr_e, if_neg hv]
set_option maxHeartbeats 8000000 in
theorem P_ship (a0 a1 a2 a3 a4 a5 : Int32) (hR : zR c m) : zPair [(1, 1), (2, 2), (3, 3)] (f_X6_ship c a0 a1 a2 a3 a4 a5) (fx_X6_ship c a0 a1 a2 a3 a4 a5) (f_X7_ship m a0 a1 a2 a3 a4 a5) (fun r b : Int32 => r = b) := by
  obtain ⟨nS, nK, nG, nB, nw, h5⟩ := id hR
  obtain ⟨hn, hs, hv, hw, hk, hh, hb, hp, hg, hgv, ho, hz, hB, hBv, hZ, ha⟩ := id h5
  obtain ⟨l1, l2, l3, l4, l5⟩ := hn.2.2
  rcases zIx a0 (n := 6) (by omega) with h | ⟨i, hi, rfl⟩
  · refine zPair_x (k := 1) (v := 1) (c' := c) (b := 0) (m' := zwI m 0 52 1) (by simp) ?_ ?_ (zr_e _ _ _ _) (zR_th hR 1)
    · unfold fx_X6_ship
      rw [show fx_X6_demandIndex c a0 6 = some (1, c) from dIx_no (n := 6) h, zorx_s]
    · unfold f_X7_ship f_X7_ship_16
      rw [isIsland_eq, zbs, zidx_no (by omega) h]
      simp (maxSteps := 2000000) (disch := omega) only [↓zbs, ↓zlet_eq, zr_e, zr_n, zr_I2, zr_L1, zrL_e, zrL_n, zif_in, ztN, z10, z20, z30, z1le0, z2le0, z3le0, z00, eq_self, not_false_eq_true, ↓reduceIte, sh98 (v := 1) (by decide), sh98 (v := 2) (by decide), sh98 (v := 3) (by decide)]
  have d0 : f_X6_demandIndex c (nI i) 6 = some ((), c) := dI_yes (n := 6) hi (by omega)
  have d1 : fx_X6_demandIndex c (nI i) 6 = none := dIx_yes (n := 6) hi (by omega)
  have w0 : zwi (nI i) 0 (nI 6 - 1) = 1 := zidx_yes hi (by omega)
  have hm1 : m.1 0 1 = nI nS := hn.2.1.1
  have hc1 : c.1 0 11 = nI nS := hn.1.1
  by_cases g1 : zwi a1 1 4 = 0
  · refine zPair_x (k := 2) (v := 2) (c' := c) (b := 0) (m' := zwI (zwI m 0 52 0) 0 52 2) (by simp) ?_ ?_ (zr_e _ _ _ _) (zR_th (zR_th hR 0) 2)
    · unfold fx_X6_ship fx_X6_ship_64
      simp (maxSteps := 2000000) (disch := omega) only [↓zbs, ↓zlet_eq, zr_e, zr_n, zr_I2, zr_L1, zrL_e, zrL_n, zif_in, ztN, z10, z20, z30, z1le0, z2le0, z3le0, z00, eq_self, not_false_eq_true, ↓reduceIte, d0, d1, zorx_n, isWithin_eq, g1]
    · unfold f_X7_ship f_X7_ship_16
      simp (maxSteps := 2000000) (disch := omega) only [↓zbs, ↓zlet_eq, zr_e, zr_n, zr_I2, zr_L1, zrL_e, zrL_n, zif_in, ztN, z10, z20, z30, z1le0, z2le0, z3le0, z00, eq_self, not_false_eq_true, ↓reduceIte, isIsland_eq, w0, in_eq, sh98 (v := 1) (by decide), sh98 (v := 2) (by decide), sh98 (v := 3) (by decide), g1]
  by_cases g2 : zwi a2 10 100 = 0
  · refine zPair_x (k := 2) (v := 2) (c' := c) (b := 0) (m' := zwI (zwI m 0 52 0) 0 52 2) (by simp) ?_ ?_ (zr_e _ _ _ _) (zR_th (zR_th hR 0) 2)
    · unfold fx_X6_ship fx_X6_ship_64
      simp (maxSteps := 2000000) (disch := omega) only [↓zbs, ↓zlet_eq, zr_e, zr_n, zr_I2, zr_L1, zrL_e, zrL_n, zif_in, ztN, z10, z20, z30, z1le0, z2le0, z3le0, z00, eq_self, not_false_eq_true, ↓reduceIte, d0, d1, zorx_n, isWithin_eq, g1, g2]
    · unfold f_X7_ship f_X7_ship_16
      simp (maxSteps := 2000000) (disch := omega) only [↓zbs, ↓zlet_eq, zr_e, zr_n, zr_I2, zr_L1, zrL_e, zrL_n, zif_in, ztN, z10, z20, z30, z1le0, z2le0, z3le0, z00, eq_self, not_false_eq_true, ↓reduceIte, isIsland_eq, w0, in_eq, sh98 (v := 1) (by decide), sh98 (v := 2) (by decide), sh98 (v := 3) (by decide), g1, g2]
  by_cases g3 : zwi a3 1 1000 = 0
  · refine zPair_x (k := 2) (v := 2) (c' := c) (b := 0) (m' := zwI (zwI m 0 52 0) 0 52 2) (by simp) ?_ ?_ (zr_e _ _ _ _) (zR_th (zR_th hR 0) 2)
    · unfold fx_X6_ship fx_X6_ship_64
      simp (maxSteps := 2000000) (disch := omega) only [↓zbs, ↓zlet_eq, zr_e, zr_n, zr_I2, zr_L1, zrL_e, zrL_n, zif_in, ztN, z10, z20, z30, z1le0, z2le0, z3le0, z00, eq_self, not_false_eq_true, ↓reduceIte, d0, d1, zorx_n, isWithin_eq, g1, g2, g3]
    · unfold f_X7_ship f_X7_ship_16
      simp (maxSteps := 2000000) (disch := omega) only [↓zbs, ↓zlet_eq, zr_e, zr_n, zr_I2, zr_L1, zrL_e, zrL_n, zif_in, ztN, z10, z20, z30, z1le0, z2le0, z3le0, z00, eq_self, not_false_eq_true, ↓reduceIte, isIsland_eq, w0, in_eq, sh98 (v := 1) (by decide), sh98 (v := 2) (by decide), sh98 (v := 3) (by decide), g1, g2, g3]
  by_cases g4 : zwi a4 1 9 = 0
  · refine zPair_x (k := 2) (v := 2) (c' := c) (b := 0) (m' := zwI (zwI m 0 52 0) 0 52 2) (by simp) ?_ ?_ (zr_e _ _ _ _) (zR_th (zR_th hR 0) 2)
    · unfold fx_X6_ship fx_X6_ship_64
      simp (maxSteps := 2000000) (disch := omega) only [↓zbs, ↓zlet_eq, zr_e, zr_n, zr_I2, zr_L1, zrL_e, zrL_n, zif_in, ztN, z10, z20, z30, z1le0, z2le0, z3le0, z00, eq_self, not_false_eq_true, ↓reduceIte, d0, d1, zorx_n, isWithin_eq, g1, g2, g3, g4]
    · unfold f_X7_ship f_X7_ship_16
      simp (maxSteps := 2000000) (disch := omega) only [↓zbs, ↓zlet_eq, zr_e, zr_n, zr_I2, zr_L1, zrL_e, zrL_n, zif_in, ztN, z10, z20, z30, z1le0, z2le0, z3le0, z00, eq_self, not_false_eq_true, ↓reduceIte, isIsland_eq, w0, in_eq, sh98 (v := 1) (by decide), sh98 (v := 2) (by decide), sh98 (v := 3) (by decide), g1, g2, g3, g4]
  by_cases g5 : zwi a5 1 40 = 0
  · refine zPair_x (k := 2) (v := 2) (c' := c) (b := 0) (m' := zwI (zwI m 0 52 0) 0 52 2) (by simp) ?_ ?_ (zr_e _ _ _ _) (zR_th (zR_th hR 0) 2)
    · unfold fx_X6_ship fx_X6_ship_64
      simp (maxSteps := 2000000) (disch := omega) only [↓zbs, ↓zlet_eq, zr_e, zr_n, zr_I2, zr_L1, zrL_e, zrL_n, zif_in, ztN, z10, z20, z30, z1le0, z2le0, z3le0, z00, eq_self, not_false_eq_true, ↓reduceIte, d0, d1, zorx_n, isWithin_eq, g1, g2, g3, g4, g5]
    · unfold f_X7_ship f_X7_ship_16
      simp (maxSteps := 2000000) (disch := omega) only [↓zbs, ↓zlet_eq, zr_e, zr_n, zr_I2, zr_L1, zrL_e, zrL_n, zif_in, ztN, z10, z20, z30, z1le0, z2le0, z3le0, z00, eq_self, not_false_eq_true, ↓reduceIte, isIsland_eq, w0, in_eq, sh98 (v := 1) (by decide), sh98 (v := 2) (by decide), sh98 (v := 3) (by decide), g1, g2, g3, g4, g5]
  by_cases h4 : nS = 4
  · have q1 : (4 : Int32) ≤ nI nS := nI_le (a := 4) (by omega) (by omega)
    have q2 : nI nS = (4 : Int32) := by rw [h4]; rfl
    refine zPair_x (k := 3) (v := 3) (c' := c) (b := 0) (m' := zwI (zwI m 0 52 0) 0 52 3) (by simp) ?_ ?_ (zr_e _ _ _ _) (zR_th (zR_th hR 0) 3)
    · unfold fx_X6_ship fx_X6_ship_64
      simp (maxSteps := 2000000) (disch := omega) only [↓zbs, ↓zlet_eq, zr_e, zr_n, zr_I2, zr_L1, zrL_e, zrL_n, zif_in, ztN, z10, z20, z30, z1le0, z2le0, z3le0, z00, eq_self, not_false_eq_true, ↓reduceIte, d0, d1, zorx_n, isWithin_eq, hc1, q1, g1, g2, g3, g4, g5]
    · unfold f_X7_ship f_X7_ship_16
      simp (maxSteps := 2000000) (disch := omega) only [↓zbs, ↓zlet_eq, zr_e, zr_n, zr_I2, zr_L1, zrL_e, zrL_n, zif_in, ztN, z10, z20, z30, z1le0, z2le0, z3le0, z00, eq_self, not_false_eq_true, ↓reduceIte, isIsland_eq, w0, in_eq, hm1, q2, sh98 (v := 1) (by decide), sh98 (v := 2) (by decide), sh98 (v := 3) (by decide), g1, g2, g3, g4, g5]
  have q1 : ¬ (4 : Int32) ≤ nI nS := nI_ge (b := 4) (by omega) (by omega)
  have q2 : ¬ nI nS = (4 : Int32) := fun q => h4 ((nI_eq (b := 4) (by omega) (by omega)).mp q)
  obtain ⟨la, hla1, hla2, rfl⟩ := zwi_yes (lo := 1) (hi := 4) (by omega) (by omega) g1
  obtain ⟨le, hle1, hle2, rfl⟩ := zwi_yes (lo := 10) (hi := 100) (by omega) (by omega) g2
  obtain ⟨we, hwe1, hwe2, rfl⟩ := zwi_yes (lo := 1) (hi := 1000) (by omega) (by omega) g3
  obtain ⟨dr, hdr1, hdr2, rfl⟩ := zwi_yes (lo := 1) (hi := 9) (by omega) (by omega) g4
  obtain ⟨sp, hsp1, hsp2, rfl⟩ := zwi_yes (lo := 1) (hi := 40) (by omega) (by omega) g5
  have w5 : zwi (nI i) 0 (nI 5) = 1 := w0
  have kS : ∀ st : zSt, st.1 0 11 = nI (nS + 1) → f_X6_knownShip st (nI nS) = some (14 + nS, st) := fun st h => kS_yes h (by omega) (by omega)
  refine zPair_ok (r := nI nS) (c' := zwI (zwI (zwI (zwI (zwI (zwI (zwI c 0 11 (nI (nS + 1))) (14 + nS) 0 (nI i)) (14 + nS) 1 (nI la)) (14 + nS) 2 (nI le)) (14 + nS) 3 (nI we)) (14 + nS) 4 (nI dr)) (14 + nS) 5 (nI sp)) (b := nI nS) (m' := zwI (zwI (zwI (zwI (zwI (zwI (zwI (zwI (zwI m 0 52 0) 0 52 0) 1 nS (nI i)) 2 nS (nI la)) 3 nS (nI le)) 4 nS (nI we)) 5 nS (nI dr)) 6 nS (nI sp)) 0 1 (nI (nS + 1))) ?_ ?_ (by simp (disch := omega) only [zr_e, zr_n]) rfl ?_
  · unfold f_X6_ship f_X6_ship_64
    have k0 := kS (zwI c 0 11 (nI (nS + 1))) (zr_e _ _ _ _)
    simp (maxSteps := 2000000) (disch := omega) only [↓zbs, ↓zlet_eq, zr_e, zr_n, zr_I2, zr_L1, zrL_e, zrL_n, zif_in, ztN, z10, z20, z30, z1le0, z2le0, z3le0, z00, eq_self, not_false_eq_true, ↓reduceIte, d0, isWithin_eq, hc1, q1, nI_1, k0, g1, g2, g3, g4, g5]
  · unfold f_X7_ship f_X7_ship_16 f_X7_ship_98
    simp (maxSteps := 2000000) (disch := omega) only [↓zbs, ↓zlet_eq, zr_e, zr_n, zr_I2, zr_L1, zrL_e, zrL_n, zif_in, ztN, z10, z20, z30, z1le0, z2le0, z3le0, z00, eq_self, not_false_eq_true, ↓reduceIte, isIsland_eq, w0, w5, in_eq, hm1, q2, nI_1, zm1, g1, g2, g3, g4, g5]
  · refine ⟨nS + 1, nK, nG, nB, nw, ⟨?_, ?_, ?_⟩, ?_, ?_, zRw_cg hw (by intros; first | rfl | simp (disch := omega) only [zr_n, zr_L1, zr_I2, zrL_n]) (by intros; first | rfl | simp (disch := omega) only [zr_n, zr_L1, zr_I2, zrL_n]) (by intros; first | rfl | simp (disch := omega) only [zr_n, zr_L1, zr_I2, zrL_n]), zRk_mono (zRk_cg hk (by omega) (by intros; first | rfl | simp (disch := omega) only [zr_n, zr_L1, zr_I2, zrL_n]) (by intros; first | rfl | simp (disch := omega) only [zr_n, zr_L1, zr_I2, zrL_n]) (by intros; first | rfl | simp (disch := omega) only [zr_n, zr_L1, zr_I2, zrL_n])) (by omega), zRh_cg hh (by intro i hi; refine ⟨?_, ?_, ?_⟩ <;> first | rfl | simp (disch := omega) only [zr_n, zr_L1, zr_I2, zrL_n]) (by intros; first | rfl | simp (disch := omega) only [zr_n, zr_L1, zr_I2, zrL_n]), zRb_cg hb (by intros; first | rfl | simp (disch := omega) only [zr_n, zr_L1, zr_I2, zrL_n]) (by intros; first | rfl | simp (disch := omega) only [zr_n, zr_L1, zr_I2, zrL_n]) (by intros; first | rfl | simp (disch := omega) only [zr_n, zr_L1, zr_I2, zrL_n]), zRp_cg hp (by intros; first | rfl | simp (disch := omega) only [zr_n, zr_L1, zr_I2, zrL_n]) (by intros; first | rfl | simp (disch := omega) only [zr_n, zr_L1, zr_I2, zrL_n]), zRg_cg hg (by intros; first | rfl | simp (disch := omega) only [zr_n, zr_L1, zr_I2, zrL_n]) (by intros; first | rfl | simp (disch := omega) only [zr_n, zr_L1, zr_I2, zrL_n]), zRgv_mono (zRgv_cg hgv (by omega) (by intros; first | rfl | simp (disch := omega) only [zr_n, zr_L1, zr_I2, zrL_n]) (by intros; first | rfl | simp (disch := omega) only [zr_n, zr_L1, zr_I2, zrL_n])) (by omega) (Nat.le_refl _), zRo_cg ho (by intros; first | rfl | simp (disch := omega) only [zr_n, zr_L1, zr_I2, zrL_n]), zRz_cg hz (by intros; first | rfl | simp (disch := omega) only [zr_n, zr_L1, zr_I2, zrL_n]) (by intros; first | rfl | simp (disch := omega) only [zr_n, zr_L1, zr_I2, zrL_n]), zRB_cg hB (by intros; first | rfl | simp (disch := omega) only [zr_n, zr_L1, zr_I2, zrL_n]) (by intros; first | rfl | simp (disch := omega) only [zr_n, zr_L1, zr_I2, zrL_n]), zRBv_cg hBv (by intros; first | rfl | simp (disch := omega) only [zr_n, zr_L1, zr_I2, zrL_n]) (by intro k hk e; first | exact e | (simp (disch := omega) only [zr_n, zr_L1, zr_I2, zrL_n]; exact e)), zRZ_cg hZ (by intros; first | rfl | simp (disch := omega) only [zr_n, zr_L1, zr_I2, zrL_n]) (by intros; first | rfl | simp (disch := omega) only [zr_n, zr_L1, zr_I2, zrL_n]), zRa_cg ha (by intros; first | rfl | simp (disch := omega) only [zr_n, zr_L1, zr_I2, zrL_n]) (by intros; first | rfl | simp (disch := omega) only [zr_n, zr_L1, zr_I2, zrL_n])⟩
    · exact ⟨by simp (disch := omega) only [zr_n, zr_e], by simp (disch := omega) only [zr_n]; exact hn.1.2.1, by simp (disch := omega) only [zr_n]; exact hn.1.2.2.1, by simp (disch := omega) only [zr_n]; exact hn.1.2.2.2.1, by simp (disch := omega) only [zr_n]; exact hn.1.2.2.2.2⟩
    · exact ⟨by simp (disch := omega) only [zr_n, zr_e], by simp (disch := omega) only [zr_n]; exact hn.2.1.2.1, by simp (disch := omega) only [zr_n]; exact hn.2.1.2.2.1, by simp (disch := omega) only [zr_n]; exact hn.2.1.2.2.2.1, by simp (disch := omega) only [zr_n]; exact hn.2.1.2.2.2.2⟩
    · exact ⟨by omega, l2, l3, l4, l5⟩
    · intro j hj
      have h0 := hs j hj
      have e2 : (zwI (zwI (zwI (zwI (zwI (zwI (zwI c 0 11 (nI (nS + 1))) (14 + nS) 0 (nI i)) (14 + nS) 1 (nI la)) (14 + nS) 2 (nI le)) (14 + nS) 3 (nI we)) (14 + nS) 4 (nI dr)) (14 + nS) 5 (nI sp)).1 (18 + j) = c.1 (18 + j) := funext fun t => by simp (disch := omega) only [zr_n]
      rw [e2]
      by_cases hji : j = nS
      · subst hji
        simp (disch := omega) only [zr_e, zr_n]
        exact ⟨⟨trivial, trivial, trivial, trivial, trivial, trivial, h0.1.2.2.2.2.2.2⟩, h0.2⟩
      · simp (disch := omega) only [zr_n]
        exact h0
    · intro j hj
      by_cases hji : j = nS
      · subst hji
        refine ⟨i, la, le, we, dr, sp, by omega, ?_⟩
        simp (disch := omega) only [zr_e, zr_n, and_self]
      · obtain ⟨ho', la', le', we', dr', sp', hb', he'⟩ := hv j (by omega)
        refine ⟨ho', la', le', we', dr', sp', hb', ?_⟩
        simp (disch := omega) only [zr_n]
        exact he'
theorem P_crew (a0 a1 a2 : Int32) (hR : zR c m) : zPair [(1, 1), (2, 2), (3, 3)] (f_X6_crew c a0 a1 a2) (fx_X6_crew c a0 a1 a2) (f_X7_crew m a0 a1 a2) (fun r b : Int32 => r = b) := by
  obtain ⟨nS, nK, nG, nB, nw, h5⟩ := id hR
  obtain ⟨hn, hs, hv, hw, hk, hh, hb, hp, hg, hgv, ho, hz, hB, hBv, hZ, ha⟩ := id h5
  obtain ⟨l1, l2, l3, l4, l5⟩ := hn.2.2
  have hm1 : m.1 0 1 = nI nS := hn.2.1.1
  have hm9 : m.1 0 9 = nI nK := hn.2.1.2.1
  have hc1 : c.1 0 11 = nI nS := hn.1.1
  have hc2 : c.1 0 12 = nI nK := hn.1.2.1
  rcases zIx a0 (n := nS) (by omega) with h | ⟨i, hi, rfl⟩
  · refine zPair_x (k := 1) (v := 1) (c' := c) (b := 0) (m' := zwI m 0 52 1) (by simp) ?_ ?_ (zr_e _ _ _ _) (zR_th hR 1)
    · unfold fx_X6_crew
      rw [hc1, dIx_no h, zorx_s]
    · unfold f_X7_crew f_X7_crew_56
      rw [isShip_eq hm1, zbs, zidx_no (by omega) h]
      simp (maxSteps := 2000000) (disch := omega) only [↓zbs, ↓zlet_eq, zr_e, zr_n, zr_I2, zr_L1, zrL_e, zrL_n, zif_in, ztN, z10, z20, z30, z1le0, z2le0, z3le0, z00, eq_self, not_false_eq_true, ↓reduceIte]
  have d0 : f_X6_demandIndex c (nI i) (nI nS) = some ((), c) := dI_yes hi (by omega)
  have d1 : fx_X6_demandIndex c (nI i) (nI nS) = none := dIx_yes hi (by omega)
  have w0 : zwi (nI i) 0 (nI nS - 1) = 1 := zidx_yes hi (by omega)
  have i0 : f_X7_isShip m (nI i) = some (1, m) := by rw [isShip_eq hm1, w0]
  by_cases g1 : zwi a1 0 500 = 0
  · refine zPair_x (k := 2) (v := 2) (c' := c) (b := 0) (m' := zwI m 0 52 2) (by simp) ?_ ?_ (zr_e _ _ _ _) (zR_th hR 2)
    · unfold fx_X6_crew fx_X6_crew_34
      simp (maxSteps := 2000000) (disch := omega) only [↓zbs, ↓zlet_eq, zr_e, zr_n, zr_I2, zr_L1, zrL_e, zrL_n, zif_in, ztN, z10, z20, z30, z1le0, z2le0, z3le0, z00, eq_self, not_false_eq_true, ↓reduceIte, hc1, d0, d1, zorx_n, isWithin_eq, g1]
    · unfold f_X7_crew f_X7_crew_56
      simp (maxSteps := 2000000) (disch := omega) only [↓zbs, ↓zlet_eq, zr_e, zr_n, zr_I2, zr_L1, zrL_e, zrL_n, zif_in, ztN, z10, z20, z30, z1le0, z2le0, z3le0, z00, eq_self, not_false_eq_true, ↓reduceIte, i0, in_eq, g1]
  by_cases g2 : zwi a2 a1 500 = 0
  · refine zPair_x (k := 2) (v := 2) (c' := c) (b := 0) (m' := zwI m 0 52 2) (by simp) ?_ ?_ (zr_e _ _ _ _) (zR_th hR 2)
    · unfold fx_X6_crew fx_X6_crew_34
      simp (maxSteps := 2000000) (disch := omega) only [↓zbs, ↓zlet_eq, zr_e, zr_n, zr_I2, zr_L1, zrL_e, zrL_n, zif_in, ztN, z10, z20, z30, z1le0, z2le0, z3le0, z00, eq_self, not_false_eq_true, ↓reduceIte, hc1, d0, d1, zorx_n, isWithin_eq, g1, g2]
    · unfold f_X7_crew f_X7_crew_56
      simp (maxSteps := 2000000) (disch := omega) only [↓zbs, ↓zlet_eq, zr_e, zr_n, zr_I2, zr_L1, zrL_e, zrL_n, zif_in, ztN, z10, z20, z30, z1le0, z2le0, z3le0, z00, eq_self, not_false_eq_true, ↓reduceIte, i0, in_eq, g1, g2]
  by_cases h4 : nK = 6
  · have q1 : (6 : Int32) ≤ nI nK := nI_le (a := 6) (by omega) (by omega)
    have q2 : nI nK = (6 : Int32) := by rw [h4]; rfl
    refine zPair_x (k := 3) (v := 3) (c' := c) (b := 0) (m' := zwI m 0 52 3) (by simp) ?_ ?_ (zr_e _ _ _ _) (zR_th hR 3)
    · unfold fx_X6_crew fx_X6_crew_34
      simp (maxSteps := 2000000) (disch := omega) only [↓zbs, ↓zlet_eq, zr_e, zr_n, zr_I2, zr_L1, zrL_e, zrL_n, zif_in, ztN, z10, z20, z30, z1le0, z2le0, z3le0, z00, eq_self, not_false_eq_true, ↓reduceIte, hc1, hc2, d0, d1, zorx_n, isWithin_eq, q1, g1, g2]
    · unfold f_X7_crew f_X7_crew_56
      simp (maxSteps := 2000000) (disch := omega) only [↓zbs, ↓zlet_eq, zr_e, zr_n, zr_I2, zr_L1, zrL_e, zrL_n, zif_in, ztN, z10, z20, z30, z1le0, z2le0, z3le0, z00, eq_self, not_false_eq_true, ↓reduceIte, i0, in_eq, hm9, q2, g1, g2]
  have q1 : ¬ (6 : Int32) ≤ nI nK := nI_ge (b := 6) (by omega) (by omega)
  have q2 : ¬ nI nK = (6 : Int32) := fun q => h4 ((nI_eq (b := 6) (by omega) (by omega)).mp q)
  obtain ⟨x, -, hx, rfl⟩ := zwi_yes (lo := 0) (hi := 500) (by omega) (by omega) g1
  obtain ⟨y, -, hy, rfl⟩ := zwi_yes (lo := x) (hi := 500) (by omega) (by omega) g2
  have k0 : f_X6_knownCrew (zwI c 0 12 (nI (nK + 1))) (nI nK) = some (22 + nK, zwI c 0 12 (nI (nK + 1))) := kK_yes (zr_e _ _ _ _) (by omega) (by omega)
  have e6 : 22 + nK + 6 = 28 + nK := by omega
  refine zPair_ok (r := nI nK) (c' := zwI (zwI (zwI (zwI c 0 12 (nI (nK + 1))) (22 + nK) 0 (nI i)) (28 + nK) 0 (nI x)) (28 + nK) 1 (nI y)) (b := nI nK) (m' := zwI (zwI (zwI (zwI (zwI m 0 52 0) 8 nK (nI i)) 9 nK (nI x)) 10 nK (nI y)) 0 9 (nI (nK + 1))) ?_ ?_ (by simp (disch := omega) only [zr_e, zr_n]) rfl ?_
  · unfold f_X6_crew f_X6_crew_34
    simp (maxSteps := 2000000) (disch := omega) only [↓zbs, ↓zlet_eq, zr_e, zr_n, zr_I2, zr_L1, zrL_e, zrL_n, zif_in, ztN, z10, z20, z30, z1le0, z2le0, z3le0, z00, eq_self, not_false_eq_true, ↓reduceIte, hc1, hc2, d0, isWithin_eq, q1, nI_1, k0, tell_eq, e6, g1, g2]
  · unfold f_X7_crew f_X7_crew_56
    simp (maxSteps := 2000000) (disch := omega) only [↓zbs, ↓zlet_eq, zr_e, zr_n, zr_I2, zr_L1, zrL_e, zrL_n, zif_in, ztN, z10, z20, z30, z1le0, z2le0, z3le0, z00, eq_self, not_false_eq_true, ↓reduceIte, i0, in_eq, hm9, q2, nI_1, zm1, g1, g2]
  · refine ⟨nS, nK + 1, nG, nB, nw, ⟨?_, ?_, ?_⟩, zRs_cg hs (by intros; first | rfl | simp (disch := omega) only [zr_n, zr_L1, zr_I2, zrL_n]) (by intros; first | rfl | simp (disch := omega) only [zr_n, zr_L1, zr_I2, zrL_n]) (by intros; first | rfl | simp (disch := omega) only [zr_n, zr_L1, zr_I2, zrL_n]) (by intros; first | rfl | simp (disch := omega) only [zr_n, zr_L1, zr_I2, zrL_n]), zRv_cg hv (by omega) (by intros; first | rfl | simp (disch := omega) only [zr_n, zr_L1, zr_I2, zrL_n]), zRw_cg hw (by intros; first | rfl | simp (disch := omega) only [zr_n, zr_L1, zr_I2, zrL_n]) (by intros; first | rfl | simp (disch := omega) only [zr_n, zr_L1, zr_I2, zrL_n]) (by intros; first | rfl | simp (disch := omega) only [zr_n, zr_L1, zr_I2, zrL_n]), ?_, zRh_cg hh (by intro i hi; refine ⟨?_, ?_, ?_⟩ <;> first | rfl | simp (disch := omega) only [zr_n, zr_L1, zr_I2, zrL_n]) (by intros; first | rfl | simp (disch := omega) only [zr_n, zr_L1, zr_I2, zrL_n]), zRb_cg hb (by intros; first | rfl | simp (disch := omega) only [zr_n, zr_L1, zr_I2, zrL_n]) (by intros; first | rfl | simp (disch := omega) only [zr_n, zr_L1, zr_I2, zrL_n]) (by intros; first | rfl | simp (disch := omega) only [zr_n, zr_L1, zr_I2, zrL_n]), zRp_cg hp (by intros; first | rfl | simp (disch := omega) only [zr_n, zr_L1, zr_I2, zrL_n]) (by intros; first | rfl | simp (disch := omega) only [zr_n, zr_L1, zr_I2, zrL_n]), zRg_cg hg (by intros; first | rfl | simp (disch := omega) only [zr_n, zr_L1, zr_I2, zrL_n]) (by intros; first | rfl | simp (disch := omega) only [zr_n, zr_L1, zr_I2, zrL_n]), zRgv_mono (zRgv_cg hgv (by omega) (by intros; first | rfl | simp (disch := omega) only [zr_n, zr_L1, zr_I2, zrL_n]) (by intros; first | rfl | simp (disch := omega) only [zr_n, zr_L1, zr_I2, zrL_n])) (Nat.le_refl _) (by omega), zRo_cg ho (by intros; first | rfl | simp (disch := omega) only [zr_n, zr_L1, zr_I2, zrL_n]), zRz_cg hz (by intros; first | rfl | simp (disch := omega) only [zr_n, zr_L1, zr_I2, zrL_n]) (by intros; first | rfl | simp (disch := omega) only [zr_n, zr_L1, zr_I2, zrL_n]), zRB_cg hB (by intros; first | rfl | simp (disch := omega) only [zr_n, zr_L1, zr_I2, zrL_n]) (by intros; first | rfl | simp (disch := omega) only [zr_n, zr_L1, zr_I2, zrL_n]), zRBv_cg hBv (by intros; first | rfl | simp (disch := omega) only [zr_n, zr_L1, zr_I2, zrL_n]) (by intro k hk e; first | exact e | (simp (disch := omega) only [zr_n, zr_L1, zr_I2, zrL_n]; exact e)), zRZ_cg hZ (by intros; first | rfl | simp (disch := omega) only [zr_n, zr_L1, zr_I2, zrL_n]) (by intros; first | rfl | simp (disch := omega) only [zr_n, zr_L1, zr_I2, zrL_n]), zRa_cg ha (by intros; first | rfl | simp (disch := omega) only [zr_n, zr_L1, zr_I2, zrL_n]) (by intros; first | rfl | simp (disch := omega) only [zr_n, zr_L1, zr_I2, zrL_n])⟩
    · exact ⟨by simp (disch := omega) only [zr_n]; exact hn.1.1, by simp (disch := omega) only [zr_n, zr_e], by simp (disch := omega) only [zr_n]; exact hn.1.2.2.1, by simp (disch := omega) only [zr_n]; exact hn.1.2.2.2.1, by simp (disch := omega) only [zr_n]; exact hn.1.2.2.2.2⟩
    · exact ⟨by simp (disch := omega) only [zr_n]; exact hn.2.1.1, by simp (disch := omega) only [zr_n, zr_e], by simp (disch := omega) only [zr_n]; exact hn.2.1.2.2.1, by simp (disch := omega) only [zr_n]; exact hn.2.1.2.2.2.1, by simp (disch := omega) only [zr_n]; exact hn.2.1.2.2.2.2⟩
    · exact ⟨l1, by omega, l3, l4, l5⟩
    · intro j hj
      by_cases hji : j = nK
      · subst hji
        refine ⟨?_, i, x, y, hi, by omega, by omega, ?_⟩
        · simp (disch := omega) only [zr_e, zr_n, and_self]
        · simp (disch := omega) only [zr_e, zr_n, and_self]
      · simp (disch := omega) only [zr_n]
        exact hk j (by omega)
theorem hoursSailed_lp {nG k d : Nat} (h13 : c.1 0 13 = nI nG) (hl : nG ≤ 24) : ∀ (r n i : Nat) (acc : Int32), i + r = nG → r < n → acc = zsum c k d i → f_X6_hoursSailed_5 n c (nI k) (nI d) acc (nI i) = some (zsum c k d nG, c)
  | 0, n + 1, i, acc, hi, _, ha => by
    rw [f_X6_hoursSailed_5, h13, zif_le (by omega) (by omega), ha, show i = nG by omega]
  | r + 1, n + 1, i, acc, hi, hr, ha => by
    rw [f_X6_hoursSailed_5, h13, zif_nle (by omega) (by omega), kG_yes h13 (by omega) hl, zbs, nI_1]
    have ih := hoursSailed_lp (k := k) (d := d) h13 hl r n (i + 1)
    by_cases h1 : c.1 (34 + i) 8 = nI k
    · rw [if_pos h1]
      by_cases h2 : c.1 (34 + i) 3 / 24 = nI d
      · rw [if_pos h2]
        exact ih _ (by omega) (by omega) (by rw [zsum, if_pos ⟨h1, h2⟩, ha])
      · rw [if_neg h2]
        exact ih _ (by omega) (by omega) (by rw [zsum, if_neg (fun q => h2 q.2), ha])
    · rw [if_neg h1]
      exact ih _ (by omega) (by omega) (by rw [zsum, if_neg (fun q => h1 q.1), ha])
theorem hoursSailed_eq {nG k d : Nat} (h13 : c.1 0 13 = nI nG) (hl : nG ≤ 24) : f_X6_hoursSailed c (nI k) (nI d) = some (zsum c k d nG, c) := by
  unfold f_X6_hoursSailed
  rw [z0]
  exact hoursSailed_lp h13 hl nG 64 0 (nI 0) (by omega) (by omega) rfl
theorem z501 {k d : Nat} : (501 : Int32) * nI k + nI d = nI (501 * k + d) := by
  rw [show (501 : Int32) = nI 501 from rfl, pk_mul, nI_add]
theorem P_hours (a b : Int32) (hR : zR c m) : zPair [(1, 1), (2, 2)] (f_X6_hours c a b) (fx_X6_hours c a b) (f_X7_hours m a b) (fun r b : Int32 => r = b) := by
  obtain ⟨nS, nK, nG, nB, nw, h5⟩ := id hR
  obtain ⟨hn, hs, hv, hw, hk, hh, hb, hp, hg, hgv, ho, hz, hB, hBv, hZ, ha⟩ := id h5
  obtain ⟨l1, l2, l3, l4, l5⟩ := hn.2.2
  have hc2 : c.1 0 12 = nI nK := hn.1.2.1
  have hm9 : m.1 0 9 = nI nK := hn.2.1.2.1
  rcases zIx a (n := nK) (by omega) with h | ⟨i, hi, rfl⟩
  · have w0 := zidx_no (n := nK) (by omega) h
    refine zPair_x (k := 1) (v := 1) (c' := c) (b := 0) (m' := zwI m 0 52 1) (by simp) ?_ ?_ (zr_e _ _ _ _) (zR_th hR 1)
    · unfold fx_X6_hours
      rw [hc2, dIx_no h, zorx_s]
    · unfold f_X7_hours f_X7_hours_38
      simp (maxSteps := 2000000) (disch := omega) only [↓zbs, ↓zlet_eq, zr_e, zr_n, zr_I2, zr_L1, zrL_e, zrL_n, zif_in, ztN, z10, z20, z30, z1le0, z2le0, z3le0, z00, eq_self, not_false_eq_true, ↓reduceIte, hm9, in_eq, w0]
  · have d0 : f_X6_demandIndex c (nI i) (nI nK) = some ((), c) := dI_yes hi (by omega)
    have d1 : fx_X6_demandIndex c (nI i) (nI nK) = none := dIx_yes hi (by omega)
    have w0 : zwi (nI i) 0 (nI nK - 1) = 1 := zidx_yes hi (by omega)
    by_cases g1 : zwi b 0 500 = 0
    · refine zPair_x (k := 2) (v := 2) (c' := c) (b := 0) (m' := zwI m 0 52 2) (by simp) ?_ ?_ (zr_e _ _ _ _) (zR_th hR 2)
      · unfold fx_X6_hours
        simp (maxSteps := 2000000) (disch := omega) only [↓zbs, ↓zlet_eq, zr_e, zr_n, zr_I2, zr_L1, zrL_e, zrL_n, zif_in, ztN, z10, z20, z30, z1le0, z2le0, z3le0, z00, eq_self, not_false_eq_true, ↓reduceIte, hc2, d0, d1, zorx_n, isWithin_eq, g1, dAx_no, zorx_s]
      · unfold f_X7_hours f_X7_hours_38
        simp (maxSteps := 2000000) (disch := omega) only [↓zbs, ↓zlet_eq, zr_e, zr_n, zr_I2, zr_L1, zrL_e, zrL_n, zif_in, ztN, z10, z20, z30, z1le0, z2le0, z3le0, z00, eq_self, not_false_eq_true, ↓reduceIte, hm9, in_eq, w0, g1]
    · have dA := fun st => dA_yes (st := st) g1
      obtain ⟨d, -, hd, rfl⟩ := zwi_yes (lo := 0) (hi := 500) (by omega) (by omega) g1
      have hse := hoursSailed_eq (k := i) (d := d) hn.1.2.2.1 l3
      refine zPair_ok (r := zsum c i d nG) (c' := c) (b := zsum c i d nG) (m' := zwI m 0 52 0) ?_ ?_ (zr_e _ _ _ _) rfl (zR_th hR 0)
      · unfold f_X6_hours
        simp (maxSteps := 2000000) (disch := omega) only [↓zbs, ↓zlet_eq, zr_e, zr_n, zr_I2, zr_L1, zrL_e, zrL_n, zif_in, ztN, z10, z20, z30, z1le0, z2le0, z3le0, z00, eq_self, not_false_eq_true, ↓reduceIte, hc2, d0, isWithin_eq, dA, hse]
      · have hhi := hh i d (by omega) (by omega)
        unfold f_X7_hours f_X7_hours_38
        simp (maxSteps := 2000000) (disch := omega) only [↓zbs, ↓zlet_eq, zr_e, zr_n, zr_I2, zr_L1, zrL_e, zrL_n, zif_in, ztN, z10, z20, z30, z1le0, z2le0, z3le0, z00, eq_self, not_false_eq_true, ↓reduceIte, hm9, in_eq, w0, g1, z501, hhi]
/-- how many of the first n bookings are on board of v -/
def ztk (c : zSt) (v : Int32) : Nat → Int32
  | 0 => 0
  | n + 1 => if c.1 (58 + n) 0 = v ∧ ¬ c.1 (58 + n) 11 = 0 then ztk c v n + 1 else ztk c v n
theorem taken_lp {nB : Nat} {v : Int32} (h14 : c.1 0 14 = nI nB) (hl : nB ≤ 40) : ∀ (r n i : Nat) (acc : Int32), i + r = nB → r < n → acc = ztk c v i → f_X6_taken_12 n c v acc (nI i) = some (ztk c v nB, c)
  | 0, n + 1, i, acc, hi, _, ha => by
    rw [f_X6_taken_12, h14, zif_le (by omega) (by omega), ha, show i = nB by omega]
  | r + 1, n + 1, i, acc, hi, hr, ha => by
    rw [f_X6_taken_12, h14, zif_nle (by omega) (by omega), kB_yes h14 (by omega) hl, zbs, nI_1]
    have ih := taken_lp (v := v) h14 hl r n (i + 1)
    by_cases h1 : c.1 (58 + i) 0 = v
    · rw [if_pos h1]
      by_cases h2 : c.1 (58 + i) 11 = 0
      · rw [if_pos h2]
        exact ih _ (by omega) (by omega) (by rw [ztk, if_neg (fun q => q.2 h2), ha])
      · rw [if_neg h2]
        exact ih _ (by omega) (by omega) (by rw [ztk, if_pos ⟨h1, h2⟩, ha])
    · rw [if_neg h1]
      exact ih _ (by omega) (by omega) (by rw [ztk, if_neg (fun q => h1 q.1), ha])
theorem zwI_idem (st : zSt) (q j : Nat) (v w : Int32) : zwI (zwI st q j v) q j w = zwI st q j w := by
  refine Prod.ext ?_ rfl
  funext x y
  by_cases h : x = q ∧ y = j
  · obtain ⟨rfl, rfl⟩ := h
    rw [zr_e, zr_e]
  · rw [zr_n (by omega), zr_n (by omega), zr_n (by omega)]
theorem takenM_lp {nG nB g : Nat} (hg : g < nG) (hlG : nG ≤ 24) (hl : nB ≤ 40) (hB : ∀ k, k < nB → m.1 28 k = c.1 (58 + k) 0 + 1 ∧ m.1 37 k = c.1 (58 + k) 11 ∧ (c.1 (58 + k) 11 = 0 ∨ c.1 (58 + k) 11 = 1)) : ∀ (r n i : Nat) (acc : Int32) (st : zSt), st.1 0 19 = nI nG → st.1 0 30 = nI nB → (zwI st 0 52 0 = zwI m 0 52 0) → (∀ q j, q ≠ 0 → st.1 q j = m.1 q j) → i + r = nB → r < n → acc = ztk c (nI g) i → f_X7_taken_4 n st (nI g) acc (nI i) = some (ztk c (nI g) nB, zwI m 0 52 0)
  | 0, n + 1, i, acc, st, h19, h30, hst, hq, hi, _, ha => by
    rw [f_X7_taken_4, hasG_yes h19 hg hlG, hst]
    have h30' : (zwI m 0 52 0).1 0 30 = nI nB := by rw [← hst, zr_n (by omega), h30]
    have h30m : m.1 0 30 = nI nB := by rw [← h30', zr_n (by omega)]
    simp (maxSteps := 2000000) (disch := omega) only [↓zbs, ↓zlet_eq, zr_e, zr_n, zr_I2, zr_L1, zrL_e, zrL_n, zif_in, ztN, z10, z20, z30, z1le0, z2le0, z3le0, z00, eq_self, not_false_eq_true, ↓reduceIte, h30m]
    rw [zif_le (show nB ≤ i by omega) (by omega), ha, show i = nB by omega]
  | r + 1, n + 1, i, acc, st, h19, h30, hst, hq, hi, hr, ha => by
    have ih := takenM_lp hg hlG hl hB r n (i + 1)
    have hBi := hB i (by omega)
    have h30' : (zwI st 0 52 0).1 0 30 = nI nB := by rw [zr_n (by omega), h30]
    have ih2 := fun acc' (ha' : acc' = ztk c (nI g) (i + 1)) => ih acc' (zwI st 0 52 0) (by rw [zr_n (by omega), h19]) h30' (by rw [zwI_idem, hst]) (fun q j hqj => by rw [zr_n (by omega)]; exact hq q j hqj) (by omega) (by omega) ha'
    have e28 : st.1 28 i = c.1 (58 + i) 0 + 1 := by rw [hq _ _ (by omega)]; exact hBi.1
    have e37 : st.1 37 i = c.1 (58 + i) 11 := by rw [hq _ _ (by omega)]; exact hBi.2.1
    rw [f_X7_taken_4, hasG_yes h19 hg hlG]
    simp (maxSteps := 2000000) (disch := omega) only [↓zbs, ↓zlet_eq, zr_e, zr_n, zr_I2, zr_L1, zrL_e, zrL_n, zif_in, ztN, z10, z20, z30, z1le0, z2le0, z3le0, z00, eq_self, not_false_eq_true, ↓reduceIte, h30, zif_nle, nI_1, e28, e37]
    by_cases h1 : c.1 (58 + i) 0 = nI g
    · have h1' : c.1 (58 + i) 0 + 1 = nI (g + 1) := by rw [h1, nI_1]
      rw [if_pos h1']
      rcases hBi.2.2 with h2 | h2
      · rw [h2, if_neg (by decide)]
        exact ih2 _ (by rw [ztk, if_neg (fun q => q.2 h2), ha, Int32.add_zero])
      · rw [h2, if_pos rfl]
        exact ih2 _ (by rw [ztk, if_pos ⟨h1, by rw [h2]; decide⟩, ha])
    · have h1' : ¬ c.1 (58 + i) 0 + 1 = nI (g + 1) := fun q => h1 (by
        rw [← nI_1] at q
        exact (Int32.add_left_inj 1).mp q)
      rw [if_neg h1']
      exact ih2 _ (by rw [ztk, if_neg (fun q => h1 q.1), ha, Int32.add_zero])
theorem P_taken (a : Int32) (hR : zR c m) : zPair [(1, 1)] (f_X6_taken c a) (fx_X6_taken c a) (f_X7_taken m a) (fun r b : Int32 => r = b) := by
  obtain ⟨nS, nK, nG, nB, nw, h5⟩ := id hR
  obtain ⟨hn, hs, hv, hw, hk, hh, hb, hp, hg, hgv, ho, hz, hB, hBv, hZ, ha⟩ := id h5
  obtain ⟨l1, l2, l3, l4, l5⟩ := hn.2.2
  rcases zIx a (n := nG) (by omega) with h | ⟨i, hi, rfl⟩
  · refine zPair_x (k := 1) (v := 1) (c' := c) (b := 0) (m' := zwI m 0 52 1) (by simp) ?_ ?_ (zr_e _ _ _ _) (zR_th hR 1)
    · unfold fx_X6_taken
      rw [hn.1.2.2.1, dIx_no h, zorx_s]
    · unfold f_X7_taken
      rw [f_X7_taken_4, hasG_no hn.2.1.2.2.1 l3 h, zbs, if_pos rfl]
  · refine zPair_ok (r := ztk c (nI i) nB) (c' := c) (b := ztk c (nI i) nB) (m' := zwI m 0 52 0) ?_ ?_ (zr_e _ _ _ _) rfl (zR_th hR 0)
    · unfold f_X6_taken
      rw [hn.1.2.2.1, dI_yes hi (by omega), zbs]
      exact taken_lp hn.1.2.2.2.1 l4 nB 64 0 0 (by omega) (by omega) rfl
    · unfold f_X7_taken
      exact takenM_lp hi l3 l4 (fun k hk => ⟨(hB k hk).1, (hB k hk).2.2.2.2.2.2.2.2.1, (hBv k hk).2.2.2.1⟩) nB 64 0 0 m hn.2.1.2.2.1 hn.2.1.2.2.2.1 rfl (fun _ _ _ => rfl) (by omega) (by omega) rfl
def zaa (c : zSt) (j : Nat) : Nat → Int64
  | 0 => 0
  | n + 1 => if c.1 (58 + n) 0 = -1 then zaa c j n else zaa c j n + (c.1 (58 + n) j).toInt64
theorem anew_lp {nB : Nat} {v : Int32} {j : Nat} (hj : (v = 0 ∧ j = 7) ∨ (¬ v = 0 ∧ j = 8)) (h14 : c.1 0 14 = nI nB) (hl : nB ≤ 40) : ∀ (r n i : Nat) (acc : Int64), i + r = nB → r < n → acc = zaa c j i → f_X6_accountAnew_22 n c v acc (nI i) = some (zaa c j nB, c)
  | 0, n + 1, i, acc, hi, _, ha => by
    rw [f_X6_accountAnew_22, h14, zif_le (by omega) (by omega), ha, show i = nB by omega]
  | r + 1, n + 1, i, acc, hi, hr, ha => by
    rw [f_X6_accountAnew_22, h14, zif_nle (by omega) (by omega), kB_yes h14 (by omega) hl, zbs, nI_1]
    have ih := anew_lp hj h14 hl r n (i + 1)
    by_cases h1 : c.1 (58 + i) 0 = -1
    · rw [if_pos h1]
      exact ih _ (by omega) (by omega) (by rw [zaa, if_pos h1, ha])
    · rw [if_neg h1]
      rcases hj with ⟨hv, rfl⟩ | ⟨hv, rfl⟩
      · rw [if_pos hv]
        exact ih _ (by omega) (by omega) (by rw [zaa, if_neg h1, ha])
      · rw [if_neg hv]
        exact ih _ (by omega) (by omega) (by rw [zaa, if_neg h1, ha])
theorem anewM_lp {nB : Nat} {v : Int32} {j : Nat} (hj : (v = 0 ∧ j = 7) ∨ (¬ v = 0 ∧ j = 8)) {st : zSt} (h52 : st.1 0 52 = 0) (h30 : st.1 0 30 = nI nB) (hl : nB ≤ 40) (hB : ∀ k, k < nB → st.1 34 k = c.1 (58 + k) 7 ∧ st.1 35 k = c.1 (58 + k) 8 ∧ (c.1 (58 + k) 0 = -1 → c.1 (58 + k) 7 = 0 ∧ c.1 (58 + k) 8 = 0)) : ∀ (r n i : Nat) (acc : Int64), i + r = nB → r < n → acc = zaa c j i → f_X7_accountAnew_23 n st v acc (nI i) = some (zaa c j nB, st)
  | 0, n + 1, i, acc, hi, _, ha => by
    rw [f_X7_accountAnew_23, if_pos h52, h30, zif_le (by omega) (by omega), ha, show i = nB by omega]
  | r + 1, n + 1, i, acc, hi, hr, ha => by
    rw [f_X7_accountAnew_23, if_pos h52, h30, zif_nle (by omega) (by omega), nI_1]
    have ih := anewM_lp hj h52 h30 hl hB r n (i + 1)
    have hBi := hB i (by omega)
    have e0 : (0 : Int32).toInt64 = 0 := rfl
    rcases hj with ⟨hv, rfl⟩ | ⟨hv, rfl⟩
    · simp (maxSteps := 2000000) (disch := omega) only [↓zbs, ↓zlet_eq, zr_e, zr_n, zr_I2, zr_L1, zrL_e, zrL_n, zif_in, ztN, z10, z20, z30, z1le0, z2le0, z3le0, z00, eq_self, not_false_eq_true, ↓reduceIte, if_pos hv, hBi.1]
      refine ih _ (by omega) (by omega) ?_
      by_cases h1 : c.1 (58 + i) 0 = -1
      · rw [zaa, if_pos h1, (hBi.2.2 h1).1, e0, Int64.add_zero, ha]
      · rw [zaa, if_neg h1, ha]
    · simp (maxSteps := 2000000) (disch := omega) only [↓zbs, ↓zlet_eq, zr_e, zr_n, zr_I2, zr_L1, zrL_e, zrL_n, zif_in, ztN, z10, z20, z30, z1le0, z2le0, z3le0, z00, eq_self, not_false_eq_true, ↓reduceIte, if_neg hv, hBi.2.1]
      refine ih _ (by omega) (by omega) ?_
      by_cases h1 : c.1 (58 + i) 0 = -1
      · rw [zaa, if_pos h1, (hBi.2.2 h1).2, e0, Int64.add_zero, ha]
      · rw [zaa, if_neg h1, ha]
theorem P_accountAnew (a : Int32) (hR : zR c m) : zPair [(2, 1)] (f_X6_accountAnew c a) (fx_X6_accountAnew c a) (f_X7_accountAnew m a) (fun r b : Int64 => r = b) := by
  obtain ⟨nS, nK, nG, nB, nw, h5⟩ := id hR
  obtain ⟨hn, hs, hv, hw, hk, hh, hb, hp, hg, hgv, ho, hz, hB, hBv, hZ, ha⟩ := id h5
  obtain ⟨l1, l2, l3, l4, l5⟩ := hn.2.2
  by_cases h : zwi a 0 1 = 0
  · have e0 : ¬ a = 0 := fun q => by rw [q] at h; exact absurd h (by decide)
    have e1 : ¬ a = 1 := fun q => by rw [q] at h; exact absurd h (by decide)
    refine zPair_x (k := 2) (v := 1) (c' := c) (b := 0) (m' := zwI m 0 52 1) (by simp) ?_ ?_ (zr_e _ _ _ _) (zR_th hR 1)
    · unfold fx_X6_accountAnew
      rw [if_neg e0, if_neg e1]
    · unfold f_X7_accountAnew
      rw [in_eq, zbs, if_pos h, zlet_eq, f_X7_accountAnew_23, if_neg (by rw [zr_e]; decide)]
  · obtain ⟨k, -, hk1, rfl⟩ := zwi_yes (lo := 0) (hi := 1) (by omega) (by omega) h
    have main : ∀ j : Nat, ((nI k = 0 ∧ j = 7) ∨ (¬ nI k = 0 ∧ j = 8)) → f_X6_accountAnew c (nI k) = f_X6_accountAnew_22 64 c (nI k) 0 0 → zPair [(2, 1)] (f_X6_accountAnew c (nI k)) (fx_X6_accountAnew c (nI k)) (f_X7_accountAnew m (nI k)) (fun r b : Int64 => r = b) := by
      intro j hj hf
      refine zPair_ok (r := zaa c j nB) (c' := c) (b := zaa c j nB) (m' := zwI m 0 52 0) ?_ ?_ (zr_e _ _ _ _) rfl (zR_th hR 0)
      · rw [hf]
        exact anew_lp hj hn.1.2.2.2.1 l4 nB 64 0 0 (by omega) (by omega) rfl
      · unfold f_X7_accountAnew
        rw [in_eq, zbs, if_neg h, zlet_eq]
        exact anewM_lp hj (zr_e _ _ _ _) (by rw [zr_n (by omega)]; exact hn.2.1.2.2.2.1) l4 (fun q hq => ⟨by rw [zr_n (by omega)]; exact (hB q hq).2.2.2.2.2.2.1, by rw [zr_n (by omega)]; exact (hB q hq).2.2.2.2.2.2.2.1, fun e => ⟨((hBv q hq).2.2.2.2.2.2.2.1 e).1, ((hBv q hq).2.2.2.2.2.2.2.1 e).2.1⟩⟩) nB 64 0 0 (by omega) (by omega) rfl
    match k, hk1 with
    | 0, _ => exact main 7 (Or.inl ⟨rfl, rfl⟩) rfl
    | 1, _ => exact main 8 (Or.inr ⟨by decide, rfl⟩) rfl
end ZP3
