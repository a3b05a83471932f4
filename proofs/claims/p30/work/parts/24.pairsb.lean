/-! pairs, part two: ships, tanks, crews, buses, storms, people -/
theorem z30 : ¬ (3 : Int32) = 0 := by decide
theorem z1le0 : ¬ (1 : Int32) ≤ 0 := by decide
theorem z2le0 : ¬ (2 : Int32) ≤ 0 := by decide
theorem z3le0 : ¬ (3 : Int32) ≤ 0 := by decide
theorem z00 : (0 : Int32) ≤ 0 := by decide
theorem zl3 {k : Nat} (h : k ≤ 1000) : (3 * nI k).toInt64 = 3 * (nI k).toInt64 := by
  rw [show (3 : Int32) = nI 3 from rfl, pk_mul, nI_l (by omega), nI_l (by omega), show (3 : Int64) = lN 3 from rfl, lN_mul]
section ZP2
variable {c m : zSt}
theorem P_fill (a b : Int32) (hR : zR c m) : zPair [(1, 1), (2, 2), (3, 3)] (f_X6_fill c a b) (fx_X6_fill c a b) (f_X7_fill m a b) (fun r b : Int32 => r = b) := by
  obtain ⟨nS, nK, nG, nB, nw, h5⟩ := id hR
  obtain ⟨hn, hs, hv, hw, hk, hh, hb, hp, hg, hgv, ho, hz, hB, hBv, hZ, ha⟩ := id h5
  obtain ⟨l1, l2, l3, l4, l5⟩ := hn.2.2
  rcases zIx a (n := nS) (by omega) with h | ⟨i, hi, rfl⟩
  · refine zPair_x (k := 1) (v := 1) (c' := c) (b := 0) (m' := zwI m 0 52 1) (by simp) ?_ ?_ (zr_e _ _ _ _) (zR_th hR 1)
    · unfold fx_X6_fill
      rw [kSx_no hn.1.1 h, zorx_s]
    · unfold f_X7_fill f_X7_fill_50
      rw [isShip_eq hn.2.1.1, zbs, zidx_no (by omega) h]
      simp (disch := omega) only [zbs, zlet_eq, zr_e, zr_n, zr_I2, zr_L1, zrL_e, zrL_n, zif_in, ztN, z10, z20, z30, z1le0, z2le0, z3le0, z00, eq_self, not_false_eq_true, ↓reduceIte]
  · by_cases h1 : zwi b 1 1000 = 0
    · refine zPair_x (k := 2) (v := 2) (c' := c) (b := 0) (m' := zwI m 0 52 2) (by simp) ?_ ?_ (zr_e _ _ _ _) (zR_th hR 2)
      · unfold fx_X6_fill
        rw [kSx_yes hn.1.1 hi l1, zorx_n, kS_yes hn.1.1 hi l1, zbs, isWithin_eq, zbs, h1, dAx_no, zorx_s]
      · unfold f_X7_fill f_X7_fill_50
        rw [isShip_eq hn.2.1.1, zbs, zidx_yes hi (by omega), if_neg z10, in_eq, zbs, if_pos h1]
        simp (disch := omega) only [zbs, zlet_eq, zr_e, zr_n, zr_I2, zr_L1, zrL_e, zrL_n, zif_in, ztN, z10, z20, z30, z1le0, z2le0, z3le0, z00, eq_self, not_false_eq_true, ↓reduceIte]
    · obtain ⟨k, hk1, hk2, rfl⟩ := zwi_yes (lo := 1) (hi := 1000) (by omega) (by omega) h1
      obtain ⟨t, ht, et⟩ := (hs i (by omega)).2.2
      have em := (hs i (by omega)).1.2.2.2.2.2.2
      by_cases h2 : 1000 < t + k
      · have q1 : (1000 : Int32) < nI (t + k) := nI_lt (a := 1000) h2 (by omega)
        have q2 : ¬ nI (t + k) ≤ (1000 : Int32) := nI_ge (a := 1000) h2 (by omega)
        refine zPair_x (k := 3) (v := 3) (c' := c) (b := 0) (m' := zwI m 0 52 3) (by simp) ?_ ?_ (zr_e _ _ _ _) (zR_th hR 3)
        · unfold fx_X6_fill
          rw [kSx_yes hn.1.1 hi l1, zorx_n, kS_yes hn.1.1 hi l1, zbs, isWithin_eq, zbs, dAx_yes h1, zorx_n, dA_yes h1, zbs]
          simp (disch := omega) only [zbs, zlet_eq, zr_e, zr_n, zr_I2, zr_L1, zrL_e, zrL_n, zif_in, ztN, z10, z20, z30, z1le0, z2le0, z3le0, z00, eq_self, not_false_eq_true, ↓reduceIte, et, nI_add, q1]
        · unfold f_X7_fill f_X7_fill_50
          rw [isShip_eq hn.2.1.1, zbs, zidx_yes hi (by omega), if_neg z10, in_eq, zbs, if_neg h1]
          simp (disch := omega) only [zbs, zlet_eq, zr_e, zr_n, zr_I2, zr_L1, zrL_e, zrL_n, zif_in, ztN, z10, z20, z30, z1le0, z2le0, z3le0, z00, eq_self, not_false_eq_true, ↓reduceIte, em, et, nI_add, q2]
      · have q1 : ¬ (1000 : Int32) < nI (t + k) := nI_nlt (a := 1000) (by omega) (by omega)
        have q2 : nI (t + k) ≤ (1000 : Int32) := nI_le (b := 1000) (by omega) (by omega)
        refine zPair_ok (r := nI (t + k)) (c' := zwL (zwI c (14 + i) 6 (nI (t + k))) 8 2 (c.2 8 2 - (3 * nI k).toInt64)) (b := nI (t + k)) (m' := zwL (zwI (zwI m 0 52 0) 7 i (nI (t + k))) 0 51 (m.2 0 51 - (3 * (nI k).toInt64))) ?_ ?_ (by simp (disch := omega) only [zr_e, zr_n, zr_L1]) rfl ?_
        · unfold f_X6_fill
          rw [kS_yes hn.1.1 hi l1, zbs, isWithin_eq, zbs, dA_yes h1, zbs]
          simp (disch := omega) only [zbs, zlet_eq, zr_e, zr_n, zr_I2, zr_L1, zrL_e, zrL_n, zif_in, ztN, z10, z20, z30, z1le0, z2le0, z3le0, z00, eq_self, not_false_eq_true, ↓reduceIte, et, nI_add, q1]
          rfl
        · unfold f_X7_fill f_X7_fill_50
          rw [isShip_eq hn.2.1.1, zbs, zidx_yes hi (by omega), if_neg z10, in_eq, zbs, if_neg h1]
          simp (disch := omega) only [zbs, zlet_eq, zr_e, zr_n, zr_I2, zr_L1, zrL_e, zrL_n, zif_in, ztN, z10, z20, z30, z1le0, z2le0, z3le0, z00, eq_self, not_false_eq_true, ↓reduceIte, em, et, nI_add, q2]
        · refine ⟨nS, nK, nG, nB, nw, ⟨⟨by simp (disch := omega) only [zr_n, zr_L1]; exact hn.1.1, by simp (disch := omega) only [zr_n, zr_L1]; exact hn.1.2.1, by simp (disch := omega) only [zr_n, zr_L1]; exact hn.1.2.2.1, by simp (disch := omega) only [zr_n, zr_L1]; exact hn.1.2.2.2.1, by simp (disch := omega) only [zr_n, zr_L1]; exact hn.1.2.2.2.2⟩, ⟨by simp (disch := omega) only [zr_n, zr_L1]; exact hn.2.1.1, by simp (disch := omega) only [zr_n, zr_L1]; exact hn.2.1.2.1, by simp (disch := omega) only [zr_n, zr_L1]; exact hn.2.1.2.2.1, by simp (disch := omega) only [zr_n, zr_L1]; exact hn.2.1.2.2.2.1, by simp (disch := omega) only [zr_n, zr_L1]; exact hn.2.1.2.2.2.2⟩, hn.2.2⟩, ?_, zRv_cg hv (by omega) (by intros; first | rfl | simp (disch := omega) only [zr_n, zr_L1, zr_I2, zrL_n]), zRw_cg hw (by intros; first | rfl | simp (disch := omega) only [zr_n, zr_L1, zr_I2, zrL_n]) (by intros; first | rfl | simp (disch := omega) only [zr_n, zr_L1, zr_I2, zrL_n]) (by intros; first | rfl | simp (disch := omega) only [zr_n, zr_L1, zr_I2, zrL_n]), zRk_cg hk (by omega) (by intros; first | rfl | simp (disch := omega) only [zr_n, zr_L1, zr_I2, zrL_n]) (by intros; first | rfl | simp (disch := omega) only [zr_n, zr_L1, zr_I2, zrL_n]) (by intros; first | rfl | simp (disch := omega) only [zr_n, zr_L1, zr_I2, zrL_n]), zRh_cg hh (by intro i hi; refine ⟨?_, ?_, ?_⟩ <;> first | rfl | simp (disch := omega) only [zr_n, zr_L1, zr_I2, zrL_n]) (by intros; first | rfl | simp (disch := omega) only [zr_n, zr_L1, zr_I2, zrL_n]), zRb_cg hb (by intros; first | rfl | simp (disch := omega) only [zr_n, zr_L1, zr_I2, zrL_n]) (by intros; first | rfl | simp (disch := omega) only [zr_n, zr_L1, zr_I2, zrL_n]) (by intros; first | rfl | simp (disch := omega) only [zr_n, zr_L1, zr_I2, zrL_n]), zRp_cg hp (by intros; first | rfl | simp (disch := omega) only [zr_n, zr_L1, zr_I2, zrL_n]) (by intros; first | rfl | simp (disch := omega) only [zr_n, zr_L1, zr_I2, zrL_n]), zRg_cg hg (by intros; first | rfl | simp (disch := omega) only [zr_n, zr_L1, zr_I2, zrL_n]) (by intros; first | rfl | simp (disch := omega) only [zr_n, zr_L1, zr_I2, zrL_n]), zRgv_cg hgv (by omega) (by intros; first | rfl | simp (disch := omega) only [zr_n, zr_L1, zr_I2, zrL_n]) (by intros; first | rfl | simp (disch := omega) only [zr_n, zr_L1, zr_I2, zrL_n]), zRo_cg ho (by intros; first | rfl | simp (disch := omega) only [zr_n, zr_L1, zr_I2, zrL_n]), zRz_cg hz (by intros; first | rfl | simp (disch := omega) only [zr_n, zr_L1, zr_I2, zrL_n]) (by intros; first | rfl | simp (disch := omega) only [zr_n, zr_L1, zr_I2, zrL_n]), zRB_cg hB (by intros; first | rfl | simp (disch := omega) only [zr_n, zr_L1, zr_I2, zrL_n]) (by intros; first | rfl | simp (disch := omega) only [zr_n, zr_L1, zr_I2, zrL_n]), zRBv_cg hBv (by intros; first | rfl | simp (disch := omega) only [zr_n, zr_L1, zr_I2, zrL_n]) (by intro k hk e; first | exact e | (simp (disch := omega) only [zr_n, zr_L1, zr_I2, zrL_n]; exact e)), zRZ_cg hZ (by intros; first | rfl | simp (disch := omega) only [zr_n, zr_L1, zr_I2, zrL_n]) (by intros; first | rfl | simp (disch := omega) only [zr_n, zr_L1, zr_I2, zrL_n]), ?_⟩
          · intro j hj
            have h0 := hs j hj
            by_cases hji : j = i
            · subst hji
              have e : (zwL (zwI c (14 + j) 6 (nI (t + k))) 8 2 (c.2 8 2 - (3 * nI k).toInt64)).1 (18 + j) = c.1 (18 + j) := funext fun x => by simp (disch := omega) only [zr_n, zr_L1]
              rw [e]
              simp (disch := omega) only [zr_e, zr_n, zr_L1]
              exact ⟨⟨h0.1.1, h0.1.2.1, h0.1.2.2.1, h0.1.2.2.2.1, h0.1.2.2.2.2.1, h0.1.2.2.2.2.2.1, trivial⟩, h0.2.1, t + k, by omega, rfl⟩
            · have e : (zwL (zwI c (14 + i) 6 (nI (t + k))) 8 2 (c.2 8 2 - (3 * nI k).toInt64)).1 (18 + j) = c.1 (18 + j) := funext fun x => by simp (disch := omega) only [zr_n, zr_L1]
              rw [e]
              simp (disch := omega) only [zr_e, zr_n, zr_L1]
              exact h0
          · unfold zRa at ha ⊢
            simp (disch := omega) only [zrL_e, zrL_n, zr_I2, ha.1, ha.2.1, ha.2.2, zl3 hk2, and_self]
theorem P_reside (a b : Int32) (hR : zR c m) : zPair [(1, 1)] (f_X6_reside c a b) (fx_X6_reside c a b) (f_X7_reside m a b) (fun r b : Int32 => r = b) := by
  obtain ⟨nS, nK, nG, nB, nw, h5⟩ := id hR
  obtain ⟨hn, hs, hv, hw, hk, hh, hb, hp, hg, hgv, ho, hz, hB, hBv, hZ, ha⟩ := id h5
  obtain ⟨l1, l2, l3, l4, l5⟩ := hn.2.2
  rcases zIx a (n := 10) (by omega) with h | ⟨i, hi, rfl⟩
  · refine zPair_x (k := 1) (v := 1) (c' := c) (b := 0) (m' := zwI m 0 52 1) (by simp) ?_ ?_ (zr_e _ _ _ _) (zR_th hR 1)
    · unfold fx_X6_reside
      rw [show fx_X6_demandIndex c a 10 = some (1, c) from dIx_no (n := 10) h, zorx_s]
    · unfold f_X7_reside f_X7_reside_28
      rw [in_eq, zbs, show zwi a 0 9 = 0 from zidx_no (n := 10) (by omega) h]
      simp (disch := omega) only [zbs, zlet_eq, zr_e, zr_n, zr_I2, zr_L1, zrL_e, zrL_n, zif_in, ztN, z10, z20, z30, z1le0, z2le0, z3le0, z00, eq_self, not_false_eq_true, ↓reduceIte]
  · have w0 : zwi (nI i) 0 9 = 1 := zidx_yes (n := 10) hi (by omega)
    have d0 : f_X6_demandIndex c (nI i) 10 = some ((), c) := dI_yes (n := 10) hi (by omega)
    have d1 : fx_X6_demandIndex c (nI i) 10 = none := dIx_yes (n := 10) hi (by omega)
    have hpi := hp i hi
    have key : ∀ b : Int32, (b = -1 ∨ ∃ j : Nat, j < 6 ∧ b = nI j) → zwi b (-1) 5 = 1 → (f_X6_reside c (nI i) b = some (c.1 5 i, zwI c 5 i b)) → zPair [(1, 1)] (f_X6_reside c (nI i) b) (fx_X6_reside c (nI i) b) (f_X7_reside m (nI i) b) (fun r b : Int32 => r = b) := by
      intro b hb1 w1 hf
      refine zPair_ok (r := c.1 5 i) (c' := zwI c 5 i b) (b := c.1 5 i) (m' := zwI (zwI m 0 52 0) 16 i (b + 1)) hf ?_ (by simp (disch := omega) only [zr_e, zr_n]) rfl ?_
      · unfold f_X7_reside f_X7_reside_28
        rw [in_eq, zbs, w0, if_neg z10, in_eq, zbs, w1, if_neg z10]
        simp (disch := omega) only [zbs, zlet_eq, zr_e, zr_n, zr_I2, zr_L1, zrL_e, zrL_n, zif_in, ztN, z10, z20, z30, z1le0, z2le0, z3le0, z00, eq_self, not_false_eq_true, ↓reduceIte, hpi.1, Int32.add_sub_cancel]
      · refine ⟨nS, nK, nG, nB, nw, ⟨⟨by simp (disch := omega) only [zr_n, zr_L1]; exact hn.1.1, by simp (disch := omega) only [zr_n, zr_L1]; exact hn.1.2.1, by simp (disch := omega) only [zr_n, zr_L1]; exact hn.1.2.2.1, by simp (disch := omega) only [zr_n, zr_L1]; exact hn.1.2.2.2.1, by simp (disch := omega) only [zr_n, zr_L1]; exact hn.1.2.2.2.2⟩, ⟨by simp (disch := omega) only [zr_n, zr_L1]; exact hn.2.1.1, by simp (disch := omega) only [zr_n, zr_L1]; exact hn.2.1.2.1, by simp (disch := omega) only [zr_n, zr_L1]; exact hn.2.1.2.2.1, by simp (disch := omega) only [zr_n, zr_L1]; exact hn.2.1.2.2.2.1, by simp (disch := omega) only [zr_n, zr_L1]; exact hn.2.1.2.2.2.2⟩, hn.2.2⟩, zRs_cg hs (by intros; first | rfl | simp (disch := omega) only [zr_n, zr_L1, zr_I2, zrL_n]) (by intros; first | rfl | simp (disch := omega) only [zr_n, zr_L1, zr_I2, zrL_n]) (by intros; first | rfl | simp (disch := omega) only [zr_n, zr_L1, zr_I2, zrL_n]) (by intros; first | rfl | simp (disch := omega) only [zr_n, zr_L1, zr_I2, zrL_n]), zRv_cg hv (by omega) (by intros; first | rfl | simp (disch := omega) only [zr_n, zr_L1, zr_I2, zrL_n]), zRw_cg hw (by intros; first | rfl | simp (disch := omega) only [zr_n, zr_L1, zr_I2, zrL_n]) (by intros; first | rfl | simp (disch := omega) only [zr_n, zr_L1, zr_I2, zrL_n]) (by intros; first | rfl | simp (disch := omega) only [zr_n, zr_L1, zr_I2, zrL_n]), zRk_cg hk (by omega) (by intros; first | rfl | simp (disch := omega) only [zr_n, zr_L1, zr_I2, zrL_n]) (by intros; first | rfl | simp (disch := omega) only [zr_n, zr_L1, zr_I2, zrL_n]) (by intros; first | rfl | simp (disch := omega) only [zr_n, zr_L1, zr_I2, zrL_n]), zRh_cg hh (by intro i hi; refine ⟨?_, ?_, ?_⟩ <;> first | rfl | simp (disch := omega) only [zr_n, zr_L1, zr_I2, zrL_n]) (by intros; first | rfl | simp (disch := omega) only [zr_n, zr_L1, zr_I2, zrL_n]), zRb_cg hb (by intros; first | rfl | simp (disch := omega) only [zr_n, zr_L1, zr_I2, zrL_n]) (by intros; first | rfl | simp (disch := omega) only [zr_n, zr_L1, zr_I2, zrL_n]) (by intros; first | rfl | simp (disch := omega) only [zr_n, zr_L1, zr_I2, zrL_n]), ?_, zRg_cg hg (by intros; first | rfl | simp (disch := omega) only [zr_n, zr_L1, zr_I2, zrL_n]) (by intros; first | rfl | simp (disch := omega) only [zr_n, zr_L1, zr_I2, zrL_n]), zRgv_cg hgv (by omega) (by intros; first | rfl | simp (disch := omega) only [zr_n, zr_L1, zr_I2, zrL_n]) (by intros; first | rfl | simp (disch := omega) only [zr_n, zr_L1, zr_I2, zrL_n]), zRo_cg ho (by intros; first | rfl | simp (disch := omega) only [zr_n, zr_L1, zr_I2, zrL_n]), zRz_cg hz (by intros; first | rfl | simp (disch := omega) only [zr_n, zr_L1, zr_I2, zrL_n]) (by intros; first | rfl | simp (disch := omega) only [zr_n, zr_L1, zr_I2, zrL_n]), zRB_cg hB (by intros; first | rfl | simp (disch := omega) only [zr_n, zr_L1, zr_I2, zrL_n]) (by intros; first | rfl | simp (disch := omega) only [zr_n, zr_L1, zr_I2, zrL_n]), zRBv_cg hBv (by intros; first | rfl | simp (disch := omega) only [zr_n, zr_L1, zr_I2, zrL_n]) (by intro k hk e; first | exact e | (simp (disch := omega) only [zr_n, zr_L1, zr_I2, zrL_n]; exact e)), zRZ_cg hZ (by intros; first | rfl | simp (disch := omega) only [zr_n, zr_L1, zr_I2, zrL_n]) (by intros; first | rfl | simp (disch := omega) only [zr_n, zr_L1, zr_I2, zrL_n]), zRa_cg ha (by intros; first | rfl | simp (disch := omega) only [zr_n, zr_L1, zr_I2, zrL_n]) (by intros; first | rfl | simp (disch := omega) only [zr_n, zr_L1, zr_I2, zrL_n])⟩
        intro j hj
        by_cases hji : j = i
        · subst hji
          simp (disch := omega) only [zr_e]
          exact ⟨trivial, hb1⟩
        · simp (disch := omega) only [zr_n]
          exact hp j hj
    by_cases h1 : b = -1
    · subst h1
      refine key (-1) (Or.inl rfl) (by decide) ?_
      unfold f_X6_reside f_X6_reside_17
      rw [d0, zbs, if_pos rfl]
      simp (disch := omega) only [zbs, zlet_eq, zr_e, zr_n, zr_I2, zr_L1, zrL_e, zrL_n, zif_in, ztN, z10, z20, z30, z1le0, z2le0, z3le0, z00, eq_self, not_false_eq_true, ↓reduceIte]
    · rcases zIx b (n := 6) (by omega) with h | ⟨j, hj, rfl⟩
      · refine zPair_x (k := 1) (v := 1) (c' := c) (b := 0) (m' := zwI m 0 52 1) (by simp) ?_ ?_ (zr_e _ _ _ _) (zR_th hR 1)
        · unfold fx_X6_reside
          rw [d1, zorx_n, d0, zbs, if_neg h1, show fx_X6_demandIndex c b 6 = some (1, c) from dIx_no (n := 6) h, zorx_s]
        · have w1 : zwi b (-1) 5 = 0 := by
            unfold zwi
            by_cases g1 : b < -1
            · rw [if_pos g1]
            · rw [if_neg g1, if_pos]
              have hm1 : (-1 : Int32).toInt = -1 := rfl
              have h5' : (5 : Int32).toInt = 5 := rfl
              have h6' : (nI 6).toInt = 6 := rfl
              have hb1 : b.toInt ≠ -1 := fun q => h1 (Int32.toInt_inj.mp (q.trans hm1.symm))
              rw [zlt_i, hm1] at g1
              rw [zlt_i, zle_i, zti0, h6'] at h
              rw [zlt_i, h5']
              omega
          unfold f_X7_reside f_X7_reside_28
          rw [in_eq, zbs, w0, if_neg z10, in_eq, zbs, w1]
          simp (disch := omega) only [zbs, zlet_eq, zr_e, zr_n, zr_I2, zr_L1, zrL_e, zrL_n, zif_in, ztN, z10, z20, z30, z1le0, z2le0, z3le0, z00, eq_self, not_false_eq_true, ↓reduceIte]
      · refine key (nI j) (Or.inr ⟨j, hj, rfl⟩) ?_ ?_
        · unfold zwi
          have hm1 : (-1 : Int32).toInt = -1 := rfl
          have h5' : (5 : Int32).toInt = 5 := rfl
          rw [if_neg, if_neg]
          · rw [zlt_i, h5', zti (by omega)]
            omega
          · rw [zlt_i, hm1, zti (by omega)]
            omega
        · unfold f_X6_reside f_X6_reside_17
          rw [d0, zbs, if_neg h1, show f_X6_demandIndex c (nI j) 6 = some ((), c) from dI_yes (n := 6) hj (by omega), zbs]
          simp (disch := omega) only [zbs, zlet_eq, zr_e, zr_n, zr_I2, zr_L1, zrL_e, zrL_n, zif_in, ztN, z10, z20, z30, z1le0, z2le0, z3le0, z00, eq_self, not_false_eq_true, ↓reduceIte]
theorem P_bus (a b e : Int32) (hR : zR c m) : zPair [(1, 1), (2, 2)] (f_X6_bus c a b e) (fx_X6_bus c a b e) (f_X7_bus m a b e) (fun _ _ : Unit => True) := by
  obtain ⟨nS, nK, nG, nB, nw, h5⟩ := id hR
  obtain ⟨hn, hs, hv, hw, hk, hh, hb, hp, hg, hgv, ho, hz, hB, hBv, hZ, ha⟩ := id h5
  obtain ⟨l1, l2, l3, l4, l5⟩ := hn.2.2
  rcases zIx a (n := 6) (by omega) with h | ⟨i, hi, rfl⟩
  · refine zPair_x (k := 1) (v := 1) (c' := c) (b := ()) (m' := zwI m 0 52 1) (by simp) ?_ ?_ (zr_e _ _ _ _) (zR_th hR 1)
    · unfold fx_X6_bus
      rw [show fx_X6_demandIndex c a 6 = some (1, c) from dIx_no (n := 6) h, zorx_s]
    · unfold f_X7_bus f_X7_bus_41
      rw [isIsland_eq, zbs, zidx_no (by omega) h]
      simp (disch := omega) only [zbs, zlet_eq, zr_e, zr_n, zr_I2, zr_L1, zrL_e, zrL_n, zif_in, ztN, z10, z20, z30, z1le0, z2le0, z3le0, z00, eq_self, not_false_eq_true, ↓reduceIte]
  · have d0 : f_X6_demandIndex c (nI i) 6 = some ((), c) := dI_yes (n := 6) hi (by omega)
    have d1 : fx_X6_demandIndex c (nI i) 6 = none := dIx_yes (n := 6) hi (by omega)
    by_cases h1 : zwi b 1 12 = 0
    · refine zPair_x (k := 2) (v := 2) (c' := c) (b := ()) (m' := zwI m 0 52 2) (by simp) ?_ ?_ (zr_e _ _ _ _) (zR_th hR 2)
      · unfold fx_X6_bus fx_X6_bus_31
        rw [d1, zorx_n, d0, zbs, isWithin_eq, zbs, if_pos h1]
      · unfold f_X7_bus f_X7_bus_41
        rw [isIsland_eq, zbs, zidx_yes hi (by omega), if_neg z10, in_eq, zbs, if_pos h1]
        simp (disch := omega) only [zbs, zlet_eq, zr_e, zr_n, zr_I2, zr_L1, zrL_e, zrL_n, zif_in, ztN, z10, z20, z30, z1le0, z2le0, z3le0, z00, eq_self, not_false_eq_true, ↓reduceIte]
    · by_cases h2 : zwi e 0 (b - 1) = 0
      · refine zPair_x (k := 2) (v := 2) (c' := c) (b := ()) (m' := zwI m 0 52 2) (by simp) ?_ ?_ (zr_e _ _ _ _) (zR_th hR 2)
        · unfold fx_X6_bus fx_X6_bus_31
          rw [d1, zorx_n, d0, zbs, isWithin_eq, zbs, if_neg h1, isWithin_eq, zbs, if_pos h2]
        · unfold f_X7_bus f_X7_bus_41
          rw [isIsland_eq, zbs, zidx_yes hi (by omega), if_neg z10, in_eq, zbs, if_neg h1, in_eq, zbs, if_pos h2]
          simp (disch := omega) only [zbs, zlet_eq, zr_e, zr_n, zr_I2, zr_L1, zrL_e, zrL_n, zif_in, ztN, z10, z20, z30, z1le0, z2le0, z3le0, z00, eq_self, not_false_eq_true, ↓reduceIte]
      · obtain ⟨p, hp1, hp2, rfl⟩ := zwi_yes (lo := 1) (hi := 12) (by omega) (by omega) h1
        obtain ⟨q, rfl⟩ : ∃ q, p = q + 1 := ⟨p - 1, by omega⟩
        have h2' : ¬ zwi e (nI 0) (nI q) = 0 := by
          have := h2
          rw [zm1] at this
          exact this
        obtain ⟨x, -, hx, rfl⟩ := zwi_yes (by omega) (by omega) h2'
        refine zPair_ok (r := ()) (c' := zwI (zwI c 6 i (nI (q + 1))) 7 i (nI x)) (b := ()) (m' := zwI (zwI (zwI m 0 52 0) 14 i (nI (q + 1))) 15 i (nI x)) ?_ ?_ (by simp (disch := omega) only [zr_e, zr_n]) trivial ?_
        · unfold f_X6_bus
          rw [d0, zbs, isWithin_eq, zbs, if_neg h1, isWithin_eq, zbs, if_neg h2]
          simp (disch := omega) only [zbs, zlet_eq, zr_e, zr_n, zr_I2, zr_L1, zrL_e, zrL_n, zif_in, ztN, z10, z20, z30, z1le0, z2le0, z3le0, z00, eq_self, not_false_eq_true, ↓reduceIte]
        · unfold f_X7_bus f_X7_bus_41
          rw [isIsland_eq, zbs, zidx_yes hi (by omega), if_neg z10, in_eq, zbs, if_neg h1, in_eq, zbs, if_neg h2]
          simp (disch := omega) only [zbs, zlet_eq, zr_e, zr_n, zr_I2, zr_L1, zrL_e, zrL_n, zif_in, ztN, z10, z20, z30, z1le0, z2le0, z3le0, z00, eq_self, not_false_eq_true, ↓reduceIte]
        · refine ⟨nS, nK, nG, nB, nw, ⟨⟨by simp (disch := omega) only [zr_n, zr_L1]; exact hn.1.1, by simp (disch := omega) only [zr_n, zr_L1]; exact hn.1.2.1, by simp (disch := omega) only [zr_n, zr_L1]; exact hn.1.2.2.1, by simp (disch := omega) only [zr_n, zr_L1]; exact hn.1.2.2.2.1, by simp (disch := omega) only [zr_n, zr_L1]; exact hn.1.2.2.2.2⟩, ⟨by simp (disch := omega) only [zr_n, zr_L1]; exact hn.2.1.1, by simp (disch := omega) only [zr_n, zr_L1]; exact hn.2.1.2.1, by simp (disch := omega) only [zr_n, zr_L1]; exact hn.2.1.2.2.1, by simp (disch := omega) only [zr_n, zr_L1]; exact hn.2.1.2.2.2.1, by simp (disch := omega) only [zr_n, zr_L1]; exact hn.2.1.2.2.2.2⟩, hn.2.2⟩, zRs_cg hs (by intros; first | rfl | simp (disch := omega) only [zr_n, zr_L1, zr_I2, zrL_n]) (by intros; first | rfl | simp (disch := omega) only [zr_n, zr_L1, zr_I2, zrL_n]) (by intros; first | rfl | simp (disch := omega) only [zr_n, zr_L1, zr_I2, zrL_n]) (by intros; first | rfl | simp (disch := omega) only [zr_n, zr_L1, zr_I2, zrL_n]), zRv_cg hv (by omega) (by intros; first | rfl | simp (disch := omega) only [zr_n, zr_L1, zr_I2, zrL_n]), zRw_cg hw (by intros; first | rfl | simp (disch := omega) only [zr_n, zr_L1, zr_I2, zrL_n]) (by intros; first | rfl | simp (disch := omega) only [zr_n, zr_L1, zr_I2, zrL_n]) (by intros; first | rfl | simp (disch := omega) only [zr_n, zr_L1, zr_I2, zrL_n]), zRk_cg hk (by omega) (by intros; first | rfl | simp (disch := omega) only [zr_n, zr_L1, zr_I2, zrL_n]) (by intros; first | rfl | simp (disch := omega) only [zr_n, zr_L1, zr_I2, zrL_n]) (by intros; first | rfl | simp (disch := omega) only [zr_n, zr_L1, zr_I2, zrL_n]), zRh_cg hh (by intro i hi; refine ⟨?_, ?_, ?_⟩ <;> first | rfl | simp (disch := omega) only [zr_n, zr_L1, zr_I2, zrL_n]) (by intros; first | rfl | simp (disch := omega) only [zr_n, zr_L1, zr_I2, zrL_n]), ?_, zRp_cg hp (by intros; first | rfl | simp (disch := omega) only [zr_n, zr_L1, zr_I2, zrL_n]) (by intros; first | rfl | simp (disch := omega) only [zr_n, zr_L1, zr_I2, zrL_n]), zRg_cg hg (by intros; first | rfl | simp (disch := omega) only [zr_n, zr_L1, zr_I2, zrL_n]) (by intros; first | rfl | simp (disch := omega) only [zr_n, zr_L1, zr_I2, zrL_n]), zRgv_cg hgv (by omega) (by intros; first | rfl | simp (disch := omega) only [zr_n, zr_L1, zr_I2, zrL_n]) (by intros; first | rfl | simp (disch := omega) only [zr_n, zr_L1, zr_I2, zrL_n]), zRo_cg ho (by intros; first | rfl | simp (disch := omega) only [zr_n, zr_L1, zr_I2, zrL_n]), zRz_cg hz (by intros; first | rfl | simp (disch := omega) only [zr_n, zr_L1, zr_I2, zrL_n]) (by intros; first | rfl | simp (disch := omega) only [zr_n, zr_L1, zr_I2, zrL_n]), zRB_cg hB (by intros; first | rfl | simp (disch := omega) only [zr_n, zr_L1, zr_I2, zrL_n]) (by intros; first | rfl | simp (disch := omega) only [zr_n, zr_L1, zr_I2, zrL_n]), zRBv_cg hBv (by intros; first | rfl | simp (disch := omega) only [zr_n, zr_L1, zr_I2, zrL_n]) (by intro k hk e; first | exact e | (simp (disch := omega) only [zr_n, zr_L1, zr_I2, zrL_n]; exact e)), zRZ_cg hZ (by intros; first | rfl | simp (disch := omega) only [zr_n, zr_L1, zr_I2, zrL_n]) (by intros; first | rfl | simp (disch := omega) only [zr_n, zr_L1, zr_I2, zrL_n]), zRa_cg ha (by intros; first | rfl | simp (disch := omega) only [zr_n, zr_L1, zr_I2, zrL_n]) (by intros; first | rfl | simp (disch := omega) only [zr_n, zr_L1, zr_I2, zrL_n])⟩
          intro j hj
          by_cases hji : j = i
          · subst hji
            simp (disch := omega) only [zr_e, zr_n]
            exact ⟨trivial, trivial, q + 1, x, by omega, by omega, rfl, rfl⟩
          · simp (disch := omega) only [zr_n]
            exact hb j hj
theorem tell_eq (st : zSt) (r : Nat) (a b : Int32) : f_X5_tell st r a b = some ((), zwI (zwI st r 0 a) r 1 b) := rfl
theorem zspan_new {s : Nat → Int32} {x y : Nat} (hx : x ≤ 10000) (hy : y ≤ 10000) (h0 : s 0 = nI x) (h1 : s 1 = nI y) {hf ht : Int32} (h2 : hf = nI x + 1) (h3 : ht = nI y) : zspan s hf ht := Or.inr ⟨x, y, hx, hy, h0, h1, by rw [h2, nI_1], h3⟩
theorem P_hinder (a d x y : Int32) (hR : zR c m) : zPair [(1, 1), (2, 2)] (f_X6_hinder c a d x y) (fx_X6_hinder c a d x y) (f_X7_hinder m a d x y) (fun _ _ : Unit => True) := by
  obtain ⟨nS, nK, nG, nB, nw, h5⟩ := id hR
  obtain ⟨hn, hs, hv, hw, hk, hh, hb, hp, hg, hgv, ho, hz, hB, hBv, hZ, ha⟩ := id h5
  obtain ⟨l1, l2, l3, l4, l5⟩ := hn.2.2
  have tail : ∀ (r q : Nat) (v5 : Int32), v5 = nI q → q < 6 → f_X6_spanFor c a d = some (r, c) → fx_X6_spanFor c a d = none → (∀ n, f_X7_hinder m a d x y = n → n = (if zwi x 0 10000 = 0 then some ((), zwI m 0 52 2) else if zwi y x 10000 = 0 then some ((), zwI m 0 52 2) else f_X7_hinder_79 (zwI m 0 52 0) x y v5)) → ((q < 2 ∧ r = 9 + q) ∨ (2 ≤ q ∧ q - 2 < nS ∧ r = 18 + (q - 2))) → zPair [(1, 1), (2, 2)] (f_X6_hinder c a d x y) (fx_X6_hinder c a d x y) (f_X7_hinder m a d x y) (fun _ _ : Unit => True) := by
    intro r q v5 hv5 hq hsp hspx hM hr
    have hM := hM _ rfl
    rw [hM]
    by_cases h1 : zwi x 0 10000 = 0
    · refine zPair_x (k := 2) (v := 2) (c' := c) (b := ()) (m' := zwI m 0 52 2) (by simp) ?_ (by rw [if_pos h1]) (zr_e _ _ _ _) (zR_th hR 2)
      unfold fx_X6_hinder fx_X6_hinder_35
      rw [hspx, zorx_n, hsp, zbs, isWithin_eq, zbs, if_pos h1]
    · by_cases h2 : zwi y x 10000 = 0
      · refine zPair_x (k := 2) (v := 2) (c' := c) (b := ()) (m' := zwI m 0 52 2) (by simp) ?_ (by rw [if_neg h1, if_pos h2]) (zr_e _ _ _ _) (zR_th hR 2)
        unfold fx_X6_hinder fx_X6_hinder_35
        rw [hspx, zorx_n, hsp, zbs, isWithin_eq, zbs, if_neg h1, isWithin_eq, zbs, if_pos h2]
      · obtain ⟨x, -, hx, rfl⟩ := zwi_yes (lo := 0) (hi := 10000) (by omega) (by omega) h1
        obtain ⟨y, -, hy, rfl⟩ := zwi_yes (lo := x) (hi := 10000) (by omega) (by omega) h2
        refine zPair_ok (r := ()) (c' := zwI (zwI c r 0 (nI x)) r 1 (nI y)) (b := ()) (m' := zwI (zwI (zwI m 0 52 0) 12 q (nI x + 1)) 13 q (nI y)) ?_ ?_ (by simp (disch := omega) only [zr_e, zr_n]) trivial ?_
        · unfold f_X6_hinder
          rw [hsp, zbs, isWithin_eq, zbs, if_neg h1, isWithin_eq, zbs, if_neg h2, tell_eq, zbs]
        · rw [if_neg h1, if_neg h2, hv5]
          unfold f_X7_hinder_79
          simp (disch := omega) only [zbs, zlet_eq, zr_e, zr_n, zr_I2, zr_L1, zrL_e, zrL_n, zif_in, ztN, z10, z20, z30, z1le0, z2le0, z3le0, z00, eq_self, not_false_eq_true, ↓reduceIte]
        · refine ⟨nS, nK, nG, nB, nw, ⟨⟨by simp (disch := omega) only [zr_n, zr_L1]; exact hn.1.1, by simp (disch := omega) only [zr_n, zr_L1]; exact hn.1.2.1, by simp (disch := omega) only [zr_n, zr_L1]; exact hn.1.2.2.1, by simp (disch := omega) only [zr_n, zr_L1]; exact hn.1.2.2.2.1, by simp (disch := omega) only [zr_n, zr_L1]; exact hn.1.2.2.2.2⟩, ⟨by simp (disch := omega) only [zr_n, zr_L1]; exact hn.2.1.1, by simp (disch := omega) only [zr_n, zr_L1]; exact hn.2.1.2.1, by simp (disch := omega) only [zr_n, zr_L1]; exact hn.2.1.2.2.1, by simp (disch := omega) only [zr_n, zr_L1]; exact hn.2.1.2.2.2.1, by simp (disch := omega) only [zr_n, zr_L1]; exact hn.2.1.2.2.2.2⟩, hn.2.2⟩, ?_, zRv_cg hv (by omega) (by intros; first | rfl | simp (disch := omega) only [zr_n, zr_L1, zr_I2, zrL_n]), ?_, zRk_cg hk (by omega) (by intros; first | rfl | simp (disch := omega) only [zr_n, zr_L1, zr_I2, zrL_n]) (by intros; first | rfl | simp (disch := omega) only [zr_n, zr_L1, zr_I2, zrL_n]) (by intros; first | rfl | simp (disch := omega) only [zr_n, zr_L1, zr_I2, zrL_n]), zRh_cg hh (by intro i hi; refine ⟨?_, ?_, ?_⟩ <;> first | rfl | simp (disch := omega) only [zr_n, zr_L1, zr_I2, zrL_n]) (by intros; first | rfl | simp (disch := omega) only [zr_n, zr_L1, zr_I2, zrL_n]), zRb_cg hb (by intros; first | rfl | simp (disch := omega) only [zr_n, zr_L1, zr_I2, zrL_n]) (by intros; first | rfl | simp (disch := omega) only [zr_n, zr_L1, zr_I2, zrL_n]) (by intros; first | rfl | simp (disch := omega) only [zr_n, zr_L1, zr_I2, zrL_n]), zRp_cg hp (by intros; first | rfl | simp (disch := omega) only [zr_n, zr_L1, zr_I2, zrL_n]) (by intros; first | rfl | simp (disch := omega) only [zr_n, zr_L1, zr_I2, zrL_n]), zRg_cg hg (by intros; first | rfl | simp (disch := omega) only [zr_n, zr_L1, zr_I2, zrL_n]) (by intros; first | rfl | simp (disch := omega) only [zr_n, zr_L1, zr_I2, zrL_n]), zRgv_cg hgv (by omega) (by intros; first | rfl | simp (disch := omega) only [zr_n, zr_L1, zr_I2, zrL_n]) (by intros; first | rfl | simp (disch := omega) only [zr_n, zr_L1, zr_I2, zrL_n]), zRo_cg ho (by intros; first | rfl | simp (disch := omega) only [zr_n, zr_L1, zr_I2, zrL_n]), zRz_cg hz (by intros; first | rfl | simp (disch := omega) only [zr_n, zr_L1, zr_I2, zrL_n]) (by intros; first | rfl | simp (disch := omega) only [zr_n, zr_L1, zr_I2, zrL_n]), zRB_cg hB (by intros; first | rfl | simp (disch := omega) only [zr_n, zr_L1, zr_I2, zrL_n]) (by intros; first | rfl | simp (disch := omega) only [zr_n, zr_L1, zr_I2, zrL_n]), zRBv_cg hBv (by intros; first | rfl | simp (disch := omega) only [zr_n, zr_L1, zr_I2, zrL_n]) (by intro k hk e; first | exact e | (simp (disch := omega) only [zr_n, zr_L1, zr_I2, zrL_n]; exact e)), zRZ_cg hZ (by intros; first | rfl | simp (disch := omega) only [zr_n, zr_L1, zr_I2, zrL_n]) (by intros; first | rfl | simp (disch := omega) only [zr_n, zr_L1, zr_I2, zrL_n]), zRa_cg ha (by intros; first | rfl | simp (disch := omega) only [zr_n, zr_L1, zr_I2, zrL_n]) (by intros; first | rfl | simp (disch := omega) only [zr_n, zr_L1, zr_I2, zrL_n])⟩
          · intro j hj
            have h0 := hs j hj
            have e1 : ∀ t, (zwI (zwI c r 0 (nI x)) r 1 (nI y)).1 (14 + j) t = c.1 (14 + j) t := fun t => by simp (disch := omega) only [zr_n]
            simp only [e1]
            by_cases hji : 2 + j = q
            · refine ⟨?_, zspan_new hx hy ?_ ?_ ?_ ?_, h0.2.2⟩
              · simp (disch := omega) only [zr_n]
                exact h0.1
              · rw [show 18 + j = r by omega]
                simp (disch := omega) only [zr_n, zr_e]
              · rw [show 18 + j = r by omega]
                simp (disch := omega) only [zr_e]
              · rw [hji]
                simp (disch := omega) only [zr_n, zr_e]
              · rw [hji]
                simp (disch := omega) only [zr_e]
            · have e2 : (zwI (zwI c r 0 (nI x)) r 1 (nI y)).1 (18 + j) = c.1 (18 + j) := funext fun t => by simp (disch := omega) only [zr_n]
              rw [e2]
              simp (disch := omega) only [zr_n]
              exact h0
          · have h0 := hw
            unfold zRw at h0 ⊢
            rcases hr with ⟨hq2, rfl⟩ | ⟨hq2, hq3, rfl⟩
            · match q, hq2 with
              | 0, _ =>
                refine ⟨zspan_new hx hy ?_ ?_ ?_ ?_, ?_⟩
                · simp (disch := omega) only [zr_n, zr_e]
                · simp (disch := omega) only [zr_n, zr_e]
                · simp (disch := omega) only [zr_n, zr_e]
                · simp (disch := omega) only [zr_n, zr_e]
                · have e2 : (zwI (zwI c (9 + 0) 0 (nI x)) (9 + 0) 1 (nI y)).1 10 = c.1 10 := funext fun t => by simp (disch := omega) only [zr_n]
                  rw [e2]
                  simp (disch := omega) only [zr_n]
                  exact h0.2
              | 1, _ =>
                refine ⟨?_, zspan_new hx hy ?_ ?_ ?_ ?_⟩
                · have e2 : (zwI (zwI c (9 + 1) 0 (nI x)) (9 + 1) 1 (nI y)).1 9 = c.1 9 := funext fun t => by simp (disch := omega) only [zr_n]
                  rw [e2]
                  simp (disch := omega) only [zr_n]
                  exact h0.1
                · simp (disch := omega) only [zr_n, zr_e]
                · simp (disch := omega) only [zr_n, zr_e]
                · simp (disch := omega) only [zr_n, zr_e]
                · simp (disch := omega) only [zr_n, zr_e]
            · have e2 : (zwI (zwI c (18 + (q - 2)) 0 (nI x)) (18 + (q - 2)) 1 (nI y)).1 10 = c.1 10 := funext fun t => by simp (disch := omega) only [zr_n]
              have e3 : (zwI (zwI c (18 + (q - 2)) 0 (nI x)) (18 + (q - 2)) 1 (nI y)).1 9 = c.1 9 := funext fun t => by simp (disch := omega) only [zr_n]
              rw [e2, e3]
              simp (disch := omega) only [zr_n]
              exact h0
  by_cases ha2 : a = 2
  · subst ha2
    rcases zIx d (n := nS) (by omega) with h | ⟨i, hi, rfl⟩
    · refine zPair_x (k := 1) (v := 1) (c' := c) (b := ()) (m' := zwI m 0 52 1) (by simp) ?_ ?_ (zr_e _ _ _ _) (zR_th hR 1)
      · unfold fx_X6_hinder fx_X6_spanFor
        rw [if_pos rfl, kSx_no hn.1.1 h, zorx_s, zorx_s]
      · unfold f_X7_hinder f_X7_hinder_58
        rw [if_pos rfl, isShip_eq hn.2.1.1, zbs, zidx_no (by omega) h]
        simp (disch := omega) only [zbs, zlet_eq, zr_e, zr_n, zr_I2, zr_L1, zrL_e, zrL_n, zif_in, ztN, z10, z20, z30, z1le0, z2le0, z3le0, z00, eq_self, not_false_eq_true, ↓reduceIte]
    · refine tail (18 + i) (2 + i) (2 + nI i) (by rw [z2, nI_add]) (by omega) ?_ ?_ ?_ (Or.inr ⟨by omega, by omega, by omega⟩)
      · unfold f_X6_spanFor
        rw [if_pos rfl, kS_yes hn.1.1 hi l1, zbs]
        simp only [Option.some.injEq, Prod.mk.injEq, and_true]
        omega
      · unfold fx_X6_spanFor
        rw [if_pos rfl, kSx_yes hn.1.1 hi l1, zorx_n, kS_yes hn.1.1 hi l1, zbs]
      · intro n hn'
        rw [← hn']
        unfold f_X7_hinder f_X7_hinder_58
        rw [if_pos rfl, isShip_eq hn.2.1.1, zbs, zidx_yes hi (by omega), if_neg z10, in_eq, zbs, show zwi 2 0 2 = 1 from by decide, if_neg z10, in_eq, zbs]
        by_cases h1 : zwi x 0 10000 = 0
        · rw [if_pos h1, if_pos h1]
          simp (disch := omega) only [zbs, zlet_eq, zr_e, zr_n, zr_I2, zr_L1, zrL_e, zrL_n, zif_in, ztN, z10, z20, z30, z1le0, z2le0, z3le0, z00, eq_self, not_false_eq_true, ↓reduceIte]
        · rw [if_neg h1, if_neg h1, in_eq, zbs]
          by_cases h2 : zwi y x 10000 = 0
          · rw [if_pos h2, if_pos h2]
            simp (disch := omega) only [zbs, zlet_eq, zr_e, zr_n, zr_I2, zr_L1, zrL_e, zrL_n, zif_in, ztN, z10, z20, z30, z1le0, z2le0, z3le0, z00, eq_self, not_false_eq_true, ↓reduceIte]
          · rw [if_neg h2, if_neg h2]
            simp (disch := omega) only [zbs, zlet_eq, zr_e, zr_n, zr_I2, zr_L1, zrL_e, zrL_n, zif_in, ztN, z10, z20, z30, z1le0, z2le0, z3le0, z00, eq_self, not_false_eq_true, ↓reduceIte]
  · by_cases hw0 : zwi a 0 2 = 0
    · refine zPair_x (k := 2) (v := 2) (c' := c) (b := ()) (m' := zwI m 0 52 2) (by simp) ?_ ?_ (zr_e _ _ _ _) (zR_th hR 2)
      · have e0 : ¬ a = 0 := fun q => by rw [q] at hw0; exact absurd hw0 (by decide)
        have e1 : ¬ a = 1 := fun q => by rw [q] at hw0; exact absurd hw0 (by decide)
        unfold fx_X6_hinder fx_X6_spanFor
        rw [if_neg ha2, if_neg e0, if_neg e1, zorx_s]
      · unfold f_X7_hinder f_X7_hinder_58
        rw [if_neg ha2, in_eq, zbs, if_pos hw0]
        simp (disch := omega) only [zbs, zlet_eq, zr_e, zr_n, zr_I2, zr_L1, zrL_e, zrL_n, zif_in, ztN, z10, z20, z30, z1le0, z2le0, z3le0, z00, eq_self, not_false_eq_true, ↓reduceIte]
    · obtain ⟨q, -, hq, rfl⟩ := zwi_yes (lo := 0) (hi := 2) (by omega) (by omega) hw0
      have hq1 : q < 2 := by
        rcases Nat.lt_or_ge q 2 with g | g
        · exact g
        · exact absurd (show nI q = 2 by rw [show q = 2 by omega]; rfl) ha2
      refine tail (9 + q) q (nI q) rfl (by omega) ?_ ?_ ?_ (Or.inl ⟨hq1, rfl⟩)
      · unfold f_X6_spanFor f_X6_spanFor_23
        rw [if_neg ha2]
        match q, hq1 with
        | 0, _ => rfl
        | 1, _ => rfl
      · unfold fx_X6_spanFor fx_X6_spanFor_23
        rw [if_neg ha2]
        match q, hq1 with
        | 0, _ => rfl
        | 1, _ => rfl
      · intro n hn'
        rw [← hn']
        unfold f_X7_hinder f_X7_hinder_58
        rw [if_neg ha2, in_eq, zbs, if_neg hw0, in_eq, zbs]
        by_cases h1 : zwi x 0 10000 = 0
        · rw [if_pos h1, if_pos h1]
          simp (disch := omega) only [zbs, zlet_eq, zr_e, zr_n, zr_I2, zr_L1, zrL_e, zrL_n, zif_in, ztN, z10, z20, z30, z1le0, z2le0, z3le0, z00, eq_self, not_false_eq_true, ↓reduceIte]
        · rw [if_neg h1, if_neg h1, in_eq, zbs]
          by_cases h2 : zwi y x 10000 = 0
          · rw [if_pos h2, if_pos h2]
            simp (disch := omega) only [zbs, zlet_eq, zr_e, zr_n, zr_I2, zr_L1, zrL_e, zrL_n, zif_in, ztN, z10, z20, z30, z1le0, z2le0, z3le0, z00, eq_self, not_false_eq_true, ↓reduceIte]
          · rw [if_neg h2, if_neg h2]
            simp (disch := omega) only [zbs, zlet_eq, zr_e, zr_n, zr_I2, zr_L1, zrL_e, zrL_n, zif_in, ztN, z10, z20, z30, z1le0, z2le0, z3le0, z00, eq_self, not_false_eq_true, ↓reduceIte, ha2]
end ZP2
