/-! pairs, part sixteen: hours pass -/
section ZP16
variable {c c' m m' : zSt} {nS nK nG nB nw : Nat}
theorem zwI_comm (st : zSt) {q j q' j' : Nat} (v w : Int32) (h : q ≠ q' ∨ j ≠ j') : zwI (zwI st q j v) q' j' w = zwI (zwI st q' j' w) q j v := by
  refine Prod.ext ?_ rfl
  funext x y
  by_cases h1 : x = q' ∧ y = j'
  · obtain ⟨rfl, rfl⟩ := h1
    rw [zr_e, zr_n (by omega), zr_e]
  · by_cases h2 : x = q ∧ y = j
    · obtain ⟨rfl, rfl⟩ := h2
      rw [zr_n (by omega), zr_e, zr_e]
    · rw [zr_n (by omega), zr_n (by omega), zr_n (by omega), zr_n (by omega)]
theorem zLook (h5 : zR5 nS nK nG nB nw c m) {k : Nat} (hk : k < nG) (h52 : m.1 0 52 = 0) : ∃ c' m', f_X6_lookAt c (nI k) = some ((), c') ∧ (∀ K46 n v1 v2, f_X7_pass_53 K46 (n + 1) m v1 v2 (nI k) = f_X7_pass_53 K46 n m' v1 v2 (nI (k + 1))) ∧ zR5 nS nK nG nB nw c' m' ∧ m'.1 0 52 = 0 ∧ (∀ i, i < nG → c'.1 (34 + i) 3 = c.1 (34 + i) 3) ∧ (∀ i, i < nG → i ≠ k → c'.1 (34 + i) 6 = c.1 (34 + i) 6) ∧ (c'.1 (34 + k) 6 = 0 → c'.1 (34 + k) 3 ≠ nI nw)  ∧ (∀ F, zJ F nG nB c → zJ F nG nB c') := by
  obtain ⟨l1, l2, l3, l4, l5⟩ := h5.1.2.2
  have hgk := h5.2.2.2.2.2.2.2.2.1 k hk
  have hm0 : m.1 0 0 = nI nw := h5.1.2.1.2.2.2.2
  have hc15 : c.1 0 15 = nI nw := h5.1.1.2.2.2.2
  have eM : ∀ K46 n v1 v2, f_X7_pass_53 K46 (n + 1) m v1 v2 (nI k) = (if c.1 (34 + k) 6 = 0 then (if c.1 (34 + k) 3 = nI nw then ((f_X7_reasonFor m (nI k)).bind fun q20 => (if zin (nI k) 24 then (zlet (zwI q20.2 23 (nI k).toNatClampNeg q20.1) fun s23 => (if q20.1 ≤ 0 then ((f_X7_sails s23 (nI k)).bind fun q26 => f_X7_pass_118 K46 (fun st v1 v2 v3 => f_X7_pass_53 K46 n st v1 v2 v3) q26.2 v1 v2 (nI k)) else (if zin (nI k) 24 then (zlet (zwI s23 22 (nI k).toNatClampNeg 1) fun s29 => f_X7_pass_118 K46 (fun st v1 v2 v3 => f_X7_pass_53 K46 n st v1 v2 v3) s29 v1 v2 (nI k)) else none))) else none)) else f_X7_pass_53 K46 n m v1 v2 (nI (k + 1))) else f_X7_pass_53 K46 n m v1 v2 (nI (k + 1))) := fun K46 n v1 v2 => by
    rw [f_X7_pass_53, h5.1.2.1.2.2.1, zif_nle (by omega) (by omega), zif_in (show k < 24 by omega) (by omega), zif_in (show k < 24 by omega) (by omega), ← hgk.2.2.2.2.2.1, ← hgk.2.2.2.1, ← hm0, nI_1]
    simp (disch := omega) only [ztN]
  unfold f_X6_lookAt
  rw [kG_yes h5.1.1.2.2.1 hk l3, zbs]
  dsimp only
  by_cases h0 : c.1 (34 + k) 6 = 0
  case neg =>
    refine ⟨c, m, by rw [if_neg h0], fun K46 n v1 v2 => by rw [eM, if_neg h0], h5, h52, fun _ _ => rfl, fun _ _ _ => rfl, fun q => absurd q h0, fun _ h => h⟩
  rw [if_pos h0, hc15]
  by_cases h3 : c.1 (34 + k) 3 = nI nw
  case neg =>
    refine ⟨c, m, by rw [if_neg h3], fun K46 n v1 v2 => by rw [eM, if_pos h0, if_neg h3], h5, h52, fun _ _ => rfl, fun _ _ _ => rfl, fun _ q => h3 q, fun _ h => h⟩
  rw [if_pos h3]
  obtain ⟨r, r1, r2, r3⟩ := zReason h5 hk
  rw [r1, zbs]
  dsimp only
  rcases r3 with ⟨rfl, rc, rf⟩ | ⟨hr, rr, hr1, hr7, hrr⟩
  · rw [if_pos rfl]
    obtain ⟨c', m1, acc, m', a1, a2, a3, a4, a5, a6, a7, a8, a9⟩ := zSail h5 hk h0 h52 rc rf
    refine ⟨c', m', by rw [a1, zbs], fun K46 n v1 v2 => ?_, a5, a4, a6, a7, fun q => absurd (a8.symm.trans q) (by decide), a9⟩
    rw [eM, if_pos h0, if_pos h3, r2, zbs, zif_in (by omega) (by omega), zlet_eq, if_pos z00, ztN (by omega)]
    dsimp only
    rw [a2, zbs]
    unfold f_X7_pass_118
    dsimp only
    rw [a3, zbs, nI_1]
  · have hr0 : ¬ r = 0 := fun q => hr (by rw [q]; exact z00)
    rw [if_neg hr0]
    obtain ⟨acc, c', m', a1, a2, a3, a4, a5⟩ := zsend (zOff h5 hk h0 r) hk
    refine ⟨c', m', ?_, fun K46 n v1 v2 => ?_, a4, a3.trans (by simp (disch := omega) only [zr_n]; exact h52), fun i hi => by rw [a5 _ _ (by omega)]; simp (disch := omega) only [zr_n], fun i hi hne => by rw [a5 _ _ (by omega)]; simp (disch := omega) only [zr_n], fun q => ?_, fun F hJ => ?_⟩
    · unfold f_X6_callOff
      rw [kG_yes h5.1.1.2.2.1 hk l3, zbs, zlet_eq, zlet_eq]
      dsimp only
      rw [a1, zbs, zbs]
    · rw [eM, if_pos h0, if_pos h3, r2, zbs, zif_in (by omega) (by omega), zlet_eq, if_neg hr, zif_in (by omega) (by omega), zlet_eq, ztN (by omega)]
      unfold f_X7_pass_118
      dsimp only
      rw [zwI_comm m r 1 (Or.inl (by omega)), a2, zbs, nI_1]
    · rw [a5 _ _ (by omega)] at q
      simp (disch := omega) only [zr_n, zr_e] at q
      exact absurd q z10
    · subst hrr
      exact (zoffJ h5 hk h0 hJ hr1 hr7 a1 a4).2.1
theorem zHour : ∀ (r n n2 k : Nat) (c m : zSt), zR5 nS nK nG nB nw c m → m.1 0 52 = 0 → k + r = nG → r < n → r < n2 → (∀ i, i < k → c.1 (34 + i) 6 = 0 → c.1 (34 + i) 3 ≠ nI nw) → nw < 9000 → ∃ c' m', (∀ K v1 v2, f_X6_pass_39 K n c v1 v2 (nI k) = K c' v1 (v2 + 1)) ∧ (∀ K v1 v2, f_X7_pass_53 K n2 m v1 v2 (nI k) = K m' v1 (v2 + 1)) ∧ zR5 nS nK nG nB (nw + 1) c' m' ∧ m'.1 0 52 = 0 ∧ (∀ F, zJ F nG nB c → zJ F nG nB c')
  | 0, n + 1, n2 + 1, k, c, m, h5, h52, hk, _, _, hold, h9 => by
    have h5' := h5
    obtain ⟨hn, hs, hv, hw, hk', hh, hb, hp, hg, hgv, ho, hz, hB, hBv, hZ, ha⟩ := id h5
    obtain ⟨l1, l2, l3, l4, l5⟩ := hn.2.2
    refine ⟨zwI c 0 15 (nI (nw + 1)), zwI m 0 0 (nI (nw + 1)), fun K v1 v2 => ?_, fun K v1 v2 => ?_, ?_, by rw [zr_n (by omega)]; exact h52, fun F hJ => zJ_cg (by omega) (by omega) hJ (fun q j a1 a2 => zr_n (by omega)) (fun j _ => rfl)⟩
    · rw [f_X6_pass_39, hn.1.2.2.1, zif_le (by omega) (by omega), zlet_eq, hn.1.2.2.2.2, nI_1]
    · rw [f_X7_pass_53, hn.2.1.2.2.1, zif_le (by omega) (by omega), zlet_eq, hn.2.1.2.2.2.2, nI_1]
    · have hk := hk'
      refine ⟨⟨?_, ?_, ?_⟩, zRs_cg hs (by intros; first | rfl | simp (disch := omega) only [zr_n, zr_L1, zr_I2, zrL_n]) (by intros; first | rfl | simp (disch := omega) only [zr_n, zr_L1, zr_I2, zrL_n]) (by intros; first | rfl | simp (disch := omega) only [zr_n, zr_L1, zr_I2, zrL_n]) (by intros; first | rfl | simp (disch := omega) only [zr_n, zr_L1, zr_I2, zrL_n]), zRv_cg hv (by omega) (by intros; first | rfl | simp (disch := omega) only [zr_n, zr_L1, zr_I2, zrL_n]), zRw_cg hw (by intros; first | rfl | simp (disch := omega) only [zr_n, zr_L1, zr_I2, zrL_n]) (by intros; first | rfl | simp (disch := omega) only [zr_n, zr_L1, zr_I2, zrL_n]) (by intros; first | rfl | simp (disch := omega) only [zr_n, zr_L1, zr_I2, zrL_n]), zRk_cg hk (by omega) (by intros; first | rfl | simp (disch := omega) only [zr_n, zr_L1, zr_I2, zrL_n]) (by intros; first | rfl | simp (disch := omega) only [zr_n, zr_L1, zr_I2, zrL_n]) (by intros; first | rfl | simp (disch := omega) only [zr_n, zr_L1, zr_I2, zrL_n]), zRh_cg hh (by intro i hi; refine ⟨?_, ?_, ?_⟩ <;> first | rfl | simp (disch := omega) only [zr_n, zr_L1, zr_I2, zrL_n]) (by intros; first | rfl | simp (disch := omega) only [zr_n, zr_L1, zr_I2, zrL_n]), zRb_cg hb (by intros; first | rfl | simp (disch := omega) only [zr_n, zr_L1, zr_I2, zrL_n]) (by intros; first | rfl | simp (disch := omega) only [zr_n, zr_L1, zr_I2, zrL_n]) (by intros; first | rfl | simp (disch := omega) only [zr_n, zr_L1, zr_I2, zrL_n]), zRp_cg hp (by intros; first | rfl | simp (disch := omega) only [zr_n, zr_L1, zr_I2, zrL_n]) (by intros; first | rfl | simp (disch := omega) only [zr_n, zr_L1, zr_I2, zrL_n]), zRg_cg hg (by intros; first | rfl | simp (disch := omega) only [zr_n, zr_L1, zr_I2, zrL_n]) (by intros; first | rfl | simp (disch := omega) only [zr_n, zr_L1, zr_I2, zrL_n]), ?_, zRo_cg ho (by intros; first | rfl | simp (disch := omega) only [zr_n, zr_L1, zr_I2, zrL_n]), zRz_cg hz (by intros; first | rfl | simp (disch := omega) only [zr_n, zr_L1, zr_I2, zrL_n]) (by intros; first | rfl | simp (disch := omega) only [zr_n, zr_L1, zr_I2, zrL_n]), zRB_cg hB (by intros; first | rfl | simp (disch := omega) only [zr_n, zr_L1, zr_I2, zrL_n]) (by intros; first | rfl | simp (disch := omega) only [zr_n, zr_L1, zr_I2, zrL_n]), zRBv_cg hBv (by intros; first | rfl | simp (disch := omega) only [zr_n, zr_L1, zr_I2, zrL_n]) (by intro k hk e; first | exact e | (simp (disch := omega) only [zr_n, zr_L1, zr_I2, zrL_n]; exact e)), zRZ_cg hZ (by intros; first | rfl | simp (disch := omega) only [zr_n, zr_L1, zr_I2, zrL_n]) (by intros; first | rfl | simp (disch := omega) only [zr_n, zr_L1, zr_I2, zrL_n]), zRa_cg ha (by intros; first | rfl | simp (disch := omega) only [zr_n, zr_L1, zr_I2, zrL_n]) (by intros; first | rfl | simp (disch := omega) only [zr_n, zr_L1, zr_I2, zrL_n])⟩
      · exact ⟨by simp (disch := omega) only [zr_n]; exact hn.1.1, by simp (disch := omega) only [zr_n]; exact hn.1.2.1, by simp (disch := omega) only [zr_n]; exact hn.1.2.2.1, by simp (disch := omega) only [zr_n]; exact hn.1.2.2.2.1, zr_e _ _ _ _⟩
      · exact ⟨by simp (disch := omega) only [zr_n]; exact hn.2.1.1, by simp (disch := omega) only [zr_n]; exact hn.2.1.2.1, by simp (disch := omega) only [zr_n]; exact hn.2.1.2.2.1, by simp (disch := omega) only [zr_n]; exact hn.2.1.2.2.2.1, zr_e _ _ _ _⟩
      · exact ⟨l1, l2, l3, l4, by omega⟩
      · intro i hi
        obtain ⟨s', f', t', h', d', x', z', sp', ⟨b1, b2, b3, b4, b5, b6, b7, b8, b9, b10, b11⟩, r0, r1, r2, r3, r4, r5, r6, r7, r8⟩ := hgv i hi
        refine ⟨s', f', t', h', d', x', z', sp', ⟨b1, b2, b3, b4, b5, b6, b7, b8, b9, b10, fun q => ?_⟩, ?_⟩
        · have hne := hold i (by omega) (by rw [r6, q]; rfl)
          rw [r3] at hne
          have : h' ≠ nw := fun q => hne (by rw [q])
          have := b11 q
          omega
        · simp (disch := omega) only [zr_n]
          exact ⟨r0, r1, r2, r3, r4, r5, r6, r7, r8⟩
  | r + 1, n + 1, n2 + 1, k, c, m, h5, h52, hk, hr, hr2, hold, h9 => by
    have l3 : nG ≤ 24 := h5.1.2.2.2.2.1
    obtain ⟨c1, m1, a1, a2, a3, a4, a5, a6, a7, a8⟩ := zLook h5 (show k < nG by omega) h52
    obtain ⟨c', m', b1, b2, b3, b4, b5⟩ := zHour r n n2 (k + 1) c1 m1 a3 a4 (by omega) (by omega) (by omega) (fun i hi q => by
      by_cases hik : i = k
      · rw [hik] at q ⊢
        exact a7 q
      · rw [a6 i (by omega) hik] at q
        rw [a5 i (by omega)]
        exact hold i (by omega) q) h9
    refine ⟨c', m', fun K v1 v2 => ?_, fun K v1 v2 => ?_, b3, b4, fun F hJ => b5 F (a8 F hJ)⟩
    · rw [f_X6_pass_39, h5.1.1.2.2.1, zif_nle (by omega) (by omega), a1, zbs, nI_1]
      exact b1 K v1 v2
    · rw [a2]
      exact b2 K v1 v2
theorem zPass {hrs : Nat} (h48 : hrs ≤ 48) : ∀ (r n n2 i nw : Nat) (c m : zSt), zR5 nS nK nG nB nw c m → m.1 0 52 = 0 → i + r = hrs → r < n → r < n2 → nw + r ≤ 9000 → ∃ c' m', f_X6_pass_32 n c (nI hrs) (nI i) = some (nI (nw + r), c') ∧ f_X7_pass_46 n2 m (nI hrs) (nI i) = some (nI (nw + r), m') ∧ zR5 nS nK nG nB (nw + r) c' m' ∧ m'.1 0 52 = 0 ∧ (∀ F, zJ F nG nB c → zJ F nG nB c')
  | 0, n + 1, n2 + 1, i, nw, c, m, h5, h52, hi, _, _, _ => by
    refine ⟨c, m, ?_, ?_, h5, h52, fun _ h => h⟩
    · rw [f_X6_pass_32, zif_le (by omega) (by omega), h5.1.1.2.2.2.2]
      rfl
    · rw [f_X7_pass_46, zif_le (by omega) (by omega), h5.1.2.1.2.2.2.2]
      rfl
  | r + 1, n + 1, n2 + 1, i, nw, c, m, h5, h52, hi, hr, hr2, h9 => by
    have l3 : nG ≤ 24 := h5.1.2.2.2.2.1
    obtain ⟨c1, m1, a1, a2, a3, a4, a5⟩ := zHour nG 64 64 0 c m h5 h52 (by omega) (by omega) (by omega) (fun i hi => absurd hi (Nat.not_lt_zero _)) (by omega)
    obtain ⟨c', m', b1, b2, b3, b4, b5⟩ := zPass h48 r n n2 (i + 1) (nw + 1) c1 m1 a3 a4 (by omega) (by omega) (by omega) (by omega)
    rw [show nw + 1 + r = nw + (r + 1) by omega] at b1 b2 b3
    refine ⟨c', m', ?_, ?_, b3, b4, fun F hJ => b5 F (a5 F hJ)⟩
    · rw [f_X6_pass_32, zif_nle (by omega) (by omega)]
      refine (a1 _ _ _).trans ?_
      rw [nI_1]
      exact b1
    · rw [f_X7_pass_46, zif_nle (by omega) (by omega)]
      refine (a2 _ _ _).trans ?_
      rw [nI_1]
      exact b2

end ZP16
