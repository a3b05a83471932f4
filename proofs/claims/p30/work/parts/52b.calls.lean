/-! the calls of the law, over the coupling and p30's invariants -/
section ZQ
variable {c c' m m' : zSt} {nS nK nG nB nw F : Nat}
theorem zRep (h5 : zR5 nS nK nG nB nw c m) {g : Nat} (hgG : g < nG) : zR5 nS nK nG nB nw (zwI c (34 + g) 10 1) (zwI m 24 g 1) := by
  obtain ⟨hn, hs, hv, hw, hk, hh, hb, hp, hg, hgv, ho, hz, hB, hBv, hZ, ha⟩ := id h5
  obtain ⟨l1, l2, l3, l4, l5⟩ := hn.2.2
  refine ⟨⟨⟨by simp (disch := omega) only [zr_n, zr_L1]; exact hn.1.1, by simp (disch := omega) only [zr_n, zr_L1]; exact hn.1.2.1, by simp (disch := omega) only [zr_n, zr_L1]; exact hn.1.2.2.1, by simp (disch := omega) only [zr_n, zr_L1]; exact hn.1.2.2.2.1, by simp (disch := omega) only [zr_n, zr_L1]; exact hn.1.2.2.2.2⟩, ⟨by simp (disch := omega) only [zr_n, zr_L1]; exact hn.2.1.1, by simp (disch := omega) only [zr_n, zr_L1]; exact hn.2.1.2.1, by simp (disch := omega) only [zr_n, zr_L1]; exact hn.2.1.2.2.1, by simp (disch := omega) only [zr_n, zr_L1]; exact hn.2.1.2.2.2.1, by simp (disch := omega) only [zr_n, zr_L1]; exact hn.2.1.2.2.2.2⟩, hn.2.2⟩, zRs_cg hs (by intros; first | rfl | simp (disch := omega) only [zr_n, zr_L1, zr_I2, zrL_n]) (by intros; first | rfl | simp (disch := omega) only [zr_n, zr_L1, zr_I2, zrL_n]) (by intros; first | rfl | simp (disch := omega) only [zr_n, zr_L1, zr_I2, zrL_n]) (by intros; first | rfl | simp (disch := omega) only [zr_n, zr_L1, zr_I2, zrL_n]), zRv_cg hv (by omega) (by intros; first | rfl | simp (disch := omega) only [zr_n, zr_L1, zr_I2, zrL_n]), zRw_cg hw (by intros; first | rfl | simp (disch := omega) only [zr_n, zr_L1, zr_I2, zrL_n]) (by intros; first | rfl | simp (disch := omega) only [zr_n, zr_L1, zr_I2, zrL_n]) (by intros; first | rfl | simp (disch := omega) only [zr_n, zr_L1, zr_I2, zrL_n]), zRk_cg hk (by omega) (by intros; first | rfl | simp (disch := omega) only [zr_n, zr_L1, zr_I2, zrL_n]) (by intros; first | rfl | simp (disch := omega) only [zr_n, zr_L1, zr_I2, zrL_n]) (by intros; first | rfl | simp (disch := omega) only [zr_n, zr_L1, zr_I2, zrL_n]), zRh_cg hh (by intro i hi; refine ⟨?_, ?_, ?_⟩ <;> first | rfl | simp (disch := omega) only [zr_n, zr_L1, zr_I2, zrL_n]) (by intros; first | rfl | simp (disch := omega) only [zr_n, zr_L1, zr_I2, zrL_n]), zRb_cg hb (by intros; first | rfl | simp (disch := omega) only [zr_n, zr_L1, zr_I2, zrL_n]) (by intros; first | rfl | simp (disch := omega) only [zr_n, zr_L1, zr_I2, zrL_n]) (by intros; first | rfl | simp (disch := omega) only [zr_n, zr_L1, zr_I2, zrL_n]), zRp_cg hp (by intros; first | rfl | simp (disch := omega) only [zr_n, zr_L1, zr_I2, zrL_n]) (by intros; first | rfl | simp (disch := omega) only [zr_n, zr_L1, zr_I2, zrL_n]), ?_, ?_, ?_, zRz_cg hz (by intros; first | rfl | simp (disch := omega) only [zr_n, zr_L1, zr_I2, zrL_n]) (by intros; first | rfl | simp (disch := omega) only [zr_n, zr_L1, zr_I2, zrL_n]), zRB_cg hB (by intros; first | rfl | simp (disch := omega) only [zr_n, zr_L1, zr_I2, zrL_n]) (by intros; first | rfl | simp (disch := omega) only [zr_n, zr_L1, zr_I2, zrL_n]), zRBv_cg hBv (by intros; first | rfl | simp (disch := omega) only [zr_n, zr_L1, zr_I2, zrL_n]) (by intro k hk e; first | exact e | (simp (disch := omega) only [zr_n, zr_L1, zr_I2, zrL_n]; exact e)), zRZ_cg hZ (by intros; first | rfl | simp (disch := omega) only [zr_n, zr_L1, zr_I2, zrL_n]) (by intros; first | rfl | simp (disch := omega) only [zr_n, zr_L1, zr_I2, zrL_n]), zRa_cg ha (by intros; first | rfl | simp (disch := omega) only [zr_n, zr_L1, zr_I2, zrL_n]) (by intros; first | rfl | simp (disch := omega) only [zr_n, zr_L1, zr_I2, zrL_n])⟩
  · intro k hk'
    have hq := hg k hk'
    by_cases hkg : k = g
    · subst hkg
      simp (disch := omega) only [zr_n, zr_e, hq.1, hq.2.1, hq.2.2.1, hq.2.2.2.1, hq.2.2.2.2.1, hq.2.2.2.2.2.1, true_and]
      exact ⟨hq.2.2.2.2.2.2.2.1, hq.2.2.2.2.2.2.2.2⟩
    · simp (disch := omega) only [zr_n]
      exact hq
  · intro k hk'
    obtain ⟨s', f', t', h', d', x', z', sp', b', r0, r1, r2, r3, r4, r5, r6, r7, r8⟩ := hgv k hk'
    refine ⟨s', f', t', h', d', x', z', sp', b', ?_⟩
    simp (disch := omega) only [zr_n]
    exact ⟨r0, r1, r2, r3, r4, r5, r6, r7, r8⟩
  · intro i' j' x1 x2
    have := ho i' j' x1 x2
    simp (disch := omega) only [zr_n]
    exact this
/-- the class is coupled (to some world of the reference) and p30's invariants hold -/
def zS (nS nK F nG nB nw : Nat) (c : zSt) : Prop := (∃ m : zSt, m.1 0 52 = 0 ∧ zR5 nS nK nG nB nw c m) ∧ zJ F nG nB c
theorem zS_of (h : zR5 nS nK nG nB nw c m) (hJ : zJ F nG nB c) : zS nS nK F nG nB nw c := ⟨⟨zwI m 0 52 0, zr_e _ _ _ _, zR5_th h 0⟩, hJ⟩
theorem zR_cnt (h : zR c m) (e11 : c.1 0 11 = nI nS) (e12 : c.1 0 12 = nI nK) (e13 : c.1 0 13 = nI nG) (e14 : c.1 0 14 = nI nB) (e15 : c.1 0 15 = nI nw) (b : nS < 100000 ∧ nK < 100000 ∧ nG < 100000 ∧ nB < 100000 ∧ nw < 100000) : zR5 nS nK nG nB nw c m := by
  obtain ⟨a1, a2, a3, a4, a5, h5⟩ := h
  obtain ⟨l1, l2, l3, l4, l5⟩ := h5.1.2.2
  have q1 : a1 = nS := (nI_eq (by omega) (by omega)).mp (h5.1.1.1.symm.trans e11)
  have q2 : a2 = nK := (nI_eq (by omega) (by omega)).mp (h5.1.1.2.1.symm.trans e12)
  have q3 : a3 = nG := (nI_eq (by omega) (by omega)).mp (h5.1.1.2.2.1.symm.trans e13)
  have q4 : a4 = nB := (nI_eq (by omega) (by omega)).mp (h5.1.1.2.2.2.1.symm.trans e14)
  have q5 : a5 = nw := (nI_eq (by omega) (by omega)).mp (h5.1.1.2.2.2.2.symm.trans e15)
  subst q1 q2 q3 q4 q5
  exact h5
theorem zP_ok {α β : Type} {ks : List (Nat × Int32)} {f : Option (α × zSt)} {fx : Option (Nat × zSt)} {fM : Option (β × zSt)} {eq : α → β → Prop} (hP : zPair ks f fx fM eq) (hx : fx = none) {r : α} (hf : f = some (r, c')) : ∃ m', zR c' m' := by
  rcases hP with ⟨r2, c2, b, m', h1, -, -, -, h2⟩ | ⟨k, v, c2, b, m', -, h1, -⟩
  · obtain ⟨-, rfl⟩ := Prod.mk.inj (Option.some.inj (hf.symm.trans h1))
    exact ⟨m', h2⟩
  · rw [hx] at h1
    exact (znone h1).elim
theorem zw_ok {f : Option (Int32 × zSt)} {fx : Option (Nat × zSt)} {h : Nat → Option Int32} {o : Int32 × zSt} (e : f = some o) : zwrap f fx h = some o := by rw [e]; rfl
theorem zw_x {f : Option (Int32 × zSt)} {fx : Option (Nat × zSt)} {h : Nat → Option Int32} {k : Nat} {u : zSt} {v : Int32} (e : f = none) (ex : fx = some (k, u)) (hv : h k = some v) : zwrap f fx h = some (v, u) := by
  rw [e, ex]
  show ((h k).bind fun v => some (v, u)) = _
  rw [hv]
  rfl
/-- filling -/
theorem q_fill (h : zS nS nK F nG nB nw c) {i b : Nat} (hi : i < nS) (hb1 : 1 ≤ b) (hb2 : b ≤ 1000) (hF : F ≤ 1000000) : ∃ t : Nat, t ≤ 1000 ∧ c.1 (14 + i) 6 = nI t ∧ ((1000 < t + b ∧ f_X6_fill c (nI i) (nI b) = none ∧ fx_X6_fill c (nI i) (nI b) = some (3, c)) ∨ (t + b ≤ 1000 ∧ ∃ c', f_X6_fill c (nI i) (nI b) = some (nI (t + b), c') ∧ zS nS nK (F + 3000) nG nB nw c' ∧ ∀ q j, q ≠ 14 + i → c'.1 q j = c.1 q j)) := by
  obtain ⟨⟨m, h52, h5⟩, hJ⟩ := h
  obtain ⟨l1, l2, l3, l4, l5⟩ := h5.1.2.2
  have hc11 := h5.1.1.1
  obtain ⟨t, ht1, ht⟩ := (h5.2.1 i (by omega)).2.2
  have w : zwi (nI b) 1 1000 = 1 := zwi_in (lo := 1) (hi := 1000) hb1 hb2 (by omega)
  refine ⟨t, ht1, ht, ?_⟩
  by_cases hfit : t + b ≤ 1000
  · refine Or.inr ⟨hfit, ?_⟩
    have hlt : ¬ (1000 : Int32) < nI (t + b) := nI_nlt (a := 1000) (by omega) (by omega)
    have hf : f_X6_fill c (nI i) (nI b) = some (nI (t + b), zwL (zwI c (14 + i) 6 (nI (t + b))) 8 2 (c.2 8 2 - (nI (3 * b)).toInt64)) := by
      unfold f_X6_fill
      rw [kS_yes hc11 hi l1, zbs, isWithin_eq, zbs, w, dA_yes z10, zbs]
      dsimp only
      rw [ht, nI_add, if_neg hlt, zlet_eq, zlet_eq, zr_L1, zr_e, zr_I2, show (3 : Int32) = nI 3 from rfl, pk_mul]
      rfl
    have hfx : fx_X6_fill c (nI i) (nI b) = none := by
      unfold fx_X6_fill
      rw [kSx_yes hc11 hi l1, zorx_n, kS_yes hc11 hi l1, zbs, isWithin_eq, zbs, w, dAx_yes z10, zorx_n, dA_yes z10, zbs]
      dsimp only
      rw [ht, nI_add, if_neg hlt]
    obtain ⟨m', hR⟩ := zP_ok (P_fill (nI i) (nI b) ⟨_, _, _, _, _, h5⟩) hfx hf
    refine ⟨_, hf, zS_of (zR_cnt hR ?_ ?_ ?_ ?_ ?_ (by omega)) (zJ_cgF l3 l4 hJ (fun q j a1 a2 => by rw [zr_L1, zr_n (by omega)]) ⟨by rw [zrL_n (by omega), zr_I2], by rw [zrL_n (by omega), zr_I2]⟩ ?_), fun q j a1 => by rw [zr_L1, zr_n (by omega)]⟩
    · rw [zr_L1, zr_n (by omega)]; exact h5.1.1.1
    · rw [zr_L1, zr_n (by omega)]; exact h5.1.1.2.1
    · rw [zr_L1, zr_n (by omega)]; exact h5.1.1.2.2.1
    · rw [zr_L1, zr_n (by omega)]; exact h5.1.1.2.2.2.1
    · rw [zr_L1, zr_n (by omega)]; exact h5.1.1.2.2.2.2
    · obtain ⟨f, hf1, hf2⟩ := hJ.2.2.2.2
      refine ⟨f + 3 * b, by omega, ?_⟩
      rw [zrL_e, Int64.toInt_sub, hf2, Int32.toInt_toInt64, nI_toInt (by omega), Int.bmod_eq_of_le (by omega) (by omega)]
      omega
  · refine Or.inl ⟨by omega, ?_, ?_⟩
    · unfold f_X6_fill
      rw [kS_yes hc11 hi l1, zbs, isWithin_eq, zbs, w, dA_yes z10, zbs]
      dsimp only
      rw [ht, nI_add, if_pos (show (1000 : Int32) < nI (t + b) from nI_lt (a := 1000) (by omega) (by omega))]
    · unfold fx_X6_fill
      rw [kSx_yes hc11 hi l1, zorx_n, kS_yes hc11 hi l1, zbs, isWithin_eq, zbs, w, dAx_yes z10, zorx_n, dA_yes z10, zbs]
      dsimp only
      rw [ht, nI_add, if_pos (show (1000 : Int32) < nI (t + b) from nI_lt (a := 1000) (by omega) (by omega))]
/-- a new sailing -/
theorem addE (h5 : zR5 nS nK nG nB nw c m) (hJ : zJ F nG nB c) (hG : nG < 24) {i f t hr d : Nat} (hi : i < nS) (hf : f < 6) (ht : t < 6) (hr1 : nw ≤ hr) (hr2 : hr ≤ 10000) (hd1 : 1 ≤ d) (hd2 : d ≤ 400) (hord : ∀ k, k < nG → c.1 (34 + k) 0 = nI i → ¬ c.1 (34 + k) 6 = 1 → c.1 (34 + k) 4 ≤ nI hr) : ∃ c', f_X6_addSailing c (nI i) (nI f) (nI t) (nI hr) (nI d) = some (nI nG, c') ∧ zS nS nK F (nG + 1) nB nw c' ∧ c'.1 (34 + nG) 6 = 0 ∧ c'.1 (34 + nG) 3 = nI hr ∧ (∀ q j, q ≠ 0 → q ≠ 34 + nG → c'.1 q j = c.1 q j) := by
  obtain ⟨hn, hs, hv, hw, hk, hh, hb, hp, hg, hgv, ho, hz, hB, hBv, hZ, ha⟩ := id h5
  obtain ⟨l1, l2, l3, l4, l5⟩ := hn.2.2
  obtain ⟨c1, m1, w1, -, -, w4⟩ := zMake h5 hG hi hf ht hr1 hr2 hd1 hd2 hord
  obtain ⟨pho, pla, ple, pwe, pdr, sp, pb, p0, p1, p2, p3, p4, psp⟩ := hv i hi
  have hc13 : c.1 0 13 = nI nG := hn.1.2.2.1
  have hc11 : c.1 0 11 = nI nS := hn.1.1
  have hzn := hz nG (Nat.le_refl _) hG
  generalize hqq : (d + sp - 1) / sp = q
  have hE : f_X6_addSailing c (nI i) (nI f) (nI t) (nI hr) (nI d) = some (nI nG, zwI (zwI (zwI (zwI (zwI (zwI (zwI c 0 13 (nI (nG + 1))) (34 + nG) 0 (nI i)) (34 + nG) 1 (nI f)) (34 + nG) 2 (nI t)) (34 + nG) 3 (nI hr)) (34 + nG) 5 (nI d)) (34 + nG) 4 (nI (hr + q))) := by
    have kk : ∀ st : zSt, st.1 0 13 = nI (nG + 1) → f_X6_knownSailing st (nI nG) = some (34 + nG, st) := fun st h => kG_yes h (by omega) (by omega)
    have k1 := kk (zwI c 0 13 (nI (nG + 1))) (zr_e _ _ _ _)
    have kS : ∀ st : zSt, st.1 0 11 = nI nS → f_X6_knownShip st (nI i) = some (14 + i, st) := fun st h => kS_yes h hi l1
    have hne : ¬ nI sp = 0 := nI_ne0 (by omega) (by omega)
    have hle : (1 : Int32) ≤ nI sp := nI_le (a := 1) (by omega) (by omega)
    unfold f_X6_addSailing f_X4_hoursFor
    rw [zlet_eq, hc13, nI_1, k1, zbs]
    simp only [zlet_eq]
    rw [kS _ (by simp (disch := omega) only [zr_n]; exact hc11), zbs]
    simp (disch := omega) only [zr_n, zbs, zlet_eq, psp, if_pos hle, hne, not_false_eq_true, ↓reduceIte, zceil_eq hd2 (show 1 ≤ sp by omega) (show sp ≤ 40 by omega), hqq]
    rw [nI_add]
  obtain ⟨-, rfl⟩ := Prod.mk.inj (Option.some.inj (w1.symm.trans hE))
  clear w1
  generalize hX : zwI (zwI (zwI (zwI (zwI (zwI (zwI c 0 13 (nI (nG + 1))) (34 + nG) 0 (nI i)) (34 + nG) 1 (nI f)) (34 + nG) 2 (nI t)) (34 + nG) 3 (nI hr)) (34 + nG) 5 (nI d)) (34 + nG) 4 (nI (hr + q)) = X at hE w4
  have eo : ∀ q j, q ≠ 0 → q ≠ 34 + nG → X.1 q j = c.1 q j := fun q j a1 a2 => by rw [← hX]; simp (disch := omega) only [zr_n]
  have e0 : ∀ j, j ≠ 13 → X.1 0 j = c.1 0 j := fun j a1 => by rw [← hX]; simp (disch := omega) only [zr_n]
  have e2 : X.2 = c.2 := by rw [← hX]; rfl
  have s6 : X.1 (34 + nG) 6 = 0 := by rw [← hX]; simp (disch := omega) only [zr_n]; exact hzn.1.1
  have s3 : X.1 (34 + nG) 3 = nI hr := by rw [← hX]; simp (disch := omega) only [zr_n, zr_e]
  have s13 : X.1 0 13 = nI (nG + 1) := by rw [← hX]; simp (disch := omega) only [zr_n, zr_e]
  obtain ⟨jp, ja, jg, js, jf⟩ := hJ
  refine ⟨X, hE, zS_of (zR_cnt w4 ((e0 _ (by omega)).trans hn.1.1) ((e0 _ (by omega)).trans hn.1.2.1) s13 ((e0 _ (by omega)).trans hn.1.2.2.2.1) ((e0 _ (by omega)).trans hn.1.2.2.2.2) (by omega)) ⟨fun k hk hk0 => ?_, ⟨?_, ?_⟩, fun k j hk hj e => ?_, fun j hj => ?_, ?_⟩, s6, s3, eo⟩
  · rw [eo _ _ (by omega) (by omega)] at hk0 ⊢
    exact jp k hk hk0
  · rw [e2, zaa_cg nB (fun k hk => ⟨by rw [eo _ _ (by omega) (by omega)], eo _ _ (by omega) (by omega)⟩)]
    exact ja.1
  · rw [e2, zaa_cg nB (fun k hk => ⟨by rw [eo _ _ (by omega) (by omega)], eo _ _ (by omega) (by omega)⟩)]
    exact ja.2
  · by_cases hjn : j = nG
    · rw [hjn, s6]
      exact Or.inl (by decide)
    · rw [eo _ _ (by omega) (by omega)] at e ⊢
      exact Or.inl ((jg k j hk (by omega) e).resolve_right (by omega))
  · by_cases hjn : j = nG
    · rw [hjn, s6]
      exact ⟨fun q => absurd q (by decide), fun q => absurd q (by decide)⟩
    · rw [eo _ _ (by omega) (by omega), eo _ _ (by omega) (by omega), eo _ _ (by omega) (by omega)]
      exact js j (by omega)
  · obtain ⟨f, hf1, hf2⟩ := jf
    exact ⟨f, hf1, by rw [e2]; exact hf2⟩
/-- what a new sailing answers -/
theorem newS (h : zS nS nK F (nG + 1) nB nw c') {hr : Nat} (h1 : nw ≤ hr) (hr2 : hr ≤ 10000) (s6 : c'.1 (34 + nG) 6 = 0) (s3 : c'.1 (34 + nG) 3 = nI hr) : f_X6_state c' (nI nG) = some (0, c') ∧ ∃ e : Nat, nw < e ∧ e ≤ 20000 ∧ f_X6_ends c' (nI nG) = some (nI e, c') := by
  obtain ⟨⟨m, -, h5⟩, hJ⟩ := h
  refine ⟨?_, ?_⟩
  · rw [o_state h5 (by omega)]
    rcases o_st h5 hJ (j := nG) (by omega) with ⟨-, es⟩ | ⟨q, -⟩ | ⟨q, -⟩
    · rw [es]
    · exact absurd (s6.symm.trans q) (by decide)
    · exact absurd (s6.symm.trans q) (by decide)
  · obtain ⟨s, f, t, hh, d, e, z, bb, e0, e1, e2, e3, e4, e5, e6⟩ := zG2 h5 (i := nG) (by omega)
    have : hr = hh := (nI_eq (by omega) (by omega)).mp (s3.symm.trans e3)
    exact ⟨e, by omega, by omega, by rw [o_ends h5 (by omega), e4]⟩
theorem q_plan (h : zS nS nK F nG nB nw c) {i t x d : Nat} (hi : i < nS) (ht : t < 6) (hx1 : nw ≤ x) (hx2 : x ≤ 10000) (hd1 : 1 ≤ d) (hd2 : d ≤ 400) : g_L_plan c (nI i) (nI t) (nI x) (nI d) = some (-8, c) ∨ g_L_plan c (nI i) (nI t) (nI x) (nI d) = some (-9, c) ∨ ∃ c', g_L_plan c (nI i) (nI t) (nI x) (nI d) = some (nI nG, c') ∧ zS nS nK F (nG + 1) nB nw c' ∧ f_X6_state c' (nI nG) = some (0, c') ∧ ∃ e : Nat, nw < e ∧ e ≤ 20000 ∧ f_X6_ends c' (nI nG) = some (nI e, c') := by
  obtain ⟨⟨m, h52, h5⟩, hJ⟩ := h
  obtain ⟨hn, hs, hv, hw, hk, hh, hb, hp, hg, hgv, ho, hz, hB, hBv, hZ, ha⟩ := id h5
  obtain ⟨l1, l2, l3, l4, l5⟩ := hn.2.2
  have hc15 : c.1 0 15 = nI nw := hn.1.2.2.2.2
  have hc13 : c.1 0 13 = nI nG := hn.1.2.2.1
  have w1 : zwi (nI x) (nI nw) 10000 = 1 := zwi_in (hi := 10000) hx1 hx2 (by omega)
  have w2 : zwi (nI d) 1 400 = 1 := zwi_in (lo := 1) (hi := 400) hd1 hd2 (by omega)
  have key : ∀ (f : Nat) (fr : Int32), f < 6 → (∀ k, k < nG → c.1 (34 + k) 0 = nI i → ¬ c.1 (34 + k) 6 = 1 → c.1 (34 + k) 4 ≤ fr) → zwrap (f_X6_plan_66 c (nI i) (nI t) (nI x) (nI d) (nI f) fr) (fx_X6_plan_66 c (nI i) (nI t) (nI x) (nI d) (nI f) fr) zh23 = some (-8, c) ∨ zwrap (f_X6_plan_66 c (nI i) (nI t) (nI x) (nI d) (nI f) fr) (fx_X6_plan_66 c (nI i) (nI t) (nI x) (nI d) (nI f) fr) zh23 = some (-9, c) ∨ ∃ c', zwrap (f_X6_plan_66 c (nI i) (nI t) (nI x) (nI d) (nI f) fr) (fx_X6_plan_66 c (nI i) (nI t) (nI x) (nI d) (nI f) fr) zh23 = some (nI nG, c') ∧ zS nS nK F (nG + 1) nB nw c' ∧ f_X6_state c' (nI nG) = some (0, c') ∧ ∃ e : Nat, nw < e ∧ e ≤ 20000 ∧ f_X6_ends c' (nI nG) = some (nI e, c') := by
    intro f fr hf hord
    unfold f_X6_plan_66 fx_X6_plan_66 f_X6_plan_102 f_X6_plan_125 fx_X6_plan_102 fx_X6_plan_125
    rw [hc15, isWithin_eq, zbs, zbs, w1, if_neg z10, if_neg z10, isWithin_eq, zbs, zbs, w2, if_neg z10, if_neg z10]
    dsimp only
    by_cases g3 : nI t = nI f
    · rw [if_pos g3, if_pos g3]
      exact Or.inl (zw_x rfl rfl rfl)
    rw [if_neg g3, if_neg g3]
    by_cases hfr : nI x < fr
    · rw [if_pos hfr, if_pos hfr]
      exact Or.inr (Or.inl (zw_x rfl rfl rfl))
    rw [if_neg hfr, if_neg hfr, hc13]
    by_cases hG : nG = 24
    · have q24 : (24 : Int32) ≤ nI nG := nI_le (a := 24) (by omega) (by omega)
      rw [if_pos q24, if_pos q24]
      exact Or.inr (Or.inl (zw_x rfl rfl rfl))
    · have q24 : ¬ (24 : Int32) ≤ nI nG := nI_ge (b := 24) (by omega) (by omega)
      rw [if_neg q24, if_neg q24]
      obtain ⟨c', e1, e2, e3, e4, -⟩ := addE h5 hJ (by omega) hi hf ht hx1 hx2 hd1 hd2 (fun k hk q1 q2 => by
        have := hord k hk q1 q2
        rw [zle_i] at this ⊢
        rw [zlt_i] at hfr
        omega)
      obtain ⟨n1, n2⟩ := newS e2 hx1 hx2 e3 e4
      exact Or.inr (Or.inr ⟨c', zw_ok (by rw [e1, zbs]), e2, n1, n2⟩)
  have hc : f_X6_demandIndex c (nI t) 6 = some ((), c) := dI_yes (n := 6) ht (by omega)
  have hcx : fx_X6_demandIndex c (nI t) 6 = none := dIx_yes (n := 6) ht (by omega)
  unfold g_L_plan f_X6_plan fx_X6_plan
  rw [kSx_yes hn.1.1 hi l1, zorx_n, kS_yes hn.1.1 hi l1, zbs, zbs, hc, hcx, zorx_n, zbs, zbs, last_eq h5, zbs, zbs]
  unfold f_X6_plan_45 fx_X6_plan_45
  dsimp only
  rcases zls_spec c (nI i) nG with ⟨e, g⟩ | ⟨j, hj, e, g1, g2, g3⟩
  · obtain ⟨pho, pla, ple, pwe, pdr, sp, pb, p0, -⟩ := hv i hi
    rw [e, if_pos rfl, if_pos rfl, if_pos rfl, if_pos rfl, p0]
    exact key pho 0 (by omega) (fun k hk q1 q2 => absurd (g k hk q1) q2)
  · obtain ⟨s, f, t', hh', d, e', z, b, e0, e1, e2, e3, e4, e5, e6⟩ := zG2 h5 hj
    have hne := znI_ne_m1 (a := j) (by omega)
    rw [e, if_neg hne, if_neg hne, kG_yes hc13 hj l3, zbs, zbs, if_neg hne, if_neg hne, kG_yes hc13 hj l3, zbs, zbs, e2, e4]
    refine key t' (nI e') (by omega) (fun k hk q1 q2 => ?_)
    by_cases hkj : k < j
    · obtain ⟨x, y, w, o1, o2, o3, o4, o5, o6⟩ := zOrd h5 hkj hj (q1.trans g1.symm) q2 g2
      rw [o5]
      have := (nI_eq (by omega) (by omega)).mp (o6.symm.trans e3)
      exact nI_le (by omega) (by omega)
    · by_cases hkj2 : k = j
      · rw [hkj2, e4]
        exact nI_le (Nat.le_refl _) (by omega)
      · exact absurd (g3 k (by omega) hk q1) q2
theorem q_cancel (h : zS nS nK F nG nB nw c) {g : Nat} (hg : g < nG) (a3 : Int32) : (¬ c.1 (34 + g) 6 = 0 ∧ g_L_acts0 c (nI g) a3 = some (-9, c)) ∨ (c.1 (34 + g) 6 = 0 ∧ ∃ (a : Nat) (c' : zSt), a ≤ 40 ∧ g_L_acts0 c (nI g) a3 = some (nI a, c') ∧ zS nS nK F nG nB nw c' ∧ f_X6_state c' (nI g) = some (71, c')) := by
  obtain ⟨⟨m, h52, h5⟩, hJ⟩ := h
  obtain ⟨l1, l2, l3, l4, l5⟩ := h5.1.2.2
  have hc13 := h5.1.1.2.2.1
  unfold g_L_acts0 f_X6_cancel fx_X6_cancel
  rw [kGx_yes hc13 hg l3, zorx_n, kG_yes hc13 hg l3, zbs, zbs]
  dsimp only
  by_cases h0 : c.1 (34 + g) 6 = 0
  · refine Or.inr ⟨h0, ?_⟩
    rw [if_pos h0, if_pos h0]
    obtain ⟨acc, c', m', w1, w2, w3, w4, -⟩ := zsend (zOff h5 hg h0 (nI 7)) hg
    obtain ⟨⟨a, ha, rfl⟩, j1, s6, s7, -⟩ := zoffJ h5 hg h0 hJ (rr := 7) (by omega) (by omega) w1 w4
    refine ⟨a, c', ha, zw_ok ?_, zS_of w4 j1, ?_⟩
    · unfold f_X6_callOff
      rw [kG_yes hc13 hg l3, zbs, zlet_eq, zlet_eq]
      rw [show (7 : Int32) = nI 7 from rfl, w1, zbs, zbs]
    · rw [o_state w4 hg, s6, s7]
      rfl
  · refine Or.inl ⟨h0, ?_⟩
    rw [if_neg h0, if_neg h0]
    exact zw_x rfl rfl rfl
theorem q_replace (h : zS nS nK F nG nB nw c) {g i : Nat} (hgG : g < nG) (hi : i < nS) : g_L_acts1 c (nI g) (nI i) = some (-9, c) ∨ ∃ c', g_L_acts1 c (nI g) (nI i) = some (nI nG, c') ∧ zS nS nK F (nG + 1) nB nw c' ∧ f_X6_state c' (nI nG) = some (0, c') ∧ c'.1 (34 + g) 6 = 1 ∧ c'.1 (34 + g) 10 = 1 := by
  obtain ⟨⟨m, h52, h5⟩, hJ⟩ := h
  obtain ⟨hn, hs, hv, hw, hk, hh, hb, hp, hg, hgv, ho, hz, hB, hBv, hZ, ha⟩ := id h5
  obtain ⟨l1, l2, l3, l4, l5⟩ := hn.2.2
  have hc15 : c.1 0 15 = nI nw := hn.1.2.2.2.2
  have hc13 : c.1 0 13 = nI nG := hn.1.2.2.1
  obtain ⟨s, f, t, hr, d, e, z, bb, e0, e1, e2, e3, e4, e5, e6⟩ := zG2 h5 hgG
  have no : ∀ (ff : Option (Int32 × zSt)) (fx : Option (Nat × zSt)) (P : Prop), ff = none → fx = some (3, c) → zwrap ff fx zh3 = some (-9, c) ∨ P := fun ff fx P q1 q2 => Or.inl (zw_x q1 q2 rfl)
  unfold g_L_acts1 f_X6_replace fx_X6_replace f_X6_replace_80 fx_X6_replace_80
  rw [kGx_yes hc13 hgG l3, zorx_n, kG_yes hc13 hgG l3, zbs, zbs, kSx_yes hn.1.1 hi l1, zorx_n, kS_yes hn.1.1 hi l1, zbs, zbs]
  dsimp only
  by_cases q1 : c.1 (34 + g) 6 = 1
  case neg =>
    rw [if_neg q1, if_neg q1]
    exact no _ _ _ rfl rfl
  rw [if_pos q1, if_pos q1]
  by_cases q2 : c.1 (34 + g) 10 = 0
  case neg =>
    rw [if_neg q2, if_neg q2]
    exact no _ _ _ rfl rfl
  obtain ⟨bs, hb1, -⟩ := zhas (c := c) (m := m) (s := 18 + i) (w := nw) (q := 2 + i) (hs i (by omega)).2.1 (by omega) (by omega) rfl rfl
  obtain ⟨bf, hf1, hf2⟩ := free_eq h5 (nI i)
  have e184 : 14 + i + 4 = 18 + i := by omega
  rw [if_pos q2, if_pos q2, hf1, zbs, zbs, hc15, where_eq h5 hi, zbs, zbs, e184]
  dsimp only
  rw [hc15, hb1, zbs, zbs]
  dsimp only
  rw [hc13]
  rcases hf2 with ⟨rfl, nfr⟩ | ⟨rfl, fr⟩
  · rw [if_pos rfl, if_pos rfl]
    exact no _ _ _ rfl rfl
  rw [if_neg z10, if_neg z10]
  by_cases k2 : zww c (nI i) (nI nw) (c.1 (14 + i) 0) nG = c.1 (34 + g) 1
  case neg =>
    rw [if_neg k2, if_neg k2]
    exact no _ _ _ rfl rfl
  rw [if_pos k2, if_pos k2]
  by_cases k1 : bs = 0
  case neg =>
    rw [if_neg k1, if_neg k1]
    exact no _ _ _ rfl rfl
  rw [if_pos k1, if_pos k1]
  by_cases hG : nG = 24
  · have q24 : (24 : Int32) ≤ nI nG := nI_le (a := 24) (by omega) (by omega)
    rw [if_pos q24, if_pos q24]
    exact no _ _ _ rfl rfl
  have q24 : ¬ (24 : Int32) ≤ nI nG := nI_ge (b := 24) (by omega) (by omega)
  rw [if_neg q24, if_neg q24]
  have hJ6 : zJ F nG nB (zwI c (34 + g) 10 1) := by
    obtain ⟨jp, ja, jg, js, jf⟩ := hJ
    refine ⟨fun k hk hk0 => ?_, ⟨?_, ?_⟩, fun k j hk hj e => ?_, fun j hj => ?_, jf⟩
    · rw [zr_n (by omega)] at hk0 ⊢
      exact jp k hk hk0
    · rw [zaa_cg (c := c) nB (fun k hk => ⟨by rw [zr_n (by omega)], zr_n (by omega)⟩)]
      exact ja.1
    · rw [zaa_cg (c := c) nB (fun k hk => ⟨by rw [zr_n (by omega)], zr_n (by omega)⟩)]
      exact ja.2
    · rw [zr_n (by omega)] at e ⊢
      exact jg k j hk hj e
    · rw [zr_n (by omega), zr_n (by omega), zr_n (by omega)]
      exact js j hj
  obtain ⟨c', w1, w2, w3, w4, w5⟩ := addE (zRep h5 hgG) hJ6 (show nG < 24 by omega) hi (f := f) (t := t) (hr := nw) (d := d) (by omega) (by omega) (by omega) (by omega) (by omega) (by omega) (fun k hk x1 x2 => by
    rw [zr_n (by omega)] at x1 x2 ⊢
    rcases fr k (by omega) hk x1 with x | ⟨_, x⟩
    · exact absurd x x2
    · rw [zlt_i] at x
      rw [zle_i]
      omega)
  obtain ⟨n1, -⟩ := newS w2 (Nat.le_refl _) (by omega) w3 w4
  refine Or.inr ⟨c', zw_ok ?_, w2, n1, ?_, ?_⟩
  · rw [zlet_eq, zr_n (by omega), zr_n (by omega), zr_n (by omega), zr_n (by omega), e1, e2, e5, hc15, w1, zbs]
  · rw [w5 _ _ (by omega) (by omega), zr_n (by omega)]
    exact q1
  · rw [w5 _ _ (by omega) (by omega), zr_e]
/-- what was replaced is replaced no more -/
theorem q_again (h : zS nS nK F nG nB nw c) {g i : Nat} (hgG : g < nG) (hi : i < nS) (h10 : c.1 (34 + g) 10 = 1) (h6 : c.1 (34 + g) 6 = 1) : g_L_acts1 c (nI g) (nI i) = some (-9, c) := by
  obtain ⟨⟨m, h52, h5⟩, hJ⟩ := h
  obtain ⟨l1, l2, l3, l4, l5⟩ := h5.1.2.2
  have hc13 := h5.1.1.2.2.1
  have q2 : ¬ c.1 (34 + g) 10 = 0 := by rw [h10]; decide
  unfold g_L_acts1 f_X6_replace fx_X6_replace f_X6_replace_80 fx_X6_replace_80
  rw [kGx_yes hc13 hgG l3, zorx_n, kG_yes hc13 hgG l3, zbs, zbs, kSx_yes h5.1.1.1 hi l1, zorx_n, kS_yes h5.1.1.1 hi l1, zbs, zbs]
  dsimp only
  rw [if_pos h6, if_pos h6, if_neg q2, if_neg q2]
  exact zw_x rfl rfl rfl
theorem q_pass (h : zS nS nK F nG nB nw c) {hrs : Nat} (h1 : 1 ≤ hrs) (h48 : hrs ≤ 48) (h9 : nw + hrs ≤ 9000) : ∃ c', f_X6_pass c (nI hrs) = some (nI (nw + hrs), c') ∧ zS nS nK F nG nB (nw + hrs) c' := by
  obtain ⟨⟨m, h52, h5⟩, hJ⟩ := h
  have w : zwi (nI hrs) 1 48 = 1 := zwi_in (lo := 1) (hi := 48) h1 h48 (by omega)
  have q1 : ¬ (9000 : Int32) < nI (nw + hrs) := (show ¬ nI 9000 < nI (nw + hrs) from nI_nlt (by omega) (by omega))
  obtain ⟨c', m', b1, b2, b3, b4, b5⟩ := zPass h48 hrs 64 64 0 nw c m h5 h52 (by omega) (by omega) (by omega) h9
  refine ⟨c', ?_, ⟨⟨m', b4, b3⟩, b5 F hJ⟩⟩
  unfold f_X6_pass
  rw [isWithin_eq, zbs, w, dA_yes z10, zbs]
  dsimp only
  rw [h5.1.1.2.2.2.2, nI_add, if_neg q1]
  exact b1
theorem q_hinder (h : zS nS nK F nG nB nw c) {a i x y : Nat} (ha : a < 3) (hi : i < nS) (hx : x ≤ y) (hy : y ≤ 10000) : ∃ c', f_X6_hinder c (nI a) (nI i) (nI x) (nI y) = some ((), c') ∧ zS nS nK F nG nB nw c' := by
  obtain ⟨⟨m, h52, h5⟩, hJ⟩ := h
  obtain ⟨l1, l2, l3, l4, l5⟩ := h5.1.2.2
  have wx : zwi (nI x) 0 10000 = 1 := zwi_in (lo := 0) (hi := 10000) (by omega) (by omega) (by omega)
  have wy : zwi (nI y) (nI x) 10000 = 1 := zwi_in (hi := 10000) hx hy (by omega)
  obtain ⟨r, hr, hr2, sp⟩ : ∃ r : Nat, (r = 9 ∨ r = 10 ∨ (18 ≤ r ∧ r < 22)) ∧ f_X6_spanFor c (nI a) (nI i) = some (r, c) ∧ fx_X6_spanFor c (nI a) (nI i) = none := by
    rcases (show a = 0 ∨ a = 1 ∨ a = 2 by omega) with q | q | q <;> subst q
    · refine ⟨9, Or.inl rfl, ?_, ?_⟩
      · unfold f_X6_spanFor f_X6_spanFor_23
        rw [if_neg (by decide), if_pos (by decide), if_pos (by decide)]
      · unfold fx_X6_spanFor
        rw [if_neg (by decide), if_pos (by decide)]
        rfl
    · refine ⟨10, Or.inr (Or.inl rfl), ?_, ?_⟩
      · unfold f_X6_spanFor f_X6_spanFor_23
        rw [if_neg (by decide), if_neg (by decide), if_pos (by decide), if_neg (by decide)]
      · unfold fx_X6_spanFor
        rw [if_neg (by decide), if_neg (by decide), if_pos (by decide)]
        rfl
    · refine ⟨18 + i, Or.inr (Or.inr (by omega)), ?_, ?_⟩
      · unfold f_X6_spanFor
        rw [if_pos (by decide), kS_yes h5.1.1.1 hi l1, zbs]
        dsimp only
        rw [show 14 + i + 4 = 18 + i by omega]
      · unfold fx_X6_spanFor
        rw [if_pos (by decide), kSx_yes h5.1.1.1 hi l1, zorx_n, kS_yes h5.1.1.1 hi l1, zbs]
  have hf : f_X6_hinder c (nI a) (nI i) (nI x) (nI y) = some ((), zwI (zwI c r 0 (nI x)) r 1 (nI y)) := by
    unfold f_X6_hinder
    rw [hr2, zbs, isWithin_eq, zbs, wx, if_neg z10, isWithin_eq, zbs, wy, if_neg z10, tell_eq, zbs]
  have hfx : fx_X6_hinder c (nI a) (nI i) (nI x) (nI y) = none := by
    unfold fx_X6_hinder
    rw [sp, zorx_n, hr2, zbs, isWithin_eq, zbs, wx, if_neg z10, isWithin_eq, zbs, wy, if_neg z10]
  obtain ⟨m', hR⟩ := zP_ok (P_hinder (nI a) (nI i) (nI x) (nI y) ⟨_, _, _, _, _, h5⟩) hfx hf
  have eo : ∀ q j, q = 0 ∨ 34 ≤ q → (zwI (zwI c r 0 (nI x)) r 1 (nI y)).1 q j = c.1 q j := fun q j a1 => by
    rw [zr_n (by omega), zr_n (by omega)]
  exact ⟨_, hf, zS_of (zR_cnt hR ((eo _ _ (by omega)).trans h5.1.1.1) ((eo _ _ (by omega)).trans h5.1.1.2.1) ((eo _ _ (by omega)).trans h5.1.1.2.2.1) ((eo _ _ (by omega)).trans h5.1.1.2.2.2.1) ((eo _ _ (by omega)).trans h5.1.1.2.2.2.2) (by omega)) (zJ_cg l3 l4 hJ (fun q j a1 _ => eo q j (by omega)) (fun j _ => rfl))⟩
theorem q_book (h : zS nS nK F nG nB nw c) {p g ki le we : Nat} (hp10 : p < 10) (hgG : g < nG) (hki : ki ≤ 3) (hle : le ≤ 40) (hwe : we ≤ 200 ∧ (ki = 0 ∨ 1 ≤ we)) {a5 : Int32} (h01 : a5 = 0 ∨ a5 = 1) (hbk : zbk (nI ki) (nI le) (nI we) a5 = 1) : (¬ (c.1 (34 + g) 6 = 0 ∧ nB < 40) ∧ g_L_book c (nI p) (nI g) (nI ki) (nI le) (nI we) a5 = some (-9, c)) ∨ (∃ (c' : zSt) (pd : Nat), nB < 40 ∧ g_L_book c (nI p) (nI g) (nI ki) (nI le) (nI we) a5 = some (nI nB, c') ∧ zS nS nK F nG (nB + 1) nw c' ∧ f_X6_sailingOf c' (nI nB) = some (nI g, c') ∧ 1 ≤ pd ∧ pd ≤ 8000 ∧ f_X6_paid c' (nI nB) = some (nI pd, c')) := by
  obtain ⟨⟨m, h52, h5⟩, hJ⟩ := h
  obtain ⟨hn, hs, hv, hw, hk, hh, hb, hp, hg, hgv, ho, hz, hB, hBv, hZ, ha⟩ := id h5
  obtain ⟨l1, l2, l3, l4, l5⟩ := hn.2.2
  have hc13 : c.1 0 13 = nI nG := hn.1.2.2.1
  have hc14 : c.1 0 14 = nI nB := hn.1.2.2.2.1
  have d0 : f_X6_demandIndex c (nI p) 10 = some ((), c) := dI_yes (n := 10) hp10 (by omega)
  have d1 : fx_X6_demandIndex c (nI p) 10 = none := dIx_yes (n := 10) hp10 (by omega)
  have q1' : ¬ zbk (nI ki) (nI le) (nI we) a5 = 0 := by rw [hbk]; exact z10
  unfold g_L_book f_X6_book fx_X6_book f_X6_book_47 fx_X6_book_47
  rw [d1, zorx_n, d0, zbs, zbs, kGx_yes hc13 hgG l3, zorx_n, kG_yes hc13 hgG l3, zbs, zbs, bookable_eq, zbs, zbs, dAx_yes q1', zorx_n, dA_yes q1', zbs, zbs]
  dsimp only
  by_cases y1 : c.1 (34 + g) 6 = 0
  case neg =>
    rw [if_neg y1, if_neg y1]
    exact Or.inl ⟨fun q => y1 q.1, zw_x rfl rfl rfl⟩
  rw [if_pos y1, if_pos y1, hc14]
  by_cases y2 : nB < 40
  case neg =>
    have hge : (40 : Int32) ≤ nI nB := nI_le (a := 40) (by omega) (by omega)
    rw [if_pos hge, if_pos hge]
    exact Or.inl ⟨fun q => y2 q.2, zw_x rfl rfl rfl⟩
  have hlt : ¬ (40 : Int32) ≤ nI nB := nI_ge (b := 40) (by omega) (by omega)
  rw [if_neg hlt, if_neg hlt]
  obtain ⟨s, f, t, hr, ds, e, z, bb, e0, e1, e2, e3, e4, e5, e6⟩ := zG2 h5 hgG
  have kb : f_X6_knownBooking (zwI c 0 14 (nI (nB + 1))) (nI nB) = some (58 + nB, zwI c 0 14 (nI (nB + 1))) := kB_yes (zr_e _ _ _ _) (by omega) (by omega)
  have isl : ∃ il : Int32, (il = 0 ∨ il = 1) ∧ (∀ x y : Option (Int32 × zSt), (if c.1 5 p = nI f then x else if c.1 5 p = nI t then x else y) = if il = 1 then x else y) := by
    by_cases h1 : c.1 5 p = nI f
    · exact ⟨1, Or.inr rfl, fun x y => by rw [if_pos h1, if_pos rfl]⟩
    · by_cases h2 : c.1 5 p = nI t
      · exact ⟨1, Or.inr rfl, fun x y => by rw [if_neg h1, if_pos h2, if_pos rfl]⟩
      · exact ⟨0, Or.inl rfl, fun x y => by rw [if_neg h1, if_neg h2, if_neg (by decide)]⟩
  obtain ⟨il, hil, hii⟩ := isl
  obtain ⟨zf, hz1, hz2, hzf⟩ : ∃ zf : Nat, 2 ≤ zf ∧ zf ≤ 20 ∧ zfare (nI ki) = nI zf := by
    rcases (show ki = 0 ∨ ki = 1 ∨ ki = 2 ∨ ki = 3 by omega) with q | q | q | q <;> subst q
    · exact ⟨2, by omega, by omega, rfl⟩
    · exact ⟨5, by omega, by omega, rfl⟩
    · exact ⟨8, by omega, by omega, rfl⟩
    · exact ⟨20, by omega, by omega, rfl⟩
  have hfa : zfare (nI ki) * nI ds = nI (zf * ds) := by rw [hzf, pk_mul]
  have hmul1 : 2 * 1 ≤ zf * ds := Nat.mul_le_mul hz1 (by omega)
  have hmul2 : zf * ds ≤ 20 * 400 := Nat.mul_le_mul hz2 (by omega)
  generalize zf * ds = fa at hfa hmul1 hmul2
  obtain ⟨pd, hpd1, hpd2, hper⟩ : ∃ pd : Nat, 1 ≤ pd ∧ pd ≤ 8000 ∧ ((il = 0 ∧ nI pd = nI fa) ∨ (il = 1 ∧ nI pd = nI fa / 2)) := by
    rcases hil with q | q
    · exact ⟨fa, by omega, by omega, Or.inl ⟨q, rfl⟩⟩
    · refine ⟨fa / 2, by omega, by omega, Or.inr ⟨q, ?_⟩⟩
      rw [show (2 : Int32) = nI 2 from rfl, pk_div (by omega) (by omega) (by omega)]
  obtain ⟨c1, m1, w1, -, -, w4⟩ := bk_new h5 y2 hp10 hgG y1 h52 hki hle hwe a5 h01 il hil (nI fa)
  have hE := pay_eq (st := zwI (zwI (zwI (zwI (zwI (zwI (zwI c 0 14 (nI (nB + 1))) (58 + nB) 0 (nI g)) (58 + nB) 1 (nI ki)) (58 + nB) 2 (nI le)) (58 + nB) 3 (nI we)) (58 + nB) 9 a5) (58 + nB) 10 il) (r := 58 + nB) (v := nI fa) (per := nI pd) (by omega) (by rw [zr_e]; exact hper)
  obtain ⟨-, rfl⟩ := Prod.mk.inj (Option.some.inj (w1.symm.trans hE))
  clear w1
  generalize hX : zwL (zwL (zwI (zwI (zwI (zwI (zwI (zwI (zwI (zwI (zwI c 0 14 (nI (nB + 1))) (58 + nB) 0 (nI g)) (58 + nB) 1 (nI ki)) (58 + nB) 2 (nI le)) (58 + nB) 3 (nI we)) (58 + nB) 9 a5) (58 + nB) 10 il) (58 + nB) 7 (nI pd)) (58 + nB) 8 (nI fa - nI pd)) 8 0 _) 8 1 _ = X at hE w4
  have eo : ∀ q j, q ≠ 0 → q ≠ 58 + nB → X.1 q j = c.1 q j := fun q j a1 a2 => by rw [← hX]; simp (disch := omega) only [zr_n, zr_L1]
  have z0' : ∀ j, j ≠ 14 → X.1 0 j = c.1 0 j := fun j a1 => by rw [← hX]; simp (disch := omega) only [zr_n, zr_L1]
  have s14 : X.1 0 14 = nI (nB + 1) := by rw [← hX]; simp (disch := omega) only [zr_n, zr_e, zr_L1]
  have s0 : X.1 (58 + nB) 0 = nI g := by rw [← hX]; simp (disch := omega) only [zr_n, zr_e, zr_L1]
  have s7 : X.1 (58 + nB) 7 = nI pd := by rw [← hX]; simp (disch := omega) only [zr_n, zr_e, zr_L1]
  have s8 : X.1 (58 + nB) 8 = nI fa - nI pd := by rw [← hX]; simp (disch := omega) only [zr_n, zr_e, zr_L1]
  have a0 : X.2 8 0 = c.2 8 0 + (nI pd).toInt64 := by rw [← hX]; simp (disch := omega) only [zrL_n, zrL_e, zr_I2]
  have a1 : X.2 8 1 = c.2 8 1 + (nI fa - nI pd).toInt64 := by rw [← hX]; simp (disch := omega) only [zrL_n, zrL_e, zr_I2]
  have a2 : X.2 8 2 = c.2 8 2 := by rw [← hX]; simp (disch := omega) only [zrL_n, zr_I2]
  have hR5 : zR5 nS nK nG (nB + 1) nw X m1 := zR_cnt w4 ((z0' _ (by omega)).trans hn.1.1) ((z0' _ (by omega)).trans hn.1.2.1) ((z0' _ (by omega)).trans hc13) s14 ((z0' _ (by omega)).trans hn.1.2.2.2.2) (by omega)
  have hgm : ¬ (nI g : Int32) = -1 := znI_ne_m1 (by omega)
  obtain ⟨jp, ja, jg, js, jf⟩ := hJ
  have hJX : zJ F nG (nB + 1) X := by
    refine ⟨fun k hk hk0 => ?_, ⟨?_, ?_⟩, fun k j hk hj e => ?_, fun j hj => ?_, ?_⟩
    · by_cases q : k = nB
      · rw [q]; exact ⟨pd, hpd1, hpd2, s7⟩
      · rw [eo _ _ (by omega) (by omega)] at hk0 ⊢
        exact jp k (by omega) hk0
    · rw [zaa, s0, if_neg hgm, s7, a0, ja.1, zaa_cg (c := c) nB (fun k hk => ⟨by rw [eo _ _ (by omega) (by omega)], eo _ _ (by omega) (by omega)⟩)]
    · rw [zaa, s0, if_neg hgm, s8, a1, ja.2, zaa_cg (c := c) nB (fun k hk => ⟨by rw [eo _ _ (by omega) (by omega)], eo _ _ (by omega) (by omega)⟩)]
    · rw [eo (34 + j) 6 (by omega) (by omega)]
      by_cases q : k = nB
      · rw [q, s0] at e
        have : g = j := (nI_eq (by omega) (by omega)).mp e
        subst this
        exact Or.inl (by rw [y1]; decide)
      · rw [eo _ _ (by omega) (by omega)] at e
        exact jg k j (by omega) hj e
    · rw [eo _ _ (by omega) (by omega), eo _ _ (by omega) (by omega), eo _ _ (by omega) (by omega)]
      exact js j hj
    · obtain ⟨f, hf1, hf2⟩ := jf
      exact ⟨f, hf1, by rw [a2]; exact hf2⟩
  refine Or.inr ⟨X, pd, y2, zw_ok ?_, zS_of hR5 hJX, by rw [o_sailingOf hR5 (by omega), s0], hpd1, hpd2, by rw [o_paid hR5 (by omega), s7]⟩
  unfold f_X6_book_146
  rw [zlet_eq, nI_1, kb, zbs]
  simp (disch := omega) only [↓zlet_eq, if_pos h01, zif_in, ztN, zr_n, e1, e2, e5, fare_eq, zbs, hfa]
  rw [hii]
  rcases hil with rfl | rfl
  · rw [if_neg (by decide), hE, zbs]
  · rw [if_pos rfl, hE, zbs]
end ZQ
