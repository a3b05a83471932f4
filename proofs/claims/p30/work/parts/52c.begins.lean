/-! the two fresh objects are coupled -/
section ZP18
variable {c m : zSt}
theorem zR_init (h0 : ∀ j, 11 ≤ j → j ≤ 15 → c.1 0 j = 0) (hS : ∀ k j, k < 4 → c.1 (14 + k) j = 0) (hO : ∀ k, k < 4 → c.1 (18 + k) 0 = 0 ∧ c.1 (18 + k) 1 = -1) (h9 : c.1 9 0 = 0 ∧ c.1 9 1 = -1) (h10 : c.1 10 0 = 0 ∧ c.1 10 1 = -1) (h5 : ∀ i, i < 10 → c.1 5 i = -1) (h6 : ∀ i, i < 6 → c.1 6 i = 0 ∧ c.1 7 i = 0) (hG : ∀ k, k < 24 → c.1 (34 + k) 6 = 0 ∧ c.1 (34 + k) 7 = 0 ∧ c.1 (34 + k) 8 = -1 ∧ c.1 (34 + k) 10 = 0) (hB : ∀ k, k < 40 → c.1 (58 + k) 4 = -1 ∧ c.1 (58 + k) 6 = 0 ∧ c.1 (58 + k) 11 = 0) (hA : ∀ j, j < 3 → c.2 8 j = 0) (hm : ∀ q j, q ≤ 38 → m.1 q j = 0) (hm2 : ∀ j, m.2 0 j = 0) : zR c m := by
  have zz : (0 : Int32) = nI 0 := rfl
  refine ⟨0, 0, 0, 0, 0, ⟨⟨?_, ?_, ?_, ?_, ?_⟩, ⟨?_, ?_, ?_, ?_, ?_⟩, by omega, by omega, by omega, by omega, by omega⟩, fun k hk => ⟨⟨?_, ?_, ?_, ?_, ?_, ?_, ?_⟩, Or.inl ⟨(hO k hk).1, (hO k hk).2, hm _ _ (by omega)⟩, 0, by omega, hS k 6 hk⟩, fun k hk => absurd hk (Nat.not_lt_zero _), ⟨Or.inl ⟨h9.1, h9.2, hm _ _ (by omega)⟩, Or.inl ⟨h10.1, h10.2, hm _ _ (by omega)⟩⟩, fun k hk => absurd hk (Nat.not_lt_zero _), fun k d _ _ => hm _ _ (by omega), fun i hi => ⟨?_, ?_, 0, 0, by omega, by omega, (h6 i hi).1, (h6 i hi).2⟩, fun i hi => ⟨?_, Or.inl (h5 i hi)⟩, fun k hk => absurd hk (Nat.not_lt_zero _), fun k hk => absurd hk (Nat.not_lt_zero _), fun i j hij hj => absurd hj (Nat.not_lt_zero _), fun k _ hk => ⟨hG k hk, hm _ _ (by omega), hm _ _ (by omega), hm _ _ (by omega)⟩, fun k hk => absurd hk (Nat.not_lt_zero _), fun k hk => absurd hk (Nat.not_lt_zero _), fun k _ hk => ⟨hB k hk, hm _ _ (by omega), hm _ _ (by omega), hm _ _ (by omega)⟩, (hm2 _).trans (hA 0 (by omega)).symm, (hm2 _).trans (hA 1 (by omega)).symm, (hm2 _).trans (hA 2 (by omega)).symm⟩
  · exact h0 11 (by omega) (by omega)
  · exact h0 12 (by omega) (by omega)
  · exact h0 13 (by omega) (by omega)
  · exact h0 14 (by omega) (by omega)
  · exact h0 15 (by omega) (by omega)
  · exact hm _ _ (by omega)
  · exact hm _ _ (by omega)
  · exact hm _ _ (by omega)
  · exact hm _ _ (by omega)
  · exact hm _ _ (by omega)
  · rw [hm _ _ (by omega), hS k _ hk]
  · rw [hm _ _ (by omega), hS k _ hk]
  · rw [hm _ _ (by omega), hS k _ hk]
  · rw [hm _ _ (by omega), hS k _ hk]
  · rw [hm _ _ (by omega), hS k _ hk]
  · rw [hm _ _ (by omega), hS k _ hk]
  · rw [hm _ _ (by omega), hS k _ hk]
  · rw [hm _ _ (by omega), (h6 i hi).1]
  · rw [hm _ _ (by omega), (h6 i hi).2]
  · rw [hm _ _ (by omega), h5 i hi]
    decide
end ZP18
/-! the fresh object, and the calls of the law's beginning -/
section ZI
variable {c c' m m' : zSt} {nS nK nG nB nw F : Nat}
def zst1 : zSt := (fun _ _ => 0, fun _ _ => 0)
theorem zR_fresh : zR (zstR 10) zst1 := by
  have hz : ∀ c j, c ≠ 5 → ¬ (((c = 9 ∨ c = 10 ∨ (18 ≤ c ∧ c < 22) ∨ (28 ≤ c ∧ c < 34)) ∧ j = 1) ∨ ((22 ≤ c ∧ c < 28) ∧ j = 0) ∨ ((34 ≤ c ∧ c < 58) ∧ (j = 0 ∨ j = 8)) ∨ ((58 ≤ c ∧ c < 98) ∧ (j = 0 ∨ j = 4))) → (zstR 10).1 c j = 0 := fun c j h1 h2 => by rw [zstR_off h1]; exact zst0_z h2
  have hm : ∀ c j, c ≠ 5 → (((c = 9 ∨ c = 10 ∨ (18 ≤ c ∧ c < 22) ∨ (28 ≤ c ∧ c < 34)) ∧ j = 1) ∨ ((22 ≤ c ∧ c < 28) ∧ j = 0) ∨ ((34 ≤ c ∧ c < 58) ∧ (j = 0 ∨ j = 8)) ∨ ((58 ≤ c ∧ c < 98) ∧ (j = 0 ∨ j = 4))) → (zstR 10).1 c j = -1 := fun c j h1 h2 => by rw [zstR_off h1]; exact zst0_m h2
  refine zR_init ?_ ?_ ?_ ?_ ?_ ?_ ?_ ?_ ?_ ?_ ?_ ?_
  · exact fun j h1 h2 => hz 0 j (by omega) (by omega)
  · exact fun k j h1 => hz (14 + k) j (by omega) (by omega)
  · exact fun k h1 => ⟨hz (18 + k) 0 (by omega) (by omega), hm (18 + k) 1 (by omega) (by omega)⟩
  · exact ⟨hz 9 0 (by omega) (by omega), hm 9 1 (by omega) (by omega)⟩
  · exact ⟨hz 10 0 (by omega) (by omega), hm 10 1 (by omega) (by omega)⟩
  · exact fun i h1 => if_pos ⟨rfl, h1⟩
  · exact fun i h1 => ⟨hz 6 i (by omega) (by omega), hz 7 i (by omega) (by omega)⟩
  · exact fun k h1 => ⟨hz (34 + k) 6 (by omega) (by omega), hz (34 + k) 7 (by omega) (by omega), hm (34 + k) 8 (by omega) (by omega), hz (34 + k) 10 (by omega) (by omega)⟩
  · exact fun k h1 => ⟨hm (58 + k) 4 (by omega) (by omega), hz (58 + k) 6 (by omega) (by omega), hz (58 + k) 11 (by omega) (by omega)⟩
  · exact fun j _ => rfl
  · exact fun q j _ => rfl
  · exact fun j => rfl
theorem zS_fresh : zS 0 0 0 0 0 0 (zstR 10) := by
  have hz : ∀ j, 11 ≤ j → j ≤ 15 → (zstR 10).1 0 j = nI 0 := fun j h1 h2 => by rw [zstR_off (by omega)]; exact zst0_z (by omega)
  refine zS_of (m := zst1) (zR_cnt zR_fresh (hz 11 (by omega) (by omega)) (hz 12 (by omega) (by omega)) (hz 13 (by omega) (by omega)) (hz 14 (by omega) (by omega)) (hz 15 (by omega) (by omega)) (by omega)) ⟨fun k hk => absurd hk (Nat.not_lt_zero _), ⟨rfl, rfl⟩, fun k j hk => absurd hk (Nat.not_lt_zero _), fun j hj => absurd hj (Nat.not_lt_zero _), 0, Nat.le_refl _, rfl⟩
theorem zS_res (h : zS nS nK F nG nB nw c) (v : Int32) {p : Nat} (hp : p < 10) (hv : v = -1 ∨ ∃ j : Nat, j < 6 ∧ v = nI j) : ∃ c', f_X6_reside c (nI p) v = some (c.1 5 p, c') ∧ zS nS nK F nG nB nw c' ∧ ∀ j, j ≠ p → c'.1 5 j = c.1 5 j := by
  obtain ⟨⟨m, h52, h5⟩, hJ⟩ := h
  obtain ⟨l1, l2, l3, l4, l5⟩ := h5.1.2.2
  have d0 : f_X6_demandIndex c (nI p) 10 = some ((), c) := dI_yes (n := 10) hp (by omega)
  have d1 : fx_X6_demandIndex c (nI p) 10 = none := dIx_yes (n := 10) hp (by omega)
  have r17 : f_X6_reside_17 c (nI p) v = some (c.1 5 p, zwI c 5 p v) := by
    unfold f_X6_reside_17
    rw [zif_in (by omega) (by omega), zif_in (by omega) (by omega), zlet_eq, ztN (by omega)]
  have hf : f_X6_reside c (nI p) v = some (c.1 5 p, zwI c 5 p v) := by
    unfold f_X6_reside
    rw [d0, zbs]
    dsimp only
    rcases hv with q | ⟨j, hj, q⟩
    · rw [if_pos q, r17]
    · rw [if_neg (by rw [q]; exact znI_ne_m1 (by omega)), q, show f_X6_demandIndex c (nI j) 6 = some ((), c) from dI_yes (n := 6) hj (by omega), zbs, ← q, r17]
  have hfx : fx_X6_reside c (nI p) v = none := by
    unfold fx_X6_reside fx_X6_reside_17
    rw [d1, zorx_n, d0, zbs]
    dsimp only
    rcases hv with q | ⟨j, hj, q⟩
    · rw [if_pos q]
    · rw [if_neg (by rw [q]; exact znI_ne_m1 (by omega)), q, show f_X6_demandIndex c (nI j) 6 = some ((), c) from dI_yes (n := 6) hj (by omega), show fx_X6_demandIndex c (nI j) 6 = none from dIx_yes (n := 6) hj (by omega), zorx_n, zbs]
  obtain ⟨m', hR⟩ := zP_ok (P_reside (nI p) v ⟨_, _, _, _, _, h5⟩) hfx hf
  have eo : ∀ q j, q ≠ 5 → (zwI c 5 p v).1 q j = c.1 q j := fun q j a1 => zr_n (by omega)
  exact ⟨_, hf, zS_of (zR_cnt hR ((eo _ _ (by omega)).trans h5.1.1.1) ((eo _ _ (by omega)).trans h5.1.1.2.1) ((eo _ _ (by omega)).trans h5.1.1.2.2.1) ((eo _ _ (by omega)).trans h5.1.1.2.2.2.1) ((eo _ _ (by omega)).trans h5.1.1.2.2.2.2) (by omega)) (zJ_cg l3 l4 hJ (fun q j a1 _ => eo q j (by omega)) (fun j _ => rfl)), fun j hj => zr_n (by omega)⟩
theorem zS_bus (h : zS nS nK F nG nB nw c) : ∃ c', f_X6_bus c 0 5 2 = some ((), c') ∧ zS nS nK F nG nB nw c' := by
  obtain ⟨⟨m, h52, h5⟩, hJ⟩ := h
  obtain ⟨l1, l2, l3, l4, l5⟩ := h5.1.2.2
  have d0 : f_X6_demandIndex c 0 6 = some ((), c) := dI_yes (i := 0) (n := 6) (by omega) (by omega)
  have d1 : fx_X6_demandIndex c 0 6 = none := dIx_yes (i := 0) (n := 6) (by omega) (by omega)
  have w1 : zwi 5 1 12 = 1 := by decide
  have w2 : zwi 2 0 (5 - 1) = 1 := by decide
  have hz : zin (0 : Int32) 6 := by decide
  have hf : f_X6_bus c 0 5 2 = some ((), zwI (zwI c 6 0 5) 7 0 2) := by
    unfold f_X6_bus
    rw [d0, zbs, isWithin_eq, zbs, w1, if_neg z10, isWithin_eq, zbs, w2, if_neg z10, if_pos hz, zlet_eq, if_pos hz, zlet_eq, zc0]
  have hfx : fx_X6_bus c 0 5 2 = none := by
    unfold fx_X6_bus
    rw [d1, zorx_n, d0, zbs, isWithin_eq, zbs, w1, if_neg z10, isWithin_eq, zbs, w2, if_neg z10]
  obtain ⟨m', hR⟩ := zP_ok (P_bus 0 5 2 ⟨_, _, _, _, _, h5⟩) hfx hf
  have eo : ∀ q j, q ≠ 6 → q ≠ 7 → (zwI (zwI c 6 0 5) 7 0 2).1 q j = c.1 q j := fun q j a1 a2 => by rw [zr_n (by omega), zr_n (by omega)]
  exact ⟨_, hf, zS_of (zR_cnt hR ((eo _ _ (by omega) (by omega)).trans h5.1.1.1) ((eo _ _ (by omega) (by omega)).trans h5.1.1.2.1) ((eo _ _ (by omega) (by omega)).trans h5.1.1.2.2.1) ((eo _ _ (by omega) (by omega)).trans h5.1.1.2.2.2.1) ((eo _ _ (by omega) (by omega)).trans h5.1.1.2.2.2.2) (by omega)) (zJ_cg l3 l4 hJ (fun q j a1 _ => eo q j (by omega) (by omega)) (fun j _ => rfl))⟩
theorem zS_crew (h : zS nS nK F nG nB nw c) (hK : nK < 6) {i : Nat} (hi : i < nS) : ∃ c', f_X6_crew c (nI i) 0 200 = some (nI nK, c') ∧ zS nS (nK + 1) F nG nB nw c' ∧ (∀ j, c'.1 5 j = c.1 5 j) ∧ ∀ i, i < 4 → c'.1 (14 + i) 6 = c.1 (14 + i) 6 := by
  obtain ⟨⟨m, h52, h5⟩, hJ⟩ := h
  obtain ⟨l1, l2, l3, l4, l5⟩ := h5.1.2.2
  have hc11 := h5.1.1.1
  have hc12 := h5.1.1.2.1
  have w1 : zwi 0 0 500 = 1 := by decide
  have w2 : zwi 200 0 500 = 1 := by decide
  have h6 : ¬ (6 : Int32) ≤ nI nK := nI_ge (b := 6) (by omega) (by omega)
  have kk : f_X6_knownCrew (zwI c 0 12 (nI (nK + 1))) (nI nK) = some (22 + nK, zwI c 0 12 (nI (nK + 1))) := kK_yes (zr_e _ _ _ _) (by omega) (by omega)
  have hf : f_X6_crew c (nI i) 0 200 = some (nI nK, zwI (zwI (zwI (zwI c 0 12 (nI (nK + 1))) (22 + nK) 0 (nI i)) (22 + nK + 6) 0 0) (22 + nK + 6) 1 200) := by
    unfold f_X6_crew
    rw [hc11, dI_yes hi (by omega), zbs, isWithin_eq, zbs, w1, if_neg z10, isWithin_eq, zbs, w2, if_neg z10]
    dsimp only
    rw [hc12, if_neg h6, zlet_eq, nI_1, kk, zbs]
    dsimp only
    rw [zlet_eq, tell_eq, zbs]
  have hfx : fx_X6_crew c (nI i) 0 200 = none := by
    unfold fx_X6_crew
    rw [hc11, dIx_yes hi (by omega), zorx_n, dI_yes hi (by omega), zbs, isWithin_eq, zbs, w1, if_neg z10, isWithin_eq, zbs, w2, if_neg z10]
    dsimp only
    rw [hc12, if_neg h6]
  obtain ⟨m', hR⟩ := zP_ok (P_crew (nI i) 0 200 ⟨_, _, _, _, _, h5⟩) hfx hf
  generalize hX : zwI (zwI (zwI (zwI c 0 12 (nI (nK + 1))) (22 + nK) 0 (nI i)) (22 + nK + 6) 0 0) (22 + nK + 6) 1 200 = X at hf hR
  have eo : ∀ q j, (q = 0 ∧ j ≠ 12) ∨ q = 5 ∨ 34 ≤ q → X.1 q j = c.1 q j := fun q j a1 => by rw [← hX]; simp (disch := omega) only [zr_n]
  have s12 : X.1 0 12 = nI (nK + 1) := by rw [← hX]; simp (disch := omega) only [zr_n, zr_e]
  have e2 : X.2 = c.2 := by rw [← hX]; rfl
  exact ⟨X, hf, zS_of (zR_cnt hR ((eo _ _ (by omega)).trans hc11) s12 ((eo _ _ (by omega)).trans h5.1.1.2.2.1) ((eo _ _ (by omega)).trans h5.1.1.2.2.2.1) ((eo _ _ (by omega)).trans h5.1.1.2.2.2.2) (by omega)) (zJ_cg l3 l4 hJ (fun q j a1 _ => eo q j (by omega)) (fun j _ => by rw [e2])), fun j => eo _ _ (by omega), fun i _ => by rw [← hX]; simp (disch := omega) only [zr_n]⟩
theorem zS_ship (h : zS nS nK F nG nB nw c) (hS : nS < 4) {ho la le we dr sp : Nat} (h0 : ho < 6) (h1 : 1 ≤ la ∧ la ≤ 4) (h2 : 10 ≤ le ∧ le ≤ 100) (h3 : 1 ≤ we ∧ we ≤ 1000) (h4 : 1 ≤ dr ∧ dr ≤ 9) (h5' : 1 ≤ sp ∧ sp ≤ 40) : ∃ c', f_X6_ship c (nI ho) (nI la) (nI le) (nI we) (nI dr) (nI sp) = some (nI nS, c') ∧ zS (nS + 1) nK F nG nB nw c' ∧ (∀ j, c'.1 5 j = c.1 5 j) ∧ ∀ i, c'.1 (14 + i) 6 = c.1 (14 + i) 6 := by
  obtain ⟨⟨m, h52, h5⟩, hJ⟩ := h
  obtain ⟨l1, l2, l3, l4, l5⟩ := h5.1.2.2
  have hc11 := h5.1.1.1
  have d0 : f_X6_demandIndex c (nI ho) 6 = some ((), c) := dI_yes (n := 6) h0 (by omega)
  have d1 : fx_X6_demandIndex c (nI ho) 6 = none := dIx_yes (n := 6) h0 (by omega)
  have w1 : zwi (nI la) 1 4 = 1 := zwi_in (lo := 1) (hi := 4) h1.1 h1.2 (by omega)
  have w2 : zwi (nI le) 10 100 = 1 := zwi_in (lo := 10) (hi := 100) h2.1 h2.2 (by omega)
  have w3 : zwi (nI we) 1 1000 = 1 := zwi_in (lo := 1) (hi := 1000) h3.1 h3.2 (by omega)
  have w4 : zwi (nI dr) 1 9 = 1 := zwi_in (lo := 1) (hi := 9) h4.1 h4.2 (by omega)
  have w5 : zwi (nI sp) 1 40 = 1 := zwi_in (lo := 1) (hi := 40) h5'.1 h5'.2 (by omega)
  have h4' : ¬ (4 : Int32) ≤ nI nS := nI_ge (b := 4) (by omega) (by omega)
  have kk : f_X6_knownShip (zwI c 0 11 (nI (nS + 1))) (nI nS) = some (14 + nS, zwI c 0 11 (nI (nS + 1))) := kS_yes (zr_e _ _ _ _) (by omega) (by omega)
  have hf : f_X6_ship c (nI ho) (nI la) (nI le) (nI we) (nI dr) (nI sp) = some (nI nS, zwI (zwI (zwI (zwI (zwI (zwI (zwI c 0 11 (nI (nS + 1))) (14 + nS) 0 (nI ho)) (14 + nS) 1 (nI la)) (14 + nS) 2 (nI le)) (14 + nS) 3 (nI we)) (14 + nS) 4 (nI dr)) (14 + nS) 5 (nI sp)) := by
    unfold f_X6_ship
    rw [d0, zbs, isWithin_eq, zbs, w1, if_neg z10, isWithin_eq, zbs, w2, if_neg z10, isWithin_eq, zbs, w3, if_neg z10, isWithin_eq, zbs, w4, if_neg z10, isWithin_eq, zbs, w5, if_neg z10]
    dsimp only
    rw [hc11, if_neg h4', zlet_eq, nI_1, kk, zbs]
    simp only [zlet_eq]
  have hfx : fx_X6_ship c (nI ho) (nI la) (nI le) (nI we) (nI dr) (nI sp) = none := by
    unfold fx_X6_ship
    rw [d1, zorx_n, d0, zbs, isWithin_eq, zbs, w1, if_neg z10, isWithin_eq, zbs, w2, if_neg z10, isWithin_eq, zbs, w3, if_neg z10, isWithin_eq, zbs, w4, if_neg z10, isWithin_eq, zbs, w5, if_neg z10]
    dsimp only
    rw [hc11, if_neg h4']
  obtain ⟨m', hR⟩ := zP_ok (P_ship (nI ho) (nI la) (nI le) (nI we) (nI dr) (nI sp) ⟨_, _, _, _, _, h5⟩) hfx hf
  generalize hX : zwI (zwI (zwI (zwI (zwI (zwI (zwI c 0 11 (nI (nS + 1))) (14 + nS) 0 (nI ho)) (14 + nS) 1 (nI la)) (14 + nS) 2 (nI le)) (14 + nS) 3 (nI we)) (14 + nS) 4 (nI dr)) (14 + nS) 5 (nI sp) = X at hf hR
  have eo : ∀ q j, (q = 0 ∧ j ≠ 11) ∨ q = 5 ∨ 34 ≤ q → X.1 q j = c.1 q j := fun q j a1 => by rw [← hX]; simp (disch := omega) only [zr_n]
  have s11 : X.1 0 11 = nI (nS + 1) := by rw [← hX]; simp (disch := omega) only [zr_n, zr_e]
  have e2 : X.2 = c.2 := by rw [← hX]; rfl
  exact ⟨X, hf, zS_of (zR_cnt hR s11 ((eo _ _ (by omega)).trans h5.1.1.2.1) ((eo _ _ (by omega)).trans h5.1.1.2.2.1) ((eo _ _ (by omega)).trans h5.1.1.2.2.2.1) ((eo _ _ (by omega)).trans h5.1.1.2.2.2.2) (by omega)) (zJ_cg l3 l4 hJ (fun q j a1 _ => eo q j (by omega)) (fun j _ => by rw [e2])), fun j => eo _ _ (by omega), fun i => by rw [← hX]; simp (disch := omega) only [zr_n]⟩
theorem zS_mono {F' : Nat} (h : zS nS nK F nG nB nw c) (hF : F ≤ F') : zS nS nK F' nG nB nw c := by
  obtain ⟨h1, h2, h3, h4, h5, f, hf, e⟩ := h
  exact ⟨h1, h2, h3, h4, h5, f, by omega, e⟩
end ZI
