/-! what the class answers where the coupling and p30's invariants hold; the law's own three checks -/
section ZO
variable {c c' m m' : zSt} {nS nK nG nB nw F : Nat}
theorem o_state (h : zR5 nS nK nG nB nw c m) {j : Nat} (hj : j < nG) : f_X6_state c (nI j) = some (c.1 (34 + j) 6 + 10 * c.1 (34 + j) 7, c) := by
  unfold f_X6_state
  rw [kG_yes h.1.1.2.2.1 hj h.1.2.2.2.2.1, zbs]
theorem o_ends (h : zR5 nS nK nG nB nw c m) {j : Nat} (hj : j < nG) : f_X6_ends c (nI j) = some (c.1 (34 + j) 4, c) := by
  unfold f_X6_ends
  rw [kG_yes h.1.1.2.2.1 hj h.1.2.2.2.2.1, zbs]
theorem o_list (h : zR5 nS nK nG nB nw c m) {j : Nat} (hj : j < nG) (h2 : c.1 (34 + j) 6 = 2) : f_X6_list c (nI j) = some (c.1 (34 + j) 9, c) := by
  unfold f_X6_list
  rw [kG_yes h.1.1.2.2.1 hj h.1.2.2.2.2.1, zbs]
  exact if_pos h2
theorem o_fuel (h : zR5 nS nK nG nB nw c m) {i : Nat} (hi : i < nS) : f_X6_fuel c (nI i) = some (c.1 (14 + i) 6, c) := by
  unfold f_X6_fuel
  rw [kS_yes h.1.1.1 hi h.1.2.2.1, zbs]
theorem o_sailingOf (h : zR5 nS nK nG nB nw c m) {k : Nat} (hk : k < nB) : f_X6_sailingOf c (nI k) = some (c.1 (58 + k) 0, c) := by
  unfold f_X6_sailingOf
  rw [kB_yes h.1.1.2.2.2.1 hk h.1.2.2.2.2.2.1, zbs]
theorem o_lane (h : zR5 nS nK nG nB nw c m) {k : Nat} (hk : k < nB) : f_X6_lane c (nI k) = some (c.1 (58 + k) 4, c) := by
  unfold f_X6_lane
  rw [kB_yes h.1.1.2.2.2.1 hk h.1.2.2.2.2.2.1, zbs]
theorem o_paid (h : zR5 nS nK nG nB nw c m) {k : Nat} (hk : k < nB) : f_X6_paid c (nI k) = some (c.1 (58 + k) 7, c) := by
  unfold f_X6_paid
  rw [kB_yes h.1.1.2.2.2.1 hk h.1.2.2.2.2.2.1, zbs]
theorem o_taken (h : zR5 nS nK nG nB nw c m) {j : Nat} (hj : j < nG) : f_X6_taken c (nI j) = some (ztk c (nI j) nB, c) := by
  have l3 : nG ≤ 24 := h.1.2.2.2.2.1
  have l4 : nB ≤ 40 := h.1.2.2.2.2.2.1
  unfold f_X6_taken
  rw [h.1.1.2.2.1, dI_yes hj (by omega), zbs]
  exact taken_lp h.1.1.2.2.2.1 l4 nB 64 0 0 (by omega) (by omega) rfl
theorem o_account (c : zSt) {i : Nat} (hi : i ≤ 2) : f_X6_account c (nI i) = some (c.2 8 i, c) := by
  have w : zwi (nI i) 0 2 = 1 := zwi_in (lo := 0) (hi := 2) (by omega) hi (by omega)
  unfold f_X6_account
  rw [isWithin_eq, zbs, w, dA_yes z10, zbs, zif_in (by omega) (by omega), ztN (by omega)]
theorem o_anew (h : zR5 nS nK nG nB nw c m) {v : Int32} {j : Nat} (hj : (v = 0 ∧ j = 7) ∨ (v = 1 ∧ j = 8)) : f_X6_accountAnew c v = some (zaa c j nB, c) := by
  have l4 : nB ≤ 40 := h.1.2.2.2.2.2.1
  have h0 : f_X6_accountAnew_22 64 c v 0 0 = some (zaa c j nB, c) := anew_lp (hj.imp_right fun q => ⟨by rw [q.1]; decide, q.2⟩) h.1.1.2.2.2.1 l4 nB 64 0 0 (by omega) (by omega) rfl
  unfold f_X6_accountAnew f_X6_accountAnew_9
  rcases hj with ⟨rfl, -⟩ | ⟨rfl, -⟩
  · rw [if_pos rfl]; exact h0
  · rw [if_neg z10, if_pos rfl]; exact h0
theorem o_place (h : zR5 nS nK nG nB nw c m) {i : Nat} (hi : i < nS) : ∃ p : Int32, f_X6_place c (nI i) = some (p, c) ∧ f_X6_placeByLine c (nI i) (nI nw) = some (p, c) := by
  have l1 : nS ≤ 4 := h.1.2.2.1
  have l5 : nw ≤ 9000 := h.1.2.2.2.2.2.2
  have w : zwi (nI nw) 0 (nI nw) = 1 := zwi_in (lo := 0) (hi := nw) (by omega) (Nat.le_refl _) (by omega)
  refine ⟨zww c (nI i) (nI nw) (c.1 (14 + i) 0) nG, ?_, ?_⟩
  rotate_left
  · unfold f_X6_placeByLine
    rw [h.1.1.1, dI_yes hi (by omega), zbs]
    dsimp only
    rw [h.1.1.2.2.2.2, isWithin_eq, zbs, w, dA_yes z10, zbs]
    dsimp only
    rw [where_eq h hi, zbs]
  · unfold f_X6_place
    rw [h.1.1.1, dI_yes hi (by omega), zbs]
    dsimp only
    rw [h.1.1.2.2.2.2, where_eq h hi, zbs]
theorem o_bus (h : zR5 nS nK nG nB nw c m) {j : Nat} (hj : j < nG) : ∃ b : Int32, f_X6_busAfter c (nI j) = some (b, c) ∧ (¬ c.1 (34 + j) 6 = 2 → b = -1) ∧ ¬ b < -1 ∧ ¬ 12 ≤ b := by
  have l3 : nG ≤ 24 := h.1.2.2.2.2.1
  have hc13 := h.1.1.2.2.1
  obtain ⟨s, f, t, hr, d, e, z, bb, e0, e1, e2, e3, e4, e5, e6⟩ := zG2 h hj
  obtain ⟨q14, q15, n, f0, hnn, hff, e14, e15⟩ := h.2.2.2.2.2.2.1 t (by omega)
  have hd : f_X6_demandIndex c (nI t) 6 = some ((), c) := dI_yes (n := 6) (by omega) (by omega)
  have hm1 : ¬ (-1 : Int32) < -1 ∧ ¬ (12 : Int32) ≤ -1 := by decide
  unfold f_X6_busAfter
  rw [kG_yes hc13 hj l3, zbs]
  simp (disch := omega) only [zif_in, ztN, e2, e4, hd, zbs, e14, e15]
  by_cases h2 : c.1 (34 + j) 6 = 2
  · rw [if_pos h2]
    by_cases hn0 : n = 0
    · subst hn0
      exact ⟨-1, by rw [if_neg (by decide)], fun _ => rfl, hm1.1, hm1.2⟩
    · have hle : (1 : Int32) ≤ nI n := nI_le (a := 1) (by omega) (by omega)
      have hmod : (f0 + n - e % n) % n < n := Nat.mod_lt _ (by omega)
      refine ⟨nI ((f0 + n - e % n) % n), ?_, fun q => absurd h2 q, ?_, ?_⟩
      · rw [if_pos hle, zbus hff (by omega) (by omega) hnn, zbs]
      · rw [zlt_i, zti (by omega)]
        have : (-1 : Int32).toInt = -1 := rfl
        omega
      · exact nI_ge (b := 12) (by omega) (by omega)
  · exact ⟨-1, by rw [if_neg h2], fun _ => rfl, hm1.1, hm1.2⟩
theorem ztk_0 {v : Int32} : ∀ n, (∀ k, k < n → c.1 (58 + k) 0 = v → c.1 (58 + k) 11 = 0) → ztk c v n = 0
  | 0, _ => rfl
  | n + 1, h => by
    rw [ztk, if_neg (fun q => q.2 (h n (by omega) q.1))]
    exact ztk_0 n (fun k hk => h k (by omega))
/-- a sailing's status and reason, as state() shows them -/
theorem o_st (h : zR5 nS nK nG nB nw c m) (hJ : zJ F nG nB c) {j : Nat} (hj : j < nG) : (c.1 (34 + j) 6 = 0 ∧ c.1 (34 + j) 6 + 10 * c.1 (34 + j) 7 = 0) ∨ (c.1 (34 + j) 6 = 2 ∧ c.1 (34 + j) 6 + 10 * c.1 (34 + j) 7 = 2) ∨ (c.1 (34 + j) 6 = 1 ∧ ∃ r : Nat, 1 ≤ r ∧ r ≤ 7 ∧ c.1 (34 + j) 6 + 10 * c.1 (34 + j) 7 = nI (1 + 10 * r)) := by
  obtain ⟨s, f, t, hr, d, e, z, bb, e0, e1, e2, e3, e4, e5, e6⟩ := zG2 h hj
  have hg := h.2.2.2.2.2.2.2.2.1 j hj
  rcases (show z = 0 ∨ z = 1 ∨ z = 2 by omega) with q | q | q <;> subst q
  · refine Or.inl ⟨e6, ?_⟩
    rw [hg.2.2.2.2.2.2.2.2.1 (by rw [e6]; decide), e6]
    decide
  · obtain ⟨r, r1, r7, e7⟩ := (hJ.2.2.2.1 j hj).1 e6
    refine Or.inr (Or.inr ⟨e6, r, r1, r7, ?_⟩)
    rw [e6, e7, show (10 : Int32) = nI 10 from rfl, pk_mul, nI_add]
  · refine Or.inr (Or.inl ⟨e6, ?_⟩)
    rw [hg.2.2.2.2.2.2.2.2.1 (by rw [e6]; decide), e6]
    decide
theorem l_sailing (h : zR5 nS nK nG nB nw c m) (hJ : zJ F nG nB c) {j : Nat} (hj : j < nG) : f_L_sailing c (nI j) = some (1, c) := by
  obtain ⟨b, b1, b2, b3, b4⟩ := o_bus h hj
  have hBv := h.2.2.2.2.2.2.2.2.2.2.2.2.2.1
  have tk : ¬ c.1 (34 + j) 6 = 2 → f_X6_taken c (nI j) = some (0, c) := fun h2 => by
    rw [o_taken h hj, ztk_0 nB (fun k hk e => by
      obtain ⟨-, v2, v3, v4, v5, v6, v7, v8, v9⟩ := hBv k hk
      rcases v4 with q | q
      · exact q
      · exact absurd (v9 q j hj e) h2)]
  have n1 : ¬ (1 : Int32) = 0 := by decide
  unfold f_L_sailing
  rw [o_state h hj, zbs]
  dsimp only
  rw [b1, zbs]
  dsimp only
  rcases o_st h hJ hj with ⟨s6, es⟩ | ⟨s6, es⟩ | ⟨s6, r, r1, r7, es⟩
  · have h2 : ¬ c.1 (34 + j) 6 = 2 := by rw [s6]; decide
    rw [es, if_pos rfl]
    unfold f_L_sailing_41 f_L_sailing_48
    rw [if_neg (by decide), if_neg n1, tk h2, zbs]
    dsimp only
    rw [if_pos rfl, if_pos (b2 h2)]
  · obtain ⟨x1, x2⟩ := (hJ.2.2.2.1 j hj).2 s6
    rw [es, if_neg (by decide), if_pos rfl]
    unfold f_L_sailing_41 f_L_sailing_48
    rw [if_pos rfl, o_list h hj s6, zbs]
    dsimp only
    rw [if_neg n1, if_neg x1, if_neg x2, if_neg b3, if_neg b4]
  · have h2 : ¬ c.1 (34 + j) 6 = 2 := by rw [s6]; decide
    have fin : ∀ v : Int32, ¬ v = 2 → f_L_sailing_48 c (nI j) v b 1 = some (1, c) := fun v hv => by
      unfold f_L_sailing_48
      rw [if_neg hv, if_neg n1, tk h2, zbs]
      dsimp only
      rw [if_pos rfl, if_pos (b2 h2)]
    rw [es]
    unfold f_L_sailing_41
    rcases (show r = 1 ∨ r = 2 ∨ r = 3 ∨ r = 4 ∨ r = 5 ∨ r = 6 ∨ r = 7 by omega) with q | q | q | q | q | q | q <;> subst q <;> rw [if_neg (by decide), if_neg (by decide), if_pos (by decide), if_neg (by decide), if_neg (by decide)] <;> exact fin _ (by decide)
theorem l_booking (h : zR5 nS nK nG nB nw c m) (hJ : zJ F nG nB c) {k : Nat} (hk : k < nB) : f_L_booking c (nI k) = some (1, c) := by
  have l3 : nG ≤ 24 := h.1.2.2.2.2.1
  obtain ⟨-, v2, v3, v4, v5, v6, v7, v8, v9⟩ := h.2.2.2.2.2.2.2.2.2.2.2.2.2.1 k hk
  have st78 : ∀ s : Int32, s = c.1 (58 + k) 0 → f_L_booking_78 c s = some (1, c) := fun s e => by
    subst e
    unfold f_L_booking_78
    rcases v5 with q | ⟨j, hj, q⟩
    · rw [if_pos q]
    · rw [q, if_neg (znI_ne_m1 (by omega)), o_state h hj, zbs]
      dsimp only
      rcases o_st h hJ hj with ⟨s6, es⟩ | ⟨s6, es⟩ | ⟨s6, r, r1, r7, es⟩
      · rw [if_pos es]
      · rw [if_neg (by rw [es]; decide), o_state h hj, zbs]
        dsimp only
        rw [if_pos es]
      · exact absurd s6 ((hJ.2.2.1 k j hk hj q).resolve_right (by omega))
  have ln : ¬ c.1 (58 + k) 4 < -1 ∧ ¬ 4 ≤ c.1 (58 + k) 4 := by
    rcases v6 with q | ⟨j, hj, q⟩
    · rw [q]; decide
    · rw [q]
      refine ⟨?_, nI_ge (b := 4) (by omega) (by omega)⟩
      rw [zlt_i, zti (by omega)]
      have : (-1 : Int32).toInt = -1 := rfl
      omega
  have go : ∀ s l : Int32, s = c.1 (58 + k) 0 → l = c.1 (58 + k) 4 → f_L_booking_42 c s l = some (1, c) := fun s l e1 e2 => by
    subst e2
    unfold f_L_booking_42 f_L_booking_59
    rw [if_neg ln.1, if_neg ln.2, if_neg (by decide)]
    by_cases q : c.1 (58 + k) 4 = -1
    · rw [if_pos q]; exact st78 s e1
    · rw [if_neg q]
      have h11 : c.1 (58 + k) 11 = 1 := v4.resolve_left (fun z => q (v7 z))
      rcases v5 with z | ⟨j, hj, z⟩
      · exact absurd ((v8 z).2.2.symm.trans h11) (by decide)
      · have s6 := v9 h11 j hj z
        have es : c.1 (34 + j) 6 + 10 * c.1 (34 + j) 7 = 2 := by
          rcases o_st h hJ hj with ⟨q6, es⟩ | ⟨q6, es⟩ | ⟨q6, r, r1, r7, es⟩
          · exact absurd (q6.symm.trans s6) (by decide)
          · exact es
          · exact absurd (q6.symm.trans s6) (by decide)
        have e3 : s = nI j := e1.trans z
        rw [e3, o_state h hj, zbs]
        dsimp only
        rw [if_pos es]
        exact st78 _ z.symm
  unfold f_L_booking
  rw [o_sailingOf h hk, zbs]
  dsimp only
  rw [o_lane h hk, zbs]
  dsimp only
  rw [o_paid h hk, zbs]
  dsimp only
  by_cases q : c.1 (58 + k) 0 = -1
  · rw [if_pos q, if_pos (v8 q).1]
    exact go _ _ rfl rfl
  · obtain ⟨p, p1, p8, ep⟩ := hJ.1 k hk q
    rw [if_neg q, if_neg (by rw [ep]; exact nI_ne0 (by omega) (by omega))]
    exact go _ _ rfl rfl
theorem l_all138 (h : zR5 nS nK nG nB nw c m) (hJ : zJ F nG nB c) : ∀ (r n k : Nat), k + r = nB → r < n → f_L_all_138 n c (nI nB) 1 (nI k) = some (1, c)
  | 0, n + 1, k, hk, _ => by
    have l4 : nB ≤ 40 := h.1.2.2.2.2.2.1
    rw [f_L_all_138, zif_le (by omega) (by omega)]
    exact if_pos (Or.inr rfl)
  | r + 1, n + 1, k, hk, hr => by
    have l4 : nB ≤ 40 := h.1.2.2.2.2.2.1
    rw [f_L_all_138, zif_nle (by omega) (by omega), if_neg (by decide), l_booking h hJ (show k < nB by omega), zbs, nI_1]
    exact l_all138 h hJ r n (k + 1) (by omega) (by omega)
theorem l_all112 (h : zR5 nS nK nG nB nw c m) (hJ : zJ F nG nB c) : ∀ (r n k : Nat), k + r = nG → r < n → f_L_all_112 n c (nI nG) (nI nB) 1 (nI k) = some (1, c)
  | 0, n + 1, k, hk, _ => by
    have l3 : nG ≤ 24 := h.1.2.2.2.2.1
    have l4 : nB ≤ 40 := h.1.2.2.2.2.2.1
    rw [f_L_all_112, zif_le (by omega) (by omega)]
    exact l_all138 h hJ nB 64 0 (by omega) (by omega)
  | r + 1, n + 1, k, hk, hr => by
    have l3 : nG ≤ 24 := h.1.2.2.2.2.1
    rw [f_L_all_112, zif_nle (by omega) (by omega), if_neg (by decide), l_sailing h hJ (show k < nG by omega), zbs, nI_1]
    exact l_all112 h hJ r n (k + 1) (by omega) (by omega)
theorem l_all47 (h : zR5 2 nK nG nB nw c m) (hJ : zJ F nG nB c) : ∀ (r n k : Nat), k + r = 2 → r < n → f_L_all_47 n c (nI nG) (nI nB) 1 (nI k) = some (1, c)
  | 0, n + 1, k, hk, _ => by
    have l3 : nG ≤ 24 := h.1.2.2.2.2.1
    have h2 : (2 : Int32) ≤ nI k := nI_le (a := 2) (by omega) (by omega)
    rw [f_L_all_47, if_pos h2]
    exact l_all112 h hJ nG 64 0 (by omega) (by omega)
  | r + 1, n + 1, k, hk, hr => by
    have h2 : ¬ (2 : Int32) ≤ nI k := nI_ge (b := 2) (by omega) (by omega)
    obtain ⟨p, p1, p2⟩ := o_place h (show k < 2 by omega)
    obtain ⟨t, ht, et⟩ := (h.2.1 k (by omega)).2.2
    have ef : f_X6_fuel c (nI k) = some (nI t, c) := by rw [o_fuel h (show k < 2 by omega), et]
    have en : f_X6_now c = some (nI nw, c) := by unfold f_X6_now; rw [h.1.1.2.2.2.2]
    rw [f_L_all_47, if_neg h2, if_neg (by decide), p1, zbs]
    dsimp only
    rw [en, zbs]
    dsimp only
    rw [p2, zbs]
    dsimp only
    rw [if_pos rfl, ef, zbs]
    dsimp only
    rw [if_neg (show ¬ nI t < 0 from nI_nlt (a := t) (b := 0) (by omega) (by omega)), ef, zbs]
    dsimp only
    rw [if_neg (show ¬ (1000 : Int32) < nI t from nI_nlt (a := 1000) (b := t) (by omega) (by omega)), nI_1]
    exact l_all47 h hJ r n (k + 1) (by omega) (by omega)
theorem lgc_self (x : Int64) : lg_cmp x x = 0 := by simp [lg_cmp]
theorem l_all (h : zR5 2 nK nG nB nw c m) (hJ : zJ F nG nB c) : f_L_all c (nI nG) (nI nB) = some (1, c) := by
  have e0 : f_X6_account c 0 = some (c.2 8 0, c) := o_account c (i := 0) (by omega)
  have e1 : f_X6_account c 1 = some (c.2 8 1, c) := o_account c (i := 1) (by omega)
  have e2 : f_X6_account c 2 = some (c.2 8 2, c) := o_account c (i := 2) (by omega)
  have a0 : f_X6_accountAnew c 0 = some (c.2 8 0, c) := by rw [o_anew h (Or.inl ⟨rfl, rfl⟩), hJ.2.1.1]
  have a1 : f_X6_accountAnew c 1 = some (c.2 8 1, c) := by rw [o_anew h (Or.inr ⟨rfl, rfl⟩), hJ.2.1.2]
  have hle : ¬ 0 < lg_cmp (c.2 8 2) 0 := by
    rw [lg_cmp_gt]
    obtain ⟨f, -, ef⟩ := hJ.2.2.2.2
    rw [Int64.lt_iff_toInt_lt, ef]
    have : (0 : Int64).toInt = 0 := rfl
    omega
  unfold f_L_all
  rw [a0, zbs]
  dsimp only
  rw [e0, zbs]
  dsimp only
  rw [lgc_self, if_pos rfl, a1, zbs]
  dsimp only
  rw [e1, zbs]
  dsimp only
  rw [lgc_self, if_pos rfl, e2, zbs]
  dsimp only
  rw [if_neg hle]
  exact l_all47 h hJ 2 64 0 (by omega) (by omega)
end ZO
