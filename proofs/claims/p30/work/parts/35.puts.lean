/-! pairs, part thirteen: one is put off; the loop -/
section ZP13
variable {c c' m m' : zSt} {nS nK nG nB nw : Nat}
theorem zPutOff {g s la N : Nat} (hE : zE c m nS nK nG nB nw g s la N) (hgG : g < nG) (hN : N ≤ nB) (hun : ¬ zabs (c.1 11 8) ≤ 20) : 1 ≤ N ∧ ∃ c' m', f_X6_putOffLast c (nI g) = some ((), c') ∧ f_X7_putsOff m (nI g) = some ((), m') ∧ zE c' m' nS nK nG nB nw g s la (N - 1) ∧ (∀ q j, q < 11 ∨ 14 ≤ q → q < 58 ∨ (j ≠ 4 ∧ j ≠ 5 ∧ j ≠ 11) → c'.1 q j = c.1 q j) ∧ c'.2 = c.2 := by
  obtain ⟨h5, ⟨hst, hs4, h17, h2, hla1, hla4, hc2⟩, ⟨ho46, h52, hl8⟩, ⟨hA, hB25⟩, ⟨oo, T, o1, o2, o3⟩⟩ := hE
  have lB : nB ≤ 40 := h5.1.2.2.2.2.2.1
  have lG : nG ≤ 24 := h5.1.2.2.2.2.1
  have hc14 := h5.1.1.2.2.2.1
  rw [zr_n (by omega)] at hc14
  have wle : ∀ k, k < nB → (c.1 (58 + k) 3).toNatClampNeg ≤ 200 := fun k hk => by
    obtain ⟨⟨ki, le, we, ti, v1, v2, ⟨v3, v3'⟩, v4, v5, v6, v7, v8⟩, -⟩ := h5.2.2.2.2.2.2.2.2.2.2.2.2.2.1 k hk
    rw [zr_n (by omega)] at v7
    rw [v7, ztN (by omega)]
    exact v3
  have hAl := zsd_le (g := g) (la := la) (sd := 1) nB wle
  have hBl := zsd_le (g := g) (la := la) (sd := 2) nB wle
  have hLi : (c.1 11 8).toInt = (zsd c g la 1 nB : Int) - zsd c g la 2 nB := by
    rw [hl8, hA, hB25, pk_sub_toInt (by omega) (by omega)]
  have hne : zsd c g la 1 nB ≠ zsd c g la 2 nB := fun q => hun (by
    unfold zabs
    have h0 : 0 ≤ c.1 11 8 := by rw [zle_i, zti0]; omega
    rw [if_pos h0, zle_i, hLi]
    have : (20 : Int32).toInt = 20 := rfl
    omega)
  obtain ⟨sd, hsd, hsd'⟩ : ∃ sd : Nat, ((sd = 1 ∧ 0 < c.1 11 8) ∨ (sd = 2 ∧ c.1 11 8 < 0)) ∧ ((sd = 1 ∧ zsd c g la 2 nB < zsd c g la 1 nB) ∨ (sd = 2 ∧ zsd c g la 1 nB < zsd c g la 2 nB)) := by
    rcases Nat.lt_or_gt_of_ne hne with h | h
    · exact ⟨2, Or.inr ⟨rfl, by rw [zlt_i, zti0]; omega⟩, Or.inr ⟨rfl, h⟩⟩
    · exact ⟨1, Or.inl ⟨rfl, by rw [zlt_i, zti0]; omega⟩, Or.inl ⟨rfl, h⟩⟩
  have hex : ∃ p, p < N ∧ zside la (c.1 (58 + oo p) 4) = nI sd := by
    rcases Classical.em (∃ p, p < N ∧ zside la (c.1 (58 + oo p) 4) = nI sd) with h | h
    · exact h
    · exfalso
      have hz : zsd c g la (nI sd) nB = 0 := zsd_zero nB (fun k hk a1 a2 a3 => by
        obtain ⟨p, hp, e⟩ := o3 k hk a1 a2
        exact h ⟨p, hp, by rw [e]; exact a3⟩)
      rcases hsd' with ⟨e, h'⟩ | ⟨e, h'⟩
      · rw [e] at hz
        have : zsd c g la 1 nB = 0 := hz
        omega
      · rw [e] at hz
        have : zsd c g la 2 nB = 0 := hz
        omega
  obtain ⟨ps, hps, hyes, hno⟩ := zlast (fun p => zside la (c.1 (58 + oo p) 4) = nI sd) hex
  refine ⟨by omega, ?_⟩
  obtain ⟨a1, a2, a3, ⟨j, hj, a4⟩, a5, a6, ⟨w, w1, w2, a7⟩⟩ := o1 ps hps
  have hBk := h5.2.2.2.2.2.2.2.2.2.2.2.2.1 (oo ps) a2
  simp (disch := omega) only [zr_n] at hBk
  have b31 : m.1 31 (oo ps) = nI w := hBk.2.2.2.1.trans a7
  -- the class's choice
  have hheavy : ∀ k, k < nB → c.1 (58 + k) 0 = nI g → ∃ b : Int32, f_X2_isOnHeavierSide c (58 + k) = some (b, c) ∧ (¬ b = 0 ↔ (¬ c.1 (58 + k) 4 = -1 ∧ zside la (c.1 (58 + k) 4) = nI sd)) := fun k hk hkg => by
    rcases Classical.em (c.1 (58 + k) 4 = -1) with h | h
    · exact heavy_eq (w := 1) hc2 rfl hsd (fun q => absurd h q)
    · obtain ⟨p, hp, e⟩ := o3 k hk hkg h
      obtain ⟨_, _, _, _, _, _, ⟨w', q1, q2, q3⟩⟩ := o1 p hp
      rw [e] at q3
      exact heavy_eq hc2 rfl hsd (fun _ => ⟨q3, q1, q2⟩)
  have hval : ∀ k, k < nB → c.1 (58 + k) 0 = nI g → f_X2_isOnHeavierSide c (58 + k) = some (((f_X2_isOnHeavierSide c (58 + k)).getD (0, c)).1, c) ∧ (¬ ((f_X2_isOnHeavierSide c (58 + k)).getD (0, c)).1 = 0 ↔ (¬ c.1 (58 + k) 4 = -1 ∧ zside la (c.1 (58 + k) 4) = nI sd)) := fun k hk hkg => by
    obtain ⟨b, b1, b2⟩ := hheavy k hk hkg
    rw [b1]
    exact ⟨rfl, b2⟩
  have hne1 := znI_ne_m1 (a := j) (by omega)
  have hcl := choose_lp (c := c) (nB := nB) (g := g) (ks := oo ps) (ts := T ps) (hv := fun k => ((f_X2_isOnHeavierSide c (58 + k)).getD (0, c)).1) hc14 lB a2 a3 a5 a6 (fun k hk hkg => (hval k hk hkg).1) ((hval _ a2 a3).2.mpr ⟨by rw [a4]; exact hne1, hyes⟩) (fun k hk hkk hkg hh => by
    obtain ⟨h1, h2'⟩ := (hval k hk hkg).2.mp hh
    obtain ⟨p, hp, e⟩ := o3 k hk hkg h1
    have hpps : p ≠ ps := fun q => hkk (by rw [← e, q])
    have hlt : p < ps := by
      rcases Nat.lt_or_gt_of_ne hpps with q | q
      · exact q
      · exact absurd (by rw [e]; exact h2') (hno p q hp)
    refine ⟨T p, o2 p ps hlt hps, ?_⟩
    rw [← e]
    exact (o1 p hp).2.2.2.2.1) nB 64 0 (-1) (-1) (by omega) (by omega) (Or.inl ⟨by omega, Or.inl rfl⟩)
  have hoff : f_X6_putOffLast c (nI g) = some ((), zwI (zwI (zwI c 11 8 (c.1 11 8 - zlv la (nI j) (nI w))) (58 + oo ps) 11 0) (58 + oo ps) 4 (-1)) := by
    unfold f_X6_putOffLast
    refine hcl.trans ?_
    unfold f_X2_putOff
    rw [a4, a7, leanOf_eq hc2, zbs, zlet_eq, zlet_eq, zlet_eq, zbs]
  -- the reference's
  have hse := search_lp (m := m) (g := g) (s := s) (la := la) (N := N) (ps := ps) (sd := sd) (o := oo) (by omega) hs4 h17 h2 (by omega) hps (fun p hp => ⟨(o1 p hp).1, by have := (o1 p hp).2.1; omega⟩) (lane := fun p => c.1 (58 + oo p) 4) (fun p hp => by
    have := (h5.2.2.2.2.2.2.2.2.2.2.2.2.1 (oo p) (o1 p hp).2.1).2.2.2.2.2.2.2.2.2.1
    have hp2 := (o1 p hp).2.1
    rw [zr_n (by omega)] at this
    exact this) hyes hno (N - 1 - ps) 64 (by omega) (by omega)
  obtain ⟨x25, x26, hx, hxs⟩ : ∃ x25 x26 : Int32, ((zside la (nI j) = 1 ∧ x25 = -1 * m.1 31 (oo ps) ∧ x26 = 0) ∨ (zside la (nI j) = 2 ∧ x25 = 0 ∧ x26 = -1 * m.1 31 (oo ps)) ∨ (zside la (nI j) = 0 ∧ x25 = 0 ∧ x26 = 0)) ∧ ¬ zside la (nI j) = 0 := by
    have hnz : ¬ zside la (nI j) = 0 := fun q => by
      have := (show zside la (c.1 (58 + oo ps) 4) = nI sd from hyes)
      rw [a4, q] at this
      rcases hsd with ⟨e, _⟩ | ⟨e, _⟩
      · rw [e] at this; exact absurd this (by decide)
      · rw [e] at this; exact absurd this (by decide)
    rcases zside_cs la (nI j) with h | h | h
    · exact absurd h hnz
    · exact ⟨_, _, Or.inl ⟨h, rfl, rfl⟩, hnz⟩
    · exact ⟨_, _, Or.inr (Or.inl ⟨h, rfl, rfl⟩), hnz⟩
  have hpu := puts_eq (m := m) (g := g) (s := s) (k := oo ps) (j := j) (la := la) (a3 := -1) (v38 := 0) (v37 := 0) (by omega) hs4 (by omega) hj h17 h2 (Or.inl ⟨by decide, rfl, rfl⟩) hx
  have eN : N - 1 + 1 = N := by omega
  obtain ⟨m', y1, y2, y3, y4, y5⟩ := shift_lp (v := 0) (N := N - 1) (by omega) (N - 1 - ps) 64 ps (zwI (zwI (zwI (zwI (zwI (zwI (zwI (zwI (zwI m 39 j (m.1 39 j + -1 * m.1 30 (oo ps))) 40 j (m.1 40 j + -1 * m.1 32 (oo ps))) 0 48 (m.1 0 48 + -1 * m.1 32 (oo ps))) 0 47 (m.1 0 47 + -1 * m.1 31 (oo ps))) 25 g (m.1 25 g + x25)) 26 g (m.1 26 g + x26)) 38 (oo ps) 0) 37 (oo ps) 0) 0 46 (nI (N - 1))) (zr_e _ _ _ _) (by omega) (by omega)
  have hM : f_X7_putsOff m (nI g) = some ((), m') := by
    have e21 : f_X7_putsOff_21 m (nI g) (nI sd) = some ((), m') := by
      unfold f_X7_putsOff_21
      have e1 : nI N - 1 = nI (ps + (N - 1 - ps)) := by
        rw [show ps + (N - 1 - ps) = N - 1 by omega, ← zm1 (N - 1), eN]
      rw [ho46, e1, hse]
      rw [a4, hpu, zbs, zlet_eq]
      have e2 : ∀ st : zSt, st.1 0 46 = nI N → st.1 0 46 - 1 = nI (N - 1) := fun st h => by rw [h, ← zm1 (N - 1), eN]
      rw [e2 _ (by simp (disch := omega) only [zr_n]; exact ho46)]
      exact y1
    unfold f_X7_putsOff
    rw [zif_in (by omega) (by omega), zif_in (by omega) (by omega), ztN (by omega), hA, hB25]
    rcases hsd' with ⟨e, h⟩ | ⟨e, h⟩
    · rw [zif_nle (by omega) (by omega)]
      rw [e] at e21
      exact e21
    · rw [zif_le (by omega) (by omega)]
      rw [e] at e21
      exact e21
  have M25 : m'.1 25 g = m.1 25 g + x25 := by rw [y3 _ _ (by omega)]; simp (disch := omega) only [zr_n, zr_e]
  have M26 : m'.1 26 g = m.1 26 g + x26 := by rw [y3 _ _ (by omega)]; simp (disch := omega) only [zr_n, zr_e]
  have hsgh : (zwI c (34 + g) 9 (m.1 25 g - m.1 26 g)).1 (58 + oo ps) 0 = nI g := by rw [zr_n (by omega)]; exact a3
  have hsth : (zwI c (34 + g) 9 (m.1 25 g - m.1 26 g)).1 (34 + g) 6 = 2 := by rw [zr_n (by omega)]; exact hst
  have sums : ∀ sd' : Int32, zsd c g la sd' nB = zsd (zwI (zwI (zwI c 11 8 (c.1 11 8 - zlv la (nI j) (nI w))) (58 + oo ps) 11 0) (58 + oo ps) 4 (-1)) g la sd' nB + (if zside la (nI j) = sd' then w else 0) := fun sd' => zsd_on (k := oo ps) (zr_e _ _ _ _) a4 hne1 a3 a7 w2 nB a2 (fun i hi hik => by simp (disch := omega) only [zr_n, and_self])
  have s1 := sums 1
  have s2 := sums 2
  refine ⟨_, m', hoff, hM, ⟨?_, ?_, ?_, ?_, ?_⟩, fun q i h1 h3 => by simp (disch := omega) only [zr_n], rfl⟩
  · refine zStep (v := -1) (b := 0) h5 a2 hsgh hgG hsth ?_ rfl ?_ ?_ ?_ ?_ ?_ ?_ ?_ (Or.inl rfl) (Or.inl rfl) (fun _ => rfl)
    · intro q i h1 h2 h3 h4
      simp (disch := omega) only [zr_n]
    · intro q i h1 h2 h3 h4
      rw [y3 _ _ (by omega)]
      simp (disch := omega) only [zr_n]
    · rw [y2]; rfl
    · rw [zr_e]
    · simp (disch := omega) only [zr_n, zr_e]
    · simp (disch := omega) only [zr_n, zr_e]
    · rw [y3 _ _ (by omega)]
      simp (disch := omega) only [zr_n, zr_e]
      decide
    · rw [y3 _ _ (by omega)]
      simp (disch := omega) only [zr_n, zr_e]
  · rw [y3 _ _ (by omega), y3 _ _ (by omega)]
    simp (disch := omega) only [zr_n]
    exact ⟨hst, hs4, h17, h2, hla1, hla4, hc2⟩
  · refine ⟨?_, ?_, ?_⟩
    · rw [y3 _ _ (by omega), zr_e]
    · rw [y3 _ _ (by omega)]
      simp (disch := omega) only [zr_n]
      exact h52
    · rw [M25, M26]
      simp (disch := omega) only [zr_n, zr_e]
      rw [hl8, Int32.sub_eq_add_neg (m.1 25 g - m.1 26 g)]
      unfold zlv
      rcases hx with ⟨e1, e2, e3⟩ | ⟨e1, e2, e3⟩ | ⟨e1, e2, e3⟩
      · rw [if_pos e1, e2, e3, zlean1, b31, Int32.neg_mul, Int32.one_mul]
      · rw [if_neg (by rw [e1]; decide), if_pos e1, e2, e3, zlean2, b31, Int32.neg_mul, Int32.one_mul]
      · exact absurd e1 hxs
  · rw [M25, M26, hA, hB25]
    rcases hx with ⟨e1, e2, e3⟩ | ⟨e1, e2, e3⟩ | ⟨e1, e2, e3⟩
    · rw [e1, if_pos rfl] at s1
      rw [e1, if_neg (by decide)] at s2
      rw [e2, e3, b31, Int32.neg_mul, Int32.one_mul, ← Int32.sub_eq_add_neg, Int32.add_zero, s1, s2, pk_sub (by omega), Nat.add_sub_cancel, Nat.add_zero]
      exact ⟨rfl, rfl⟩
    · rw [e1, if_neg (by decide)] at s1
      rw [e1, if_pos rfl] at s2
      rw [e2, e3, b31, Int32.neg_mul, Int32.one_mul, ← Int32.sub_eq_add_neg, Int32.add_zero, s1, s2, pk_sub (by omega), Nat.add_sub_cancel, Nat.add_zero]
      exact ⟨rfl, rfl⟩
    · exact absurd e1 hxs
  · have inj : ∀ p, p < N → p ≠ ps → oo p ≠ oo ps := fun p hp hne q => by
      have t1 := (o1 p hp).2.2.2.2.1
      rw [q, a5] at t1
      have l1 := (o1 p hp).2.2.2.2.2.1
      have l2 := (o1 ps hps).2.2.2.2.2.1
      have := (nI_eq (by omega) (by omega)).mp t1
      rcases Nat.lt_or_gt_of_ne hne with h | h
      · have := o2 p ps h hps; omega
      · have := o2 ps p h hp; omega
    refine ⟨fun p => if p < ps then oo p else oo (p + 1), fun p => if p < ps then T p else T (p + 1), fun p hp => ?_, fun p p' h1 h2 => ?_, fun k hk h1 h2 => ?_⟩
    · have one : ∀ p0, p0 < N → p0 ≠ ps → m'.1 41 p = m.1 41 p0 → m'.1 41 p = nI (oo p0) ∧ oo p0 < nB ∧ (zwI (zwI (zwI c 11 8 (c.1 11 8 - zlv la (nI j) (nI w))) (58 + oo ps) 11 0) (58 + oo ps) 4 (-1)).1 (58 + oo p0) 0 = nI g ∧ (∃ jq : Nat, jq < 4 ∧ (zwI (zwI (zwI c 11 8 (c.1 11 8 - zlv la (nI j) (nI w))) (58 + oo ps) 11 0) (58 + oo ps) 4 (-1)).1 (58 + oo p0) 4 = nI jq) ∧ (zwI (zwI (zwI c 11 8 (c.1 11 8 - zlv la (nI j) (nI w))) (58 + oo ps) 11 0) (58 + oo ps) 4 (-1)).1 (58 + oo p0) 5 = nI (T p0) ∧ T p0 < 1000 ∧ (∃ w' : Nat, 1 ≤ w' ∧ w' ≤ 200 ∧ (zwI (zwI (zwI c 11 8 (c.1 11 8 - zlv la (nI j) (nI w))) (58 + oo ps) 11 0) (58 + oo ps) 4 (-1)).1 (58 + oo p0) 3 = nI w') := fun p0 hp0 hne0 e => by
        have hi := inj p0 hp0 hne0
        obtain ⟨z1, z2, z3, ⟨jj, z4, z4'⟩, z5, z6, ⟨ww, z7, z8, z9⟩⟩ := o1 p0 hp0
        refine ⟨e.trans z1, z2, ?_, ⟨jj, z4, ?_⟩, ?_, z6, ⟨ww, z7, z8, ?_⟩⟩ <;> simp (disch := omega) only [zr_n] <;> assumption
      dsimp only
      by_cases hpp : p < ps
      · rw [if_pos hpp, if_pos hpp]
        exact one p (by omega) (by omega) (by rw [y4 p hpp]; simp (disch := omega) only [zr_n])
      · rw [if_neg hpp, if_neg hpp]
        exact one (p + 1) (by omega) (by omega) (by rw [y5 p (by omega) hp]; simp (disch := omega) only [zr_n])
    · dsimp only
      by_cases q1 : p < ps
      · rw [if_pos q1]
        by_cases q2 : p' < ps
        · rw [if_pos q2]
          exact o2 p p' h1 (by omega)
        · rw [if_neg q2]
          exact o2 p (p' + 1) (by omega) (by omega)
      · rw [if_neg q1, if_neg (by omega)]
        exact o2 (p + 1) (p' + 1) (by omega) (by omega)
    · have hkk : k ≠ oo ps := fun q => by
        rw [q, zr_e] at h2
        exact h2 rfl
      simp (disch := omega) only [zr_n] at h1 h2
      obtain ⟨p, hp, e⟩ := o3 k hk h1 h2
      have hpp : p ≠ ps := fun q => hkk (by rw [← e, q])
      by_cases q : p < ps
      · exact ⟨p, by omega, by dsimp only; rw [if_pos q]; exact e⟩
      · exact ⟨p - 1, by omega, by dsimp only; rw [if_neg (by omega), show p - 1 + 1 = p by omega]; exact e⟩
theorem zEven {g s la : Nat} (hgG : g < nG) : ∀ (r n n2 i : Nat) (c m : zSt) (N : Nat), zE c m nS nK nG nB nw g s la N → N + i ≤ nB → i + r = nB → r < n → r < n2 → ∃ c' m' N', f_X6_evenOut_2 n c (nI g) (nI i) = some ((), c') ∧ f_X7_sails_159 n2 m (nI g) = some ((), m') ∧ zE c' m' nS nK nG nB nw g s la N' ∧ (∀ q j, q < 11 ∨ 14 ≤ q → q < 58 ∨ (j ≠ 4 ∧ j ≠ 5 ∧ j ≠ 11) → c'.1 q j = c.1 q j) ∧ c'.2 = c.2 ∧ zabs (c'.1 11 8) ≤ 20
  | r, n + 1, n2 + 1, i, c, m, N, hE, hNi, hi, hr, hr2 => by
    have hE0 := hE
    obtain ⟨h5, ⟨hst, hs4, h17, h2, hla1, hla4, hc2⟩, ⟨ho46, h52, hl8⟩, ⟨hA, hB25⟩, ⟨oo, T, o1, o2, o3⟩⟩ := hE
    have lB : nB ≤ 40 := h5.1.2.2.2.2.2.1
    have lG : nG ≤ 24 := h5.1.2.2.2.2.1
    have hc14 := h5.1.1.2.2.2.1
    rw [zr_n (by omega)] at hc14
    have hlv0 : zlv la 0 0 = 0 := by
      unfold zlv
      split
      · rfl
      · split <;> rfl
    have stopM : zabs (c.1 11 8) ≤ 20 → f_X7_sails_159 (n2 + 1) m (nI g) = some ((), m) := fun h => by
      rw [f_X7_sails_159, diff_eq (by omega) hs4 h17 h2, zbs, hlv0, Int32.add_zero, ← hl8, if_pos h]
    rw [f_X6_evenOut_2, hc14]
    by_cases hin : nB ≤ i
    · rw [zif_le hin (by omega)]
      have hN0 : N = 0 := by omega
      have hz : ∀ sd : Int32, zsd c g la sd nB = 0 := fun sd => zsd_zero nB (fun k hk a1 a2 _ => by
        obtain ⟨p, hp, _⟩ := o3 k hk a1 a2
        omega)
      have h20 : zabs (c.1 11 8) ≤ 20 := by
        rw [hl8, hA, hB25, hz, hz]
        decide
      exact ⟨c, m, N, rfl, stopM h20, hE0, fun _ _ _ _ => rfl, rfl, h20⟩
    · rw [zif_nle (by omega) (by omega)]
      by_cases h20 : zabs (c.1 11 8) ≤ 20
      · rw [if_pos h20]
        exact ⟨c, m, N, rfl, stopM h20, hE0, fun _ _ _ _ => rfl, rfl, h20⟩
      · rw [if_neg h20]
        obtain ⟨hN1, c1, m1, x1, x2, x3, x4, x5⟩ := zPutOff hE0 hgG (by omega) h20
        match r, hi, hr, hr2 with
        | 0, hi, _, _ => exact absurd hi (by omega)
        | r' + 1, hi, hr, hr2 =>
          obtain ⟨c', m', N', y1, y2, y3, y4, y5, y6⟩ := zEven (s := s) (la := la) hgG r' n n2 (i + 1) c1 m1 (N - 1) x3 (by omega) (by omega) (by omega) (by omega)
          refine ⟨c', m', N', ?_, ?_, y3, fun q j a1 a2 => (y4 q j a1 a2).trans (x4 q j a1 a2), y5.trans x5, y6⟩
          · rw [x1, zbs, nI_1]
            exact y1
          · rw [f_X7_sails_159, diff_eq (by omega) hs4 h17 h2, zbs, hlv0, Int32.add_zero, ← hl8, if_neg h20, x2, zbs]
            exact y2
end ZP13
