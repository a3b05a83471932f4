/-! pairs, part nine: what a sailing takes -/
section ZP9
variable {c c' m m' : zSt} {nS nK nG nB nw : Nat}
theorem puts_eq {g s k j la : Nat} {a3 v38 v37 x25 x26 : Int32} (hg : g < 24) (hs : s < 4) (hk : k < 40) (hj : j < 4) (h17 : m.1 17 g = nI s) (h2 : m.1 2 s = nI la) (ha : (a3 ≤ 0 ∧ v38 = 0 ∧ v37 = 0) ∨ (¬ a3 ≤ 0 ∧ v38 = nI j + 1 ∧ v37 = 1)) (hx : (zside la (nI j) = 1 ∧ x25 = a3 * m.1 31 k ∧ x26 = 0) ∨ (zside la (nI j) = 2 ∧ x25 = 0 ∧ x26 = a3 * m.1 31 k) ∨ (zside la (nI j) = 0 ∧ x25 = 0 ∧ x26 = 0)) :
    f_X7_puts m (nI g) (nI k) (nI j) a3 = some ((), zwI (zwI (zwI (zwI (zwI (zwI (zwI (zwI m 39 j (m.1 39 j + a3 * m.1 30 k)) 40 j (m.1 40 j + a3 * m.1 32 k)) 0 48 (m.1 0 48 + a3 * m.1 32 k)) 0 47 (m.1 0 47 + a3 * m.1 31 k)) 25 g (m.1 25 g + x25)) 26 g (m.1 26 g + x26)) 38 k v38) 37 k v37) := by
  have e31 : ∀ st : zSt, st.1 31 k = m.1 31 k → f_X7_puts_108 st (nI g) (nI k) (nI j) a3 (zside la (nI j)) = f_X7_puts_136 (zwI st 26 g (st.1 26 g + x26)) (nI k) (nI j) a3 := fun st h => by
    unfold f_X7_puts_108
    rw [zif_in hg (by omega), zif_in hk (by omega), zif_in hg (by omega), zif_in hg (by omega), zlet_eq, zlet_eq, ztN (by omega), ztN (by omega), h]
    rcases hx with ⟨h1, _, h3⟩ | ⟨h1, _, h3⟩ | ⟨h1, _, h3⟩
    · rw [h1, if_neg (by decide), h3]
    · rw [h1, if_pos rfl, h3]
    · rw [h1, if_neg (by decide), h3]
  unfold f_X7_puts
  rw [sideOf_eq hg hs h17 h2, zbs]
  have key : ∀ st : zSt, st.1 31 k = m.1 31 k → (if zside la (nI j) = 1 then f_X7_puts_108 (zwI st 25 g (st.1 25 g + a3 * st.1 31 k)) (nI g) (nI k) (nI j) a3 (zside la (nI j)) else f_X7_puts_108 (zwI st 25 g (st.1 25 g + 0)) (nI g) (nI k) (nI j) a3 (zside la (nI j))) = some ((), zwI (zwI (zwI (zwI st 25 g (st.1 25 g + x25)) 26 g (st.1 26 g + x26)) 38 k v38) 37 k v37) := fun st h => by
    have e : (if zside la (nI j) = 1 then f_X7_puts_108 (zwI st 25 g (st.1 25 g + a3 * st.1 31 k)) (nI g) (nI k) (nI j) a3 (zside la (nI j)) else f_X7_puts_108 (zwI st 25 g (st.1 25 g + 0)) (nI g) (nI k) (nI j) a3 (zside la (nI j))) = f_X7_puts_108 (zwI st 25 g (st.1 25 g + x25)) (nI g) (nI k) (nI j) a3 (zside la (nI j)) := by
      rcases hx with ⟨h1, h3, _⟩ | ⟨h1, h3, _⟩ | ⟨h1, h3, _⟩
      · rw [if_pos h1, h, h3]
      · rw [if_neg (by rw [h1]; decide), h3]
      · rw [if_neg (by rw [h1]; decide), h3]
    rw [e, e31 _ (by rw [zr_n (by omega)]; exact h), zr_n (by omega)]
    unfold f_X7_puts_136 f_X7_puts_154
    simp only [zif_in hk (show 40 < 10000 by omega), zlet_eq, ztN (show k < 1000000 by omega)]
    rcases ha with ⟨h1, rfl, rfl⟩ | ⟨h1, rfl, rfl⟩
    · rw [if_pos h1, if_pos h1]
    · rw [if_neg h1, if_neg h1]
  simp (disch := omega) only [↓zlet_eq, zif_in, ztN]
  refine Eq.trans (key _ ?_) ?_
  · simp (disch := omega) only [zr_n]
  · simp (disch := omega) only [zr_n]
/-- the weights of those that are on one side of the ship -/
def zsd (c : zSt) (g la : Nat) (sd : Int32) : Nat → Nat
  | 0 => 0
  | n + 1 => if c.1 (58 + n) 0 = nI g ∧ ¬ c.1 (58 + n) 4 = -1 ∧ zside la (c.1 (58 + n) 4) = sd then zsd c g la sd n + (c.1 (58 + n) 3).toNatClampNeg else zsd c g la sd n
theorem zsd_cg {g la : Nat} {sd : Int32} : ∀ n, (∀ k, k < n → c'.1 (58 + k) 0 = c.1 (58 + k) 0 ∧ c'.1 (58 + k) 4 = c.1 (58 + k) 4 ∧ c'.1 (58 + k) 3 = c.1 (58 + k) 3) → zsd c' g la sd n = zsd c g la sd n
  | 0, _ => rfl
  | n + 1, h => by
    obtain ⟨h1, h2, h3⟩ := h n (by omega)
    rw [zsd, zsd, h1, h2, h3, zsd_cg n (fun k hk => h k (by omega))]
theorem zsd_on {g la k w : Nat} {sd v : Int32} (h0 : c.1 (58 + k) 4 = -1) (hv : c'.1 (58 + k) 4 = v) (hne : ¬ v = -1) (hs : c'.1 (58 + k) 0 = nI g) (hw : c'.1 (58 + k) 3 = nI w) (hw2 : w ≤ 200) : ∀ n, k < n → (∀ i, i < n → i ≠ k → c'.1 (58 + i) 0 = c.1 (58 + i) 0 ∧ c'.1 (58 + i) 4 = c.1 (58 + i) 4 ∧ c'.1 (58 + i) 3 = c.1 (58 + i) 3) → zsd c' g la sd n = zsd c g la sd n + (if zside la v = sd then w else 0)
  | 0, hk, _ => absurd hk (Nat.not_lt_zero _)
  | n + 1, hk, h => by
    by_cases hkn : k = n
    · subst hkn
      rw [zsd, zsd, zsd_cg k (fun i hi => h i (by omega) (by omega)), if_neg (c := c.1 (58 + k) 0 = nI g ∧ _) (fun q => q.2.1 h0), hv, hs, hw, ztN (by omega)]
      by_cases hq : zside la v = sd
      · rw [if_pos ⟨rfl, hne, hq⟩, if_pos hq]
      · rw [if_neg (fun q => hq q.2.2), if_neg hq]
        rfl
    · obtain ⟨h1, h2, h3⟩ := h n (by omega) (by omega)
      have ih := zsd_on (la := la) (sd := sd) h0 hv hne hs hw hw2 n (by omega) (fun i hi hik => h i (by omega) hik)
      rw [zsd, zsd, h1, h2, h3, ih]
      split <;> omega
theorem zsd_zero {g la : Nat} {sd : Int32} : ∀ n, (∀ k, k < n → c.1 (58 + k) 0 = nI g → ¬ c.1 (58 + k) 4 = -1 → ¬ zside la (c.1 (58 + k) 4) = sd) → zsd c g la sd n = 0
  | 0, _ => rfl
  | n + 1, h => by
    rw [zsd, if_neg (fun q => h n (by omega) q.1 q.2.1 q.2.2), zsd_zero n (fun k hk => h k (by omega))]
theorem zsd_le {g la : Nat} {sd : Int32} : ∀ n, (∀ k, k < n → (c.1 (58 + k) 3).toNatClampNeg ≤ 200) → zsd c g la sd n ≤ 200 * n
  | 0, _ => Nat.le_refl _
  | n + 1, h => by
    have h1 := zsd_le (g := g) (la := la) (sd := sd) n (fun k hk => h k (by omega))
    have h2 := h n (by omega)
    rw [zsd]
    split <;> omega
/-- one booking is taken or put off: all else stays -/
theorem zStep {k g : Nat} (h : zR5 nS nK nG nB nw c m) (hk : k < nB) (hsg : c.1 (58 + k) 0 = nI g) (hgG : g < nG) (h2 : c.1 (34 + g) 6 = 2)
    (hc : ∀ q j, q < 11 ∨ 14 ≤ q → q < 98 → q ≠ 34 + g ∨ j ≠ 9 → q ≠ 58 + k ∨ (j ≠ 4 ∧ j ≠ 5 ∧ j ≠ 11) → c'.1 q j = c.1 q j) (hc2 : c'.2 = c.2)
    (hm : ∀ q j, q ≤ 38 → q ≠ 0 ∨ j < 46 → (q ≠ 25 ∧ q ≠ 26) ∨ j ≠ g → (q ≠ 37 ∧ q ≠ 38) ∨ j ≠ k → m'.1 q j = m.1 q j) (hm2 : m'.2 = m.2)
    (h9 : c'.1 (34 + g) 9 = m'.1 25 g - m'.1 26 g) {v b : Int32} (hv : c'.1 (58 + k) 4 = v) (hb : c'.1 (58 + k) 11 = b) (hmv : m'.1 38 k = v + 1) (hmb : m'.1 37 k = b) (hv4 : v = -1 ∨ ∃ j : Nat, j < 4 ∧ v = nI j) (hb01 : b = 0 ∨ b = 1) (hbv : b = 0 → v = -1) : zR5 nS nK nG nB nw c' m' := by
  have hK := hk
  obtain ⟨hn, hs, hv', hw, hk, hh, hb', hp, hg, hgv, ho, hz, hB, hBv, hZ, ha⟩ := id h
  obtain ⟨l1, l2, l3, l4, l5⟩ := hn.2.2
  refine ⟨⟨?_, ?_, hn.2.2⟩, zRs_cg hs ?_ ?_ ?_ ?_, zRv_cg hv' (by omega) ?_, zRw_cg hw ?_ ?_ ?_, zRk_cg hk (by omega) ?_ ?_ ?_, zRh_cg hh ?_ ?_, zRb_cg hb' ?_ ?_ ?_, zRp_cg hp ?_ ?_, ?_, ?_, ?_, ?_, ?_, ?_, ?_, zRa_cg ha ?_ ?_⟩
  · exact ⟨(hc _ _ (by omega) (by omega) (by omega) (by omega)).trans hn.1.1, (hc _ _ (by omega) (by omega) (by omega) (by omega)).trans hn.1.2.1, (hc _ _ (by omega) (by omega) (by omega) (by omega)).trans hn.1.2.2.1, (hc _ _ (by omega) (by omega) (by omega) (by omega)).trans hn.1.2.2.2.1, (hc _ _ (by omega) (by omega) (by omega) (by omega)).trans hn.1.2.2.2.2⟩
  · exact ⟨(hm _ _ (by omega) (by omega) (by omega) (by omega)).trans hn.2.1.1, (hm _ _ (by omega) (by omega) (by omega) (by omega)).trans hn.2.1.2.1, (hm _ _ (by omega) (by omega) (by omega) (by omega)).trans hn.2.1.2.2.1, (hm _ _ (by omega) (by omega) (by omega) (by omega)).trans hn.2.1.2.2.2.1, (hm _ _ (by omega) (by omega) (by omega) (by omega)).trans hn.2.1.2.2.2.2⟩
  · intro k' j _; exact hc _ _ (by omega) (by omega) (by omega) (by omega)
  · intro k' j _; exact hc _ _ (by omega) (by omega) (by omega) (by omega)
  · intro q j _ _; exact hm _ _ (by omega) (by omega) (by omega) (by omega)
  · intro q j _ _; exact hm _ _ (by omega) (by omega) (by omega) (by omega)
  · intro k' j _ _; exact hc _ _ (by omega) (by omega) (by omega) (by omega)
  · intro j; exact hc _ _ (by omega) (by omega) (by omega) (by omega)
  · intro j; exact hc _ _ (by omega) (by omega) (by omega) (by omega)
  · intro q j _ _; exact hm _ _ (by omega) (by omega) (by omega) (by omega)
  · intro k' j _; exact hc _ _ (by omega) (by omega) (by omega) (by omega)
  · intro k' j _; exact hc _ _ (by omega) (by omega) (by omega) (by omega)
  · intro q j _ _; exact hm _ _ (by omega) (by omega) (by omega) (by omega)
  · intro i hi; exact ⟨hc _ _ (by omega) (by omega) (by omega) (by omega), hc _ _ (by omega) (by omega) (by omega) (by omega), hc _ _ (by omega) (by omega) (by omega) (by omega)⟩
  · intro j; exact hm _ _ (by omega) (by omega) (by omega) (by omega)
  · intro j; exact hc _ _ (by omega) (by omega) (by omega) (by omega)
  · intro j; exact hc _ _ (by omega) (by omega) (by omega) (by omega)
  · intro q j _ _; exact hm _ _ (by omega) (by omega) (by omega) (by omega)
  · intro j; exact hc _ _ (by omega) (by omega) (by omega) (by omega)
  · intro j; exact hm _ _ (by omega) (by omega) (by omega) (by omega)
  · intro i hi
    have hq := hg i hi
    have C := fun j (hj : j ≠ 9) => hc (34 + i) j (by omega) (by omega) (by omega) (by omega)
    have M := fun q (h1 : 17 ≤ q) (h2 : q ≤ 24) => hm q i (by omega) (by omega) (by omega) (by omega)
    rw [C 0 (by omega), C 1 (by omega), C 2 (by omega), C 3 (by omega), C 5 (by omega), C 6 (by omega), C 10 (by omega), C 7 (by omega), M 17 (by omega) (by omega), M 18 (by omega) (by omega), M 19 (by omega) (by omega), M 20 (by omega) (by omega), M 21 (by omega) (by omega), M 22 (by omega) (by omega), M 23 (by omega) (by omega), M 24 (by omega) (by omega)]
    refine ⟨hq.1, hq.2.1, hq.2.2.1, hq.2.2.2.1, hq.2.2.2.2.1, hq.2.2.2.2.2.1, hq.2.2.2.2.2.2.1, hq.2.2.2.2.2.2.2.1, hq.2.2.2.2.2.2.2.2.1, fun q => ?_, fun q => ?_⟩
    by_cases hig : i = g
    · rw [hig]
      exact h9
    · rw [hc (34 + i) 9 (by omega) (by omega) (by omega) (by omega), hm 25 i (by omega) (by omega) (by omega) (by omega), hm 26 i (by omega) (by omega) (by omega) (by omega)]
      exact hq.2.2.2.2.2.2.2.2.2.1 q
    · have hig : ¬ i = g := fun e => by
        rw [e, h2] at q
        exact absurd q (by decide)
      rw [hm 25 i (by omega) (by omega) (by omega) (by omega), hm 26 i (by omega) (by omega) (by omega) (by omega), C 8 (by omega)]
      exact hq.2.2.2.2.2.2.2.2.2.2 q
  · intro i hi
    obtain ⟨s', f', t', h', d', x', z', sp', b', r0, r1, r2, r3, r4, r5, r6, r7, r8⟩ := hgv i hi
    have C := fun j (hj : j ≠ 9) => hc (34 + i) j (by omega) (by omega) (by omega) (by omega)
    refine ⟨s', f', t', h', d', x', z', sp', b', ?_⟩
    rw [C 0 (by omega), C 1 (by omega), C 2 (by omega), C 3 (by omega), C 4 (by omega), C 5 (by omega), C 6 (by omega), C 8 (by omega), hc (14 + s') 5 (by omega) (by omega) (by omega) (by omega)]
    exact ⟨r0, r1, r2, r3, r4, r5, r6, r7, r8⟩
  · intro i j hij hj
    have C := fun i (hi : i < nG) j (hj : j ≠ 9) => hc (34 + i) j (by omega) (by omega) (by omega) (by omega)
    rw [C i (by omega) 0 (by omega), C j hj 0 (by omega), C i (by omega) 6 (by omega), C j hj 6 (by omega), C i (by omega) 4 (by omega), C j hj 3 (by omega)]
    exact ho i j hij hj
  · intro i hi hi2
    have C := fun j (hj : j ≠ 9) => hc (34 + i) j (by omega) (by omega) (by omega) (by omega)
    rw [C 6 (by omega), C 7 (by omega), C 8 (by omega), C 10 (by omega), hm 24 i (by omega) (by omega) (by omega) (by omega), hm 25 i (by omega) (by omega) (by omega) (by omega), hm 26 i (by omega) (by omega) (by omega) (by omega)]
    exact hz i hi hi2
  · intro i hi
    have hq := hB i hi
    have C := fun j (hj : j ≠ 4 ∧ j ≠ 5 ∧ j ≠ 11) => hc (58 + i) j (by omega) (by omega) (by omega) (by omega)
    have M := fun q (h1 : 28 ≤ q) (h2 : q ≤ 36) => hm q i (by omega) (by omega) (by omega) (by omega)
    rw [C 0 (by omega), C 1 (by omega), C 2 (by omega), C 3 (by omega), C 9 (by omega), C 10 (by omega), C 7 (by omega), C 8 (by omega), C 6 (by omega), M 28 (by omega) (by omega), M 29 (by omega) (by omega), M 30 (by omega) (by omega), M 31 (by omega) (by omega), M 32 (by omega) (by omega), M 33 (by omega) (by omega), M 34 (by omega) (by omega), M 35 (by omega) (by omega), M 36 (by omega) (by omega)]
    refine ⟨hq.1, hq.2.1, hq.2.2.1, hq.2.2.2.1, hq.2.2.2.2.1, hq.2.2.2.2.2.1, hq.2.2.2.2.2.2.1, hq.2.2.2.2.2.2.2.1, ?_, ?_, hq.2.2.2.2.2.2.2.2.2.2⟩
    · by_cases hik : i = k
      · rw [hik, hmb, hb]
      · rw [hm 37 i (by omega) (by omega) (by omega) (by omega), hc (58 + i) 11 (by omega) (by omega) (by omega) (by omega)]
        exact hq.2.2.2.2.2.2.2.2.1
    · by_cases hik : i = k
      · rw [hik, hmv, hv]
      · rw [hm 38 i (by omega) (by omega) (by omega) (by omega), hc (58 + i) 4 (by omega) (by omega) (by omega) (by omega)]
        exact hq.2.2.2.2.2.2.2.2.2.1
  · intro i hi
    obtain ⟨p1, p2, p3, p4, p5, p6, p7, p8, p9⟩ := hBv i hi
    have C := fun j (hj : j ≠ 4 ∧ j ≠ 5 ∧ j ≠ 11) => hc (58 + i) j (by omega) (by omega) (by omega) (by omega)
    have G := fun j (hj : j < nG) => hc (34 + j) 6 (by omega) (by omega) (by omega) (by omega)
    rw [C 0 (by omega), C 1 (by omega), C 2 (by omega), C 3 (by omega), C 9 (by omega), C 10 (by omega), C 7 (by omega), C 8 (by omega), C 6 (by omega)]
    by_cases hik : i = k
    · subst hik
      rw [hb, hv]
      refine ⟨p1, p2, p3, hb01, p5, hv4, hbv, fun q => absurd (hsg.symm.trans q) (znI_ne_m1 (by omega)), fun _ j hj e => ?_⟩
      have : j = g := (nI_eq (by omega) (by omega)).mp (e.symm.trans hsg)
      rw [G j hj, this]
      exact h2
    · rw [hc (58 + i) 11 (by omega) (by omega) (by omega) (by omega), hc (58 + i) 4 (by omega) (by omega) (by omega) (by omega)]
      refine ⟨p1, p2, p3, p4, p5, p6, p7, p8, fun q j hj e => ?_⟩
      rw [G j hj]
      exact p9 q j hj e
  · intro i hi hi2
    have C := fun j => hc (58 + i) j (by omega) (by omega) (by omega) (by omega)
    rw [C 4, C 6, C 11, hm 36 i (by omega) (by omega) (by omega) (by omega), hm 37 i (by omega) (by omega) (by omega) (by omega), hm 38 i (by omega) (by omega) (by omega) (by omega)]
    exact hZ i hi hi2
  · intro j _; rw [hc2]
  · intro j; rw [hm2]
end ZP9
