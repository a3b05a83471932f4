/-! pairs, part twelve: the load is made even -/
section ZP12
variable {c c' m m' : zSt} {nS nK nG nB nw : Nat}
theorem zlast {N : Nat} (P : Nat → Prop) : (∃ p, p < N ∧ P p) → ∃ p, p < N ∧ P p ∧ ∀ p', p < p' → p' < N → ¬ P p' := by
  induction N with
  | zero => exact fun ⟨p, hp, _⟩ => absurd hp (Nat.not_lt_zero _)
  | succ n ih =>
    intro ⟨p, hp, h⟩
    rcases Classical.em (P n) with hn | hn
    · exact ⟨n, by omega, hn, fun p' h1 h2 => by omega⟩
    · have hpn : p ≠ n := fun q => hn (by rw [← q]; exact h)
      obtain ⟨p0, a1, a2, a3⟩ := ih ⟨p, by omega, h⟩
      exact ⟨p0, by omega, a2, fun p' h1 h2 => by
        by_cases hq : p' = n
        · rw [hq]; exact hn
        · exact a3 p' h1 (by omega)⟩
/-- while the load is made even -/
def zE (c m : zSt) (nS nK nG nB nw g s la N : Nat) : Prop :=
  zR5 nS nK nG nB nw (zwI c (34 + g) 9 (m.1 25 g - m.1 26 g)) m ∧
  (c.1 (34 + g) 6 = 2 ∧ s < 4 ∧ m.1 17 g = nI s ∧ m.1 2 s = nI la ∧ 1 ≤ la ∧ la ≤ 4 ∧ c.1 11 2 = nI la) ∧
  (m.1 0 46 = nI N ∧ m.1 0 52 = 0 ∧ c.1 11 8 = m.1 25 g - m.1 26 g) ∧
  (m.1 25 g = nI (zsd c g la 1 nB) ∧ m.1 26 g = nI (zsd c g la 2 nB)) ∧
  zO c m g nB N 1000
theorem zE_of {g s la N : Nat} (hT : zT c m nS nK nG nB nw g s la N) : zE c m nS nK nG nB nw g s la N := by
  obtain ⟨h5, ⟨hst, hs4, h17, h2, hla1, hla4, hc2, hc3, hc4⟩, ⟨hw5, hd6, ht7, ho46, hN40, h52, hl8⟩, hLn, hAB, ⟨o, T, o1, o2, o3⟩⟩ := hT
  exact ⟨h5, ⟨hst, hs4, h17, h2, hla1, hla4, hc2⟩, ⟨ho46, h52, hl8⟩, hAB, ⟨o, T, fun p hp => by
    obtain ⟨a1, a2, a3, a4, a5, a6, a7⟩ := o1 p hp
    exact ⟨a1, a2, a3, a4, a5, by omega, a7⟩, o2, o3⟩⟩
/-- those behind the one that is put off move up -/
theorem shift_lp {v N : Nat} (hN : N < 40) : ∀ (r n i : Nat) (m : zSt), m.1 0 46 = nI N → i + r = N → r < n → ∃ m', f_X7_putsOff_94 n m (nI i) = some ((), m') ∧ m'.2 = m.2 ∧ (∀ q j, q ≠ 41 → m'.1 q j = m.1 q j) ∧ (∀ p, p < i → m'.1 41 p = m.1 41 p) ∧ (∀ p, i ≤ p → p < N → m'.1 41 p = m.1 41 (p + 1))
  | 0, n + 1, i, m, h46, hi, _ => by
    refine ⟨m, ?_, rfl, fun _ _ _ => rfl, fun _ _ => rfl, fun p h1 h2 => by omega⟩
    rw [f_X7_putsOff_94, h46, zif_le (by omega) (by omega)]
  | r + 1, n + 1, i, m, h46, hi, hr => by
    obtain ⟨m', x1, x2, x3, x4, x5⟩ := shift_lp (v := v) hN r n (i + 1) (zwI m 41 i (m.1 41 (i + 1))) (by rw [zr_n (by omega)]; exact h46) (by omega) (by omega)
    refine ⟨m', ?_, x2, fun q j hq => ?_, fun p hp => ?_, fun p h1 h2 => ?_⟩
    · rw [f_X7_putsOff_94, h46, zif_nle (by omega) (by omega)]
      simp (disch := omega) only [nI_1, zif_in, ztN, ↓zlet_eq]
      exact x1
    · rw [x3 q j hq, zr_n (by omega)]
    · rw [x4 p (by omega), zr_n (by omega)]
    · by_cases hpi : p = i
      · rw [x4 p (by omega), hpi, zr_e]
      · rw [x5 p (by omega) h2, zr_n (by omega)]
/-- the reference looks for the last one on the heavier side -/
theorem search_lp {g s la N ps sd : Nat} {o : Nat → Nat} (hg : g < 24) (hs : s < 4) (h17 : m.1 17 g = nI s) (h2 : m.1 2 s = nI la) (hN : N ≤ 40) (hps : ps < N) (ho : ∀ p, p < N → m.1 41 p = nI (o p) ∧ o p < 40) {lane : Nat → Int32} (hlane : ∀ p, p < N → m.1 38 (o p) = lane p + 1) (hyes : zside la (lane ps) = nI sd) (hno : ∀ p, ps < p → p < N → ¬ zside la (lane p) = nI sd) : ∀ (d n : Nat), ps + d < N → d < n → f_X7_putsOff_28 n m (nI g) (nI sd) (nI (ps + d)) = ((f_X7_puts m (nI g) (nI (o ps)) (lane ps) (-1)).bind fun q12 => (zlet (zwI q12.2 0 46 ((q12.2.1 0 46) - 1)) fun s14 => f_X7_putsOff_94 64 s14 (nI ps)))
  | 0, n + 1, hd, _ => by
    obtain ⟨o1, o2⟩ := ho ps hps
    have hl := hlane ps hps
    rw [f_X7_putsOff_28, Nat.add_zero]
    simp (disch := omega) only [zif_in, ztN, o1, hl, Int32.add_sub_cancel, sideOf_eq hg hs h17 h2, zbs, hyes, ↓reduceIte]
  | d + 1, n + 1, hd, hn => by
    have hp : ps + (d + 1) < N := hd
    obtain ⟨o1, o2⟩ := ho (ps + (d + 1)) hp
    have hl := hlane _ hp
    have e1 : nI (ps + (d + 1)) + -1 = nI (ps + d) := by
      rw [← Int32.sub_eq_add_neg]
      exact zm1 (ps + d)
    have ih := search_lp hg hs h17 h2 hN hps ho hlane hyes hno d n (by omega) (by omega)
    rw [f_X7_putsOff_28]
    simp (disch := omega) only [zif_in, ztN, o1, hl, Int32.add_sub_cancel, sideOf_eq hg hs h17 h2, zbs]
    rw [if_neg (hno _ (by omega) hp), e1]
    exact ih
/-- the class's choice: the greatest turn of those on the heavier side -/
theorem choose_lp {g ks ts : Nat} {hv : Nat → Int32} (hc14 : c.1 0 14 = nI nB) (hB : nB ≤ 40) (hks : ks < nB) (hkg : c.1 (58 + ks) 0 = nI g) (hkt : c.1 (58 + ks) 5 = nI ts) (hts : ts < 1000) (hheavy : ∀ k, k < nB → c.1 (58 + k) 0 = nI g → f_X2_isOnHeavierSide c (58 + k) = some (hv k, c)) (hks1 : ¬ hv ks = 0) (hoth : ∀ k, k < nB → k ≠ ks → c.1 (58 + k) 0 = nI g → ¬ hv k = 0 → ∃ t : Nat, t < ts ∧ c.1 (58 + k) 5 = nI t) : ∀ (r n i : Nat) (l t : Int32), i + r = nB → r < n → ((i ≤ ks ∧ (t = -1 ∨ ∃ u : Nat, u < ts ∧ t = nI u)) ∨ (ks < i ∧ l = nI ks ∧ t = nI ts)) → f_X6_putOffLast_7 n c (nI g) l t (nI i) = ((f_X2_putOff c (58 + ks)).bind fun q5 => some ((), q5.2))
  | 0, n + 1, i, l, t, hi, _, h => by
    rcases h with ⟨h1, _⟩ | ⟨h1, h2, h3⟩
    · omega
    · rw [f_X6_putOffLast_7, hc14, zif_le (by omega) (by omega), h2, if_neg (znI_ne_m1 (by omega)), kB_yes hc14 hks hB, zbs]
  | r + 1, n + 1, i, l, t, hi, hr, h => by
    have ih := fun l t => choose_lp hc14 hB hks hkg hkt hts hheavy hks1 hoth r n (i + 1) l t (by omega) (by omega)
    rw [f_X6_putOffLast_7, hc14, zif_nle (by omega) (by omega), kB_yes hc14 (by omega) hB, zbs, nI_1]
    dsimp only
    have skip : i ≠ ks → f_X6_putOffLast_7 n c (nI g) l t (nI (i + 1)) = ((f_X2_putOff c (58 + ks)).bind fun q5 => some ((), q5.2)) := fun hne => ih l t (h.elim (fun q => Or.inl ⟨by omega, q.2⟩) (fun q => Or.inr ⟨by omega, q.2⟩))
    by_cases hik : i = ks
    · subst hik
      rw [if_pos hkg, hheavy i hks hkg, zbs, if_neg hks1]
      dsimp only
      rcases h with ⟨_, h1⟩ | ⟨h1, _⟩
      · have hnle : ¬ nI ts ≤ t := by
          rcases h1 with e | ⟨u, hu, e⟩
          · rw [e, zle_i, zti (by omega)]
            have : (-1 : Int32).toInt = -1 := rfl
            omega
          · rw [e]
            exact nI_ge hu (by omega)
        rw [hkt, if_neg hnle]
        exact ih _ _ (Or.inr ⟨by omega, rfl, rfl⟩)
      · omega
    by_cases h1 : c.1 (58 + i) 0 = nI g
    · rw [if_pos h1, hheavy i (by omega) h1, zbs]
      dsimp only
      by_cases h2 : hv i = 0
      · rw [if_pos h2]
        exact skip hik
      · rw [if_neg h2]
        obtain ⟨u, hu, e⟩ := hoth i (by omega) hik h1 h2
        rw [e]
        rcases h with ⟨a1, a2⟩ | ⟨a1, a2, a3⟩
        · by_cases hle : nI u ≤ t
          · rw [if_pos hle]
            exact skip hik
          · rw [if_neg hle]
            exact ih _ _ (Or.inl ⟨by omega, Or.inr ⟨u, hu, rfl⟩⟩)
        · rw [if_pos (by rw [a3]; exact nI_le (by omega) (by omega))]
          exact skip hik
    · rw [if_neg h1]
      exact skip hik
theorem heavy_eq {la k w sd : Nat} {L : Int32} (hc2 : c.1 11 2 = nI la) (hL : c.1 11 8 = L) (hsd : (sd = 1 ∧ 0 < L) ∨ (sd = 2 ∧ L < 0)) (hw : ¬ c.1 (58 + k) 4 = -1 → c.1 (58 + k) 3 = nI w ∧ 1 ≤ w ∧ w ≤ 200) : ∃ b : Int32, f_X2_isOnHeavierSide c (58 + k) = some (b, c) ∧ (¬ b = 0 ↔ (¬ c.1 (58 + k) 4 = -1 ∧ zside la (c.1 (58 + k) 4) = nI sd)) := by
  have test : ∀ x : Int32, ∃ b : Int32, f_X2_isOnHeavierSide_25 c x = some (b, c) ∧ (¬ b = 0 ↔ ((0 < x ∧ sd = 1) ∨ (x < 0 ∧ sd = 2))) := fun x => by
    unfold f_X2_isOnHeavierSide_25 f_X2_isOnHeavierSide_36
    rw [hL]
    rw [zlt_i, zlt_i, zti0] at hsd
    by_cases h1 : x ≤ 0
    · rw [if_pos h1]
      rw [zle_i, zti0] at h1
      by_cases h2 : 0 ≤ x
      · rw [zle_i, zti0] at h2
        refine ⟨0, by rw [if_pos (by rw [zle_i, zti0]; exact h2)], ?_⟩
        rw [zlt_i, zlt_i, zti0]
        exact ⟨fun q => absurd rfl q, fun q => by omega⟩
      · rw [if_neg h2]
        rw [zle_i, zti0] at h2
        by_cases h3 : 0 ≤ L
        · refine ⟨0, by rw [if_pos h3], ?_⟩
          rw [zle_i, zti0] at h3
          rw [zlt_i, zlt_i, zti0]
          exact ⟨fun q => absurd rfl q, fun q => by omega⟩
        · refine ⟨1, by rw [if_neg h3], ?_⟩
          rw [zle_i, zti0] at h3
          rw [zlt_i, zlt_i, zti0]
          exact ⟨fun _ => by omega, fun _ => z10⟩
    · rw [if_neg h1]
      rw [zle_i, zti0] at h1
      by_cases h2 : 0 < L
      · refine ⟨1, by rw [if_pos h2], ?_⟩
        rw [zlt_i, zti0] at h2
        rw [zlt_i, zlt_i, zti0]
        exact ⟨fun _ => by omega, fun _ => z10⟩
      · rw [if_neg h2]
        refine ⟨0, by rw [if_pos (by rw [zle_i, zti0]; omega)], ?_⟩
        rw [zlt_i, zti0] at h2
        rw [zlt_i, zlt_i, zti0]
        exact ⟨fun q => absurd rfl q, fun q => by omega⟩
  unfold f_X2_isOnHeavierSide
  by_cases h4 : c.1 (58 + k) 4 = -1
  · rw [if_pos h4]
    obtain ⟨b, b1, b2⟩ := test 0
    refine ⟨b, b1, b2.trans ⟨fun q => ?_, fun q => absurd h4 q.1⟩⟩
    rw [zlt_i, zti0] at q
    omega
  · rw [if_neg h4, leanOf_eq hc2, zbs]
    obtain ⟨e3, w1, w2⟩ := hw h4
    obtain ⟨b, b1, b2⟩ := test (zlv la (c.1 (58 + k) 4) (c.1 (58 + k) 3))
    refine ⟨b, b1, b2.trans ?_⟩
    have tw : (nI w).toInt = w := zti (by omega)
    have tn : (-nI w).toInt = -(w : Int) := by
      have := pk_sub_toInt (a := 0) (b := w) (by omega) (by omega)
      rw [← z0, Int32.zero_sub] at this
      omega
    unfold zlv
    rw [e3]
    have n2 : nI 2 = 2 := rfl
    have n1 : nI 1 = 1 := rfl
    rcases zside_cs la (c.1 (58 + k) 4) with h | h | h
    · rw [h, if_neg (by decide), if_neg (by decide), zlt_i, zti0]
      refine ⟨fun q => by omega, fun q => ?_⟩
      rcases hsd with ⟨e, _⟩ | ⟨e, _⟩
      · rw [e] at q; exact absurd q.2 (by decide)
      · rw [e] at q; exact absurd q.2 (by decide)
    · rw [h, if_pos rfl, zlt_i, zlt_i, zti0, tw]
      refine ⟨fun q => ⟨h4, ?_⟩, fun q => ?_⟩
      · rw [show sd = 1 by omega]; rfl
      · rcases hsd with ⟨e, _⟩ | ⟨e, _⟩
        · omega
        · rw [e] at q; exact absurd q.2 (by decide)
    · rw [h, if_neg (by decide), if_pos rfl, zlt_i, zlt_i, zti0, tn]
      refine ⟨fun q => ⟨h4, ?_⟩, fun q => ?_⟩
      · rw [show sd = 2 by omega]; rfl
      · rcases hsd with ⟨e, _⟩ | ⟨e, _⟩
        · rw [e] at q; exact absurd q.2 (by decide)
        · omega
end ZP12
