/-! pairs, part ten: one booking is taken -/
section ZP10
variable {c c' m m' : zSt} {nS nK nG nB nw : Nat}
/-- the order in which they were taken: its entries and their turns -/
def zO (c m : zSt) (g nB N Nt : Nat) : Prop := ∃ o T : Nat → Nat, (∀ p, p < N → m.1 41 p = nI (o p) ∧ o p < nB ∧ c.1 (58 + o p) 0 = nI g ∧ (∃ j : Nat, j < 4 ∧ c.1 (58 + o p) 4 = nI j) ∧ c.1 (58 + o p) 5 = nI (T p) ∧ T p < Nt ∧ (∃ w : Nat, 1 ≤ w ∧ w ≤ 200 ∧ c.1 (58 + o p) 3 = nI w)) ∧ (∀ p p', p < p' → p' < N → T p < T p') ∧ (∀ k, k < nB → c.1 (58 + k) 0 = nI g → ¬ c.1 (58 + k) 4 = -1 → ∃ p, p < N ∧ o p = k)
/-- while a sailing is loaded -/
def zT (c m : zSt) (nS nK nG nB nw g s la N : Nat) : Prop :=
  zR5 nS nK nG nB nw (zwI c (34 + g) 9 (m.1 25 g - m.1 26 g)) m ∧
  (c.1 (34 + g) 6 = 2 ∧ s < 4 ∧ m.1 17 g = nI s ∧ m.1 2 s = nI la ∧ 1 ≤ la ∧ la ≤ 4 ∧ c.1 11 2 = nI la ∧ c.1 11 3 = m.1 3 s ∧ c.1 11 4 = m.1 4 s) ∧
  (c.1 11 5 = m.1 0 47 ∧ c.1 11 6 = m.1 0 48 ∧ c.1 11 7 = nI N ∧ m.1 0 46 = nI N ∧ N ≤ 40 ∧ m.1 0 52 = 0 ∧ c.1 11 8 = m.1 25 g - m.1 26 g) ∧
  zLn c m N ∧
  (m.1 25 g = nI (zsd c g la 1 nB) ∧ m.1 26 g = nI (zsd c g la 2 nB)) ∧
  zO c m g nB N N
theorem put_eq {r j la : Nat} (hr : 58 ≤ r) (hj : j < 4) (h2 : c.1 11 2 = nI la) (hd : c.1 r 9 = 0 ∨ c.1 r 9 = 1) : ∃ c', f_X2_put c r (nI j) = some ((), c') ∧ c'.2 = c.2 ∧ (∀ q i, q ≠ 11 → q ≠ 12 → q ≠ 13 → q ≠ r ∨ (i ≠ 4 ∧ i ≠ 5 ∧ i ≠ 11) → c'.1 q i = c.1 q i) ∧ c'.1 r 11 = 1 ∧ c'.1 r 4 = nI j ∧ c'.1 r 5 = c.1 11 7 ∧ (∀ i, i < 5 → c'.1 11 i = c.1 11 i) ∧ c'.1 11 7 = c.1 11 7 + 1 ∧ c'.1 11 5 = c.1 11 5 + c.1 r 3 ∧ c'.1 11 6 = c.1 11 6 + c.1 r 9 ∧ c'.1 11 8 = c.1 11 8 + zlv la (nI j) (c.1 r 3) ∧ c'.1 12 j = c.1 12 j + c.1 r 2 ∧ (∀ i, i ≠ j → c'.1 12 i = c.1 12 i ∧ c'.1 13 i = c.1 13 i) ∧ ((c.1 r 9 = 0 ∧ c'.1 13 j = c.1 13 j) ∨ (c.1 r 9 = 1 ∧ c'.1 13 j = 1)) := by
  have k0 : ¬ nI j < (0 : Int32) := by rw [z0]; exact nI_nlt (by omega) (by omega)
  have k4 : nI j < (4 : Int32) := nI_lt (b := 4) (by omega) (by omega)
  have hlean : ∀ st : zSt, st.1 11 2 = nI la → ∀ w, f_X2_leanOf st (nI j) w = some (zlv la (nI j) w, st) := fun st h w => leanOf_eq h _ w
  have base : f_X2_put c r (nI j) = (if c.1 r 9 = 0 then some ((), zwI (zwI (zwI (zwI (zwI (zwI (zwI c r 11 1) r 4 (nI j)) r 5 (c.1 11 7)) 11 7 (c.1 11 7 + 1)) 12 j (c.1 12 j + c.1 r 2)) 11 5 (c.1 11 5 + c.1 r 3)) 11 8 (c.1 11 8 + zlv la (nI j) (c.1 r 3))) else some ((), zwI (zwI (zwI (zwI (zwI (zwI (zwI (zwI (zwI c r 11 1) r 4 (nI j)) r 5 (c.1 11 7)) 11 7 (c.1 11 7 + 1)) 12 j (c.1 12 j + c.1 r 2)) 11 5 (c.1 11 5 + c.1 r 3)) 11 8 (c.1 11 8 + zlv la (nI j) (c.1 r 3))) 13 j 1) 11 6 (c.1 11 6 + 1))) := by
    unfold f_X2_put
    rw [if_neg k0, if_pos k4]
    simp (disch := omega) only [↓zlet_eq, zif_in, ztN, zr_n, zr_e]
    rw [hlean _ (by simp (disch := omega) only [zr_n]; exact h2), zbs]
    simp (disch := omega) only [↓zlet_eq, zr_n, zr_e]
  rcases hd with hd | hd
  · rw [base, if_pos hd]
    refine ⟨_, rfl, rfl, ?_⟩
    refine ⟨fun q i h1 h2 h3 h4 => ?_, ?_, ?_, ?_, fun i hi => ?_, ?_, ?_, ?_, ?_, ?_, fun i hi => ⟨?_, ?_⟩, Or.inl ⟨hd, ?_⟩⟩ <;> simp (disch := omega) only [zr_n, zr_e, hd, Int32.add_zero]
  · rw [base, if_neg (by rw [hd]; exact z10)]
    refine ⟨_, rfl, rfl, ?_⟩
    refine ⟨fun q i h1 h2 h3 h4 => ?_, ?_, ?_, ?_, fun i hi => ?_, ?_, ?_, ?_, ?_, ?_, fun i hi => ⟨?_, ?_⟩, Or.inr ⟨hd, ?_⟩⟩ <;> simp (disch := omega) only [zr_n, zr_e, hd]
theorem zlean1 (a b w : Int32) : (a + w) - (b + 0) = a - b + w := by
  rw [Int32.add_zero, Int32.sub_eq_add_neg, Int32.sub_eq_add_neg, zrc]
theorem zlean2 (a b w : Int32) : (a + 0) - (b + w) = a - b + -w := by
  rw [Int32.add_zero, Int32.sub_eq_add_neg, Int32.neg_add, Int32.sub_eq_add_neg (-b), Int32.sub_eq_add_neg a, Int32.add_assoc]
theorem zTake {g s la N k : Nat} (hT : zT c m nS nK nG nB nw g s la N) (hgG : g < nG) (hk : k < nB) (hsg : c.1 (58 + k) 0 = nI g) (hl4 : c.1 (58 + k) 4 = -1) (hN : N < 40) : ∃ c' m' N', f_X2_take c (58 + k) = some ((), c') ∧ f_X7_takes m (nI g) (nI k) = some ((), m') ∧ zT c' m' nS nK nG nB nw g s la N' ∧ N' ≤ N + 1 ∧ (∀ q j, q < 11 ∨ 14 ≤ q → q ≠ 58 + k ∨ (j ≠ 4 ∧ j ≠ 5 ∧ j ≠ 11) → c'.1 q j = c.1 q j) ∧ c'.2 = c.2 := by
  have hT0 := hT
  obtain ⟨h5, ⟨hst, hs4, h17, h2, hla1, hla4, hc2, hc3, hc4⟩, ⟨hw5, hd6, ht7, ho46, hN40, h52, hl8⟩, hLn, ⟨hA, hB25⟩, hO⟩ := hT
  have lB : nB ≤ 40 := h5.1.2.2.2.2.2.1
  have lG : nG ≤ 24 := h5.1.2.2.2.2.1
  have hBk := h5.2.2.2.2.2.2.2.2.2.2.2.2.1 k hk
  have hBvk := h5.2.2.2.2.2.2.2.2.2.2.2.2.2.1 k hk
  simp (disch := omega) only [zr_n] at hBk
  obtain ⟨b28, b29, b30, b31, b32, b33, b34, b35, b37, b38, b36⟩ := hBk
  obtain ⟨⟨ki, le, we, ti, v1, v2, ⟨v3, v3'⟩, v4, v5, v6, v7, v8⟩, w2, w3, w4, -⟩ := hBvk
  simp (disch := omega) only [zr_n] at v5 v6 v7 v8 w2 w3 w4
  have hsgh : (zwI c (34 + g) 9 (m.1 25 g - m.1 26 g)).1 (58 + k) 0 = nI g := by rw [zr_n (by omega)]; exact hsg
  have hsth : (zwI c (34 + g) 9 (m.1 25 g - m.1 26 g)).1 (34 + g) 6 = 2 := by rw [zr_n (by omega)]; exact hst
  unfold f_X2_take f_X7_takes
  rw [zif_in (by omega) (by omega), zif_in (by omega) (by omega), ztN (by omega), b29]
  by_cases hw : c.1 (58 + k) 1 = 0
  · rw [if_pos hw, if_pos hw, zlet_eq, zlet_eq]
    refine ⟨_, _, N, rfl, rfl, ⟨?_, ?_, ?_, ?_, ?_, ?_⟩, by omega, fun q j h1 h3 => by rw [zr_n (by omega)], rfl⟩
    · refine zStep (v := -1) (b := 1) h5 hk hsgh hgG hsth ?_ rfl ?_ rfl ?_ ?_ ?_ ?_ ?_ (Or.inl rfl) (Or.inr rfl) (fun q => absurd q z10)
      · intro q j h1 h2 h3 h4
        simp (disch := omega) only [zr_n]
      · intro q j h1 h2 h3 h4
        simp (disch := omega) only [zr_n]
      · simp (disch := omega) only [zr_n, zr_e]
      · simp (disch := omega) only [zr_n]; exact hl4
      · simp (disch := omega) only [zr_n, zr_e]
      · simp (disch := omega) only [zr_n]; rw [b38, hl4]
      · simp (disch := omega) only [zr_e]
    · simp (disch := omega) only [zr_n]
      exact ⟨hst, hs4, h17, h2, hla1, hla4, hc2, hc3, hc4⟩
    · simp (disch := omega) only [zr_n]
      exact ⟨hw5, hd6, ht7, ho46, hN40, h52, hl8⟩
    · intro j hj
      simp (disch := omega) only [zr_n]
      exact hLn j hj
    · have sc : ∀ sd : Int32, zsd (zwI c (58 + k) 11 1) g la sd nB = zsd c g la sd nB := fun sd => zsd_cg nB (fun i hi => ⟨zr_n (by omega), zr_n (by omega), zr_n (by omega)⟩)
      rw [sc, sc, zr_n (by omega), zr_n (by omega)]
      exact ⟨hA, hB25⟩
    · obtain ⟨oo, T, o1, o2, o3⟩ := hO
      refine ⟨oo, T, fun p hp => ?_, o2, fun i hi => ?_⟩
      · simp (disch := omega) only [zr_n]
        exact o1 p hp
      · simp (disch := omega) only [zr_n]
        exact o3 i hi
  rw [if_neg hw, if_neg hw]
  have same : ∀ (x : Option (Unit × zSt)) (y : Option (Unit × zSt)), x = some ((), c) → y = some ((), m) → ∃ c' m' N', x = some ((), c') ∧ y = some ((), m') ∧ zT c' m' nS nK nG nB nw g s la N' ∧ N' ≤ N + 1 ∧ (∀ q j, q < 11 ∨ 14 ≤ q → q ≠ 58 + k ∨ (j ≠ 4 ∧ j ≠ 5 ∧ j ≠ 11) → c'.1 q j = c.1 q j) ∧ c'.2 = c.2 := fun x y hx hy => ⟨c, m, N, hx, hy, hT0, by omega, fun _ _ _ _ => rfl, rfl⟩
  have neg1 : (-1 : Int32) < 0 := by decide
  unfold f_X2_bestLane
  by_cases hD : c.1 (58 + k) 9 = 0 ∨ ¬ 2 ≤ c.1 11 6
  case neg =>
    have hD9 : ¬ c.1 (58 + k) 9 = 0 := fun q => hD (Or.inl q)
    have hD2 : ¬ c.1 11 6 < 2 := fun q => hD (Or.inr (by rw [zle_i]; rw [zlt_i] at q; omega))
    refine same _ _ ?_ (take_lp0 (by omega) hs4 (by omega) (by omega) hla4 h17 h2 hc3 hd6 hLn ⟨b30, b32⟩ hD la 64 0 (by omega) (by omega))
    by_cases how : c.1 11 4 < c.1 11 5 + c.1 (58 + k) 3
    · rw [if_pos how, zbs, if_pos neg1]
    · rw [if_neg how, if_neg hD9, if_neg hD2, zbs, if_pos neg1]
  have hbest : (if c.1 (58 + k) 9 = 0 then f_X2_bestLane_40 64 c (58 + k) (-1) 0 0 else (if c.1 11 6 < 2 then f_X2_bestLane_40 64 c (58 + k) (-1) 0 0 else some (-1, c))) = some (zbl c la k la, c) := by
    have e := best_lp (k := k) hc2 hla4 la 64 0 (-1) 0 (by omega) (by omega) rfl (fun q => absurd rfl q)
    rcases hD with h | h
    · rw [if_pos h]; exact e
    · have h' : c.1 11 6 < 2 := by rw [zlt_i]; rw [zle_i] at h; omega
      rw [if_pos h']
      by_cases h9 : c.1 (58 + k) 9 = 0
      · rw [if_pos h9]; exact e
      · rw [if_neg h9]; exact e
  rw [hbest, show f_X7_takes_22 64 m (nI g) (nI k) (-1) 0 = _ from take_lp (by omega) hs4 (by omega) (by omega) hla4 h17 h2 hc3 hd6 hl8 hLn ⟨b30, b32⟩ b31 hD la 64 0 (-1) (by omega) (by omega) rfl, f_X7_takes_22]
  simp (disch := omega) only [zif_in, ztN, h17, h2, b31, ← hc4, ← hw5]
  rw [zif_le (Nat.le_refl _) (by omega)]
  rcases zbl_spec c la k la with e | ⟨j, hj, e, hok⟩
  · rw [e, if_pos rfl]
    refine same _ _ ?_ rfl
    by_cases how : c.1 11 4 < c.1 11 5 + c.1 (58 + k) 3
    · rw [if_pos how, zbs, if_pos neg1]
    · rw [if_neg how, zbs, if_pos neg1]
  rw [e, if_neg (znI_ne_m1 (by omega))]
  by_cases how : c.1 11 4 < c.1 11 5 + c.1 (58 + k) 3
  · rw [if_pos how, if_pos how, zbs, if_pos neg1]
    exact same _ _ rfl rfl
  rw [if_neg how, if_neg how, zbs]
  have k0 : ¬ nI j < (0 : Int32) := by rw [z0]; exact nI_nlt (by omega) (by omega)
  have k4 : ¬ (4 : Int32) ≤ nI j := nI_ge (b := 4) (by omega) (by omega)
  rw [if_neg k0, if_neg k4]
  dsimp only
  obtain ⟨c', p0, p1, p2, p3, p4, p5, p6, p7, p8, p9, p10, p11, p12, p13⟩ := put_eq (c := c) (r := 58 + k) (j := j) (by omega) (by omega) hc2 w2
  obtain ⟨x25, x26, hx⟩ : ∃ x25 x26 : Int32, (zside la (nI j) = 1 ∧ x25 = 1 * m.1 31 k ∧ x26 = 0) ∨ (zside la (nI j) = 2 ∧ x25 = 0 ∧ x26 = 1 * m.1 31 k) ∨ (zside la (nI j) = 0 ∧ x25 = 0 ∧ x26 = 0) := by
    rcases zside_cs la (nI j) with h | h | h
    · exact ⟨_, _, Or.inr (Or.inr ⟨h, rfl, rfl⟩)⟩
    · exact ⟨_, _, Or.inl ⟨h, rfl, rfl⟩⟩
    · exact ⟨_, _, Or.inr (Or.inl ⟨h, rfl, rfl⟩)⟩
  rw [p0, zbs, puts_eq (by omega) hs4 (by omega) (show j < 4 by omega) h17 h2 (Or.inr ⟨by decide, rfl, rfl⟩) hx, zbs]
  simp (disch := omega) only [zr_n, ho46, zif_in, ztN, ↓zlet_eq, nI_1, Int32.one_mul]
  rw [Int32.one_mul] at hx
  have hki : ¬ ki = 0 := fun q => hw (by rw [v5, q]; rfl)
  have hwe1 : 1 ≤ we := v3'.resolve_left hki
  have hne1 := znI_ne_m1 (a := j) (by omega)
  -- the two sums
  have sums : ∀ sd : Int32, zsd c' g la sd nB = zsd c g la sd nB + (if zside la (nI j) = sd then we else 0) := fun sd => zsd_on (k := k) hl4 p4 hne1 ((p2 _ _ (by omega) (by omega) (by omega) (by omega)).trans hsg) ((p2 _ _ (by omega) (by omega) (by omega) (by omega)).trans v7) v3 nB hk (fun i hi hik => ⟨p2 _ _ (by omega) (by omega) (by omega) (by omega), p2 _ _ (by omega) (by omega) (by omega) (by omega), p2 _ _ (by omega) (by omega) (by omega) (by omega)⟩)
  have hlean : c'.1 11 8 = (m.1 25 g + x25) - (m.1 26 g + x26) := by
    rw [p10, hl8]
    unfold zlv
    rcases hx with ⟨y1, y2, y3⟩ | ⟨y1, y2, y3⟩ | ⟨y1, y2, y3⟩
    · rw [if_pos y1, y2, y3, b31, zlean1]
    · rw [if_neg (by rw [y1]; decide), if_pos y1, y2, y3, b31, zlean2]
    · rw [if_neg (by rw [y1]; decide), if_neg (by rw [y1]; decide), y2, y3, Int32.add_zero, Int32.add_zero, Int32.add_zero]
  refine ⟨c', _, N + 1, rfl, rfl, ⟨?_, ?_, ?_, ?_, ?_, ?_⟩, by omega, fun q i h1 h3 => p2 q i (by omega) (by omega) (by omega) h3, p1⟩
  · refine zStep (v := nI j) (b := 1) h5 hk hsgh hgG hsth ?_ p1 ?_ rfl ?_ ?_ ?_ ?_ ?_ (Or.inr ⟨j, by omega, rfl⟩) (Or.inr rfl) (fun q => absurd q z10)
    · intro q i h1 h2 h3 h4
      rw [zr_n h3, zr_n h3]
      exact p2 q i (by omega) (by omega) (by omega) h4
    · intro q i h1 h2 h3 h4
      simp (disch := omega) only [zr_n]
    · simp (disch := omega) only [zr_n, zr_e]
    · rw [zr_n (by omega)]; exact p4
    · rw [zr_n (by omega)]; exact p3
    · simp (disch := omega) only [zr_n, zr_e, nI_1]
    · simp (disch := omega) only [zr_n, zr_e]
  · rw [p2 _ _ (by omega) (by omega) (by omega) (by omega), p6 2 (by omega), p6 3 (by omega), p6 4 (by omega)]
    simp (disch := omega) only [zr_n]
    exact ⟨hst, hs4, h17, h2, hla1, hla4, hc2, hc3, hc4⟩
  · rw [p8, p9, p7, hlean, ht7, nI_1, hw5, hd6]
    simp (disch := omega) only [zr_n, zr_e, b31, b32]
    exact ⟨trivial, trivial, trivial, trivial, by omega, h52, trivial⟩
  · intro i hi
    obtain ⟨q1, x, q2, q3, q4⟩ := hLn i hi
    by_cases hij : i = j
    · subst hij
      simp (disch := omega) only [zr_n, zr_e, p11, q1, b30, b32, q3]
      refine ⟨trivial, ?_⟩
      rcases p13 with ⟨y1, y2⟩ | ⟨y1, y2⟩
      · exact ⟨x, by omega, by rw [y1, Int32.add_zero], by rw [y2]; exact q4⟩
      · exact ⟨x + 1, by omega, by rw [y1, nI_1], Or.inr ⟨y2, by omega⟩⟩
    · rw [(p12 i hij).1, (p12 i hij).2]
      simp (disch := omega) only [zr_n]
      exact ⟨q1, x, by omega, q3, q4⟩
  · rw [sums, sums]
    simp (disch := omega) only [zr_n, zr_e, hA, hB25]
    have n12 : ¬ (2 : Int32) = 1 := by decide
    have n02 : ¬ (0 : Int32) = 2 := by decide
    have n01 : ¬ (0 : Int32) = 1 := by decide
    have n1 : ¬ (1 : Int32) = 2 := by decide
    rcases hx with ⟨y1, y2, y3⟩ | ⟨y1, y2, y3⟩ | ⟨y1, y2, y3⟩
    · rw [y1, y2, y3, if_pos rfl, if_neg n1, b31, v7, nI_add, Int32.add_zero]
      exact ⟨rfl, rfl⟩
    · rw [y1, y2, y3, if_pos rfl, if_neg n12, b31, v7, nI_add, Int32.add_zero]
      exact ⟨rfl, rfl⟩
    · rw [y1, y2, y3, if_neg n01, if_neg n02, Int32.add_zero, Int32.add_zero]
      exact ⟨rfl, rfl⟩
  · obtain ⟨oo, T, o1, o2, o3⟩ := hO
    have ok : ∀ p, p < N → oo p ≠ k := fun p hp q => by
      obtain ⟨_, _, _, ⟨j', hj', e'⟩, _⟩ := o1 p hp
      rw [q, hl4] at e'
      exact znI_ne_m1 (a := j') (by omega) e'.symm
    refine ⟨fun p => if p = N then k else oo p, fun p => if p = N then N else T p, fun p hp => ?_, fun p p' h1 h2 => ?_, fun i hi h1 h2 => ?_⟩
    · dsimp only
      by_cases hpN : p = N
      · rw [if_pos hpN, if_pos hpN, hpN]
        refine ⟨by simp (disch := omega) only [zr_n, zr_e], hk, (p2 _ _ (by omega) (by omega) (by omega) (by omega)).trans hsg, ⟨j, by omega, p4⟩, p5.trans ht7, by omega, we, hwe1, v3, (p2 _ _ (by omega) (by omega) (by omega) (by omega)).trans v7⟩
      · rw [if_neg hpN, if_neg hpN]
        have hp' : p < N := by omega
        obtain ⟨a1, a2, a3, a4, a5, a6, a7⟩ := o1 p hp'
        have hne := ok p hp'
        rw [p2 _ 0 (by omega) (by omega) (by omega) (by omega), p2 _ 4 (by omega) (by omega) (by omega) (by omega), p2 _ 5 (by omega) (by omega) (by omega) (by omega), p2 _ 3 (by omega) (by omega) (by omega) (by omega)]
        simp (disch := omega) only [zr_n]
        exact ⟨a1, a2, a3, a4, a5, by omega, a7⟩
    · dsimp only
      rw [if_neg (show ¬ p = N by omega)]
      by_cases hpN : p' = N
      · rw [if_pos hpN]
        exact (o1 p (by omega)).2.2.2.2.2.1
      · rw [if_neg hpN]
        exact o2 p p' h1 (by omega)
    · by_cases hik : i = k
      · exact ⟨N, by omega, by dsimp only; rw [if_pos rfl, hik]⟩
      · rw [p2 _ _ (by omega) (by omega) (by omega) (by omega)] at h1 h2
        obtain ⟨p, hp, e'⟩ := o3 i hi h1 h2
        exact ⟨p, by omega, by dsimp only; rw [if_neg (show ¬ p = N by omega)]; exact e'⟩
end ZP10
