/-! pairs, part six: book -/
section ZP6
variable {c m : zSt} {nS nK nG nB nw : Nat}
/-- both fares -/
def zfare (k : Int32) : Int32 := if k = 0 then 2 else if k = 1 then 5 else if k = 2 then 8 else 20
theorem fare_eq (st : zSt) (k : Int32) : f_X6_fareFor st k = some (zfare k, st) := by
  unfold f_X6_fareFor zfare
  by_cases h0 : k = 0
  · rw [if_pos h0, if_pos h0]
  rw [if_neg h0, if_neg h0]
  by_cases h1 : k = 1
  · rw [if_pos h1, if_pos h1]
  rw [if_neg h1, if_neg h1]
  by_cases h2 : k = 2
  · rw [if_pos h2, if_pos h2]
  · rw [if_neg h2, if_neg h2]
/-- may be booked -/
def zbk (k l w d : Int32) : Int32 := if k = 0 then (if l = 0 ∧ w = 0 ∧ d = 0 then 1 else 0) else if zwi k 1 3 = 0 ∨ zwi l 1 40 = 0 ∨ zwi w 1 200 = 0 then 0 else 1
theorem bookable_eq (st : zSt) (k l w d : Int32) : f_X6_isBookable st k l w d = some (zbk k l w d, st) := by
  unfold f_X6_isBookable zbk
  by_cases h0 : k = 0
  · rw [if_pos h0, if_pos h0]
    by_cases h1 : l = 0
    · rw [if_pos h1]
      by_cases h2 : w = 0
      · rw [if_pos h2]
        by_cases h3 : d = 0
        · rw [if_pos h3, if_pos ⟨h1, h2, h3⟩]
        · rw [if_neg h3, if_neg (fun q => h3 q.2.2)]
      · rw [if_neg h2, if_neg (fun q => h2 q.2.1)]
    · rw [if_neg h1, if_neg (fun q => h1 q.1)]
  · rw [if_neg h0, if_neg h0, isWithin_eq, zbs]
    by_cases h1 : zwi k 1 3 = 0
    · rw [if_pos h1, if_pos (Or.inl h1)]
    · rw [if_neg h1, isWithin_eq, zbs]
      by_cases h2 : zwi l 1 40 = 0
      · rw [if_pos h2, if_pos (Or.inr (Or.inl h2))]
      · rw [if_neg h2, isWithin_eq, zbs]
        by_cases h3 : zwi w 1 200 = 0
        · rw [if_pos h3, if_pos (Or.inr (Or.inr h3))]
        · rw [if_neg h3, if_neg (fun q => q.elim h1 (fun q => q.elim h2 h3))]
theorem bk142 {v : Int32} (hv : ¬ v ≤ 0) (st : zSt) (a b c d e f : Int32) : f_X7_book_142 (zwI st 0 52 v) a b c d e f = some (0, zwI st 0 52 v) := by
  unfold f_X7_book_142
  rw [zr_e, if_neg hv]
/-- which kind, length and weight the reference takes -/
theorem bk33 {st : zSt} {nG nB : Nat} {p g : Nat} (k l w d : Int32) (h52 : st.1 0 52 = 0) (hg : g < 24) (h30 : st.1 0 30 = nI nB) (hl : nB ≤ 40) :
    (zbk k l w d = 0 ∧ f_X7_book_33 st (nI p) (nI g) k l w d = some (0, zwI st 0 52 2)) ∨
    (zbk k l w d = 1 ∧ (∃ ki le we : Nat, ki ≤ 3 ∧ le ≤ 40 ∧ (we ≤ 200 ∧ (ki = 0 ∨ 1 ≤ we)) ∧ k = nI ki ∧ l = nI le ∧ w = nI we) ∧
      ((¬ (st.1 22 g = 0 ∧ nB < 40) ∧ f_X7_book_33 st (nI p) (nI g) k l w d = some (0, zwI st 0 52 3)) ∨
       ((st.1 22 g = 0 ∧ nB < 40) ∧ f_X7_book_33 st (nI p) (nI g) k l w d = f_X7_book_142 (zwI st 0 52 0) (nI p) (nI g) k l w d))) := by
  have bad : f_X7_book_97 st (nI p) (nI g) k l w d 0 = some (0, zwI st 0 52 2) := by
    unfold f_X7_book_97
    rw [in_eq, zbs]
    by_cases h : zwi k 0 3 = 0
    · rw [if_pos h, zlet_eq, bk142 z2le0]
    · rw [if_neg h, if_pos rfl, zlet_eq, bk142 z2le0]
  have good : ¬ zwi k 0 3 = 0 → ((¬ (st.1 22 g = 0 ∧ nB < 40) ∧ f_X7_book_97 st (nI p) (nI g) k l w d 1 = some (0, zwI st 0 52 3)) ∨
       ((st.1 22 g = 0 ∧ nB < 40) ∧ f_X7_book_97 st (nI p) (nI g) k l w d 1 = f_X7_book_142 (zwI st 0 52 0) (nI p) (nI g) k l w d)) := fun h => by
    unfold f_X7_book_97
    rw [in_eq, zbs, if_neg h, if_neg z10, zif_in hg (by omega), ztN (by omega)]
    by_cases h1 : st.1 22 g = 0
    · rw [if_pos h1, h30]
      by_cases h2 : nB = 40
      · refine Or.inl ⟨fun q => by omega, ?_⟩
        rw [if_pos (show nI nB = 40 by rw [h2]; rfl), zlet_eq, bk142 z3le0]
      · refine Or.inr ⟨⟨h1, by omega⟩, ?_⟩
        rw [if_neg (show ¬ nI nB = 40 from fun q => h2 ((nI_eq (b := 40) (by omega) (by omega)).mp q)), zlet_eq]
    · refine Or.inl ⟨fun q => h1 q.1, ?_⟩
      rw [if_neg h1, zlet_eq, bk142 z3le0]
  unfold f_X7_book_33
  rw [if_pos h52]
  by_cases h0 : k = 0
  · rw [if_pos h0]
    unfold zbk
    rw [if_pos h0]
    by_cases h1 : l = 0
    · rw [if_pos h1]
      by_cases h2 : w = 0
      · rw [if_pos h2]
        by_cases h3 : d = 0
        · rw [if_pos h3, if_pos ⟨h1, h2, h3⟩]
          exact Or.inr ⟨rfl, ⟨0, 0, 0, by omega, by omega, ⟨by omega, Or.inl rfl⟩, h0, h1, h2⟩, good (by rw [h0]; decide)⟩
        · rw [if_neg h3, if_neg (fun q => h3 q.2.2)]
          exact Or.inl ⟨rfl, bad⟩
      · rw [if_neg h2, if_neg (fun q => h2 q.2.1)]
        exact Or.inl ⟨rfl, bad⟩
    · rw [if_neg h1, if_neg (fun q => h1 q.1)]
      exact Or.inl ⟨rfl, bad⟩
  · rw [if_neg h0, in_eq, zbs]
    unfold zbk
    rw [if_neg h0]
    by_cases h2 : zwi l 1 40 = 0
    · rw [if_pos h2, if_pos (Or.inr (Or.inl h2))]
      exact Or.inl ⟨rfl, bad⟩
    rw [if_neg h2, in_eq, zbs]
    by_cases h3 : zwi w 1 200 = 0
    · rw [if_pos h3, if_pos (Or.inr (Or.inr h3))]
      exact Or.inl ⟨rfl, bad⟩
    rw [if_neg h3]
    by_cases h1 : zwi k 1 3 = 0
    · rw [if_pos (Or.inl h1)]
      refine Or.inl ⟨rfl, ?_⟩
      have hk : zwi k 0 3 = 0 := by
        rcases zwi_01 k 0 3 with q | q
        · exact q
        · exfalso
          obtain ⟨j, _, hj, rfl⟩ := zwi_yes (a := k) (lo := 0) (hi := 3) (by omega) (by omega) (fun x => absurd (x.symm.trans q) (by decide))
          have : j ≠ 0 := fun x => h0 (by rw [x]; rfl)
          rw [show (1 : Int32) = nI 1 from rfl, show (3 : Int32) = nI 3 from rfl, zwi_in (by omega) (by omega) (by omega)] at h1
          exact absurd h1 (by decide)
      unfold f_X7_book_97
      rw [in_eq, zbs, if_pos hk, zlet_eq, bk142 z2le0]
    · rw [if_neg (fun q => q.elim h1 (fun q => q.elim h2 h3))]
      obtain ⟨ki, q1, q2, rfl⟩ := zwi_yes (lo := 1) (hi := 3) (by omega) (by omega) h1
      obtain ⟨le, q3, q4, rfl⟩ := zwi_yes (lo := 1) (hi := 40) (by omega) (by omega) h2
      obtain ⟨we, q5, q6, rfl⟩ := zwi_yes (lo := 1) (hi := 200) (by omega) (by omega) h3
      refine Or.inr ⟨rfl, ⟨ki, le, we, q2, q4, ⟨q6, Or.inr q5⟩, rfl, rfl, rfl⟩, good ?_⟩
      rw [z0, show (3 : Int32) = nI 3 from rfl, zwi_in (by omega) (by omega) (by omega)]
      exact z10
theorem bk349 {st : zSt} (h30 : st.1 0 30 = nI nB) (hnB : nB < 40) (v : Int32) : f_X7_book_349 st v = some (nI nB, zwI (zwL (zwL (zwI st 35 nB (v - st.1 34 nB)) 0 49 (st.2 0 49 + (st.1 34 nB).toInt64)) 0 50 (st.2 0 50 + (v - st.1 34 nB).toInt64)) 0 30 (nI (nB + 1))) := by
  unfold f_X7_book_349
  simp (disch := omega) only [↓zlet_eq, zif_in, ztN, h30, nI_1, zm1, zr_n, zr_e, zr_L1, zr_I2, zrL_n]
theorem bk326 {st : zSt} (h30 : st.1 0 30 = nI nB) (hnB : nB < 40) {v isl per : Int32} (hper : (isl = 0 ∧ per = v) ∨ (isl = 1 ∧ per = v / 2)) : f_X7_book_326 st v isl = some (nI nB, zwI (zwL (zwL (zwI (zwI st 34 nB per) 35 nB (v - per)) 0 49 (st.2 0 49 + per.toInt64)) 0 50 (st.2 0 50 + (v - per).toInt64)) 0 30 (nI (nB + 1))) := by
  have key : f_X7_book_326 st v isl = f_X7_book_349 (zwI st 34 nB per) v := by
    unfold f_X7_book_326
    rcases hper with ⟨h1, h2⟩ | ⟨h1, h2⟩
    · rw [if_pos h1, h30, zif_in hnB (by omega), zlet_eq, ztN (by omega), h2]
    · rw [if_neg (by rw [h1]; exact z10), h30, zif_in hnB (by omega), zlet_eq, ztN (by omega), h2]
  have h30' : (zwI st 34 nB per).1 0 30 = nI nB := by rw [zr_n (by omega)]; exact h30
  rw [key, bk349 h30' hnB v, zr_e, zr_I2]
theorem bk307 {st : zSt} (h30 : st.1 0 30 = nI nB) (hnB : nB < 40) {v isl : Int32} (hisl : isl = 0 ∨ isl = 1) : f_X7_book_307 st v isl = f_X7_book_326 (zwI st 33 nB isl) v isl := by
  unfold f_X7_book_307
  rw [h30, zif_in hnB (by omega), zif_in hnB (by omega), zlet_eq, zlet_eq, ztN (by omega)]
  rcases hisl with h | h
  · rw [if_pos h, h]
  · rw [if_neg (by rw [h]; exact z10), h]
theorem bk234 {st : zSt} (h30 : st.1 0 30 = nI nB) (hnB : nB < 40) {p g k l w d v isl : Int32} (hd : d = 0 ∨ d = 1) : f_X7_book_234 st p g k l w d v isl = f_X7_book_307 (zwI (zwI (zwI (zwI (zwI (zwI st 27 nB p) 28 nB (g + 1)) 29 nB k) 30 nB l) 31 nB w) 32 nB d) v isl := by
  unfold f_X7_book_234
  rcases hd with rfl | rfl <;> simp (disch := omega) only [↓zlet_eq, zif_in, ztN, h30, zr_n, z10, ↓reduceIte]
theorem pay_eq {st : zSt} {r : Nat} {v per : Int32} (h58 : 58 ≤ r) (hper : (st.1 r 10 = 0 ∧ per = v) ∨ (st.1 r 10 = 1 ∧ per = v / 2)) : f_X6_payFor st r v = some ((), zwL (zwL (zwI (zwI st r 7 per) r 8 (v - per)) 8 0 (st.2 8 0 + per.toInt64)) 8 1 (st.2 8 1 + (v - per).toInt64)) := by
  unfold f_X6_payFor f_X6_payFor_18
  rcases hper with ⟨h1, h2⟩ | ⟨h1, h2⟩
  · subst h2
    simp (disch := omega) only [↓zlet_eq, zc0, zc1, h1, zr_n, zr_e, zr_L1, zr_I2, zrL_n, ↓reduceIte]
  · subst h2
    simp (disch := omega) only [↓zlet_eq, zc0, zc1, h1, zr_n, zr_e, zr_L1, zr_I2, zrL_n, z10, ↓reduceIte]
set_option maxHeartbeats 16000000 in
/-- the record that both write -/
theorem bk_new (h5 : zR5 nS nK nG nB nw c m) (hnB : nB < 40) {p g : Nat} (hp10 : p < 10) (hgG : g < nG) (hst : c.1 (34 + g) 6 = 0) (h52 : m.1 0 52 = 0) {ki le we : Nat} (hki : ki ≤ 3) (hle : le ≤ 40) (hwe : we ≤ 200 ∧ (ki = 0 ∨ 1 ≤ we)) (d : Int32) (hd : d = 0 ∨ d = 1) (isl : Int32) (hisl : isl = 0 ∨ isl = 1) (fare : Int32) :
    ∃ c' m', f_X6_payFor (zwI (zwI (zwI (zwI (zwI (zwI (zwI c 0 14 (nI (nB + 1))) (58 + nB) 0 (nI g)) (58 + nB) 1 (nI ki)) (58 + nB) 2 (nI le)) (58 + nB) 3 (nI we)) (58 + nB) 9 d) (58 + nB) 10 isl) (58 + nB) fare = some ((), c') ∧ f_X7_book_234 m (nI p) (nI g) (nI ki) (nI le) (nI we) d fare isl = some (nI nB, m') ∧ m'.1 0 52 = 0 ∧ zR c' m' := by
  obtain ⟨hn, hs, hv, hw, hk, hh, hb, hp, hg, hgv, ho, hz, hB, hBv, hZ, ha⟩ := id h5
  obtain ⟨l1, l2, l3, l4, l5⟩ := hn.2.2
  have hm30 : m.1 0 30 = nI nB := hn.2.1.2.2.2.1
  have hZn := hZ nB (Nat.le_refl _) hnB
  obtain ⟨per, hper⟩ : ∃ per : Int32, (isl = 0 ∧ per = fare) ∨ (isl = 1 ∧ per = fare / 2) := by
    rcases hisl with h | h
    · exact ⟨_, Or.inl ⟨h, rfl⟩⟩
    · exact ⟨_, Or.inr ⟨h, rfl⟩⟩
  refine ⟨zwL (zwL (zwI (zwI (zwI (zwI (zwI (zwI (zwI (zwI (zwI c 0 14 (nI (nB + 1))) (58 + nB) 0 (nI g)) (58 + nB) 1 (nI ki)) (58 + nB) 2 (nI le)) (58 + nB) 3 (nI we)) (58 + nB) 9 d) (58 + nB) 10 isl) (58 + nB) 7 per) (58 + nB) 8 (fare - per)) 8 0 (c.2 8 0 + per.toInt64)) 8 1 (c.2 8 1 + (fare - per).toInt64),
    zwI (zwL (zwL (zwI (zwI (zwI (zwI (zwI (zwI (zwI (zwI (zwI m 27 nB (nI p)) 28 nB (nI (g + 1))) 29 nB (nI ki)) 30 nB (nI le)) 31 nB (nI we)) 32 nB d) 33 nB isl) 34 nB per) 35 nB (fare - per)) 0 49 (m.2 0 49 + per.toInt64)) 0 50 (m.2 0 50 + (fare - per).toInt64)) 0 30 (nI (nB + 1)), ?_, ?_, ?_, ?_⟩
  · rw [pay_eq (per := per) (by omega) (by rw [zr_e]; exact hper)]
    simp only [zr_I2]
  · rw [bk234 hm30 hnB hd, bk307 (by simp (disch := omega) only [zr_n]; exact hm30) hnB hisl, bk326 (by simp (disch := omega) only [zr_n]; exact hm30) hnB hper, nI_1]
    simp only [zr_I2]
  · simp (disch := omega) only [zr_n, zr_L1]
    exact h52
  · refine ⟨nS, nK, nG, nB + 1, nw, ⟨?_, ?_, ?_⟩, zRs_cg hs (by intros; first | rfl | simp (disch := omega) only [zr_n, zr_L1, zr_I2, zrL_n]) (by intros; first | rfl | simp (disch := omega) only [zr_n, zr_L1, zr_I2, zrL_n]) (by intros; first | rfl | simp (disch := omega) only [zr_n, zr_L1, zr_I2, zrL_n]) (by intros; first | rfl | simp (disch := omega) only [zr_n, zr_L1, zr_I2, zrL_n]), zRv_cg hv (by omega) (by intros; first | rfl | simp (disch := omega) only [zr_n, zr_L1, zr_I2, zrL_n]), zRw_cg hw (by intros; first | rfl | simp (disch := omega) only [zr_n, zr_L1, zr_I2, zrL_n]) (by intros; first | rfl | simp (disch := omega) only [zr_n, zr_L1, zr_I2, zrL_n]) (by intros; first | rfl | simp (disch := omega) only [zr_n, zr_L1, zr_I2, zrL_n]), zRk_cg hk (by omega) (by intros; first | rfl | simp (disch := omega) only [zr_n, zr_L1, zr_I2, zrL_n]) (by intros; first | rfl | simp (disch := omega) only [zr_n, zr_L1, zr_I2, zrL_n]) (by intros; first | rfl | simp (disch := omega) only [zr_n, zr_L1, zr_I2, zrL_n]), zRh_cg hh (by intro i hi; refine ⟨?_, ?_, ?_⟩ <;> first | rfl | simp (disch := omega) only [zr_n, zr_L1, zr_I2, zrL_n]) (by intros; first | rfl | simp (disch := omega) only [zr_n, zr_L1, zr_I2, zrL_n]), zRb_cg hb (by intros; first | rfl | simp (disch := omega) only [zr_n, zr_L1, zr_I2, zrL_n]) (by intros; first | rfl | simp (disch := omega) only [zr_n, zr_L1, zr_I2, zrL_n]) (by intros; first | rfl | simp (disch := omega) only [zr_n, zr_L1, zr_I2, zrL_n]), zRp_cg hp (by intros; first | rfl | simp (disch := omega) only [zr_n, zr_L1, zr_I2, zrL_n]) (by intros; first | rfl | simp (disch := omega) only [zr_n, zr_L1, zr_I2, zrL_n]), zRg_cg hg (by intros; first | rfl | simp (disch := omega) only [zr_n, zr_L1, zr_I2, zrL_n]) (by intros; first | rfl | simp (disch := omega) only [zr_n, zr_L1, zr_I2, zrL_n]), zRgv_cg hgv (by omega) (by intros; first | rfl | simp (disch := omega) only [zr_n, zr_L1, zr_I2, zrL_n]) (by intros; first | rfl | simp (disch := omega) only [zr_n, zr_L1, zr_I2, zrL_n]), zRo_cg ho (by intros; first | rfl | simp (disch := omega) only [zr_n, zr_L1, zr_I2, zrL_n]), zRz_cg hz (by intros; first | rfl | simp (disch := omega) only [zr_n, zr_L1, zr_I2, zrL_n]) (by intros; first | rfl | simp (disch := omega) only [zr_n, zr_L1, zr_I2, zrL_n]), ?_, ?_, ?_, ?_⟩
    · exact ⟨by simp (disch := omega) only [zr_n, zr_L1]; exact hn.1.1, by simp (disch := omega) only [zr_n, zr_L1]; exact hn.1.2.1, by simp (disch := omega) only [zr_n, zr_L1]; exact hn.1.2.2.1, by simp (disch := omega) only [zr_n, zr_L1, zr_e], by simp (disch := omega) only [zr_n, zr_L1]; exact hn.1.2.2.2.2⟩
    · exact ⟨by simp (disch := omega) only [zr_n, zr_L1]; exact hn.2.1.1, by simp (disch := omega) only [zr_n, zr_L1]; exact hn.2.1.2.1, by simp (disch := omega) only [zr_n, zr_L1]; exact hn.2.1.2.2.1, by simp (disch := omega) only [zr_n, zr_L1, zr_e], by simp (disch := omega) only [zr_n, zr_L1]; exact hn.2.1.2.2.2.2⟩
    · exact ⟨l1, l2, l3, by omega, l5⟩
    · intro k hk'
      by_cases hkn : k = nB
      · subst hkn
        have em : (0 : Int32) = -1 + 1 := by decide
        simp (disch := omega) only [zr_n, zr_e, zr_L1, hZn.1.1, hZn.1.2.1, hZn.1.2.2, hZn.2.1, hZn.2.2.1, hZn.2.2.2, nI_1, implies_true, and_true, true_and]
        exact em
      · simp (disch := omega) only [zr_n, zr_L1]
        exact hB k (by omega)
    · intro k hk'
      by_cases hkn : k = nB
      · subst hkn
        refine ⟨⟨ki, le, we, 0, hki, hle, hwe, by omega, ?_⟩, ?_, ?_, ?_, ?_, ?_, ?_, ?_, ?_⟩ <;> simp (disch := omega) only [zr_n, zr_e, zr_L1, hZn.1.1, hZn.1.2.1, hZn.1.2.2]
        · exact ⟨trivial, trivial, trivial, rfl⟩
        · exact hd
        · exact hisl
        · exact Or.inl trivial
        · exact Or.inr ⟨g, hgG, rfl⟩
        · exact Or.inl trivial
        · exact fun _ => trivial
        · exact fun q => absurd q (znI_ne_m1 (by omega))
        · exact fun q => absurd q (by decide)
      · obtain ⟨p1, p2, p3, p4, p5, p6, p7, p8, p9⟩ := hBv k (by omega)
        refine ⟨?_, ?_, ?_, ?_, ?_, ?_, ?_, ?_, fun q j hj e => ?_⟩
        · simp (disch := omega) only [zr_n, zr_L1]; exact p1
        · simp (disch := omega) only [zr_n, zr_L1]; exact p2
        · simp (disch := omega) only [zr_n, zr_L1]; exact p3
        · simp (disch := omega) only [zr_n, zr_L1]; exact p4
        · simp (disch := omega) only [zr_n, zr_L1]; exact p5
        · simp (disch := omega) only [zr_n, zr_L1]; exact p6
        · simp (disch := omega) only [zr_n, zr_L1]; exact p7
        · simp (disch := omega) only [zr_n, zr_L1]; exact p8
        · simp (disch := omega) only [zr_n, zr_L1] at q e ⊢
          exact p9 q j hj e
    · intro k hk1 hk2
      simp (disch := omega) only [zr_n, zr_L1]
      exact hZ k (by omega) hk2
    · refine ⟨?_, ?_, ?_⟩
      · simp (disch := omega) only [zr_I2, zrL_n, zrL_e, ha.1]
      · simp (disch := omega) only [zr_I2, zrL_n, zrL_e, ha.2.1]
      · simp (disch := omega) only [zr_I2, zrL_n]
        exact ha.2.2
theorem P_book (a0 a1 a2 a3 a4 a5 : Int32) (h01 : a5 = 0 ∨ a5 = 1) (hR : zR c m) : zPair [(1, 1), (2, 2), (3, 3)] (f_X6_book c a0 a1 a2 a3 a4 a5) (fx_X6_book c a0 a1 a2 a3 a4 a5) (f_X7_book m a0 a1 a2 a3 a4 a5) (fun r b : Int32 => r = b) := by
  obtain ⟨nS, nK, nG, nB, nw, h5⟩ := id hR
  obtain ⟨hn, hs, hv, hw, hk, hh, hb, hp, hg, hgv, ho, hz, hB, hBv, hZ, ha⟩ := id h5
  obtain ⟨l1, l2, l3, l4, l5⟩ := hn.2.2
  have hc13 : c.1 0 13 = nI nG := hn.1.2.2.1
  have hc14 : c.1 0 14 = nI nB := hn.1.2.2.2.1
  have hm19 : m.1 0 19 = nI nG := hn.2.1.2.2.1
  have hm30 : m.1 0 30 = nI nB := hn.2.1.2.2.2.1
  have b33 : f_X7_book_33 (zwI m 0 52 1) a0 a1 a2 a3 a4 a5 = some (0, zwI m 0 52 1) := by
    unfold f_X7_book_33
    rw [zr_e, if_neg z10, bk142 z1le0]
  rcases zIx a0 (n := 10) (by omega) with h | ⟨p, hp10, rfl⟩
  · refine zPair_x (k := 1) (v := 1) (c' := c) (b := 0) (m' := zwI m 0 52 1) (by simp) ?_ ?_ (zr_e _ _ _ _) (zR_th hR 1)
    · unfold fx_X6_book
      rw [show fx_X6_demandIndex c a0 10 = some (1, c) from dIx_no (n := 10) h, zorx_s]
    · unfold f_X7_book
      rw [in_eq, zbs, show zwi a0 0 9 = 0 from zidx_no (n := 10) (by omega) h, if_pos rfl, zlet_eq, b33]
  have d0 : f_X6_demandIndex c (nI p) 10 = some ((), c) := dI_yes (n := 10) hp10 (by omega)
  have d1 : fx_X6_demandIndex c (nI p) 10 = none := dIx_yes (n := 10) hp10 (by omega)
  have w0 : zwi (nI p) 0 9 = 1 := zidx_yes (n := 10) hp10 (by omega)
  rcases zIx a1 (n := nG) (by omega) with h | ⟨g, hgG, rfl⟩
  · refine zPair_x (k := 1) (v := 1) (c' := c) (b := 0) (m' := zwI m 0 52 1) (by simp) ?_ ?_ (zr_e _ _ _ _) (zR_th hR 1)
    · unfold fx_X6_book
      rw [d1, zorx_n, d0, zbs, kGx_no hc13 h, zorx_s]
    · unfold f_X7_book
      rw [in_eq, zbs, w0, if_neg z10, hm19, in_eq, zbs, zidx_no (by omega) h, if_pos rfl, zlet_eq, b33]
  have h5' := zR5_th h5 0
  have e52 : (zwI m 0 52 0).1 0 52 = 0 := zr_e _ _ _ _
  have e30 : (zwI m 0 52 0).1 0 30 = nI nB := by rw [zr_n (by omega)]; exact hm30
  have e22 : (zwI m 0 52 0).1 22 g = c.1 (34 + g) 6 := by rw [zr_n (by omega)]; exact (hg g hgG).2.2.2.2.2.1
  have en0 : f_X7_book m (nI p) (nI g) a2 a3 a4 a5 = f_X7_book_33 (zwI m 0 52 0) (nI p) (nI g) a2 a3 a4 a5 := by
    unfold f_X7_book
    rw [in_eq, zbs, w0, if_neg z10, hm19, in_eq, zbs, zidx_yes hgG (by omega), if_neg z10, zlet_eq]
  rw [en0]
  rcases bk33 (nG := nG) (p := p) (g := g) a2 a3 a4 a5 e52 (by omega) e30 l4 with ⟨q1, q2⟩ | ⟨q1, ⟨ki, le, we, hki, hle, hwe, rfl, rfl, rfl⟩, q2⟩
  · refine zPair_x (k := 2) (v := 2) (c' := c) (b := 0) (m' := zwI (zwI m 0 52 0) 0 52 2) (by simp) ?_ q2 (zr_e _ _ _ _) (zR_th (zR_th hR 0) 2)
    unfold fx_X6_book
    rw [d1, zorx_n, d0, zbs, kGx_yes hc13 hgG l3, zorx_n, kG_yes hc13 hgG l3, zbs, bookable_eq, zbs, q1, dAx_no, zorx_s]
  have q1' : ¬ zbk (nI ki) (nI le) (nI we) a5 = 0 := by rw [q1]; exact z10
  rw [e22] at q2
  rcases q2 with ⟨n1, q2⟩ | ⟨⟨y1, y2⟩, q2⟩
  · refine zPair_x (k := 3) (v := 3) (c' := c) (b := 0) (m' := zwI (zwI m 0 52 0) 0 52 3) (by simp) ?_ q2 (zr_e _ _ _ _) (zR_th (zR_th hR 0) 3)
    unfold fx_X6_book fx_X6_book_47
    rw [d1, zorx_n, d0, zbs, kGx_yes hc13 hgG l3, zorx_n, kG_yes hc13 hgG l3, zbs, bookable_eq, zbs, dAx_yes q1', zorx_n, dA_yes q1', zbs]
    by_cases h0 : c.1 (34 + g) 6 = 0
    · have : nB = 40 := by
        have := not_and.mp n1 h0
        omega
      rw [if_pos h0]
      dsimp only
      rw [hc14, if_pos (show (40 : Int32) ≤ nI nB from nI_le (a := 40) (by omega) (by omega))]
    · rw [if_neg h0]
  rw [q2]
  obtain ⟨s, f, t, hr, ds, e, z, bb, e0, e1, e2, e3, e4, e5, e6⟩ := zG2 h5 hgG
  obtain ⟨hpm, hpv⟩ := hp p hp10
  have kb : f_X6_knownBooking (zwI c 0 14 (nI (nB + 1))) (nI nB) = some (58 + nB, zwI c 0 14 (nI (nB + 1))) := kB_yes (zr_e _ _ _ _) (by omega) (by omega)
  have hlt : ¬ (40 : Int32) ≤ nI nB := nI_ge (b := 40) (by omega) (by omega)
  have isl : ∃ il : Int32, (il = 0 ∨ il = 1) ∧ (∀ x y : Option (Int32 × zSt), (if c.1 5 p = nI f then x else if c.1 5 p = nI t then x else y) = if il = 1 then x else y) := by
    by_cases h1 : c.1 5 p = nI f
    · exact ⟨1, Or.inr rfl, fun x y => by rw [if_pos h1, if_pos rfl]⟩
    · by_cases h2 : c.1 5 p = nI t
      · exact ⟨1, Or.inr rfl, fun x y => by rw [if_neg h1, if_pos h2, if_pos rfl]⟩
      · exact ⟨0, Or.inl rfl, fun x y => by rw [if_neg h1, if_neg h2, if_neg (by decide)]⟩
  obtain ⟨il, hil, hii⟩ := isl
  obtain ⟨c', m', w1, w2, w3, w4⟩ := bk_new (zR5_th h5' 0) y2 hp10 hgG y1 (zr_e _ _ _ _) hki hle hwe a5 h01 il hil (zfare (nI ki) * nI ds)
  refine zPair_ok (r := nI nB) (c' := c') (b := nI nB) (m' := m') ?_ ?_ w3 rfl w4
  · unfold f_X6_book f_X6_book_146
    rw [d0, zbs, kG_yes hc13 hgG l3, zbs, bookable_eq, zbs, dA_yes q1', zbs, if_pos y1]
    dsimp only
    rw [hc14, if_neg hlt, zlet_eq, nI_1, kb, zbs]
    simp (disch := omega) only [↓zlet_eq, if_pos h01, zif_in, ztN, zr_n, e1, e2, e5, fare_eq, zbs]
    rw [hii]
    rcases hil with rfl | rfl
    · rw [if_neg (by decide), w1, zbs]
    · rw [if_pos rfl, w1, zbs]
  · have y18 : (zwI (zwI m 0 52 0) 0 52 0).1 18 g = nI f := by simp (disch := omega) only [zr_n]; exact (hg g hgG).2.1.trans e1
    have y19 : (zwI (zwI m 0 52 0) 0 52 0).1 19 g = nI t := by simp (disch := omega) only [zr_n]; exact (hg g hgG).2.2.1.trans e2
    have y21 : (zwI (zwI m 0 52 0) 0 52 0).1 21 g = nI ds := by simp (disch := omega) only [zr_n]; exact (hg g hgG).2.2.2.2.1.trans e5
    have y16 : (zwI (zwI m 0 52 0) 0 52 0).1 16 p - 1 = c.1 5 p := by
      simp (disch := omega) only [zr_n]
      rw [hpm, Int32.add_sub_cancel]
    have e189 : ∀ fr : Int32, f_X7_book_189 (zwI (zwI m 0 52 0) 0 52 0) (nI p) (nI g) (nI ki) (nI le) (nI we) a5 fr = f_X7_book_234 (zwI (zwI m 0 52 0) 0 52 0) (nI p) (nI g) (nI ki) (nI le) (nI we) a5 fr il := fun fr => by
      have hx := hii (f_X7_book_234 (zwI (zwI m 0 52 0) 0 52 0) (nI p) (nI g) (nI ki) (nI le) (nI we) a5 fr 1) (f_X7_book_234 (zwI (zwI m 0 52 0) 0 52 0) (nI p) (nI g) (nI ki) (nI le) (nI we) a5 fr 0)
      have hy : (if il = 1 then f_X7_book_234 (zwI (zwI m 0 52 0) 0 52 0) (nI p) (nI g) (nI ki) (nI le) (nI we) a5 fr 1 else f_X7_book_234 (zwI (zwI m 0 52 0) 0 52 0) (nI p) (nI g) (nI ki) (nI le) (nI we) a5 fr 0) = f_X7_book_234 (zwI (zwI m 0 52 0) 0 52 0) (nI p) (nI g) (nI ki) (nI le) (nI we) a5 fr il := by
        rcases hil with rfl | rfl
        · rw [if_neg (by decide)]
        · rw [if_pos rfl]
      rw [← hy, ← hx]
      unfold f_X7_book_189
      simp (disch := omega) only [zif_in, ztN, y16, y18, y19]
      by_cases hm1 : c.1 5 p = -1
      · have n1 : ¬ c.1 5 p = nI f := fun q => znI_ne_m1 (a := f) (by omega) (q.symm.trans hm1)
        have n2 : ¬ c.1 5 p = nI t := fun q => znI_ne_m1 (a := t) (by omega) (q.symm.trans hm1)
        rw [if_pos hm1, if_neg n1, if_neg n2]
      · rw [if_neg hm1]
    rw [← w2, ← e189]
    unfold f_X7_book_142 zfare
    simp (disch := omega) only [zif_in, ztN, y21, zr_e, z00, ↓reduceIte]
    by_cases k0 : nI ki = 0
    · rw [if_pos k0, if_pos k0]
    rw [if_neg k0, if_neg k0]
    by_cases k1 : nI ki = 1
    · rw [if_pos k1, if_pos k1]
    rw [if_neg k1, if_neg k1]
    by_cases k2 : nI ki = 2
    · rw [if_pos k2, if_pos k2]
    · rw [if_neg k2, if_neg k2]
end ZP6
