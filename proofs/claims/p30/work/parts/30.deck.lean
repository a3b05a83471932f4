/-! pairs, part eight: the deck -/
section ZP8
variable {c m : zSt} {nS nK nG nB nw : Nat}
/-- which side of the ship a lane is on: 1 left, 2 right, 0 the middle -/
def zside (la : Nat) (v : Int32) : Int32 := if nI la - 1 ≤ 2 * v then (if 2 * v ≤ nI la - 1 then 0 else 2) else 1
def zlv (la : Nat) (v w : Int32) : Int32 := if zside la v = 1 then w else if zside la v = 2 then -w else 0
theorem zside_cs (la : Nat) (v : Int32) : zside la v = 0 ∨ zside la v = 1 ∨ zside la v = 2 := by
  unfold zside
  split
  · split
    · exact Or.inl rfl
    · exact Or.inr (Or.inr rfl)
  · exact Or.inr (Or.inl rfl)
theorem leanOf_eq {la : Nat} (h : c.1 11 2 = nI la) (v w : Int32) : f_X2_leanOf c v w = some (zlv la v w, c) := by
  unfold f_X2_leanOf zlv zside
  rw [h]
  by_cases h1 : nI la - 1 ≤ 2 * v
  · rw [if_pos h1, if_pos h1]
    by_cases h2 : 2 * v ≤ nI la - 1
    · rw [if_pos h2, if_pos h2, if_neg (by decide), if_neg (by decide)]
    · rw [if_neg h2, if_neg h2, if_neg (by decide), if_pos rfl]
  · rw [if_neg h1, if_neg h1, if_pos rfl]
theorem sideOf_eq {g s la : Nat} (hg : g < 24) (hs : s < 4) (h17 : m.1 17 g = nI s) (h2 : m.1 2 s = nI la) (v : Int32) : f_X7_sideOf m (nI g) v = some (zside la v, m) := by
  unfold f_X7_sideOf zside
  simp (disch := omega) only [zif_in, ztN, h17, h2]
  by_cases h1 : nI la - 1 ≤ 2 * v
  · rw [if_pos h1, if_pos h1]
    by_cases h3 : 2 * v ≤ nI la - 1
    · rw [if_pos h3, if_pos h3]
    · rw [if_neg h3, if_neg h3]
  · rw [if_neg h1, if_neg h1]
theorem diff_eq {g s la : Nat} (hg : g < 24) (hs : s < 4) (h17 : m.1 17 g = nI s) (h2 : m.1 2 s = nI la) (v w : Int32) : f_X7_difference m (nI g) v w = some (zabs ((m.1 25 g - m.1 26 g) + zlv la v w), m) := by
  unfold f_X7_difference f_X7_difference_46 zlv
  rw [sideOf_eq hg hs h17 h2, zbs, zif_in hg (by omega), zif_in hg (by omega), ztN (by omega)]
  have key : ∀ x : Int32, (if 0 ≤ x then some (x, m) else some (-x, m)) = some (zabs x, m) := fun x => by
    unfold zabs
    by_cases hx : 0 ≤ x
    · rw [if_pos hx, if_pos hx]
    · rw [if_neg hx, if_neg hx, Int32.zero_sub]
  by_cases h1 : zside la v = 1
  · rw [if_pos h1, if_pos h1]
    exact key _
  · rw [if_neg h1, if_neg h1]
    by_cases h3 : zside la v = 2
    · rw [if_pos h3, if_pos h3]
      exact key _
    · rw [if_neg h3, if_neg h3]
      exact key _
/-- is there something dangerous beside lane j -/
def zne (c : zSt) : Nat → Int32
  | 0 => if c.1 13 0 = 0 then (if c.1 13 1 = 0 then 0 else 1) else 1
  | 1 => if c.1 13 0 = 0 then (if c.1 13 1 = 0 then (if c.1 13 2 = 0 then 0 else 1) else 1) else 1
  | 2 => if c.1 13 1 = 0 then (if c.1 13 2 = 0 then (if c.1 13 3 = 0 then 0 else 1) else 1) else 1
  | _ => if c.1 13 2 = 0 then (if c.1 13 3 = 0 then 0 else 1) else 1
theorem near_eq {j : Nat} (hj : j < 4) : f_X2_isNearDangerous c (nI j) = some (zne c j, c) := by
  match j, hj with
  | 0, _ =>
    have : f_X2_isNearDangerous c (nI 0) = if c.1 13 0 = 0 then (if c.1 13 1 = 0 then some (0, c) else some (1, c)) else some (1, c) := rfl
    rw [this, zne]
    split <;> (try split) <;> rfl
  | 1, _ =>
    have : f_X2_isNearDangerous c (nI 1) = if c.1 13 0 = 0 then (if c.1 13 1 = 0 then (if c.1 13 2 = 0 then some (0, c) else some (1, c)) else some (1, c)) else some (1, c) := rfl
    rw [this, zne]
    split <;> (try split) <;> (try split) <;> rfl
  | 2, _ =>
    have : f_X2_isNearDangerous c (nI 2) = if c.1 13 1 = 0 then (if c.1 13 2 = 0 then (if c.1 13 3 = 0 then some (0, c) else some (1, c)) else some (1, c)) else some (1, c) := rfl
    rw [this, zne]
    split <;> (try split) <;> (try split) <;> rfl
  | 3, _ =>
    have : f_X2_isNearDangerous c (nI 3) = if c.1 13 2 = 0 then (if c.1 13 3 = 0 then some (0, c) else some (1, c)) else some (1, c) := rfl
    rw [this]
    show _ = some ((if c.1 13 2 = 0 then (if c.1 13 3 = 0 then 0 else 1) else 1 : Int32), c)
    split <;> (try split) <;> rfl
/-- the lane is free for the booking -/
abbrev zok (c : zSt) (k j : Nat) : Prop := ¬ c.1 11 3 < c.1 12 j + c.1 (58 + k) 2 ∧ (c.1 (58 + k) 9 = 0 ∨ zne c j = 0)
theorem zne01 (c : zSt) (j : Nat) : zne c j = 0 ∨ zne c j = 1 := by
  unfold zne
  split <;> (repeat' split) <;> first | exact Or.inl rfl | exact Or.inr rfl
/-- the lane that both choose, over the first n lanes -/
def zbl (c : zSt) (la k : Nat) : Nat → Int32
  | 0 => -1
  | n + 1 => if zok c k n ∧ (zbl c la k n = -1 ∨ ¬ zabs (c.1 11 8 + zlv la (zbl c la k n) (c.1 (58 + k) 3)) ≤ zabs (c.1 11 8 + zlv la (nI n) (c.1 (58 + k) 3))) then nI n else zbl c la k n
theorem zbl_spec (c : zSt) (la k : Nat) : ∀ n, zbl c la k n = -1 ∨ ∃ j : Nat, j < n ∧ zbl c la k n = nI j ∧ zok c k j
  | 0 => Or.inl rfl
  | n + 1 => by
    rw [zbl]
    split
    · rename_i h
      exact Or.inr ⟨n, by omega, rfl, h.1⟩
    · exact (zbl_spec c la k n).imp_right (fun ⟨j, h1, h2⟩ => ⟨j, by omega, h2⟩)
theorem best_lp {la k : Nat} (h2 : c.1 11 2 = nI la) (hla : la ≤ 4) : ∀ (r n i : Nat) (v lv : Int32), i + r = la → r < n → v = zbl c la k i → (¬ v = -1 → lv = zabs (c.1 11 8 + zlv la v (c.1 (58 + k) 3))) → f_X2_bestLane_40 n c (58 + k) v lv (nI i) = some (zbl c la k la, c)
  | 0, n + 1, i, v, lv, hi, _, hv, _ => by
    rw [f_X2_bestLane_40, h2, zif_le (by omega) (by omega), hv, show i = la by omega]
  | r + 1, n + 1, i, v, lv, hi, hr, hv, hlv => by
    have ih := best_lp (k := k) h2 hla r n (i + 1)
    have ih := fun v lv => ih v lv (by omega) (by omega)
    rw [f_X2_bestLane_40, h2, zif_nle (by omega) (by omega), if_neg (show ¬ (4 : Int32) ≤ nI i from nI_ge (b := 4) (by omega) (by omega)), leanOf_eq h2, zbs, zif_in (by omega) (by omega), ztN (by omega)]
    dsimp only
    have skip : ¬ (zok c k i ∧ (zbl c la k i = -1 ∨ ¬ zabs (c.1 11 8 + zlv la (zbl c la k i) (c.1 (58 + k) 3)) ≤ zabs (c.1 11 8 + zlv la (nI i) (c.1 (58 + k) 3)))) → f_X2_bestLane_40 n c (58 + k) v lv (nI i + 1) = some (zbl c la k la, c) := fun hq => by
      rw [nI_1]
      exact ih v lv (by rw [zbl, if_neg hq]; exact hv) hlv
    -- the last tests, once room and safety are known
    have t124 : ∀ a b : Int32, ((a = 1 ∧ b = 1 ∧ zok c k i) ∨ ((a = 0 ∨ b = 0) ∧ ¬ zok c k i)) → f_X2_bestLane_124 (fun st r1 v2 v3 v4 => f_X2_bestLane_40 n st r1 v2 v3 v4) c (58 + k) v lv (nI i) (zabs (c.1 11 8 + zlv la (nI i) (c.1 (58 + k) 3))) a b = some (zbl c la k la, c) := fun a b hab => by
      unfold f_X2_bestLane_124 f_X2_bestLane_145
      rcases hab with ⟨ha, hb, hok⟩ | ⟨hab, hok⟩
      · rw [ha, hb, if_neg z10, if_neg z10]
        by_cases hv1 : v = -1
        · rw [if_pos hv1, nI_1]
          exact ih _ _ (by rw [zbl, if_pos ⟨hok, Or.inl (hv.symm.trans hv1)⟩]) (fun _ => rfl)
        · rw [if_neg hv1]
          by_cases hle : lv ≤ zabs (c.1 11 8 + zlv la (nI i) (c.1 (58 + k) 3))
          · rw [if_pos hle]
            exact skip (fun q => q.2.elim (fun q => hv1 (hv.trans q)) (fun q => q (by rw [← hv, ← hlv hv1]; exact hle)))
          · rw [if_neg hle, nI_1]
            exact ih _ _ (by rw [zbl, if_pos ⟨hok, Or.inr (by rw [← hv, ← hlv hv1]; exact hle)⟩]) (fun _ => rfl)
      · have hsk := skip (fun q => hok q.1)
        by_cases ha : a = 0
        · rw [if_pos ha]
          exact hsk
        · rw [if_neg ha, if_pos (hab.resolve_left ha)]
          exact hsk
    have t101 : ∀ a : Int32, ((a = 1 ∧ ¬ c.1 11 3 < c.1 12 i + c.1 (58 + k) 2) ∨ (a = 0 ∧ c.1 11 3 < c.1 12 i + c.1 (58 + k) 2)) → f_X2_bestLane_101 (fun st r1 v2 v3 v4 => f_X2_bestLane_40 n st r1 v2 v3 v4) c (58 + k) v lv (nI i) (zabs (c.1 11 8 + zlv la (nI i) (c.1 (58 + k) 3))) a = some (zbl c la k la, c) := fun a ha => by
      unfold f_X2_bestLane_101 f_X2_bestLane_117
      by_cases h9 : c.1 (58 + k) 9 = 0
      · rw [if_pos h9]
        rcases ha with ⟨ha, hr'⟩ | ⟨ha, hr'⟩
        · exact t124 a 1 (Or.inl ⟨ha, rfl, hr', Or.inl h9⟩)
        · exact t124 a 1 (Or.inr ⟨Or.inl ha, fun q => q.1 hr'⟩)
      · rw [if_neg h9, near_eq (by omega), zbs]
        by_cases hn : zne c i = 0
        · rw [if_pos hn]
          rcases ha with ⟨ha, hr'⟩ | ⟨ha, hr'⟩
          · exact t124 a 1 (Or.inl ⟨ha, rfl, hr', Or.inr hn⟩)
          · exact t124 a 1 (Or.inr ⟨Or.inl ha, fun q => q.1 hr'⟩)
        · rw [if_neg hn]
          exact t124 a 0 (Or.inr ⟨Or.inr rfl, fun q => q.2.elim h9 hn⟩)
    by_cases hroom : c.1 11 3 < c.1 12 i + c.1 (58 + k) 2
    · rw [if_pos hroom]
      exact t101 0 (Or.inr ⟨rfl, hroom⟩)
    · rw [if_neg hroom]
      exact t101 1 (Or.inl ⟨rfl, hroom⟩)
/-- the deck's lanes, on both sides -/
def zLn (c m : zSt) (N : Nat) : Prop := ∀ j, j < 4 → c.1 12 j = m.1 39 j ∧ ∃ x : Nat, x ≤ N ∧ m.1 40 j = nI x ∧ ((c.1 13 j = 0 ∧ x = 0) ∨ (c.1 13 j = 1 ∧ 0 < x))
theorem ln_b {N j : Nat} (hL : zLn c m N) (hN : N ≤ 1000) (hj : j < 4) : (c.1 13 j = 0 ∧ ¬ 0 < m.1 40 j ∧ m.1 40 j ≤ 0) ∨ (c.1 13 j = 1 ∧ 0 < m.1 40 j ∧ ¬ m.1 40 j ≤ 0) := by
  obtain ⟨_, x, hx, e, h⟩ := hL j hj
  rw [e, zlt_i, zle_i, zti (by omega), zti0]
  rcases h with ⟨h1, h2⟩ | ⟨h1, h2⟩
  · exact Or.inl ⟨h1, by omega, by omega⟩
  · exact Or.inr ⟨h1, by omega, by omega⟩
theorem fits_eq {g s k j N : Nat} (hg : g < 24) (hs : s < 4) (hk : k < 40) (hj : j < 4) (hN : N ≤ 1000) (h17 : m.1 17 g = nI s) (h3 : c.1 11 3 = m.1 3 s) (h6 : c.1 11 6 = m.1 0 48) (hL : zLn c m N) (hb : m.1 30 k = c.1 (58 + k) 2 ∧ m.1 32 k = c.1 (58 + k) 9) : ∃ b : Int32, f_X7_fits m (nI g) (nI k) (nI j) = some (b, m) ∧ ((¬ b = 0 ∧ zok c k j ∧ (c.1 (58 + k) 9 = 0 ∨ ¬ 2 ≤ c.1 11 6)) ∨ (b = 0 ∧ ¬ (zok c k j ∧ (c.1 (58 + k) 9 = 0 ∨ ¬ 2 ≤ c.1 11 6)))) := by
  have h39 := (hL j hj).1
  have t76 : ∃ r : Int32, f_X7_fits_76 m (nI k) (zne c j) = some (r, m) ∧ ((¬ r = 0 ∧ (c.1 (58 + k) 9 = 0 ∨ zne c j = 0) ∧ (c.1 (58 + k) 9 = 0 ∨ ¬ 2 ≤ c.1 11 6)) ∨ (r = 0 ∧ ¬ ((c.1 (58 + k) 9 = 0 ∨ zne c j = 0) ∧ (c.1 (58 + k) 9 = 0 ∨ ¬ 2 ≤ c.1 11 6)))) := by
    unfold f_X7_fits_76
    rw [zif_in hk (by omega), ztN (by omega), hb.2, ← h6]
    by_cases h9 : c.1 (58 + k) 9 = 0
    · exact ⟨1, by rw [if_pos h9], Or.inl ⟨z10, Or.inl h9, Or.inl h9⟩⟩
    · rw [if_neg h9]
      by_cases h2 : 2 ≤ c.1 11 6
      · exact ⟨0, by rw [if_pos h2], Or.inr ⟨rfl, fun q => q.2.elim h9 (fun q => q h2)⟩⟩
      · rw [if_neg h2]
        by_cases hn : zne c j = 0
        · exact ⟨1, by rw [if_pos hn], Or.inl ⟨z10, Or.inr hn, Or.inr h2⟩⟩
        · exact ⟨0, by rw [if_neg hn], Or.inr ⟨rfl, fun q => q.1.elim h9 hn⟩⟩
  obtain ⟨r, r1, r2⟩ := t76
  unfold f_X7_fits
  simp (disch := omega) only [zif_in, ztN, h17, ← h3, ← h39, hb.1]
  by_cases hroom : c.1 11 3 < c.1 12 j + c.1 (58 + k) 2
  · have hn : ¬ c.1 12 j + c.1 (58 + k) 2 ≤ c.1 11 3 := by rw [zle_i]; rw [zlt_i] at hroom; omega
    exact ⟨0, by rw [if_neg hn], Or.inr ⟨rfl, fun q => q.1.1 hroom⟩⟩
  · have hn : c.1 12 j + c.1 (58 + k) 2 ≤ c.1 11 3 := by rw [zle_i]; rw [zlt_i] at hroom; omega
    refine ⟨r, ?_, ?_⟩
    · rw [if_pos hn]
      refine Eq.trans ?_ r1
      have b0 := ln_b hL hN (j := 0) (by omega)
      have b1 := ln_b hL hN (j := 1) (by omega)
      have b2 := ln_b hL hN (j := 2) (by omega)
      have b3 := ln_b hL hN (j := 3) (by omega)
      match j, hj with
      | 0, _ =>
        rcases b0 with ⟨p1, p2, p3⟩ | ⟨p1, p2, p3⟩ <;> rcases b1 with ⟨q1, q2, q3⟩ | ⟨q1, q2, q3⟩ <;>
          simp (disch := omega) only [zne, f_X7_fits_69, f_X7_fits_53, f_X7_fits_73, p1, p2, p3, q1, q2, q3, nI_1, zif_in, ztN, show nI 0 ≤ (0 : Int32) from by decide, show ¬ (3 : Int32) ≤ nI 0 from by decide, z10, ↓reduceIte]
      | 1, _ =>
        rcases b0 with ⟨p1, p2, p3⟩ | ⟨p1, p2, p3⟩ <;> rcases b1 with ⟨q1, q2, q3⟩ | ⟨q1, q2, q3⟩ <;> rcases b2 with ⟨s1, s2, s3⟩ | ⟨s1, s2, s3⟩ <;>
          simp (disch := omega) only [zne, f_X7_fits_69, f_X7_fits_53, f_X7_fits_73, p1, p2, p3, q1, q2, q3, s1, s2, s3, nI_1, show nI 1 - 1 = nI 0 from zm1 0, zif_in, ztN, show ¬ nI 1 ≤ (0 : Int32) from by decide, show ¬ (3 : Int32) ≤ nI 1 from by decide, z10, ↓reduceIte]
      | 2, _ =>
        rcases b1 with ⟨p1, p2, p3⟩ | ⟨p1, p2, p3⟩ <;> rcases b2 with ⟨q1, q2, q3⟩ | ⟨q1, q2, q3⟩ <;> rcases b3 with ⟨s1, s2, s3⟩ | ⟨s1, s2, s3⟩ <;>
          simp (disch := omega) only [zne, f_X7_fits_69, f_X7_fits_53, f_X7_fits_73, p1, p2, p3, q1, q2, q3, s1, s2, s3, nI_1, show nI 2 - 1 = nI 1 from zm1 1, zif_in, ztN, show ¬ nI 2 ≤ (0 : Int32) from by decide, show ¬ (3 : Int32) ≤ nI 2 from by decide, z10, ↓reduceIte]
      | 3, _ =>
        rcases b2 with ⟨p1, p2, p3⟩ | ⟨p1, p2, p3⟩ <;> rcases b3 with ⟨q1, q2, q3⟩ | ⟨q1, q2, q3⟩ <;>
          simp (disch := omega) only [zne, f_X7_fits_69, f_X7_fits_53, f_X7_fits_73, p1, p2, p3, q1, q2, q3, nI_1, show nI 3 - 1 = nI 2 from zm1 2, zif_in, ztN, show ¬ nI 3 ≤ (0 : Int32) from by decide, show (3 : Int32) ≤ nI 3 from by decide, z10, ↓reduceIte]
    · rcases r2 with ⟨y1, y2, y3⟩ | ⟨y1, y2⟩
      · exact Or.inl ⟨y1, ⟨hroom, y2⟩, y3⟩
      · exact Or.inr ⟨y1, fun q => y2 ⟨q.1.2, q.2⟩⟩
/-- the reference's search: the same lane -/
theorem take_lp {g s la k N : Nat} (hg : g < 24) (hs : s < 4) (hk : k < 40) (hN : N ≤ 1000) (hla : la ≤ 4) (h17 : m.1 17 g = nI s) (h2 : m.1 2 s = nI la) (h3 : c.1 11 3 = m.1 3 s) (h6 : c.1 11 6 = m.1 0 48) (h8 : c.1 11 8 = m.1 25 g - m.1 26 g) (hL : zLn c m N) (hb : m.1 30 k = c.1 (58 + k) 2 ∧ m.1 32 k = c.1 (58 + k) 9) (h31 : m.1 31 k = c.1 (58 + k) 3) (hD : c.1 (58 + k) 9 = 0 ∨ ¬ 2 ≤ c.1 11 6) : ∀ (r n i : Nat) (v : Int32), i + r = la → r < n → v = zbl c la k i → f_X7_takes_22 n m (nI g) (nI k) v (nI i) = f_X7_takes_22 (0 + 1) m (nI g) (nI k) (zbl c la k la) (nI la)
  | 0, n + 1, i, v, hi, _, hv => by
    have hi' : i = la := by omega
    subst hi'
    rw [f_X7_takes_22, f_X7_takes_22]
    simp (disch := omega) only [zif_in, ztN, h17, h2]
    rw [zif_le (Nat.le_refl _) (by omega), zif_le (Nat.le_refl _) (by omega), hv]
  | r + 1, n + 1, i, v, hi, hr, hv => by
    have ih := take_lp hg hs hk hN hla h17 h2 h3 h6 h8 hL hb h31 hD r n (i + 1)
    have ih := fun v => ih v (by omega) (by omega)
    generalize f_X7_takes_22 (0 + 1) m (nI g) (nI k) (zbl c la k la) (nI la) = T at ih ⊢
    rw [f_X7_takes_22]
    simp (disch := omega) only [zif_in, ztN, h17, h2, zif_nle, diff_eq hg hs h17 h2, zbs, h31, ← h8]
    obtain ⟨b, b1, b2⟩ := fits_eq (j := i) hg hs hk (by omega) hN h17 h3 h6 hL hb
    have skip : ¬ (zok c k i ∧ (zbl c la k i = -1 ∨ ¬ zabs (c.1 11 8 + zlv la (zbl c la k i) (c.1 (58 + k) 3)) ≤ zabs (c.1 11 8 + zlv la (nI i) (c.1 (58 + k) 3)))) → f_X7_takes_22 n m (nI g) (nI k) v (nI (i + 1)) = T := fun hq => ih v (by rw [zbl, if_neg hq]; exact hv)
    have t71 : (zok c k i → (zbl c la k i = -1 ∨ ¬ zabs (c.1 11 8 + zlv la (zbl c la k i) (c.1 (58 + k) 3)) ≤ zabs (c.1 11 8 + zlv la (nI i) (c.1 (58 + k) 3)))) → f_X7_takes_71 (fun st v1 v2 v3 v4 => f_X7_takes_22 n st v1 v2 v3 v4) m (nI g) (nI k) v (nI i) = T := fun hq => by
      unfold f_X7_takes_71 f_X7_takes_78
      rw [if_neg z10, b1, zbs, nI_1]
      rcases b2 with ⟨y1, y2, _⟩ | ⟨y1, y2⟩
      · rw [if_neg y1]
        exact ih _ (by rw [zbl, if_pos ⟨y2, hq y2⟩])
      · rw [if_pos y1]
        exact skip (fun q => y2 ⟨q.1, hD⟩)
    by_cases hv1 : v = -1
    · rw [if_pos hv1]
      exact t71 (fun _ => Or.inl (hv.symm.trans hv1))
    · rw [if_neg hv1]
      by_cases hle : zabs (c.1 11 8 + zlv la v (c.1 (58 + k) 3)) ≤ zabs (c.1 11 8 + zlv la (nI i) (c.1 (58 + k) 3))
      · rw [if_pos hle]
        unfold f_X7_takes_78
        rw [if_pos rfl, nI_1]
        exact skip (fun q => q.2.elim (fun q => hv1 (hv.trans q)) (fun q => q (by rw [← hv]; exact hle)))
      · rw [if_neg hle]
        exact t71 (fun _ => Or.inr (by rw [← hv]; exact hle))
/-- a third dangerous one finds no lane in the reference either -/
theorem take_lp0 {g s la k N : Nat} (hg : g < 24) (hs : s < 4) (hk : k < 40) (hN : N ≤ 1000) (hla : la ≤ 4) (h17 : m.1 17 g = nI s) (h2 : m.1 2 s = nI la) (h3 : c.1 11 3 = m.1 3 s) (h6 : c.1 11 6 = m.1 0 48) (hL : zLn c m N) (hb : m.1 30 k = c.1 (58 + k) 2 ∧ m.1 32 k = c.1 (58 + k) 9) (hD : ¬ (c.1 (58 + k) 9 = 0 ∨ ¬ 2 ≤ c.1 11 6)) : ∀ (r n i : Nat), i + r = la → r < n → f_X7_takes_22 n m (nI g) (nI k) (-1) (nI i) = some ((), m)
  | 0, n + 1, i, hi, _ => by
    rw [f_X7_takes_22]
    simp (disch := omega) only [zif_in, ztN, h17, h2]
    rw [zif_le (by omega) (by omega), if_pos trivial]
  | r + 1, n + 1, i, hi, hr => by
    have ih := take_lp0 hg hs hk hN hla h17 h2 h3 h6 hL hb hD r n (i + 1) (by omega) (by omega)
    rw [f_X7_takes_22]
    simp (disch := omega) only [zif_in, ztN, h17, h2, zif_nle]
    obtain ⟨b, b1, b2⟩ := fits_eq (j := i) hg hs hk (by omega) hN h17 h3 h6 hL hb
    rw [if_pos trivial]
    unfold f_X7_takes_71 f_X7_takes_78
    rw [if_neg z10, b1, zbs, nI_1]
    rcases b2 with ⟨y1, y2, y3⟩ | ⟨y1, y2⟩
    · exact absurd y3 hD
    · rw [if_pos y1]
      exact ih
end ZP8
