/-! pairs, part eleven: all bookings of a sailing are taken, islanders first -/
section ZP11
variable {c c' m m' : zSt} {nS nK nG nB nw : Nat}
def zct (c : zSt) (g : Nat) (v : Int32) : Nat → Nat
  | 0 => 0
  | n + 1 => if c.1 (58 + n) 0 = nI g ∧ c.1 (58 + n) 10 = v then zct c g v n + 1 else zct c g v n
theorem zct_cg {g : Nat} {v : Int32} : ∀ n, (∀ k, k < n → c'.1 (58 + k) 0 = c.1 (58 + k) 0 ∧ c'.1 (58 + k) 10 = c.1 (58 + k) 10) → zct c' g v n = zct c g v n
  | 0, _ => rfl
  | n + 1, h => by
    obtain ⟨h1, h2⟩ := h n (by omega)
    rw [zct, zct, h1, h2, zct_cg n (fun k hk => h k (by omega))]
theorem zct_mono {g : Nat} {v : Int32} {i : Nat} : ∀ n, i ≤ n → zct c g v i ≤ zct c g v n
  | 0, h => by rw [show i = 0 by omega]; exact Nat.le_refl _
  | n + 1, h => by
    by_cases hi : i = n + 1
    · rw [hi]; exact Nat.le_refl _
    · have := zct_mono (g := g) (v := v) n (show i ≤ n by omega)
      rw [zct]
      split <;> omega
theorem zct_sum {g : Nat} : ∀ n, zct c g 1 n + zct c g 0 n ≤ n
  | 0 => Nat.le_refl _
  | n + 1 => by
    have := zct_sum (g := g) n
    rw [zct, zct]
    by_cases h1 : c.1 (58 + n) 0 = nI g ∧ c.1 (58 + n) 10 = 1
    · rw [if_pos h1, if_neg (fun q => absurd (q.2.symm.trans h1.2) (by decide))]
      omega
    · rw [if_neg h1]
      split <;> omega
theorem zThose {g s la : Nat} (hgG : g < nG) {v ph : Int32} (hv : 1 - ph = v) (N0 : Nat) : ∀ (r n i : Nat) (c m : zSt) (N : Nat), zT c m nS nK nG nB nw g s la N → i + r = nB → r < n → N ≤ N0 + zct c g v i → N0 + zct c g v nB ≤ 40 → (∀ k, i ≤ k → k < nB → c.1 (58 + k) 0 = nI g → c.1 (58 + k) 10 = v → c.1 (58 + k) 4 = -1) → ∃ c' m' N', f_X6_takeThose_2 n c (nI g) v (nI i) = some ((), c') ∧ (∀ K, f_X7_sails_109 K n m (nI g) ph (nI i) = K m' (nI g) (ph + 1)) ∧ zT c' m' nS nK nG nB nw g s la N' ∧ N' ≤ N0 + zct c g v nB ∧ (∀ q j, q < 11 ∨ 14 ≤ q → q < 58 ∨ (j ≠ 4 ∧ j ≠ 5 ∧ j ≠ 11) → c'.1 q j = c.1 q j) ∧ (∀ k, ¬ c.1 (58 + k) 10 = v → c'.1 (58 + k) 4 = c.1 (58 + k) 4) ∧ c'.2 = c.2
  | 0, n + 1, i, c, m, N, hT, hi, _, hN, h40, hl => by
    have lB : nB ≤ 40 := hT.1.1.2.2.2.2.2.1
    have lG : nG ≤ 24 := hT.1.1.2.2.2.2.1
    have hc14 := hT.1.1.1.2.2.2.1
    rw [zr_n (by omega)] at hc14
    refine ⟨c, m, N, ?_, fun K => ?_, hT, by rw [show nB = i by omega]; exact hN, fun _ _ _ _ => rfl, fun _ _ => rfl, rfl⟩
    · rw [f_X6_takeThose_2, hc14, zif_le (by omega) (by omega)]
    · rw [f_X7_sails_109, hT.1.1.2.1.2.2.2.1, zif_le (by omega) (by omega)]
  | r + 1, n + 1, i, c, m, N, hT, hi, hr, hN, h40, hl => by
    have lB : nB ≤ 40 := hT.1.1.2.2.2.2.2.1
    have lG : nG ≤ 24 := hT.1.1.2.2.2.2.1
    have hc14 := hT.1.1.1.2.2.2.1
    rw [zr_n (by omega)] at hc14
    have hBi := hT.1.2.2.2.2.2.2.2.2.2.2.2.2.1 i (by omega)
    have e28 : m.1 28 i = c.1 (58 + i) 0 + 1 := by have := hBi.1; rw [zr_n (by omega)] at this; exact this
    have e33 : m.1 33 i = c.1 (58 + i) 10 := by have := hBi.2.2.2.2.2.1; rw [zr_n (by omega)] at this; exact this
    have hiff : (c.1 (58 + i) 0 + 1 = nI (g + 1)) ↔ c.1 (58 + i) 0 = nI g := by
      rw [← nI_1]
      exact Int32.add_left_inj 1
    have ih := zThose (s := s) (la := la) hgG hv N0 r n (i + 1)
    rw [f_X6_takeThose_2, hc14, zif_nle (by omega) (by omega), kB_yes hc14 (by omega) lB, zbs, nI_1]
    have eM : ∀ K, f_X7_sails_109 K (n + 1) m (nI g) ph (nI i) = (if c.1 (58 + i) 0 + 1 = nI (g + 1) then (if c.1 (58 + i) 10 = v then ((f_X7_takes m (nI g) (nI i)).bind fun q44 => f_X7_sails_109 K n q44.2 (nI g) ph (nI (i + 1))) else f_X7_sails_109 K n m (nI g) ph (nI (i + 1))) else f_X7_sails_109 K n m (nI g) ph (nI (i + 1))) := fun K => by
      rw [f_X7_sails_109, hT.1.1.2.1.2.2.2.1, zif_nle (by omega) (by omega)]
      simp (disch := omega) only [zif_in, ztN, e28, e33, nI_1, hv]
    dsimp only
    have skip : ¬ (c.1 (58 + i) 0 = nI g ∧ c.1 (58 + i) 10 = v) → ∃ c' m' N', f_X6_takeThose_2 n c (nI g) v (nI (i + 1)) = some ((), c') ∧ (∀ K, f_X7_sails_109 K n m (nI g) ph (nI (i + 1)) = K m' (nI g) (ph + 1)) ∧ zT c' m' nS nK nG nB nw g s la N' ∧ N' ≤ N0 + zct c g v nB ∧ (∀ q j, q < 11 ∨ 14 ≤ q → q < 58 ∨ (j ≠ 4 ∧ j ≠ 5 ∧ j ≠ 11) → c'.1 q j = c.1 q j) ∧ (∀ k, ¬ c.1 (58 + k) 10 = v → c'.1 (58 + k) 4 = c.1 (58 + k) 4) ∧ c'.2 = c.2 := fun hq =>
      ih c m N hT (by omega) (by omega) (by rw [zct, if_neg hq]; exact hN) h40 (fun k h1 h2 => hl k (by omega) h2)
    by_cases h1 : c.1 (58 + i) 0 = nI g
    · rw [if_pos h1]
      by_cases h2 : c.1 (58 + i) 10 = v
      · rw [if_pos h2]
        have hct : zct c g v (i + 1) = zct c g v i + 1 := by rw [zct, if_pos ⟨h1, h2⟩]
        have hmo := zct_mono (c := c) (g := g) (v := v) nB (show i + 1 ≤ nB by omega)
        obtain ⟨c1, m1, N1, x1, x2, x3, x4, x5, x6⟩ := zTake hT hgG (show i < nB by omega) h1 (hl i (Nat.le_refl _) (by omega) h1 h2) (by omega)
        have hz : ∀ n, zct c1 g v n = zct c g v n := fun n => zct_cg n (fun k _ => ⟨x5 _ _ (by omega) (by omega), x5 _ _ (by omega) (by omega)⟩)
        obtain ⟨c', m', N', y1, y2, y3, y4, y5, y6, y7⟩ := ih c1 m1 N1 x3 (by omega) (by omega) (by rw [hz, hct]; omega) (by rw [hz]; exact h40) (fun k a1 a2 a3 a4 => by
          rw [x5 _ _ (by omega) (by omega)] at a3 a4 ⊢
          exact hl k (by omega) a2 a3 a4)
        refine ⟨c', m', N', ?_, fun K => ?_, y3, by rw [hz] at y4; exact y4, fun q j a1 a2 => (y5 q j a1 a2).trans (x5 q j a1 (by omega)), fun k a1 => ?_, y7.trans x6⟩
        · rw [x1, zbs]
          exact y1
        · rw [eM, if_pos (hiff.mpr h1), if_pos h2, x2, zbs]
          exact y2 K
        · have hki : ¬ k = i := fun q => a1 (by rw [q]; exact h2)
          have e := x5 (58 + k) 4 (by omega) (by omega)
          rw [← e]
          exact y6 k (by rw [x5 _ _ (by omega) (by omega)]; exact a1)
      · rw [if_neg h2]
        obtain ⟨c', m', N', y1, y2, y3⟩ := skip (fun q => h2 q.2)
        exact ⟨c', m', N', y1, fun K => by rw [eM, if_pos (hiff.mpr h1), if_neg h2]; exact y2 K, y3⟩
    · rw [if_neg h1]
      obtain ⟨c', m', N', y1, y2, y3⟩ := skip (fun q => h1 q.1)
      exact ⟨c', m', N', y1, fun K => by rw [eM, if_neg (fun q => h1 (hiff.mp q))]; exact y2 K, y3⟩
end ZP11
