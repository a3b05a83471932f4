/-! pairs, part fourteen: a ship sets sail -/
section ZP14
variable {c c' m m' : zSt} {nS nK nG nB nw : Nat}
set_option maxRecDepth 100000 in
theorem clear46 (st : zSt) : f_X2_clear_46 64 st 0 = some ((), zwI (zwI (zwI (zwI (zwI (zwI (zwI (zwI st 12 0 0) 13 0 0) 12 1 0) 13 1 0) 12 2 0) 13 2 0) 12 3 0) 13 3 0) := rfl
set_option maxRecDepth 100000 in
theorem sails60 (st : zSt) (a : Int32) : f_X7_sails_60 64 st a 0 = f_X7_sails_102 64 (zwI (zwI (zwI (zwI (zwI (zwI (zwI (zwI (zwI (zwI (zwI st 39 0 0) 40 0 0) 39 1 0) 40 1 0) 39 2 0) 40 2 0) 39 3 0) 40 3 0) 0 46 0) 0 47 0) 0 48 0) a 0 := rfl
set_option maxRecDepth 100000 in
theorem clear_eq (st : zSt) {r : Nat} (hr : 14 ≤ r) : ∃ c', f_X2_clear st r = some ((), c') ∧ c'.2 = st.2 ∧ (∀ q i, q < 11 ∨ 14 ≤ q → c'.1 q i = st.1 q i) ∧ c'.1 11 2 = st.1 r 1 ∧ c'.1 11 3 = st.1 r 2 ∧ c'.1 11 4 = st.1 r 3 ∧ c'.1 11 5 = 0 ∧ c'.1 11 6 = 0 ∧ c'.1 11 7 = 0 ∧ c'.1 11 8 = 0 ∧ (∀ k, k < 4 → c'.1 12 k = 0 ∧ c'.1 13 k = 0) := by
  unfold f_X2_clear
  simp (disch := omega) only [↓zlet_eq, zr_n, clear46]
  refine ⟨_, rfl, rfl, fun q i hq => ?_, ?_, ?_, ?_, ?_, ?_, ?_, ?_, fun k hk => ?_⟩
  · simp (disch := omega) only [zr_n]
  · simp (disch := omega) only [zr_n, zr_e]
  · simp (disch := omega) only [zr_n, zr_e]
  · simp (disch := omega) only [zr_n, zr_e]
  · simp (disch := omega) only [zr_n, zr_e]
  · simp (disch := omega) only [zr_n, zr_e]
  · simp (disch := omega) only [zr_n, zr_e]
  · simp (disch := omega) only [zr_n, zr_e]
  · rcases (show k = 0 ∨ k = 1 ∨ k = 2 ∨ k = 3 by omega) with h | h | h | h <;> subst h <;> simp (disch := omega) only [zr_n, zr_e, and_self]
theorem zsum_upd {g kk q x : Nat} (hg8 : c.1 (34 + g) 8 = -1) (h8 : c'.1 (34 + g) 8 = nI kk) (hkk : kk < 1000) (h3 : c.1 (34 + g) 3 = nI x) (hx : x < 100000) (hq : c.1 (34 + g) 4 - c.1 (34 + g) 3 = nI q) (h3' : c'.1 (34 + g) 3 = c.1 (34 + g) 3) (h4' : c'.1 (34 + g) 4 = c.1 (34 + g) 4) {k d : Nat} (hk : k < 1000) (hd : d < 1000) : ∀ n, (∀ i, i < n → i ≠ g → c'.1 (34 + i) 8 = c.1 (34 + i) 8 ∧ c'.1 (34 + i) 3 = c.1 (34 + i) 3 ∧ c'.1 (34 + i) 4 = c.1 (34 + i) 4) → zsum c' k d n = (if g < n ∧ k = kk ∧ d = x / 24 then zsum c k d n + nI q else zsum c k d n)
  | 0, _ => by rw [if_neg (fun h => absurd h.1 (Nat.not_lt_zero _))]; rfl
  | n + 1, h => by
    have ih := zsum_upd hg8 h8 hkk h3 hx hq h3' h4' hk hd n (fun i hi hne => h i (by omega) hne)
    by_cases hng : n = g
    · subst hng
      have hx24 : nI x / 24 = nI (x / 24) := by rw [show (24 : Int32) = nI 24 from rfl, pk_div (by omega) (by omega) (by omega)]
      have z' : zsum c' k d n = zsum c k d n := by rw [ih, if_neg (fun q => absurd q.1 (Nat.lt_irrefl _))]
      have u2 : zsum c k d (n + 1) = zsum c k d n := by rw [zsum, if_neg (fun q => znI_ne_m1 (a := k) (by omega) (q.1.symm.trans hg8))]
      have u1 : zsum c' k d (n + 1) = if nI kk = nI k ∧ nI (x / 24) = nI d then zsum c k d n + nI q else zsum c k d n := by rw [zsum, z', h8, h4', h3', hq, h3, hx24]
      rw [u1, u2]
      by_cases hc : k = kk ∧ d = x / 24
      · rw [if_pos ⟨by rw [hc.1], by rw [hc.2]⟩, if_pos ⟨by omega, hc.1, hc.2⟩]
      · rw [if_neg (fun q => hc ⟨((nI_eq (by omega) (by omega)).mp q.1).symm, ((nI_eq (by omega) (by omega)).mp q.2).symm⟩), if_neg (fun q => hc q.2)]
    · obtain ⟨e1, e2, e3⟩ := h n (by omega) hng
      have u1 : zsum c' k d (n + 1) = if c.1 (34 + n) 8 = nI k ∧ c.1 (34 + n) 3 / 24 = nI d then zsum c' k d n + (c.1 (34 + n) 4 - c.1 (34 + n) 3) else zsum c' k d n := by rw [zsum, e1, e2, e3]
      rw [u1]
      by_cases hc : g < n ∧ k = kk ∧ d = x / 24
      · rw [ih, if_pos hc, if_pos (show g < n + 1 ∧ k = kk ∧ d = x / 24 from ⟨by omega, hc.2⟩), zsum]
        split
        · rw [zrc]
        · rfl
      · rw [ih, if_neg hc, if_neg (show ¬ (g < n + 1 ∧ k = kk ∧ d = x / 24) from fun q => hc ⟨by omega, q.2⟩), zsum]
set_option maxHeartbeats 16000000 in
theorem zSetOut (h5 : zR5 nS nK nG nB nw c m) {g s kk t w q x sp : Nat} (hgG : g < nG) (h0 : c.1 (34 + g) 6 = 0) (es : c.1 (34 + g) 0 = nI s) (hsS : s < nS) (hkk : kk < nK) (ht : c.1 (14 + s) 6 = nI t) (ht1 : t ≤ 1000) (hw : w ≤ t) (e3 : c.1 (34 + g) 3 = nI x) (hx : x ≤ 10000) (eq : c.1 (34 + g) 4 - c.1 (34 + g) 3 = nI q) :
    zR5 nS nK nG nB nw (zwI (zwI (zwI (zwI c (34 + g) 8 (nI kk)) (34 + g) 6 2) (14 + s) 6 (nI (t - w))) (34 + g) 9 0) (zwI (zwI (zwI (zwI m 23 g 0) 22 g 2) 7 s (nI (t - w))) 11 (501 * kk + x / 24) (m.1 11 (501 * kk + x / 24) + nI q)) := by
  obtain ⟨hn, hs, hv, hwd, hk, hh, hb, hp, hg, hgv, ho, hz, hB, hBv, hZ, ha⟩ := id h5
  obtain ⟨l1, l2, l3, l4, l5⟩ := hn.2.2
  have hgg := hg g hgG
  have h00 := hgg.2.2.2.2.2.2.2.2.2.2 h0
  have hw' := hw
  have hw := hwd
  refine ⟨⟨⟨by simp (disch := omega) only [zr_n, zr_L1]; exact hn.1.1, by simp (disch := omega) only [zr_n, zr_L1]; exact hn.1.2.1, by simp (disch := omega) only [zr_n, zr_L1]; exact hn.1.2.2.1, by simp (disch := omega) only [zr_n, zr_L1]; exact hn.1.2.2.2.1, by simp (disch := omega) only [zr_n, zr_L1]; exact hn.1.2.2.2.2⟩, ⟨by simp (disch := omega) only [zr_n, zr_L1]; exact hn.2.1.1, by simp (disch := omega) only [zr_n, zr_L1]; exact hn.2.1.2.1, by simp (disch := omega) only [zr_n, zr_L1]; exact hn.2.1.2.2.1, by simp (disch := omega) only [zr_n, zr_L1]; exact hn.2.1.2.2.2.1, by simp (disch := omega) only [zr_n, zr_L1]; exact hn.2.1.2.2.2.2⟩, hn.2.2⟩, ?_, zRv_cg hv (by omega) (by intro k j hk hj; simp (disch := omega) only [zr_n]), zRw_cg hw (by intros; first | rfl | simp (disch := omega) only [zr_n, zr_L1, zr_I2, zrL_n]) (by intros; first | rfl | simp (disch := omega) only [zr_n, zr_L1, zr_I2, zrL_n]) (by intros; first | rfl | simp (disch := omega) only [zr_n, zr_L1, zr_I2, zrL_n]), zRk_cg hk (by omega) (by intros; first | rfl | simp (disch := omega) only [zr_n, zr_L1, zr_I2, zrL_n]) (by intros; first | rfl | simp (disch := omega) only [zr_n, zr_L1, zr_I2, zrL_n]) (by intros; first | rfl | simp (disch := omega) only [zr_n, zr_L1, zr_I2, zrL_n]), ?_, zRb_cg hb (by intros; first | rfl | simp (disch := omega) only [zr_n, zr_L1, zr_I2, zrL_n]) (by intros; first | rfl | simp (disch := omega) only [zr_n, zr_L1, zr_I2, zrL_n]) (by intros; first | rfl | simp (disch := omega) only [zr_n, zr_L1, zr_I2, zrL_n]), zRp_cg hp (by intros; first | rfl | simp (disch := omega) only [zr_n, zr_L1, zr_I2, zrL_n]) (by intros; first | rfl | simp (disch := omega) only [zr_n, zr_L1, zr_I2, zrL_n]), ?_, ?_, ?_, zRz_cg hz (by intros; first | rfl | simp (disch := omega) only [zr_n, zr_L1, zr_I2, zrL_n]) (by intros; first | rfl | simp (disch := omega) only [zr_n, zr_L1, zr_I2, zrL_n]), zRB_cg hB (by intros; first | rfl | simp (disch := omega) only [zr_n, zr_L1, zr_I2, zrL_n]) (by intros; first | rfl | simp (disch := omega) only [zr_n, zr_L1, zr_I2, zrL_n]), ?_, zRZ_cg hZ (by intros; first | rfl | simp (disch := omega) only [zr_n, zr_L1, zr_I2, zrL_n]) (by intros; first | rfl | simp (disch := omega) only [zr_n, zr_L1, zr_I2, zrL_n]), zRa_cg ha (by intros; first | rfl | simp (disch := omega) only [zr_n, zr_L1, zr_I2, zrL_n]) (by intros; first | rfl | simp (disch := omega) only [zr_n, zr_L1, zr_I2, zrL_n])⟩
  · intro k hk4
    have hsk := hs k hk4
    have e2 : (zwI (zwI (zwI (zwI c (34 + g) 8 (nI kk)) (34 + g) 6 2) (14 + s) 6 (nI (t - w))) (34 + g) 9 0).1 (18 + k) = c.1 (18 + k) := funext fun t => by simp (disch := omega) only [zr_n]
    rw [e2]
    by_cases hks : k = s
    · subst hks
      simp (disch := omega) only [zr_n, zr_e]
      exact ⟨⟨hsk.1.1, hsk.1.2.1, hsk.1.2.2.1, hsk.1.2.2.2.1, hsk.1.2.2.2.2.1, hsk.1.2.2.2.2.2.1, trivial⟩, hsk.2.1, t - w, by omega, rfl⟩
    · simp (disch := omega) only [zr_n]
      exact hsk
  · intro k d hk6 hd5
    rw [zsum_upd (c := c) (g := g) (kk := kk) (q := q) (x := x) h00.2.2 (by simp (disch := omega) only [zr_n, zr_e]) (by omega) e3 (by omega) eq (by simp (disch := omega) only [zr_n]) (by simp (disch := omega) only [zr_n]) (by omega) (by omega) nG (fun i hi hne => by simp (disch := omega) only [zr_n, and_self])]
    by_cases hc : k = kk ∧ d = x / 24
    · rw [if_pos ⟨hgG, hc⟩, hc.1, hc.2, zr_e, hh kk (x / 24) (by omega) (by omega)]
    · have hne : 501 * k + d ≠ 501 * kk + x / 24 := fun e => hc (by omega)
      rw [if_neg (fun y => hc y.2)]
      simp (disch := omega) only [zr_n]
      exact hh k d hk6 hd5
  · intro k hk'
    have hq := hg k hk'
    by_cases hkg : k = g
    · subst hkg
      have e21 : (2 : Int32) = 1 ↔ False := by decide
      have e00 : (0 : Int32) = 0 - 0 := by decide
      have h7 := hq.2.2.2.2.2.2.2.2.1 (by rw [h0]; decide)
      simp (disch := omega) only [zr_n, zr_e, hq.1, hq.2.1, hq.2.2.1, hq.2.2.2.1, hq.2.2.2.2.1, hq.2.2.2.2.2.2.1, e21, z20, h00.1, h00.2.1, h7, false_implies, implies_true, and_self, true_and, and_true]
      exact fun _ => e00
    · simp (disch := omega) only [zr_n]
      exact hq
  · intro k hk'
    obtain ⟨s', f', t', h', d', x', z', sp', b', r0, r1, r2, r3, r4, r5, r6, r7, r8⟩ := hgv k hk'
    by_cases hkg : k = g
    · subst hkg
      refine ⟨s', f', t', h', d', x', 2, sp', ⟨b'.1, b'.2.1, b'.2.2.1, b'.2.2.2.1, b'.2.2.2.2.1, b'.2.2.2.2.2.1, by omega, b'.2.2.2.2.2.2.2.1, b'.2.2.2.2.2.2.2.2.1, b'.2.2.2.2.2.2.2.2.2.1, fun q => by omega⟩, ?_⟩
      simp (disch := omega) only [zr_n, zr_e]
      exact ⟨r0, r1, r2, r3, r4, r5, rfl, r7, Or.inr ⟨kk, hkk, rfl⟩⟩
    · refine ⟨s', f', t', h', d', x', z', sp', b', ?_⟩
      simp (disch := omega) only [zr_n]
      exact ⟨r0, r1, r2, r3, r4, r5, r6, r7, r8⟩
  · intro i' j' x1 x2 x3 x4 x5
    have k1 : ¬ c.1 (34 + i') 6 = 1 := by
      by_cases hi : i' = g
      · rw [hi, h0]; decide
      · simp (disch := omega) only [zr_n] at x4; exact x4
    have k2 : ¬ c.1 (34 + j') 6 = 1 := by
      by_cases hi : j' = g
      · rw [hi, h0]; decide
      · simp (disch := omega) only [zr_n] at x5; exact x5
    simp (disch := omega) only [zr_n] at x3 ⊢
    exact ho i' j' x1 x2 x3 k1 k2
  · exact zRBv_cg hBv (by intros; simp (disch := omega) only [zr_n]) (fun k hk e => by
      by_cases hkg : k = g
      · rw [hkg]
        simp (disch := omega) only [zr_n, zr_e]
      · simp (disch := omega) only [zr_n]
        exact e)
end ZP14
