/-! THE COUPLING of the class's world c and the reference's world m -/
def zspan (s : Nat → Int32) (hf ht : Int32) : Prop := (s 0 = 0 ∧ s 1 = -1 ∧ hf = 0) ∨ ∃ a b : Nat, a ≤ 10000 ∧ b ≤ 10000 ∧ s 0 = nI a ∧ s 1 = nI b ∧ hf = nI (a + 1) ∧ ht = nI b
/-- the hours of the crew k on the day d, over the first n sailings -/
def zsum (c : zSt) (k d : Nat) : Nat → Int32
  | 0 => 0
  | n + 1 => if c.1 (34 + n) 8 = nI k ∧ c.1 (34 + n) 3 / 24 = nI d then zsum c k d n + (c.1 (34 + n) 4 - c.1 (34 + n) 3) else zsum c k d n
def zRn (c m : zSt) (nS nK nG nB nw : Nat) : Prop := (c.1 0 11 = nI nS ∧ c.1 0 12 = nI nK ∧ c.1 0 13 = nI nG ∧ c.1 0 14 = nI nB ∧ c.1 0 15 = nI nw) ∧ (m.1 0 1 = nI nS ∧ m.1 0 9 = nI nK ∧ m.1 0 19 = nI nG ∧ m.1 0 30 = nI nB ∧ m.1 0 0 = nI nw) ∧ (nS ≤ 4 ∧ nK ≤ 6 ∧ nG ≤ 24 ∧ nB ≤ 40 ∧ nw ≤ 9000)
def zRs (c m : zSt) : Prop := ∀ k, k < 4 → (m.1 1 k = c.1 (14 + k) 0 ∧ m.1 2 k = c.1 (14 + k) 1 ∧ m.1 3 k = c.1 (14 + k) 2 ∧ m.1 4 k = c.1 (14 + k) 3 ∧ m.1 5 k = c.1 (14 + k) 4 ∧ m.1 6 k = c.1 (14 + k) 5 ∧ m.1 7 k = c.1 (14 + k) 6) ∧ zspan (c.1 (18 + k)) (m.1 12 (2 + k)) (m.1 13 (2 + k)) ∧ ∃ t : Nat, t ≤ 1000 ∧ c.1 (14 + k) 6 = nI t
def zRv (c : zSt) (nS : Nat) : Prop := ∀ k, k < nS → ∃ ho la le we dr sp : Nat, (ho < 6 ∧ 1 ≤ la ∧ la ≤ 4 ∧ le ≤ 100 ∧ we ≤ 1000 ∧ dr ≤ 9 ∧ 1 ≤ sp ∧ sp ≤ 40) ∧ c.1 (14 + k) 0 = nI ho ∧ c.1 (14 + k) 1 = nI la ∧ c.1 (14 + k) 2 = nI le ∧ c.1 (14 + k) 3 = nI we ∧ c.1 (14 + k) 4 = nI dr ∧ c.1 (14 + k) 5 = nI sp
def zRw (c m : zSt) : Prop := zspan (c.1 9) (m.1 12 0) (m.1 13 0) ∧ zspan (c.1 10) (m.1 12 1) (m.1 13 1)
def zRk (c m : zSt) (nS nK : Nat) : Prop := ∀ k, k < nK → (m.1 8 k = c.1 (22 + k) 0 ∧ m.1 9 k = c.1 (28 + k) 0 ∧ m.1 10 k = c.1 (28 + k) 1) ∧ ∃ s a b : Nat, s < nS ∧ a ≤ 500 ∧ b ≤ 500 ∧ c.1 (22 + k) 0 = nI s ∧ c.1 (28 + k) 0 = nI a ∧ c.1 (28 + k) 1 = nI b
def zRh (c m : zSt) (nG : Nat) : Prop := ∀ k d, k < 6 → d < 501 → m.1 11 (501 * k + d) = zsum c k d nG
def zRb (c m : zSt) : Prop := ∀ i, i < 6 → m.1 14 i = c.1 6 i ∧ m.1 15 i = c.1 7 i ∧ ∃ e f : Nat, e ≤ 12 ∧ f ≤ 12 ∧ c.1 6 i = nI e ∧ c.1 7 i = nI f
def zRp (c m : zSt) : Prop := ∀ i, i < 10 → m.1 16 i = c.1 5 i + 1 ∧ (c.1 5 i = -1 ∨ ∃ j : Nat, j < 6 ∧ c.1 5 i = nI j)
def zRg (c m : zSt) (nG : Nat) : Prop := ∀ k, k < nG → m.1 17 k = c.1 (34 + k) 0 ∧ m.1 18 k = c.1 (34 + k) 1 ∧ m.1 19 k = c.1 (34 + k) 2 ∧ m.1 20 k = c.1 (34 + k) 3 ∧ m.1 21 k = c.1 (34 + k) 5 ∧ m.1 22 k = c.1 (34 + k) 6 ∧ m.1 24 k = c.1 (34 + k) 10 ∧ (c.1 (34 + k) 6 = 1 → m.1 23 k = c.1 (34 + k) 7) ∧ (¬ c.1 (34 + k) 6 = 1 → c.1 (34 + k) 7 = 0) ∧ (c.1 (34 + k) 6 = 2 → c.1 (34 + k) 9 = m.1 25 k - m.1 26 k) ∧ (c.1 (34 + k) 6 = 0 → m.1 25 k = 0 ∧ m.1 26 k = 0 ∧ c.1 (34 + k) 8 = -1)
def zRgv (c : zSt) (nS nK nG nw : Nat) : Prop := ∀ k, k < nG → ∃ s f t h d e z sp : Nat, (s < nS ∧ f < 6 ∧ t < 6 ∧ h ≤ 10000 ∧ 1 ≤ d ∧ d ≤ 400 ∧ z ≤ 2 ∧ 1 ≤ sp ∧ sp ≤ 40 ∧ e = h + (d + sp - 1) / sp ∧ (z = 0 → nw ≤ h)) ∧ c.1 (34 + k) 0 = nI s ∧ c.1 (34 + k) 1 = nI f ∧ c.1 (34 + k) 2 = nI t ∧ c.1 (34 + k) 3 = nI h ∧ c.1 (34 + k) 4 = nI e ∧ c.1 (34 + k) 5 = nI d ∧ c.1 (34 + k) 6 = nI z ∧ c.1 (14 + s) 5 = nI sp ∧ (c.1 (34 + k) 8 = -1 ∨ ∃ j : Nat, j < nK ∧ c.1 (34 + k) 8 = nI j)
def zRo (c : zSt) (nG : Nat) : Prop := ∀ i j, i < j → j < nG → c.1 (34 + i) 0 = c.1 (34 + j) 0 → ¬ c.1 (34 + i) 6 = 1 → ¬ c.1 (34 + j) 6 = 1 → c.1 (34 + i) 4 ≤ c.1 (34 + j) 3
def zRz (c m : zSt) (nG : Nat) : Prop := ∀ k, nG ≤ k → k < 24 → (c.1 (34 + k) 6 = 0 ∧ c.1 (34 + k) 7 = 0 ∧ c.1 (34 + k) 8 = -1 ∧ c.1 (34 + k) 10 = 0) ∧ m.1 24 k = 0 ∧ m.1 25 k = 0 ∧ m.1 26 k = 0
def zRB (c m : zSt) (nB : Nat) : Prop := ∀ k, k < nB → m.1 28 k = c.1 (58 + k) 0 + 1 ∧ m.1 29 k = c.1 (58 + k) 1 ∧ m.1 30 k = c.1 (58 + k) 2 ∧ m.1 31 k = c.1 (58 + k) 3 ∧ m.1 32 k = c.1 (58 + k) 9 ∧ m.1 33 k = c.1 (58 + k) 10 ∧ m.1 34 k = c.1 (58 + k) 7 ∧ m.1 35 k = c.1 (58 + k) 8 ∧ m.1 37 k = c.1 (58 + k) 11 ∧ m.1 38 k = c.1 (58 + k) 4 + 1 ∧ (¬ c.1 (58 + k) 0 = -1 → m.1 36 k = c.1 (58 + k) 6)
def zRBv (c : zSt) (nG nB : Nat) : Prop := ∀ k, k < nB → (∃ ki le we ti : Nat, ki ≤ 3 ∧ le ≤ 40 ∧ (we ≤ 200 ∧ (ki = 0 ∨ 1 ≤ we)) ∧ ti ≤ 2 ∧ c.1 (58 + k) 1 = nI ki ∧ c.1 (58 + k) 2 = nI le ∧ c.1 (58 + k) 3 = nI we ∧ c.1 (58 + k) 6 = nI ti) ∧ (c.1 (58 + k) 9 = 0 ∨ c.1 (58 + k) 9 = 1) ∧ (c.1 (58 + k) 10 = 0 ∨ c.1 (58 + k) 10 = 1) ∧ (c.1 (58 + k) 11 = 0 ∨ c.1 (58 + k) 11 = 1) ∧ (c.1 (58 + k) 0 = -1 ∨ ∃ j : Nat, j < nG ∧ c.1 (58 + k) 0 = nI j) ∧ (c.1 (58 + k) 4 = -1 ∨ ∃ j : Nat, j < 4 ∧ c.1 (58 + k) 4 = nI j) ∧ (c.1 (58 + k) 11 = 0 → c.1 (58 + k) 4 = -1) ∧ (c.1 (58 + k) 0 = -1 → c.1 (58 + k) 7 = 0 ∧ c.1 (58 + k) 8 = 0 ∧ c.1 (58 + k) 11 = 0) ∧ (c.1 (58 + k) 11 = 1 → ∀ j : Nat, j < nG → c.1 (58 + k) 0 = nI j → c.1 (34 + j) 6 = 2)
def zRZ (c m : zSt) (nB : Nat) : Prop := ∀ k, nB ≤ k → k < 40 → (c.1 (58 + k) 4 = -1 ∧ c.1 (58 + k) 6 = 0 ∧ c.1 (58 + k) 11 = 0) ∧ m.1 36 k = 0 ∧ m.1 37 k = 0 ∧ m.1 38 k = 0
def zRa (c m : zSt) : Prop := m.2 0 49 = c.2 8 0 ∧ m.2 0 50 = c.2 8 1 ∧ m.2 0 51 = c.2 8 2
/-- all of it -/
def zR5 (nS nK nG nB nw : Nat) (c m : zSt) : Prop := zRn c m nS nK nG nB nw ∧ zRs c m ∧ zRv c nS ∧ zRw c m ∧ zRk c m nS nK ∧ zRh c m nG ∧ zRb c m ∧ zRp c m ∧ zRg c m nG ∧ zRgv c nS nK nG nw ∧ zRo c nG ∧ zRz c m nG ∧ zRB c m nB ∧ zRBv c nG nB ∧ zRZ c m nB ∧ zRa c m
def zR (c m : zSt) : Prop := ∃ nS nK nG nB nw : Nat, zR5 nS nK nG nB nw c m
section ZC
variable {nS nK nG nB nw : Nat} {c m c' m' : zSt}
theorem zRs_cg (h : zRs c m) (h1 : ∀ k j, k < 4 → c'.1 (14 + k) j = c.1 (14 + k) j) (h2 : ∀ k j, k < 4 → c'.1 (18 + k) j = c.1 (18 + k) j) (h3 : ∀ q k, 1 ≤ q → q ≤ 7 → m'.1 q k = m.1 q k) (h4 : ∀ q k, 12 ≤ q → q ≤ 13 → m'.1 q k = m.1 q k) : zRs c' m' := fun k hk => by
  have h0 := h k hk
  have e : c'.1 (18 + k) = c.1 (18 + k) := funext fun j => h2 k j hk
  rw [h1 k _ hk, h1 k _ hk, h1 k _ hk, h1 k _ hk, h1 k _ hk, h1 k _ hk, h1 k _ hk, h3 1 k (by omega) (by omega), h3 2 k (by omega) (by omega), h3 3 k (by omega) (by omega), h3 4 k (by omega) (by omega), h3 5 k (by omega) (by omega), h3 6 k (by omega) (by omega), h3 7 k (by omega) (by omega), h4 12 _ (by omega) (by omega), h4 13 _ (by omega) (by omega), e]
  exact h0
theorem zRv_cg (h : zRv c nS) (hn : nS ≤ 4) (h1 : ∀ k j, k < 4 → j ≤ 5 → c'.1 (14 + k) j = c.1 (14 + k) j) : zRv c' nS := fun k hk => by
  have h0 := h k hk
  have hk4 : k < 4 := by omega
  rw [h1 k 0 hk4 (by omega), h1 k 1 hk4 (by omega), h1 k 2 hk4 (by omega), h1 k 3 hk4 (by omega), h1 k 4 hk4 (by omega), h1 k 5 hk4 (by omega)]
  exact h0
theorem zRw_cg (h : zRw c m) (h1 : ∀ j, c'.1 9 j = c.1 9 j) (h2 : ∀ j, c'.1 10 j = c.1 10 j) (h4 : ∀ q k, 12 ≤ q → q ≤ 13 → m'.1 q k = m.1 q k) : zRw c' m' := by
  unfold zRw at h ⊢
  have e1 : c'.1 9 = c.1 9 := funext h1
  have e2 : c'.1 10 = c.1 10 := funext h2
  rw [e1, e2, h4 12 0 (by omega) (by omega), h4 13 0 (by omega) (by omega), h4 12 1 (by omega) (by omega), h4 13 1 (by omega) (by omega)]
  exact h
theorem zRk_cg (h : zRk c m nS nK) (hn : nK ≤ 6) (h1 : ∀ k j, k < 6 → c'.1 (22 + k) j = c.1 (22 + k) j) (h2 : ∀ k j, k < 6 → c'.1 (28 + k) j = c.1 (28 + k) j) (h3 : ∀ q k, 8 ≤ q → q ≤ 10 → m'.1 q k = m.1 q k) : zRk c' m' nS nK := fun k hk => by
  have h0 := h k hk
  have hk6 : k < 6 := by omega
  rw [h1 k _ hk6, h2 k _ hk6, h2 k _ hk6, h3 8 k (by omega) (by omega), h3 9 k (by omega) (by omega), h3 10 k (by omega) (by omega)]
  exact h0
theorem zsum_cg {k d : Nat} : ∀ n, (∀ i, i < n → c'.1 (34 + i) 8 = c.1 (34 + i) 8 ∧ c'.1 (34 + i) 3 = c.1 (34 + i) 3 ∧ c'.1 (34 + i) 4 = c.1 (34 + i) 4) → zsum c' k d n = zsum c k d n
  | 0, _ => rfl
  | n + 1, h => by
    have h0 := h n (by omega)
    rw [zsum, zsum, zsum_cg n (fun i hi => h i (by omega)), h0.1, h0.2.1, h0.2.2]
theorem zRh_cg (h : zRh c m nG) (h1 : ∀ i, i < nG → c'.1 (34 + i) 8 = c.1 (34 + i) 8 ∧ c'.1 (34 + i) 3 = c.1 (34 + i) 3 ∧ c'.1 (34 + i) 4 = c.1 (34 + i) 4) (h2 : ∀ j, m'.1 11 j = m.1 11 j) : zRh c' m' nG := fun k d hk hd => by
  rw [h2, zsum_cg nG h1]
  exact h k d hk hd
theorem zRb_cg (h : zRb c m) (h1 : ∀ j, c'.1 6 j = c.1 6 j) (h2 : ∀ j, c'.1 7 j = c.1 7 j) (h3 : ∀ q k, 14 ≤ q → q ≤ 15 → m'.1 q k = m.1 q k) : zRb c' m' := fun i hi => by
  rw [h1, h2, h3 14 i (by omega) (by omega), h3 15 i (by omega) (by omega)]
  exact h i hi
theorem zRp_cg (h : zRp c m) (h1 : ∀ j, c'.1 5 j = c.1 5 j) (h3 : ∀ k, m'.1 16 k = m.1 16 k) : zRp c' m' := fun i hi => by
  rw [h1, h3]
  exact h i hi
theorem zRg_cg (h : zRg c m nG) (h1 : ∀ k j, k < nG → c'.1 (34 + k) j = c.1 (34 + k) j) (h3 : ∀ q k, 17 ≤ q → q ≤ 26 → k < nG → m'.1 q k = m.1 q k) : zRg c' m' nG := fun k hk => by
  have h0 := h k hk
  rw [h1 k 0 hk, h1 k 1 hk, h1 k 2 hk, h1 k 3 hk, h1 k 5 hk, h1 k 6 hk, h1 k 10 hk, h1 k 7 hk, h1 k 9 hk, h1 k 8 hk, h3 17 k (by omega) (by omega) hk, h3 18 k (by omega) (by omega) hk, h3 19 k (by omega) (by omega) hk, h3 20 k (by omega) (by omega) hk, h3 21 k (by omega) (by omega) hk, h3 22 k (by omega) (by omega) hk, h3 23 k (by omega) (by omega) hk, h3 24 k (by omega) (by omega) hk, h3 25 k (by omega) (by omega) hk, h3 26 k (by omega) (by omega) hk]
  exact h0
theorem zRgv_cg (h : zRgv c nS nK nG nw) (hn : nS ≤ 4) (h1 : ∀ k j, k < nG → c'.1 (34 + k) j = c.1 (34 + k) j) (h2 : ∀ k, k < nS → c'.1 (14 + k) 5 = c.1 (14 + k) 5) : zRgv c' nS nK nG nw := fun k hk => by
  obtain ⟨s, f, t, hh, d, e, z, sp, hb, h0⟩ := h k hk
  refine ⟨s, f, t, hh, d, e, z, sp, hb, ?_⟩
  rw [h1 k 0 hk, h1 k 1 hk, h1 k 2 hk, h1 k 3 hk, h1 k 4 hk, h1 k 5 hk, h1 k 6 hk, h1 k 8 hk, h2 s hb.1]
  exact h0
theorem zRo_cg (h : zRo c nG) (h1 : ∀ k j, k < nG → c'.1 (34 + k) j = c.1 (34 + k) j) : zRo c' nG := fun i j hi hj => by
  have h0 := h i j hi hj
  rw [h1 i 0 (by omega), h1 j 0 hj, h1 i 6 (by omega), h1 j 6 hj, h1 i 4 (by omega), h1 j 3 hj]
  exact h0
theorem zRz_cg (h : zRz c m nG) (h1 : ∀ k j, nG ≤ k → k < 24 → c'.1 (34 + k) j = c.1 (34 + k) j) (h3 : ∀ q k, 24 ≤ q → q ≤ 26 → nG ≤ k → k < 24 → m'.1 q k = m.1 q k) : zRz c' m' nG := fun k hk hk2 => by
  have h0 := h k hk hk2
  rw [h1 k _ hk hk2, h1 k _ hk hk2, h1 k _ hk hk2, h1 k _ hk hk2, h3 24 k (by omega) (by omega) hk hk2, h3 25 k (by omega) (by omega) hk hk2, h3 26 k (by omega) (by omega) hk hk2]
  exact h0
theorem zRB_cg (h : zRB c m nB) (h1 : ∀ k j, k < nB → j ≠ 5 → c'.1 (58 + k) j = c.1 (58 + k) j) (h3 : ∀ q k, 28 ≤ q → q ≤ 38 → k < nB → m'.1 q k = m.1 q k) : zRB c' m' nB := fun k hk => by
  have h0 := h k hk
  rw [h1 k 0 hk (by omega), h1 k 1 hk (by omega), h1 k 2 hk (by omega), h1 k 3 hk (by omega), h1 k 9 hk (by omega), h1 k 10 hk (by omega), h1 k 7 hk (by omega), h1 k 8 hk (by omega), h1 k 11 hk (by omega), h1 k 4 hk (by omega), h1 k 6 hk (by omega), h3 28 k (by omega) (by omega) hk, h3 29 k (by omega) (by omega) hk, h3 30 k (by omega) (by omega) hk, h3 31 k (by omega) (by omega) hk, h3 32 k (by omega) (by omega) hk, h3 33 k (by omega) (by omega) hk, h3 34 k (by omega) (by omega) hk, h3 35 k (by omega) (by omega) hk, h3 36 k (by omega) (by omega) hk, h3 37 k (by omega) (by omega) hk, h3 38 k (by omega) (by omega) hk]
  exact h0
theorem zRBv_cg (h : zRBv c nG nB) (h1 : ∀ k j, k < nB → j ≠ 5 → c'.1 (58 + k) j = c.1 (58 + k) j) (h2 : ∀ k, k < nG → c.1 (34 + k) 6 = 2 → c'.1 (34 + k) 6 = 2) : zRBv c' nG nB := fun k hk => by
  have h0 := h k hk
  rw [h1 k 0 hk (by omega), h1 k 1 hk (by omega), h1 k 2 hk (by omega), h1 k 3 hk (by omega), h1 k 9 hk (by omega), h1 k 10 hk (by omega), h1 k 7 hk (by omega), h1 k 8 hk (by omega), h1 k 11 hk (by omega), h1 k 4 hk (by omega), h1 k 6 hk (by omega)]
  exact ⟨h0.1, h0.2.1, h0.2.2.1, h0.2.2.2.1, h0.2.2.2.2.1, h0.2.2.2.2.2.1, h0.2.2.2.2.2.2.1, h0.2.2.2.2.2.2.2.1, fun a j hj e => h2 j hj (h0.2.2.2.2.2.2.2.2 a j hj e)⟩
theorem zRZ_cg (h : zRZ c m nB) (h1 : ∀ k j, nB ≤ k → k < 40 → j ≠ 5 → c'.1 (58 + k) j = c.1 (58 + k) j) (h3 : ∀ q k, 36 ≤ q → q ≤ 38 → nB ≤ k → k < 40 → m'.1 q k = m.1 q k) : zRZ c' m' nB := fun k hk hk2 => by
  have h0 := h k hk hk2
  rw [h1 k _ hk hk2 (by omega), h1 k _ hk hk2 (by omega), h1 k _ hk hk2 (by omega), h3 36 k (by omega) (by omega) hk hk2, h3 37 k (by omega) (by omega) hk hk2, h3 38 k (by omega) (by omega) hk hk2]
  exact h0
theorem zRa_cg (h : zRa c m) (h1 : ∀ j, j < 3 → c'.2 8 j = c.2 8 j) (h2 : ∀ j, m'.2 0 j = m.2 0 j) : zRa c' m' := by
  unfold zRa at h ⊢
  rw [h1 0 (by omega), h1 1 (by omega), h1 2 (by omega), h2, h2, h2]
  exact h
/-- only what the coupling doesn't read has changed -/
theorem zR5_cg (h : zR5 nS nK nG nB nw c m) (hc : ∀ q j, q < 98 → q ≠ 0 ∨ (11 ≤ j ∧ j ≤ 15) → q < 11 ∨ 14 ≤ q → j ≠ 5 ∨ q < 58 → c'.1 q j = c.1 q j) (hc2 : ∀ j, j < 3 → c'.2 8 j = c.2 8 j) (hm : ∀ q j, q ≠ 0 ∨ j = 0 ∨ j = 1 ∨ j = 9 ∨ j = 19 ∨ j = 30 → q ≤ 38 → m'.1 q j = m.1 q j) (hm2 : ∀ j, m'.2 0 j = m.2 0 j) : zR5 nS nK nG nB nw c' m' := by
  obtain ⟨⟨a1, a2, a3⟩, b2, b3, b4, b5, b6, b7, b8, b9, b10, b11, b12, b13, b14, b15, b16⟩ := h
  refine ⟨⟨?_, ?_, a3⟩, ?_, ?_, ?_, ?_, ?_, ?_, ?_, ?_, ?_, ?_, ?_, ?_, ?_, ?_, ?_⟩
  · rw [hc 0 11 (by omega) (by omega) (by omega) (by omega), hc 0 12 (by omega) (by omega) (by omega) (by omega), hc 0 13 (by omega) (by omega) (by omega) (by omega), hc 0 14 (by omega) (by omega) (by omega) (by omega), hc 0 15 (by omega) (by omega) (by omega) (by omega)]
    exact a1
  · rw [hm 0 1 (by omega) (by omega), hm 0 9 (by omega) (by omega), hm 0 19 (by omega) (by omega), hm 0 30 (by omega) (by omega), hm 0 0 (by omega) (by omega)]
    exact a2
  · exact zRs_cg b2 (fun k j hk => hc _ _ (by omega) (by omega) (by omega) (by omega)) (fun k j hk => hc _ _ (by omega) (by omega) (by omega) (by omega)) (fun q k _ _ => hm _ _ (by omega) (by omega)) (fun q k _ _ => hm _ _ (by omega) (by omega))
  · exact zRv_cg b3 a3.1 (fun k j hk _ => hc _ _ (by omega) (by omega) (by omega) (by omega))
  · exact zRw_cg b4 (fun j => hc _ _ (by omega) (by omega) (by omega) (by omega)) (fun j => hc _ _ (by omega) (by omega) (by omega) (by omega)) (fun q k _ _ => hm _ _ (by omega) (by omega))
  · exact zRk_cg b5 a3.2.1 (fun k j hk => hc _ _ (by omega) (by omega) (by omega) (by omega)) (fun k j hk => hc _ _ (by omega) (by omega) (by omega) (by omega)) (fun q k _ _ => hm _ _ (by omega) (by omega))
  · exact zRh_cg b6 (fun i hi => ⟨hc _ _ (by omega) (by omega) (by omega) (by omega), hc _ _ (by omega) (by omega) (by omega) (by omega), hc _ _ (by omega) (by omega) (by omega) (by omega)⟩) (fun j => hm _ _ (by omega) (by omega))
  · exact zRb_cg b7 (fun j => hc _ _ (by omega) (by omega) (by omega) (by omega)) (fun j => hc _ _ (by omega) (by omega) (by omega) (by omega)) (fun q k _ _ => hm _ _ (by omega) (by omega))
  · exact zRp_cg b8 (fun j => hc _ _ (by omega) (by omega) (by omega) (by omega)) (fun k => hm _ _ (by omega) (by omega))
  · exact zRg_cg b9 (fun k j hk => hc _ _ (by omega) (by omega) (by omega) (by omega)) (fun q k _ _ _ => hm _ _ (by omega) (by omega))
  · exact zRgv_cg b10 a3.1 (fun k j hk => hc _ _ (by omega) (by omega) (by omega) (by omega)) (fun k hk => hc _ _ (by omega) (by omega) (by omega) (by omega))
  · exact zRo_cg b11 (fun k j hk => hc _ _ (by omega) (by omega) (by omega) (by omega))
  · exact zRz_cg b12 (fun k j _ hk => hc _ _ (by omega) (by omega) (by omega) (by omega)) (fun q k _ _ _ _ => hm _ _ (by omega) (by omega))
  · exact zRB_cg b13 (fun k j hk h5 => hc _ _ (by omega) (by omega) (by omega) (by omega)) (fun q k _ _ _ => hm _ _ (by omega) (by omega))
  · exact zRBv_cg b14 (fun k j hk h5 => hc _ _ (by omega) (by omega) (by omega) (by omega)) (fun k hk e => by rw [hc _ _ (by omega) (by omega) (by omega) (by omega)]; exact e)
  · exact zRZ_cg b15 (fun k j _ hk h5 => hc _ _ (by omega) (by omega) (by omega) (by omega)) (fun q k _ _ _ _ => hm _ _ (by omega) (by omega))
  · exact zRa_cg b16 hc2 hm2
theorem zR5_th (h : zR5 nS nK nG nB nw c m) (v : Int32) : zR5 nS nK nG nB nw c (zwI m 0 52 v) := zR5_cg h (fun _ _ _ _ _ _ => rfl) (fun _ _ => rfl) (fun q j h1 h2 => zr_n (by omega)) (fun _ => rfl)
theorem zR_th (h : zR c m) (v : Int32) : zR c (zwI m 0 52 v) := by
  obtain ⟨nS, nK, nG, nB, nw, h⟩ := h
  exact ⟨nS, nK, nG, nB, nw, zR5_th h v⟩
theorem zR_out (h : zR c m) (v : Int64) : zR (zwL c 98 0 v) m := by
  obtain ⟨nS, nK, nG, nB, nw, h⟩ := h
  exact ⟨nS, nK, nG, nB, nw, zR5_cg h (fun _ _ _ _ _ _ => rfl) (fun j hj => zrL_n (by omega)) (fun _ _ _ _ => rfl) (fun _ => rfl)⟩
end ZC
