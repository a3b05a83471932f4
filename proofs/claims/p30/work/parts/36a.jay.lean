/-! p30's own invariants of the class's world: accounts, payments, states; kept by those that go over -/
section ZJ
variable {c c' m m' : zSt} {nS nK nG nB nw F g : Nat}
def zJp (c : zSt) (nB : Nat) : Prop := ∀ k, k < nB → ¬ c.1 (58 + k) 0 = -1 → ∃ p : Nat, 1 ≤ p ∧ p ≤ 8000 ∧ c.1 (58 + k) 7 = nI p
def zJa (c : zSt) (nB : Nat) : Prop := c.2 8 0 = zaa c 7 nB ∧ c.2 8 1 = zaa c 8 nB
def zJg (c : zSt) (g nG nB : Nat) : Prop := ∀ k j, k < nB → j < nG → c.1 (58 + k) 0 = nI j → ¬ c.1 (34 + j) 6 = 1 ∨ j = g
def zJs (c : zSt) (nG : Nat) : Prop := ∀ j, j < nG → (c.1 (34 + j) 6 = 1 → ∃ r : Nat, 1 ≤ r ∧ r ≤ 7 ∧ c.1 (34 + j) 7 = nI r) ∧ (c.1 (34 + j) 6 = 2 → ¬ c.1 (34 + j) 9 < -20 ∧ ¬ 20 < c.1 (34 + j) 9)
def zJf (c : zSt) (F : Nat) : Prop := ∃ f : Nat, f ≤ F ∧ (c.2 8 2).toInt = -(f : Int)
def zJ (F nG nB : Nat) (c : zSt) : Prop := zJp c nB ∧ zJa c nB ∧ zJg c nG nG nB ∧ zJs c nG ∧ zJf c F
theorem zabs20 {a b : Nat} (ha : a ≤ 100000) (hb : b ≤ 100000) (h : zabs (nI a - nI b) ≤ 20) : ¬ nI a - nI b < -20 ∧ ¬ 20 < nI a - nI b := by
  have e := pk_sub_toInt (a := a) (b := b) (by omega) (by omega)
  generalize nI a - nI b = x at e h ⊢
  unfold zabs at h
  have e20 : (20 : Int32).toInt = 20 := rfl
  have en : (-20 : Int32).toInt = -20 := rfl
  rw [zlt_i, zlt_i, e20, en]
  by_cases h0 : 0 ≤ x
  · rw [if_pos h0, zle_i, e20] at h
    rw [zle_i, zti0] at h0
    omega
  · rw [if_neg h0, zle_i, e20, Int32.toInt_sub, zti0] at h
    rw [zle_i, zti0] at h0
    rw [Int.bmod_eq_of_le (by omega) (by omega)] at h
    omega
theorem zaa_cg {j : Nat} : ∀ n, (∀ k, k < n → (c'.1 (58 + k) 0 = -1 ↔ c.1 (58 + k) 0 = -1) ∧ c'.1 (58 + k) j = c.1 (58 + k) j) → zaa c' j n = zaa c j n
  | 0, _ => rfl
  | n + 1, h => by
    have ih := zaa_cg n (fun k hk => h k (by omega))
    obtain ⟨h1, h2⟩ := h n (by omega)
    rw [zaa, zaa, ih, h2]
    by_cases q : c.1 (58 + n) 0 = -1
    · rw [if_pos q, if_pos (h1.mpr q)]
    · rw [if_neg q, if_neg (fun z => q (h1.mp z))]
theorem zaa_off {j k : Nat} (hk0 : ¬ c.1 (58 + k) 0 = -1) (h' : c'.1 (58 + k) 0 = -1) : ∀ n, k < n → (∀ i, i < n → i ≠ k → c'.1 (58 + i) 0 = c.1 (58 + i) 0 ∧ c'.1 (58 + i) j = c.1 (58 + i) j) → zaa c' j n = zaa c j n - (c.1 (58 + k) j).toInt64
  | 0, hk, _ => absurd hk (Nat.not_lt_zero _)
  | n + 1, hk, h => by
    by_cases e : k = n
    · subst e
      rw [zaa, zaa, if_pos h', if_neg hk0, Int64.add_sub_cancel]
      exact zaa_cg k (fun i hi => by
        have q := h i (by omega) (by omega)
        exact ⟨by rw [q.1], q.2⟩)
    · have ih := zaa_off hk0 h' n (by omega) (fun i hi => h i (by omega))
      obtain ⟨h1, h2⟩ := h n (by omega) (by omega)
      rw [zaa, zaa, h1, h2, ih]
      by_cases q : c.1 (58 + n) 0 = -1
      · rw [if_pos q, if_pos q]
      · rw [if_neg q, if_neg q, Int64.sub_eq_add_neg, Int64.sub_eq_add_neg, Int64.add_assoc, Int64.add_comm (-_) _, ← Int64.add_assoc]
theorem zln_pl (c : zSt) (g : Nat) : ∀ n, (zln c g n).1 = -1 ∨ ∃ j, j < n ∧ (zln c g n).1 = nI j ∧ c.1 (34 + j) 6 = 0
  | 0 => Or.inl rfl
  | n + 1 => by
    by_cases h : c.1 (34 + n) 6 = 0 ∧ c.1 (34 + n) 1 = c.1 (34 + g) 1 ∧ c.1 (34 + n) 2 = c.1 (34 + g) 2 ∧ ¬ (zln c g n).2 ≤ c.1 (34 + n) 3
    · exact Or.inr ⟨n, by omega, by rw [zln, if_pos h], h.1⟩
    · rw [zln, if_neg h]
      exact (zln_pl c g n).imp_right (fun ⟨j, hj, e⟩ => ⟨j, by omega, e⟩)
theorem next_eqC (h13 : c.1 0 13 = nI nG) (hl : nG ≤ 24) (hg : g < nG) : f_X6_nextLike c (nI g) = some ((zln c g nG).1, c) := by
  unfold f_X6_nextLike
  rw [kG_yes h13 hg hl, zbs]
  exact next_lp h13 hl nG 64 0 (-1, 10001) (by omega) (by omega) rfl
def zpayS (c : zSt) (k : Nat) : zSt := zwI (zwI (zwI (zwL (zwL c 8 0 (c.2 8 0 - (c.1 (58 + k) 7).toInt64)) 8 1 (c.2 8 1 - (c.1 (58 + k) 8).toInt64)) (58 + k) 7 0) (58 + k) 8 0) (58 + k) 0 (-1)
def zmovS (c : zSt) (k : Nat) (nl : Int32) : zSt := zwI (zwI c (58 + k) 0 nl) (58 + k) 6 (c.1 (58 + k) 6 + 1)
theorem go_eqC (c : zSt) (k : Nat) (nl : Int32) : f_X6_goOver c (58 + k) nl = some ((), zpayS c k) ∨ (¬ nl = -1 ∧ f_X6_goOver c (58 + k) nl = some ((), zmovS c k nl)) := by
  have pay : f_X6_goOver_13 c (58 + k) = some ((), zpayS c k) := by
    unfold f_X6_goOver_13 f_X6_payBack zpayS
    simp (disch := omega) only [↓zlet_eq, zbs, zc0, zc1, zr_n, zr_L1, zrL_n]
  unfold f_X6_goOver
  by_cases h : nl = -1
  · exact Or.inl (by rw [if_pos h]; exact pay)
  · rw [if_neg h]
    by_cases h2 : c.1 (58 + k) 6 < 2
    · refine Or.inr ⟨h, ?_⟩
      rw [if_pos h2]
      unfold zmovS
      simp (disch := omega) only [↓zlet_eq, zr_n]
    · exact Or.inl (by rw [if_neg h2]; exact pay)
def zJL (g i nG nB : Nat) (c : zSt) : Prop := (c.1 0 13 = nI nG ∧ c.1 0 14 = nI nB) ∧ zJp c nB ∧ zJa c nB ∧ zJg c g nG nB ∧ ∀ k, k < i → c.1 (58 + k) 0 = nI g → ¬ c.1 (58 + k) 11 = 0
theorem zJL_pay {i : Nat} (l3 : nG ≤ 24) (l4 : nB ≤ 40) (h : zJL g i nG nB c) (hi : i < nB) (hg : g < nG) (hsg : c.1 (58 + i) 0 = nI g) : zJL g (i + 1) nG nB (zpayS c i) := by
  obtain ⟨⟨h1, h2⟩, hp, ⟨ha0, ha1⟩, hgg, hB⟩ := h
  have hne : ¬ c.1 (58 + i) 0 = -1 := by rw [hsg]; exact znI_ne_m1 (by omega)
  have e0 : (zpayS c i).1 (58 + i) 0 = -1 := by unfold zpayS; rw [zr_e]
  have eo : ∀ q j, q ≠ 58 + i ∨ (j ≠ 0 ∧ j ≠ 7 ∧ j ≠ 8) → (zpayS c i).1 q j = c.1 q j := fun q j hq => by
    unfold zpayS
    simp (disch := omega) only [zr_n, zr_L1]
  refine ⟨⟨(eo _ _ (by omega)).trans h1, (eo _ _ (by omega)).trans h2⟩, fun k hk hk0 => ?_, ⟨?_, ?_⟩, fun k j hk hj e => ?_, fun k hk e => ?_⟩
  · by_cases q : k = i
    · rw [q] at hk0; exact absurd e0 hk0
    · rw [eo _ _ (by omega)] at hk0 ⊢
      exact hp k hk hk0
  · rw [zaa_off hne e0 nB hi (fun k _ hk => ⟨eo _ _ (by omega), eo _ _ (by omega)⟩), ← ha0]
    unfold zpayS
    simp (disch := omega) only [zr_I2, zrL_n, zrL_e]
  · rw [zaa_off hne e0 nB hi (fun k _ hk => ⟨eo _ _ (by omega), eo _ _ (by omega)⟩), ← ha1]
    unfold zpayS
    simp (disch := omega) only [zr_I2, zrL_n, zrL_e]
  · rw [eo (34 + j) 6 (by omega)]
    by_cases q : k = i
    · rw [q, e0] at e; exact absurd e.symm (znI_ne_m1 (by omega))
    · rw [eo _ _ (by omega)] at e
      exact hgg k j hk hj e
  · by_cases q : k = i
    · rw [q, e0] at e; exact absurd e.symm (znI_ne_m1 (by omega))
    · rw [eo _ _ (by omega)] at e ⊢
      exact hB k (by omega) e
theorem zJL_mov {i j : Nat} (l3 : nG ≤ 24) (l4 : nB ≤ 40) (h : zJL g i nG nB c) (hi : i < nB) (hg : g < nG) (hsg : c.1 (58 + i) 0 = nI g) (hj : j < nG) (hj0 : c.1 (34 + j) 6 = 0) (hjg : j ≠ g) : zJL g (i + 1) nG nB (zmovS c i (nI j)) := by
  obtain ⟨⟨h1, h2⟩, hp, ⟨ha0, ha1⟩, hgg, hB⟩ := h
  have hne : ¬ c.1 (58 + i) 0 = -1 := by rw [hsg]; exact znI_ne_m1 (by omega)
  have hnj := znI_ne_m1 (a := j) (by omega)
  have e0 : (zmovS c i (nI j)).1 (58 + i) 0 = nI j := by unfold zmovS; simp (disch := omega) only [zr_n, zr_e]
  have eo : ∀ q j', q ≠ 58 + i ∨ (j' ≠ 0 ∧ j' ≠ 6) → (zmovS c i (nI j)).1 q j' = c.1 q j' := fun q j' hq => by
    unfold zmovS
    simp (disch := omega) only [zr_n]
  have hiff : ∀ k, ((zmovS c i (nI j)).1 (58 + k) 0 = -1 ↔ c.1 (58 + k) 0 = -1) := fun k => by
    by_cases q : k = i
    · rw [q, e0]
      exact ⟨fun z => absurd z hnj, fun z => absurd z hne⟩
    · rw [eo _ _ (by omega)]
  refine ⟨⟨(eo _ _ (by omega)).trans h1, (eo _ _ (by omega)).trans h2⟩, fun k hk hk0 => ?_, ⟨?_, ?_⟩, fun k j' hk hj' e => ?_, fun k hk e => ?_⟩
  · rw [eo _ 7 (by omega)]
    exact hp k hk (fun z => hk0 ((hiff k).mpr z))
  · rw [zaa_cg nB (fun k _ => ⟨hiff k, eo _ _ (by omega)⟩)]
    exact ha0
  · rw [zaa_cg nB (fun k _ => ⟨hiff k, eo _ _ (by omega)⟩)]
    exact ha1
  · rw [eo (34 + j') 6 (by omega)]
    by_cases q : k = i
    · rw [q, e0] at e
      have : j = j' := (nI_eq (by omega) (by omega)).mp e
      subst this
      exact Or.inl (by rw [hj0]; decide)
    · rw [eo _ _ (by omega)] at e
      exact hgg k j' hk hj' e
  · by_cases q : k = i
    · rw [q, e0] at e
      exact absurd ((nI_eq (by omega) (by omega)).mp e) hjg
    · rw [eo _ _ (by omega)] at e ⊢
      exact hB k (by omega) e
theorem zsendJ_lp (hg : g < nG) (l3 : nG ≤ 24) (l4 : nB ≤ 40) : ∀ (r n i a : Nat) (c : zSt), zJL g i nG nB c → ¬ c.1 (34 + g) 6 = 0 → i + r = nB → r < n → ∃ (a' : Nat) (c' : zSt), f_X6_sendOver_4 n c (nI g) (nI a) (nI i) = some (nI a', c') ∧ zJL g nB nG nB c' ∧ (∀ q j, q < 58 → c'.1 q j = c.1 q j) ∧ c'.2 8 2 = c.2 8 2 ∧ a' ≤ a + r
  | 0, n + 1, i, a, c, h, _, hi, _ => by
    refine ⟨a, c, ?_, (show i = nB by omega) ▸ h, fun _ _ _ => rfl, rfl, by omega⟩
    rw [f_X6_sendOver_4, h.1.2, zif_le (by omega) (by omega)]
  | r + 1, n + 1, i, a, c, h, hst, hi, hr => by
    rw [f_X6_sendOver_4, h.1.2, zif_nle (by omega) (by omega), kB_yes h.1.2 (by omega) l4, zbs, nI_1 i]
    have ih := zsendJ_lp hg l3 l4 r n (i + 1)
    have next : ∀ a c, zJL g (i + 1) nG nB c → ¬ c.1 (34 + g) 6 = 0 → ∃ (a' : Nat) (c' : zSt), f_X6_sendOver_4 n c (nI g) (nI a) (nI (i + 1)) = some (nI a', c') ∧ zJL g nB nG nB c' ∧ (∀ q j, q < 58 → c'.1 q j = c.1 q j) ∧ c'.2 8 2 = c.2 8 2 ∧ a' ≤ a + r := fun a c h1 h2 => ih a c h1 h2 (by omega) (by omega)
    dsimp only
    by_cases h1 : c.1 (58 + i) 0 = nI g
    · rw [if_pos h1]
      by_cases h2 : c.1 (58 + i) 11 = 0
      · rw [if_pos h2, next_eqC h.1.1 l3 hg, zbs]
        dsimp only
        have fin : ∀ c1, f_X6_goOver c (58 + i) (zln c g nG).1 = some ((), c1) → zJL g (i + 1) nG nB c1 → (∀ q j, q < 58 → c1.1 q j = c.1 q j) → c1.2 8 2 = c.2 8 2 → ∃ (a' : Nat) (c' : zSt), ((f_X6_goOver c (58 + i) (zln c g nG).1).bind fun q8 => f_X6_sendOver_4 n q8.2 (nI g) (nI a + 1) (nI (i + 1))) = some (nI a', c') ∧ zJL g nB nG nB c' ∧ (∀ q j, q < 58 → c'.1 q j = c.1 q j) ∧ c'.2 8 2 = c.2 8 2 ∧ a' ≤ a + (r + 1) := fun c1 q1 q2 q3 q4 => by
          rw [q1, zbs, nI_1 a]
          obtain ⟨a', c', w1, w2, w3, w4, w5⟩ := next (a + 1) c1 q2 (by rw [q3 _ _ (by omega)]; exact hst)
          exact ⟨a', c', w1, w2, fun q j hq => (w3 q j hq).trans (q3 q j hq), w4.trans q4, by omega⟩
        have payC : f_X6_goOver c (58 + i) (zln c g nG).1 = some ((), zpayS c i) → ∃ (a' : Nat) (c' : zSt), ((f_X6_goOver c (58 + i) (zln c g nG).1).bind fun q8 => f_X6_sendOver_4 n q8.2 (nI g) (nI a + 1) (nI (i + 1))) = some (nI a', c') ∧ zJL g nB nG nB c' ∧ (∀ q j, q < 58 → c'.1 q j = c.1 q j) ∧ c'.2 8 2 = c.2 8 2 ∧ a' ≤ a + (r + 1) := fun e =>
          fin _ e (zJL_pay l3 l4 h (by omega) hg h1) (fun q j hq => by unfold zpayS; simp (disch := omega) only [zr_n, zr_L1]) (by unfold zpayS; simp (disch := omega) only [zr_I2, zrL_n])
        rcases go_eqC c i (zln c g nG).1 with e | ⟨hne, e⟩
        · exact payC e
        · rcases zln_pl c g nG with e1 | ⟨j, hj, e1, e2⟩
          · exact absurd e1 hne
          · have hjg : j ≠ g := fun q => hst (by rw [← q]; exact e2)
            refine fin _ e ?_ (fun q j' hq => by unfold zmovS; simp (disch := omega) only [zr_n]) rfl
            rw [e1]
            exact zJL_mov l3 l4 h (by omega) hg h1 hj e2 hjg
      · rw [if_neg h2]
        obtain ⟨a', c', w1, w2, w3, w4, w5⟩ := next a c ⟨h.1, h.2.1, h.2.2.1, h.2.2.2.1, fun k hk e => by
          by_cases q : k = i
          · rw [q]; exact h2
          · exact h.2.2.2.2 k (by omega) e⟩ hst
        exact ⟨a', c', w1, w2, w3, w4, by omega⟩
    · rw [if_neg h1]
      obtain ⟨a', c', w1, w2, w3, w4, w5⟩ := next a c ⟨h.1, h.2.1, h.2.2.1, h.2.2.2.1, fun k hk e => by
        by_cases q : k = i
        · rw [q] at e; exact absurd e h1
        · exact h.2.2.2.2 k (by omega) e⟩ hst
      exact ⟨a', c', w1, w2, w3, w4, by omega⟩
theorem zsendJ (hg : g < nG) (l3 : nG ≤ 24) (l4 : nB ≤ 40) (h : zJL g 0 nG nB c) (hst : ¬ c.1 (34 + g) 6 = 0) {acc : Int32} (e : f_X6_sendOver c (nI g) = some (acc, c')) : (∃ a : Nat, a ≤ 40 ∧ acc = nI a) ∧ zJL g nB nG nB c' ∧ (∀ q j, q < 58 → c'.1 q j = c.1 q j) ∧ c'.2 8 2 = c.2 8 2 := by
  obtain ⟨a', c1, w1, w2, w3, w4, w5⟩ := zsendJ_lp hg l3 l4 nB 64 0 0 c h hst (by omega) (by omega)
  have e2 : some (acc, c') = some (nI a', c1) := e.symm.trans w1
  have e3 := Option.some.inj e2
  obtain ⟨rfl, rfl⟩ := Prod.mk.inj e3
  exact ⟨⟨a', by omega, rfl⟩, w2, w3, w4⟩
/-- what the sums and payments read has not changed -/
theorem zJ_cgF (l3 : nG ≤ 24) (l4 : nB ≤ 40) (h : zJ F nG nB c) (h1 : ∀ q j, 34 ≤ q → q < 98 → c'.1 q j = c.1 q j) (h2 : c'.2 8 0 = c.2 8 0 ∧ c'.2 8 1 = c.2 8 1) {F' : Nat} (h3 : zJf c' F') : zJ F' nG nB c' := by
  obtain ⟨hp, ⟨ha0, ha1⟩, hgg, hs, hf⟩ := h
  refine ⟨fun k hk hk0 => ?_, ⟨?_, ?_⟩, fun k j hk hj e => ?_, fun j hj => ?_, h3⟩
  · rw [h1 _ _ (by omega) (by omega)] at hk0 ⊢
    exact hp k hk hk0
  · rw [h2.1, zaa_cg nB (fun k hk => ⟨by rw [h1 _ _ (by omega) (by omega)], h1 _ _ (by omega) (by omega)⟩)]
    exact ha0
  · rw [h2.2, zaa_cg nB (fun k hk => ⟨by rw [h1 _ _ (by omega) (by omega)], h1 _ _ (by omega) (by omega)⟩)]
    exact ha1
  · rw [h1 _ _ (by omega) (by omega)] at e ⊢
    exact hgg k j hk hj e
  · rw [h1 _ _ (by omega) (by omega), h1 _ _ (by omega) (by omega), h1 _ _ (by omega) (by omega)]
    exact hs j hj
theorem zJ_cg (l3 : nG ≤ 24) (l4 : nB ≤ 40) (h : zJ F nG nB c) (h1 : ∀ q j, 34 ≤ q → q < 98 → c'.1 q j = c.1 q j) (h2 : ∀ j, j < 3 → c'.2 8 j = c.2 8 j) : zJ F nG nB c' :=
  zJ_cgF l3 l4 h h1 ⟨h2 0 (by omega), h2 1 (by omega)⟩ (by
    obtain ⟨f, hf, e⟩ := h.2.2.2.2
    exact ⟨f, hf, by rw [h2 2 (by omega)]; exact e⟩)
/-- a planned sailing is called off -/
theorem zoffJ (h5 : zR5 nS nK nG nB nw c m) (hg : g < nG) (h0 : c.1 (34 + g) 6 = 0) (hJ : zJ F nG nB c) {rr : Nat} (hr1 : 1 ≤ rr) (hr7 : rr ≤ 7) {acc : Int32} (e : f_X6_sendOver (zwI (zwI c (34 + g) 6 1) (34 + g) 7 (nI rr)) (nI g) = some (acc, c')) (h5' : zR5 nS nK nG nB nw c' m') : (∃ a : Nat, a ≤ 40 ∧ acc = nI a) ∧ zJ F nG nB c' ∧ c'.1 (34 + g) 6 = 1 ∧ c'.1 (34 + g) 7 = nI rr ∧ (∀ q j, q < 58 → q ≠ 34 + g → c'.1 q j = c.1 q j) := by
  have l3 : nG ≤ 24 := h5.1.2.2.2.2.1
  have l4 : nB ≤ 40 := h5.1.2.2.2.2.2.1
  obtain ⟨hp, ha, hgg, hs, hf⟩ := hJ
  have hL : zJL g 0 nG nB (zwI (zwI c (34 + g) 6 1) (34 + g) 7 (nI rr)) := by
    refine ⟨⟨?_, ?_⟩, fun k hk hk0 => ?_, ⟨?_, ?_⟩, fun k j hk hj e => ?_, fun k hk => absurd hk (Nat.not_lt_zero _)⟩
    · simp (disch := omega) only [zr_n]; exact h5.1.1.2.2.1
    · simp (disch := omega) only [zr_n]; exact h5.1.1.2.2.2.1
    · simp (disch := omega) only [zr_n] at hk0 ⊢
      exact hp k hk hk0
    · rw [zaa_cg (c := c) nB (fun k hk => ⟨by simp (disch := omega) only [zr_n], by simp (disch := omega) only [zr_n]⟩)]
      exact ha.1
    · rw [zaa_cg (c := c) nB (fun k hk => ⟨by simp (disch := omega) only [zr_n], by simp (disch := omega) only [zr_n]⟩)]
      exact ha.2
    · by_cases q : j = g
      · exact Or.inr q
      · simp (disch := omega) only [zr_n] at e ⊢
        exact Or.inl ((hgg k j hk hj e).resolve_right (by omega))
  obtain ⟨w1, ⟨-, p1, p2, p3, p4⟩, w3, w4⟩ := zsendJ hg l3 l4 hL (by simp (disch := omega) only [zr_n, zr_e]; decide) e
  have s6 : c'.1 (34 + g) 6 = 1 := by rw [w3 _ _ (by omega)]; simp (disch := omega) only [zr_n, zr_e]
  have s7 : c'.1 (34 + g) 7 = nI rr := by rw [w3 _ _ (by omega)]; simp (disch := omega) only [zr_e]
  have so : ∀ q j, q < 58 → q ≠ 34 + g → c'.1 q j = c.1 q j := fun q j a1 a2 => by
    rw [w3 q j a1]
    simp (disch := omega) only [zr_n]
  refine ⟨w1, ⟨p1, p2, fun k j hk hj e => ?_, fun j hj => ?_, ?_⟩, s6, s7, so⟩
  · rcases p3 k j hk hj e with h | h
    · exact Or.inl h
    · exfalso
      rw [h] at e
      obtain ⟨-, v2, v3, v4, v5, v6, v7, v8, v9⟩ := h5'.2.2.2.2.2.2.2.2.2.2.2.2.2.1 k hk
      have h11 := v4.resolve_left (p4 k hk e)
      have := v9 h11 g hg e
      rw [s6] at this
      exact absurd this (by decide)
  · by_cases q : j = g
    · rw [q, s6]
      exact ⟨fun _ => ⟨rr, hr1, hr7, s7⟩, fun z => absurd z (by decide)⟩
    · rw [so _ _ (by omega) (by omega), so _ _ (by omega) (by omega), so _ _ (by omega) (by omega)]
      exact hs j hj
  · obtain ⟨f, hf1, hf2⟩ := hf
    exact ⟨f, hf1, by rw [w4]; exact hf2⟩
/-- a sailing has sailed: what is behind the loading, and those that go over -/
theorem zsailJ {c2 : zSt} (h5 : zR5 nS nK nG nB nw c m) (hg : g < nG) (h0 : c.1 (34 + g) 6 = 0) (hJ : zJ F nG nB c) (e2 : c2.2 = c.2) (eo : ∀ q j, q = 0 ∨ 34 ≤ q → (q ≠ 34 + g ∨ (j ≠ 8 ∧ j ≠ 6 ∧ j ≠ 9)) → (q < 58 ∨ (j ≠ 4 ∧ j ≠ 5 ∧ j ≠ 11)) → c2.1 q j = c.1 q j) (s6 : c2.1 (34 + g) 6 = 2) (s9 : ¬ c2.1 (34 + g) 9 < -20 ∧ ¬ 20 < c2.1 (34 + g) 9) {acc : Int32} (e : f_X6_sendOver c2 (nI g) = some (acc, c')) : zJ F nG nB c' := by
  have l3 : nG ≤ 24 := h5.1.2.2.2.2.1
  have l4 : nB ≤ 40 := h5.1.2.2.2.2.2.1
  obtain ⟨hp, ha, hgg, hs, hf⟩ := hJ
  have hL : zJL g 0 nG nB c2 := by
    refine ⟨⟨?_, ?_⟩, fun k hk hk0 => ?_, ⟨?_, ?_⟩, fun k j hk hj e => ?_, fun k hk => absurd hk (Nat.not_lt_zero _)⟩
    · rw [eo _ _ (by omega) (by omega) (by omega)]; exact h5.1.1.2.2.1
    · rw [eo _ _ (by omega) (by omega) (by omega)]; exact h5.1.1.2.2.2.1
    · rw [eo _ _ (by omega) (by omega) (by omega)] at hk0 ⊢
      exact hp k hk hk0
    · rw [e2, zaa_cg nB (fun k hk => ⟨by rw [eo _ _ (by omega) (by omega) (by omega)], eo _ _ (by omega) (by omega) (by omega)⟩)]
      exact ha.1
    · rw [e2, zaa_cg nB (fun k hk => ⟨by rw [eo _ _ (by omega) (by omega) (by omega)], eo _ _ (by omega) (by omega) (by omega)⟩)]
      exact ha.2
    · by_cases q : j = g
      · exact Or.inr q
      · rw [eo _ _ (by omega) (by omega) (by omega)] at e ⊢
        exact Or.inl ((hgg k j hk hj e).resolve_right (by omega))
  obtain ⟨-, ⟨-, p1, p2, p3, p4⟩, w3, w4⟩ := zsendJ hg l3 l4 hL (by rw [s6]; decide) e
  refine ⟨p1, p2, fun k j hk hj e => ?_, fun j hj => ?_, ?_⟩
  · rcases p3 k j hk hj e with h | h
    · exact Or.inl h
    · rw [h, w3 _ _ (by omega), s6]
      exact Or.inl (by decide)
  · by_cases q : j = g
    · rw [q, w3 _ _ (by omega), w3 _ _ (by omega), w3 _ _ (by omega), s6]
      exact ⟨fun z => absurd z (by decide), fun _ => s9⟩
    · rw [w3 _ _ (by omega), w3 _ _ (by omega), w3 _ _ (by omega), eo _ _ (by omega) (by omega) (by omega), eo _ _ (by omega) (by omega) (by omega), eo _ _ (by omega) (by omega) (by omega)]
      exact hs j hj
  · obtain ⟨f, hf1, hf2⟩ := hf
    exact ⟨f, hf1, by rw [w4, e2]; exact hf2⟩
end ZJ
