/-! the law's function, on every script: it answers 1 -/
section ZLP
variable {c c' : zSt} {nG nB nw F F' L : Nat} {xs : Nat → Int32} {K : zSt → Int32 → Int32 → Int32 → Int32 → Int32 → Option (Unit × zSt)} {v5 v6 : Int32}
theorem low_at (st : zSt) (v : Int32) {n : Nat} (h1 : 1 ≤ n) (h2 : n < 1000000) {a : Int32} (ha : a = nI n) : ∃ k : Nat, k < n ∧ f_L_low st v a = some (nI k, st) := by
  obtain ⟨x, hx, e⟩ := pk_andE v (m := 2147483647) 31 (by decide)
  refine ⟨x % n, Nat.mod_lt _ (by omega), ?_⟩
  unfold f_L_low
  have hd : x / n * n + x % n = x := by rw [Nat.mul_comm]; exact Nat.div_add_mod x n
  rw [ha, if_pos (nI_ne0 (by omega) (by omega)), e, pk_div (by omega) (by omega) (by omega), pk_mul, pk_sub (by omega), show x - x / n * n = x % n by omega]
theorem cell_at (st : zSt) {k : Nat} (hk : k < 100000) (hL : L ≤ 260) {a : Int32} (ha : a = nI k) : ∃ v : Int32, f_L_cell L xs st a = some (v, st) := by
  unfold f_L_cell
  rw [ha]
  by_cases h : L ≤ k
  · exact ⟨_, by rw [zif_le h (by omega)]⟩
  · exact ⟨_, by rw [zif_nle (by omega) (by omega), zif_in (by omega) (by omega)]⟩
theorem ad1 (k : Nat) : (1 : Int32) + nI k = nI (1 + k) := nI_add 1 k
theorem ad5 (k : Nat) : (5 : Int32) + nI k = nI (5 + k) := nI_add 5 k
theorem ad7 (k : Nat) : (7 : Int32) + nI k = nI (7 + k) := nI_add 7 k
theorem ad8 (k : Nat) : (8 : Int32) + nI k = nI (8 + k) := nI_add 8 k
theorem ad3 (k : Nat) : (3 : Int32) + nI k = nI (3 + k) := nI_add 3 k
theorem ad10 (k : Nat) : (10 : Int32) + nI k = nI (10 + k) := nI_add 10 k
theorem nneg (k : Nat) (h : k < 1000000) : ¬ nI k < 0 := by rw [z0]; exact nI_nlt (by omega) (by omega)
/-- the turns behind this one go well -/
def zKok (F : Nat) (v5 v6 : Int32) (K : zSt → Int32 → Int32 → Int32 → Int32 → Int32 → Option (Unit × zSt)) : Prop := ∀ (c : zSt) (nG nB nw : Nat), zS 2 2 F nG nB nw c → nw ≤ 8040 → ∃ o, K c (nI nG) (nI nB) 1 v5 (v6 + 1) = some o
theorem n1z : ¬ (1 : Int32) = 0 := by decide
theorem t947 (hK : zKok F v5 v6 K) (h : zS 2 2 F nG nB nw c) (hw : nw ≤ 8040) : ∃ o, f_L_law_947 L xs K c (nI nG) (nI nB) 1 v5 v6 = some o := by
  obtain ⟨⟨m, h52, h5⟩, hJ⟩ := id h
  unfold f_L_law_947
  rw [if_neg n1z, l_all h5 hJ, zbs, if_neg n1z]
  exact hK c nG nB nw h hw
theorem t398 {v : Int32} (hv : v < 0) : f_L_law_398 L xs K c (nI nG) (nI nB) v5 v6 v = f_L_law_947 L xs K c (nI nG) (nI nB) 1 v5 v6 := by
  unfold f_L_law_398 f_L_law_405 f_L_law_418
  rw [if_pos hv, Int32.add_zero]
theorem t398p (hG : nG < 100000) : f_L_law_398 L xs K c (nI nG) (nI nB) v5 v6 (nI nG) = f_L_law_947 L xs K c (nI (nG + 1)) (nI nB) 1 v5 v6 := by
  unfold f_L_law_398 f_L_law_405 f_L_law_418
  rw [if_neg (nneg nG (by omega)), nI_1]
theorem t797 {v : Int32} (hv : v < 0) : f_L_law_797 L xs K c (nI nG) (nI nB) v5 v6 v = f_L_law_947 L xs K c (nI nG) (nI nB) 1 v5 v6 := by
  unfold f_L_law_797 f_L_law_804 f_L_law_817
  rw [if_pos hv, Int32.add_zero]
theorem t797p (hG : nG < 100000) : f_L_law_797 L xs K c (nI nG) (nI nB) v5 v6 (nI nG) = f_L_law_947 L xs K c (nI (nG + 1)) (nI nB) 1 v5 v6 := by
  unfold f_L_law_797 f_L_law_804 f_L_law_817
  rw [if_neg (nneg nG (by omega)), nI_1]
theorem t585 {v : Int32} (hv : v < 0) : f_L_law_585 L xs K c (nI nG) (nI nB) 1 v5 v6 v = f_L_law_947 L xs K c (nI nG) (nI nB) 1 v5 v6 := by
  unfold f_L_law_585 f_L_law_598
  rw [if_pos hv, Int32.add_zero]
theorem t585p (hB : nB < 100000) : f_L_law_585 L xs K c (nI nG) (nI nB) 1 v5 v6 (nI nB) = f_L_law_947 L xs K c (nI nG) (nI (nB + 1)) 1 v5 v6 := by
  unfold f_L_law_585 f_L_law_598
  rw [if_neg (nneg nB (by omega)), nI_1]
theorem t313 (hK : zKok F v5 v6 K) (h : zS 2 2 F nG nB nw c) (hw : nw ≤ 8040) (v7 : Int32) : ∃ o, f_L_law_313 L xs K c (nI nG) (nI nB) v5 v6 v7 (nI nw) = some o := by
  obtain ⟨⟨m, h52, h5⟩, hJ⟩ := id h
  have l3 : nG ≤ 24 := h5.1.2.2.2.2.1
  obtain ⟨i, hi, e1⟩ := low_at c v7 (n := 2) (by omega) (by omega) rfl
  obtain ⟨t, ht, e2⟩ := low_at c (zshr v7 3) (n := 3) (by omega) (by omega) rfl
  obtain ⟨x, hx, e3⟩ := low_at c (zshr v7 6) (n := 12) (by omega) (by omega) rfl
  obtain ⟨d, hd, e4⟩ := low_at c (zshr v7 8) (n := 90) (by omega) (by omega) rfl
  have e1 : f_L_low c v7 2 = some (nI i, c) := e1
  have e2 : f_L_low c (zshr v7 3) 3 = some (nI t, c) := e2
  have e3 : f_L_low c (zshr v7 6) 12 = some (nI x, c) := e3
  have e4 : f_L_low c (zshr v7 8) 90 = some (nI d, c) := e4
  unfold f_L_law_313
  rw [e1, zbs]
  dsimp only
  rw [e2, zbs]
  dsimp only
  rw [e3, zbs]
  dsimp only
  rw [e4, zbs]
  dsimp only
  rw [nI_add, ad1]
  rcases q_plan h hi (show t < 6 by omega) (show nw ≤ nw + x by omega) (by omega) (show 1 ≤ 1 + d by omega) (by omega) with e | e | ⟨c', e, hS, s0, en, hen, hen2, s1⟩
  · rw [e, zbs]
    dsimp only
    rw [if_pos rfl, t398 (by decide)]
    exact t947 hK h hw
  · rw [e, zbs]
    dsimp only
    rw [if_neg (by decide), if_pos rfl, t398 (by decide)]
    exact t947 hK h hw
  · have n8 : ¬ nI nG = -8 := fun q => nneg nG (by omega) (by rw [q]; decide)
    have n9 : ¬ nI nG = -9 := fun q => nneg nG (by omega) (by rw [q]; decide)
    rw [e, zbs]
    dsimp only
    rw [if_neg n8, if_neg n9, if_pos rfl, s0, zbs]
    dsimp only
    rw [if_pos rfl, s1, zbs]
    dsimp only
    rw [if_neg (nI_ge hen (by omega)), t398p (by omega)]
    exact t947 hK hS hw
theorem t522n (hK : zKok F v5 v6 K) (h : zS 2 2 F nG nB nw c) (hw : nw ≤ 8040) {g : Nat} (hg : g < nG) (hn : ¬ (c.1 (34 + g) 6 = 0 ∧ nB < 40)) : ∃ o, f_L_law_522 L xs K c (nI nG) (nI nB) v5 v6 (nI g) (-9) = some o := by
  obtain ⟨⟨m, h52, h5⟩, hJ⟩ := id h
  have l4 : nB ≤ 40 := h5.1.2.2.2.2.2.1
  unfold f_L_law_522
  rw [if_pos rfl]
  by_cases h40 : nI nB = 40
  · rw [if_pos h40]
    unfold f_L_law_544
    rw [t585 (by decide)]
    exact t947 hK h hw
  · have h0 : ¬ c.1 (34 + g) 6 = 0 := fun q => hn ⟨q, by
      have : nB ≠ 40 := fun z => h40 (by rw [z]; rfl)
      omega⟩
    have hs : ¬ c.1 (34 + g) 6 + 10 * c.1 (34 + g) 7 = 0 := by
      rcases o_st h5 hJ hg with ⟨q, -⟩ | ⟨-, es⟩ | ⟨-, r, r1, r7, es⟩
      · exact absurd q h0
      · rw [es]; decide
      · rw [es]; exact nI_ne0 (by omega) (by omega)
    rw [if_neg h40, o_state h5 hg, zbs]
    dsimp only
    rw [if_neg hs]
    unfold f_L_law_544
    rw [t585 (by decide)]
    exact t947 hK h hw
theorem t522y (hK : zKok F v5 v6 K) (h : zS 2 2 F nG (nB + 1) nw c) (hw : nw ≤ 8040) {g pd : Nat} (hB : nB < 40) (s1 : f_X6_sailingOf c (nI nB) = some (nI g, c)) (hp1 : 1 ≤ pd) (hp2 : pd ≤ 8000) (s2 : f_X6_paid c (nI nB) = some (nI pd, c)) : ∃ o, f_L_law_522 L xs K c (nI nG) (nI nB) v5 v6 (nI g) (nI nB) = some o := by
  have n9 : ¬ nI nB = -9 := fun q => nneg nB (by omega) (by rw [q]; decide)
  unfold f_L_law_522
  rw [if_neg n9, if_pos rfl, s1, zbs]
  dsimp only
  rw [if_pos rfl, s2, zbs]
  dsimp only
  rw [if_neg (show ¬ nI pd ≤ 0 from nI_ge (a := 0) (by omega) (by omega)), t585p (by omega)]
  exact t947 hK h hw
theorem t459 (hK : zKok F v5 v6 K) (h : zS 2 2 F nG nB nw c) (hw : nw ≤ 8040) {g ki : Nat} (hg : g < nG) (hki : ki < 4) {a5 : Int32} (h01 : a5 = 0 ∨ (a5 = 1 ∧ 1 ≤ ki)) (v7 : Int32) : ∃ o, f_L_law_459 L xs K c (nI nG) (nI nB) v5 v6 v7 (nI g) (nI ki) a5 = some o := by
  obtain ⟨p, hp, e1⟩ := low_at c (zshr v7 3) (n := 10) (by omega) (by omega) rfl
  obtain ⟨x, hx, e2⟩ := low_at c (zshr v7 7) (n := 20) (by omega) (by omega) rfl
  obtain ⟨y, hy, e3⟩ := low_at c (zshr v7 9) (n := 60) (by omega) (by omega) rfl
  have e1 : f_L_low c (zshr v7 3) 10 = some (nI p, c) := e1
  have e2 : f_L_low c (zshr v7 7) 20 = some (nI x, c) := e2
  have e3 : f_L_low c (zshr v7 9) 60 = some (nI y, c) := e3
  have h01' : a5 = 0 ∨ a5 = 1 := h01.imp_right And.left
  have go : ∀ le we : Nat, le ≤ 40 → (we ≤ 200 ∧ (ki = 0 ∨ 1 ≤ we)) → zbk (nI ki) (nI le) (nI we) a5 = 1 → ∃ o, ((g_L_book c (nI p) (nI g) (nI ki) (nI le) (nI we) a5).bind fun q => f_L_law_522 L xs K q.2 (nI nG) (nI nB) v5 v6 (nI g) q.1) = some o := fun le we h1 h2 h3 => by
    rcases q_book h hp hg (show ki ≤ 3 by omega) h1 h2 h01' h3 with ⟨hn, e⟩ | ⟨c', pd, hB, e, hS, s1, hp1, hp2, s2⟩
    · rw [e, zbs]
      exact t522n hK h hw hg hn
    · rw [e, zbs]
      exact t522y hK hS hw hB s1 hp1 hp2 s2
  unfold f_L_law_459
  rw [e1, zbs]
  dsimp only
  by_cases hk0 : ki = 0
  · subst hk0
    have ha : a5 = 0 := by
      rcases h01 with q | ⟨_, q⟩
      · exact q
      · omega
    subst ha
    rw [if_pos (show nI 0 = 0 from rfl), if_pos (show nI 0 = 0 from rfl)]
    exact go 0 0 (by omega) ⟨by omega, Or.inl rfl⟩ (by decide)
  · have hne : ¬ nI ki = 0 := nI_ne0 (by omega) (by omega)
    have hb : zbk (nI ki) (nI (1 + x)) (nI (1 + y)) a5 = 1 := by
      unfold zbk
      rw [if_neg hne, if_neg]
      rw [show zwi (nI ki) 1 3 = 1 from zwi_in (lo := 1) (hi := 3) (by omega) (by omega) (by omega), show zwi (nI (1 + x)) 1 40 = 1 from zwi_in (lo := 1) (hi := 40) (by omega) (by omega) (by omega), show zwi (nI (1 + y)) 1 200 = 1 from zwi_in (lo := 1) (hi := 200) (by omega) (by omega) (by omega)]
      decide
    rw [if_neg hne, e2, zbs]
    dsimp only
    rw [if_neg hne, e3, zbs]
    dsimp only
    rw [ad1, ad1]
    exact go (1 + x) (1 + y) (by omega) ⟨by omega, Or.inr (by omega)⟩ hb
theorem t684 (hK : zKok F v5 v6 K) (h : zS 2 2 F nG nB nw c) (hw : nw ≤ 8040) {g : Nat} (hg : g < nG) : ∃ o, ((f_X6_state c (nI g)).bind fun q93 => (if q93.1 = 0 then f_L_law_684 L xs K q93.2 (nI nG) (nI nB) v5 v6 (nI g) 1 else f_L_law_684 L xs K q93.2 (nI nG) (nI nB) v5 v6 (nI g) 0)) = some o := by
  obtain ⟨⟨m, h52, h5⟩, hJ⟩ := id h
  rw [o_state h5 hg, zbs]
  dsimp only
  unfold f_L_law_684
  rcases q_cancel h hg 0 with ⟨h0, e⟩ | ⟨h0, a, c', ha, e, hS, s1⟩
  · have hs : ¬ c.1 (34 + g) 6 + 10 * c.1 (34 + g) 7 = 0 := by
      rcases o_st h5 hJ hg with ⟨q, -⟩ | ⟨-, es⟩ | ⟨-, r, r1, r7, es⟩
      · exact absurd q h0
      · rw [es]; decide
      · rw [es]; exact nI_ne0 (by omega) (by omega)
    rw [if_neg hs, e, zbs]
    dsimp only
    rw [if_pos rfl, if_pos rfl]
    exact t947 hK h hw
  · have hs : c.1 (34 + g) 6 + 10 * c.1 (34 + g) 7 = 0 := by
      rcases o_st h5 hJ hg with ⟨-, es⟩ | ⟨q, -⟩ | ⟨q, -⟩
      · exact es
      · exact absurd (h0.symm.trans q) (by decide)
      · exact absurd (h0.symm.trans q) (by decide)
    rw [if_pos hs, e, zbs]
    dsimp only
    rw [if_neg n1z, if_neg (nneg a (by omega)), s1, zbs]
    dsimp only
    rw [if_pos rfl]
    exact t947 hK hS hw
theorem tpass (hK : zKok F v5 v6 K) (h : zS 2 2 F nG nB nw c) (hw : nw ≤ 8000) {hr : Nat} (h1 : 1 ≤ hr) (h2 : hr ≤ 40) : ∃ o, ((f_X6_pass c (nI hr)).bind fun q => (if q.1 ≤ nI nw then f_L_law_655 L xs K q.2 (nI nG) (nI nB) v5 v6 else f_L_law_651 L xs K q.2 (nI nG) (nI nB) v5 v6)) = some o := by
  obtain ⟨c', e, hS⟩ := q_pass h h1 (by omega) (by omega)
  rw [e, zbs]
  dsimp only
  rw [if_neg (nI_ge (by omega) (by omega))]
  unfold f_L_law_651 f_L_law_658
  exact t947 hK hS (by omega)
set_option maxHeartbeats 1000000 in
theorem t303 (hK : zKok (F + 3000) v5 v6 K) (h : zS 2 2 F nG nB nw c) (hF : F ≤ 1000000) (hw : nw ≤ 8040) {so g : Nat} (hso : so < 22) (hg : nG = 0 ∨ g < nG) (v7 : Int32) : ∃ o, f_L_law_303 L xs K c (nI nG) (nI nB) 1 v5 v6 v7 (nI so) (nI nw) (nI g) = some o := by
  obtain ⟨⟨m, h52, h5⟩, hJ⟩ := id h
  have l3 : nG ≤ 24 := h5.1.2.2.2.2.1
  have hM := zS_mono (F' := F + 3000) h (by omega)
  unfold f_L_law_303
  by_cases h0 : nG = 0
  · rw [if_pos (show nI nG = 0 by rw [h0]; rfl)]
    exact t313 hK hM hw v7
  have hg : g < nG := hg.resolve_left h0
  have hne : ¬ nI nG = 0 := nI_ne0 (by omega) (by omega)
  have yes : ∀ {α : Type} (b : Nat) (x y : α) {B : Int32}, B = nI b → b ≤ so → (if B ≤ nI so then x else y) = x := fun b x y B e q => if_pos (by rw [e]; exact nI_le q (by omega))
  have nope : ∀ {α : Type} (b : Nat) (x y : α) {B : Int32}, B = nI b → b < 100 → so < b → (if B ≤ nI so then x else y) = y := fun b x y B e q1 q => if_neg (by rw [e]; exact nI_ge q (by omega))
  have lows : ∀ (c : zSt) (v : Int32) (n : Nat) {a : Int32}, a = nI n → 1 ≤ n → n < 1000000 → ∃ k : Nat, k < n ∧ f_L_low c v a = some (nI k, c) := fun c v n a e h1 h2 => low_at c v h1 h2 e
  rw [if_neg hne]
  by_cases h5s : 5 ≤ so
  case neg =>
    rw [nope 5 _ _ (B := 5) rfl (by omega) (by omega)]
    exact t313 hK hM hw v7
  rw [yes 5 _ _ (B := 5) rfl h5s]
  by_cases h12 : 12 ≤ so
  case neg =>
    rw [nope 12 _ _ (B := 12) rfl (by omega) (by omega)]
    obtain ⟨ki, hki, e1⟩ := lows c v7 4 (a := 4) rfl (by omega) (by omega)
    rw [e1, zbs]
    dsimp only
    by_cases hk0 : ki = 0
    · rw [if_pos (show nI ki ≤ 0 by rw [hk0]; decide)]
      unfold f_L_law_456
      exact t459 hK hM hw hg hki (Or.inl rfl) v7
    · obtain ⟨b, hb, e2⟩ := lows c (zshr v7 4) 5 (a := 5) rfl (by omega) (by omega)
      rw [if_neg (show ¬ nI ki ≤ 0 from nI_ge (a := 0) (by omega) (by omega)), e2, zbs]
      dsimp only
      by_cases hb0 : nI b = 0
      · rw [if_pos hb0]
        exact t459 hK hM hw hg hki (Or.inr ⟨rfl, by omega⟩) v7
      · rw [if_neg hb0]
        unfold f_L_law_456
        exact t459 hK hM hw hg hki (Or.inl rfl) v7
  rw [yes 12 _ _ (B := 12) rfl h12]
  by_cases h17 : 17 ≤ so
  case neg =>
    rw [nope 17 _ _ (B := 17) rfl (by omega) (by omega)]
    by_cases h8 : nw ≤ 8000
    case neg =>
      rw [if_pos (show (8000 : Int32) < nI nw from nI_lt (a := 8000) (by omega) (by omega))]
      unfold f_L_law_651 f_L_law_658
      exact t947 hK hM hw
    rw [if_neg (show ¬ (8000 : Int32) < nI nw from nI_nlt (a := 8000) (by omega) (by omega))]
    obtain ⟨k, hk, e1⟩ := lows c (zshr v7 8) 2 (a := 2) rfl (by omega) (by omega)
    rw [e1, zbs]
    dsimp only
    by_cases hk0 : nI k = 0
    · obtain ⟨x, hx, e2⟩ := lows c v7 6 (a := 6) rfl (by omega) (by omega)
      rw [if_pos hk0, e2, zbs]
      dsimp only
      rw [ad1]
      exact tpass hK hM h8 (by omega) (by omega)
    · obtain ⟨x, hx, e2⟩ := lows c v7 40 (a := 40) rfl (by omega) (by omega)
      rw [if_neg hk0, e2, zbs]
      dsimp only
      rw [ad1]
      exact tpass hK hM h8 (by omega) (by omega)
  rw [yes 17 _ _ (B := 17) rfl h17]
  by_cases h18 : 18 ≤ so
  case neg =>
    rw [nope 18 _ _ (B := 18) rfl (by omega) (by omega)]
    exact t684 hK hM hw hg
  rw [yes 18 _ _ (B := 18) rfl h18]
  by_cases h19 : 19 ≤ so
  case neg =>
    rw [nope 19 _ _ (B := 19) rfl (by omega) (by omega)]
    obtain ⟨i, hi, e1⟩ := lows c v7 2 (a := 2) rfl (by omega) (by omega)
    rw [e1, zbs]
    dsimp only
    rcases q_replace hM hg hi with e | ⟨c', e, hS, s1, s6, s10⟩
    · rw [e, zbs]
      dsimp only
      rw [if_pos rfl, t797 (by decide)]
      exact t947 hK hM hw
    · have n9 : ¬ nI nG = -9 := fun q => nneg nG (by omega) (by rw [q]; decide)
      rw [e, zbs]
      dsimp only
      rw [if_neg n9, if_pos rfl, s1, zbs]
      dsimp only
      rw [if_pos rfl, show g_L_acts1 c' (nI g) 0 = some (-9, c') from q_again (i := 0) hS (by omega) (by omega) s10 s6, zbs]
      dsimp only
      rw [if_pos rfl, t797p (by omega)]
      exact t947 hK hS hw
  rw [yes 19 _ _ (B := 19) rfl h19]
  by_cases h21 : 21 ≤ so
  case neg =>
    rw [nope 21 _ _ (B := 21) rfl (by omega) (by omega)]
    obtain ⟨i, hi, e1⟩ := lows c v7 2 (a := 2) rfl (by omega) (by omega)
    obtain ⟨x, hx, e2⟩ := lows c (zshr v7 3) 500 (a := 500) rfl (by omega) (by omega)
    rw [e1, zbs]
    dsimp only
    rw [e2, zbs]
    dsimp only
    rw [ad1]
    obtain ⟨t, ht, et, q⟩ := q_fill h hi (show 1 ≤ 1 + x by omega) (by omega) hF
    rw [o_fuel h5 hi, et, zbs]
    dsimp only
    rw [nI_add]
    rcases q with ⟨hbig, f0, fx⟩ | ⟨hfit, c', f0, hS, -⟩
    · have e : g_L_acts2 c (nI i) (nI (1 + x)) = some (-9, c) := zw_x f0 fx rfl
      rw [e, zbs]
      dsimp only
      rw [if_neg (show ¬ nI (t + (1 + x)) ≤ 1000 from nI_ge (a := 1000) (by omega) (by omega)), if_pos rfl]
      unfold f_L_law_890 f_L_law_897
      exact t947 hK hM hw
    · have e : g_L_acts2 c (nI i) (nI (1 + x)) = some (nI (t + (1 + x)), c') := zw_ok f0
      rw [e, zbs]
      dsimp only
      rw [if_pos (show nI (t + (1 + x)) ≤ 1000 from nI_le (b := 1000) (by omega) (by omega)), if_pos rfl]
      unfold f_L_law_890 f_L_law_897
      exact t947 hK hS hw
  rw [yes 21 _ _ (B := 21) rfl h21]
  obtain ⟨x, hx, e1⟩ := lows c (zshr v7 4) 20 (a := 20) rfl (by omega) (by omega)
  obtain ⟨a, ha, e2⟩ := lows c v7 3 (a := 3) rfl (by omega) (by omega)
  obtain ⟨i, hi, e3⟩ := lows c (zshr v7 2) 2 (a := 2) rfl (by omega) (by omega)
  obtain ⟨y, hy, e4⟩ := lows c (zshr v7 6) 10 (a := 10) rfl (by omega) (by omega)
  rw [e1, zbs]
  dsimp only
  rw [e2, zbs]
  dsimp only
  rw [e3, zbs]
  dsimp only
  rw [e4, zbs]
  dsimp only
  rw [nI_add, nI_add]
  obtain ⟨c', e, hS⟩ := q_hinder hM ha hi (show nw + x ≤ nw + x + y by omega) (by omega)
  rw [e, zbs]
  exact t947 hK hS hw
theorem t244 (hL : L ≤ 260) {T : Nat} (hT : T ≤ 57) : ∀ (r n k F : Nat) (c : zSt) (nG nB nw : Nat), T ≤ k + r → r < n → k ≤ 57 → F ≤ 10000 + 3000 * k → zS 2 2 F nG nB nw c → nw ≤ 8040 → ∃ o, f_L_law_244 L xs n c (nI nG) (nI nB) 1 (nI T) (nI k) = some o
  | 0, n + 1, k, F, c, nG, nB, nw, hr, hn, hk, hF, h, hw => by
    rw [f_L_law_244, zif_le (by omega) (by omega), if_pos rfl]
    exact ⟨_, rfl⟩
  | r + 1, n + 1, k, F, c, nG, nB, nw, hr, hn, hk, hF, h, hw => by
    rw [f_L_law_244]
    by_cases hd : T ≤ k
    · rw [zif_le hd (by omega), if_pos rfl]
      exact ⟨_, rfl⟩
    · obtain ⟨⟨m, h52, h5⟩, hJ⟩ := id h
      have l3 : nG ≤ 24 := h5.1.2.2.2.2.1
      obtain ⟨v, e1⟩ := cell_at (xs := xs) c (k := 7 + k) (by omega) hL (ad7 k)
      obtain ⟨so, hso, e2⟩ := low_at c (zshr v 20) (n := 22) (by omega) (by omega) (a := 22) rfl
      have en : f_X6_now c = some (nI nw, c) := by unfold f_X6_now; rw [h5.1.1.2.2.2.2]
      have hK : zKok (F + 3000) (nI T) (nI k) (fun st v2 v3 v4 v5 v6 => f_L_law_244 L xs n st v2 v3 v4 v5 v6) := fun c1 g1 b1 w1 hS1 hw1 => by
        dsimp only
        rw [nI_1]
        exact t244 hL hT r n (k + 1) (F + 3000) c1 g1 b1 w1 (by omega) (by omega) (by omega) (by omega) hS1 hw1
      rw [zif_nle (by omega) (by omega), if_neg n1z, e1, zbs]
      dsimp only
      rw [e2, zbs]
      dsimp only
      rw [en, zbs]
      dsimp only
      by_cases h0 : nG = 0
      · rw [if_pos (show nI nG = 0 by rw [h0]; rfl)]
        exact t303 (g := 0) hK h (by omega) hw hso (Or.inl h0) v
      · obtain ⟨g, hg, e3⟩ := low_at c (zshr v 5) (n := nG) (by omega) (by omega) (a := nI nG) rfl
        rw [if_neg (nI_ne0 (by omega) (by omega)), e3, zbs]
        exact t303 hK h (by omega) hw hso (Or.inr hg) v
theorem t170 (hL : L ≤ 260) : ∀ (r n k : Nat) (c : zSt), k + r = 4 → r < n → zS 2 2 6000 0 0 0 c → (∀ j, k ≤ j → j < 4 → c.1 5 j = -1) → ∃ o, f_L_law_170 L xs n c 0 0 1 (nI k) = some o
  | 0, n + 1, k, c, hr, hn, h, h5 => by
    rw [f_L_law_170, if_pos (show (4 : Int32) ≤ nI k from nI_le (a := 4) (by omega) (by omega))]
    obtain ⟨c', e1, hS⟩ := zS_bus h
    obtain ⟨v, e2⟩ := cell_at (xs := xs) c' (k := 0) (by omega) hL (a := 0) rfl
    obtain ⟨t, ht, e3⟩ := low_at c' v (n := 50) (by omega) (by omega) (a := 50) rfl
    rw [e1, zbs]
    dsimp only
    rw [e2, zbs]
    dsimp only
    rw [e3, zbs]
    dsimp only
    rw [ad8]
    exact t244 hL (show 8 + t ≤ 57 by omega) 57 64 0 6000 c' 0 0 0 (by omega) (by omega) (by omega) (by omega) hS (by omega)
  | r + 1, n + 1, k, c, hr, hn, h, h5 => by
    rw [f_L_law_170, if_neg (show ¬ (4 : Int32) ≤ nI k from nI_ge (b := 4) (by omega) (by omega)), if_neg n1z]
    obtain ⟨v, e1⟩ := cell_at (xs := xs) c (k := 3 + k) (by omega) hL (ad3 k)
    obtain ⟨i, hi, e2⟩ := low_at c v (n := 7) (by omega) (by omega) (a := 7) rfl
    have hv : nI i - 1 = -1 ∨ ∃ j : Nat, j < 6 ∧ nI i - 1 = nI j := by
      by_cases q : i = 0
      · exact Or.inl (by rw [q]; decide)
      · obtain ⟨j, rfl⟩ : ∃ j, i = j + 1 := ⟨i - 1, by omega⟩
        exact Or.inr ⟨j, by omega, zm1 j⟩
    obtain ⟨c', e3, hS, ho⟩ := zS_res h (nI i - 1) (show k < 10 by omega) hv
    rw [e1, zbs]
    dsimp only
    rw [e2, zbs]
    dsimp only
    rw [e3, zbs]
    dsimp only
    rw [if_pos (h5 k (Nat.le_refl _) (by omega)), nI_1]
    exact t170 hL r n (k + 1) c' (by omega) (by omega) hS (fun j h1 h2 => by rw [ho j (by omega)]; exact h5 j (by omega) h2)
theorem t18 (hL : L ≤ 260) : ∀ (r n k : Nat) (c : zSt), k + r = 2 → r < n → zS k k (3000 * k) 0 0 0 c → (∀ i, k ≤ i → i < 2 → c.1 (14 + i) 6 = 0) → (∀ j, j < 4 → c.1 5 j = -1) → ∃ o, f_L_law_18 L xs n c 0 0 1 (nI k) = some o
  | 0, n + 1, k, c, hr, hn, h, h6, h5 => by
    rw [f_L_law_18, if_pos (show (2 : Int32) ≤ nI k from nI_le (a := 2) (by omega) (by omega))]
    have : k = 2 := by omega
    subst this
    exact t170 hL 4 64 0 c (by omega) (by omega) h (fun j _ hj => h5 j hj)
  | r + 1, n + 1, k, c, hr, hn, h, h6, h5 => by
    rw [f_L_law_18, if_neg (show ¬ (2 : Int32) ≤ nI k from nI_ge (b := 2) (by omega) (by omega))]
    obtain ⟨v, e1⟩ := cell_at (xs := xs) c (k := 1 + k) (by omega) hL (ad1 k)
    obtain ⟨la, hla, e2⟩ := low_at c v (n := 4) (by omega) (by omega) (a := 4) rfl
    obtain ⟨le, hle, e3⟩ := low_at c (zshr v 3) (n := 40) (by omega) (by omega) (a := 40) rfl
    obtain ⟨we, hwe, e4⟩ := low_at c (zshr v 5) (n := 400) (by omega) (by omega) (a := 400) rfl
    obtain ⟨dr, hdr, e5⟩ := low_at c (zshr v 7) (n := 5) (by omega) (by omega) (a := 5) rfl
    obtain ⟨sp, hsp, e6⟩ := low_at c (zshr v 9) (n := 20) (by omega) (by omega) (a := 20) rfl
    obtain ⟨c1, e7, hS1, k1, g1⟩ := zS_ship h (show k < 4 by omega) (ho := k) (la := 1 + la) (le := 10 + le) (we := 1 + we) (dr := 1 + dr) (sp := 5 + sp) (by omega) (by omega) (by omega) (by omega) (by omega) (by omega)
    rw [e1, zbs, if_neg n1z]
    dsimp only
    rw [e2, zbs]
    dsimp only
    rw [e3, zbs]
    dsimp only
    rw [e4, zbs]
    dsimp only
    rw [e5, zbs]
    dsimp only
    rw [e6, zbs]
    dsimp only
    rw [ad1, ad10, ad1, ad1, ad5, e7, zbs]
    dsimp only
    rw [if_pos rfl]
    unfold f_L_law_112
    rw [if_neg n1z]
    obtain ⟨fu, hfu, e8⟩ := low_at c1 (zshr v 4) (n := 1000) (by omega) (by omega) (a := 1000) rfl
    rw [e8, zbs]
    dsimp only
    rw [ad1]
    obtain ⟨t, ht, et, q⟩ := q_fill hS1 (i := k) (by omega) (show 1 ≤ 1 + fu by omega) (by omega) (by omega)
    have ht0 : t = 0 := (nI_eq (by omega) (by omega)).mp (et.symm.trans ((g1 _).trans (h6 k (Nat.le_refl _) (by omega))))
    subst ht0
    rcases q with ⟨hbig, -, -⟩ | ⟨hfit, c2, f0, hS2, k2⟩
    · omega
    · rw [f0, zbs]
      dsimp only
      rw [if_neg (show ¬ nI (0 + (1 + fu)) < 1 from nI_nlt (b := 1) (by omega) (by omega))]
      obtain ⟨c3, f1, hS3, k3, g3⟩ := zS_crew hS2 (show k < 6 by omega) (i := k) (by omega)
      rw [f1, zbs]
      dsimp only
      rw [if_pos rfl, nI_1]
      exact t18 hL r n (k + 1) c3 (by omega) (by omega) (zS_mono hS3 (by omega)) (fun i h1 h2 => by rw [g3 i (by omega), k2 _ _ (by omega), g1]; exact h6 i (by omega) h2) (fun j hj => by rw [k3, k2 _ _ (by omega), k1]; exact h5 j hj)
end ZLP
