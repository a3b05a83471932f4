/-! the two fresh worlds in their numbers; the law from its entry -/
section ZST
variable {X : zCx} {ws ws' : va_W} {pc : Nat} {lv : List (Nat × Value)} {stk : List Value}
theorem zGw_cov (g : Nat → Nat → Prop) (hg : ∀ k q, ws'[k]? = some q → ∃ k' q', g k k' ∧ ws[k']? = some q' ∧ q'.1 = q.1 ∧ ∀ H, va_at X.D vwCl q' H → va_at X.D vwCl q H) (hinj : ∀ i j k', g i k' → g j k' → i = j) (h : zGw X ws' pc lv stk) : zGw X ws pc lv stk := fun H locs ls hP hD hS hl => by
  refine h H locs ls (fun k q hk => ?_) ⟨fun i j p q hi hj e => ?_, fun k q hk => ?_⟩ hS hl
  · obtain ⟨k', q', _, h1, _, h2⟩ := hg k q hk
    exact h2 H (hP k' q' h1)
  · obtain ⟨i', p', g1, h1, e1, _⟩ := hg i p hi
    obtain ⟨j', q', g2, h2, e2, _⟩ := hg j q hj
    have e3 : i' = j' := hD.1 i' j' p' q' h1 h2 (by rw [e1, e2]; exact e)
    subst e3
    exact hinj _ _ _ g1 g2
  · obtain ⟨k', q', _, h1, e1, _⟩ := hg k q hk
    rw [← e1]
    exact hD.2 k' q' h1
theorem zcell_ref {cA : ClassId} {n : Nat} {f g : Nat → Option Nat} (h : ∀ j, j < n → f j = g j) : vp_cell cA (n, .inr (.inr (.inr (.inr f)))) = vp_cell cA (n, .inr (.inr (.inr (.inr g)))) := by
  show arrV cA n (fun j => va_rf (f j)) = arrV cA n (fun j => va_rf (g j))
  unfold arrV
  have e : (Array.ofFn (n := n) fun j => va_rf (f j.val)) = Array.ofFn (n := n) fun j => va_rf (g j.val) := by
    congr 1
    funext j
    rw [h j.val j.isLt]
  rw [e]
theorem zemS_at {D : va_G} {aC : Nat → ClassId} {ad : Nat → Nat} {a : Nat → Int32} {b : Nat → Int64} {mc q : Nat} {H : Heap} : ∀ (s : zShp), (∀ t len r, s = .inr (t, len, r + 2) → len ≤ mc) → va_at D vwCl (q, zemS aC ad a b mc s) H → va_at D vwCl (q, zcel ad aC a b s) H
  | .inl x, _, h => h
  | .inr (t, len, 0), _, h => h
  | .inr (t, len, 1), _, h => h
  | .inr (t, len, r + 2), hm, h => by
    have hl := hm t len r rfl
    have h2 : H[q]? = some (vp_cell (aC t) (len, .inr (.inr (.inr (.inr (fun j => if j < mc then some (ad (r + j)) else none)))))) := h
    show H[q]? = some (vp_cell (aC t) (len, .inr (.inr (.inr (.inr (fun j => some (ad (r + j))))))))
    rw [h2, zcell_ref (f := fun j => if j < mc then some (ad (r + j)) else none) (g := fun j => some (ad (r + j))) (fun j hj => if_pos (by omega))]
theorem zlen_ok {c : Nat} (hc : c < 98) : ∀ t len r, shC c = .inr (t, len, r + 2) → len ≤ zmf 4 6 24 40 c := by
  intro t len r h
  have hz : (c = 5 ∨ c = 6 ∨ c = 7 ∨ c = 8 ∨ c = 12 ∨ c = 13 ∨ c = 0 ∨ c = 11) ∨ c = 1 ∨ c = 2 ∨ c = 3 ∨ c = 4 ∨ zkSpan c ∨ zkShip c ∨ zkCrew c ∨ zkSailing c ∨ zkBooking c := by
    unfold zkSpan zkShip zkCrew zkSailing zkBooking
    omega
  rcases hz with (rfl | rfl | rfl | rfl | rfl | rfl | rfl | rfl) | rfl | rfl | rfl | rfl | h1 | h1 | h1 | h1 | h1
  · cases h
  · cases h
  · cases h
  · cases h
  · cases h
  · cases h
  · cases h
  · cases h
  · cases h
    exact Nat.le_of_ble_eq_true rfl
  · cases h
    exact Nat.le_of_ble_eq_true rfl
  · cases h
    exact Nat.le_of_ble_eq_true rfl
  · cases h
    exact Nat.le_of_ble_eq_true rfl
  · rw [zsh_Span h1] at h
    cases h
  · rw [zsh_Ship h1] at h
    cases h
  · rw [zsh_Crew h1] at h
    cases h
  · rw [zsh_Sailing h1] at h
    cases h
  · rw [zsh_Booking h1] at h
    cases h
theorem zworlds {aC : Nat → ClassId} {cs : List Nat} {ad adM : Nat → Nat} {stM : zSt} {qo : Nat} (hnd : cs.Nodup) (hmem : ∀ c, c ∈ cs ↔ c < 98) (h : zGw X (zgw 99 shC (zu ad 98 qo) aC (zstR 10) ++ zgw 42 shM adM aC stM) pc lv stk) : zGw X (zfw cs ad (zem aC (zstR 10) ad (zmf 4 6 24 40)) ++ zgw 42 shM adM aC stM ++ [(qo, .inl (aC 1, (1, .inr (.inl (fun _ => 0)))))]) pc lv stk := by
  have hlen : (zfw cs ad (zem aC (zstR 10) ad (zmf 4 6 24 40))).length = cs.length := List.length_map _
  refine zGw_cov (fun k k' => (k < 98 ∧ cs[k']? = some k) ∨ (k = 98 ∧ k' = cs.length + 42) ∨ (99 ≤ k ∧ k < 141 ∧ k' = cs.length + (k - 99))) ?_ ?_ h
  · intro k q hk
    rcases zgw_mem hk with ⟨h1, -⟩ | ⟨h1, h2⟩
    · rw [zgw_at h1 rfl] at hk
      cases hk
      rcases Nat.lt_or_ge k 98 with h3 | h3
      · obtain ⟨k', hk'⟩ := List.getElem?_of_mem ((hmem k).mpr h3)
        have hl : k' < cs.length := (List.getElem?_eq_some_iff.mp hk').1
        refine ⟨k', (ad k, zem aC (zstR 10) ad (zmf 4 6 24 40) k), Or.inl ⟨h3, hk'⟩, ?_, ?_, ?_⟩
        · rw [List.append_assoc, List.getElem?_append_left (by rw [hlen]; exact hl)]
          show (cs.map _)[k']? = _
          rw [List.getElem?_map, hk']
          rfl
        · show ad k = zu ad 98 qo k
          rw [zu_ne (by omega)]
        · intro H hH
          have e : zem aC (zstR 10) ad (zmf 4 6 24 40) k = zem aC (zstR 10) (zu ad 98 qo) (zmf 4 6 24 40) k := by
            unfold zem
            refine zemS_ad _ fun r hr => ?_
            have hp := zclosed (by decide) (by decide) (by decide) (by decide) (show zPm 4 6 24 40 k by unfold zPm; omega) hr
            unfold zPm at hp
            rw [zu_ne (by omega)]
          rw [e] at hH
          have h4 : ad k = zu ad 98 qo k := by rw [zu_ne (by omega)]
          rw [h4] at hH
          exact zemS_at _ (zlen_ok h3) hH
      · obtain rfl : k = 98 := by omega
        refine ⟨cs.length + 42, (qo, .inl (aC 1, (1, .inr (.inl (fun _ => 0))))), Or.inr (Or.inl ⟨rfl, rfl⟩), ?_, ?_, ?_⟩
        · rw [List.getElem?_append_right (by rw [List.length_append, hlen, zgw_len]; exact Nat.le_refl _), List.length_append, hlen, zgw_len, Nat.sub_self]
          rfl
        · show qo = zu ad 98 qo 98
          rw [zu_self]
        · intro H hH
          show va_at X.D vwCl (zu ad 98 qo 98, _) H
          rw [zu_self]
          exact hH
    · have h3 : k - 99 < 42 := by
        have h4 := (List.getElem?_eq_some_iff.mp h2).1
        rw [zgw_len] at h4
        exact h4
      refine ⟨cs.length + (k - 99), q, Or.inr (Or.inr ⟨h1, by omega, rfl⟩), ?_, rfl, fun H hH => hH⟩
      rw [List.append_assoc, List.getElem?_append_right (by rw [hlen]; exact Nat.le_add_right _ _), hlen, Nat.add_sub_cancel_left, List.getElem?_append_left (by rw [zgw_len]; exact h3)]
      exact h2
  · intro i j k' h1 h2
    have hb : ∀ i, cs[k']? = some i → k' < cs.length := fun i h => (List.getElem?_eq_some_iff.mp h).1
    rcases h1 with ⟨_, a1⟩ | ⟨a1, a2⟩ | ⟨a1, a2, a3⟩ <;> rcases h2 with ⟨_, b1⟩ | ⟨b1, b2⟩ | ⟨b1, b2, b3⟩
    · exact Option.some.inj (a1.symm.trans b1)
    · exact absurd (hb _ a1) (by omega)
    · exact absurd (hb _ a1) (by omega)
    · exact absurd (hb _ b1) (by omega)
    · omega
    · omega
    · exact absurd (hb _ b1) (by omega)
    · omega
    · omega
def zst1 : zSt := (fun _ _ => 0, fun _ _ => 0)
theorem zR_fresh : zR (zstR 10) zst1 := by
  have hz : ∀ c j, c ≠ 5 → ¬ (((c = 9 ∨ c = 10 ∨ (18 ≤ c ∧ c < 22) ∨ (28 ≤ c ∧ c < 34)) ∧ j = 1) ∨ ((22 ≤ c ∧ c < 28) ∧ j = 0) ∨ ((34 ≤ c ∧ c < 58) ∧ (j = 0 ∨ j = 8)) ∨ ((58 ≤ c ∧ c < 98) ∧ (j = 0 ∨ j = 4))) → (zstR 10).1 c j = 0 := fun c j h1 h2 => by rw [zstR_off h1]; exact zst0_z h2
  have hm : ∀ c j, c ≠ 5 → (((c = 9 ∨ c = 10 ∨ (18 ≤ c ∧ c < 22) ∨ (28 ≤ c ∧ c < 34)) ∧ j = 1) ∨ ((22 ≤ c ∧ c < 28) ∧ j = 0) ∨ ((34 ≤ c ∧ c < 58) ∧ (j = 0 ∨ j = 8)) ∨ ((58 ≤ c ∧ c < 98) ∧ (j = 0 ∨ j = 4))) → (zstR 10).1 c j = -1 := fun c j h1 h2 => by rw [zstR_off h1]; exact zst0_m h2
  refine zR_init ?_ ?_ ?_ ?_ ?_ ?_ ?_ ?_ ?_ ?_ ?_ ?_
  · exact fun j h1 h2 => hz 0 j (by omega) (by omega)
  · exact fun k j h1 => hz (14 + k) j (by omega) (by omega)
  · exact fun k h1 => ⟨hz (18 + k) 0 (by omega) (by omega), hm (18 + k) 1 (by omega) (by omega)⟩
  · exact ⟨hz 9 0 (by omega) (by omega), hm 9 1 (by omega) (by omega)⟩
  · exact ⟨hz 10 0 (by omega) (by omega), hm 10 1 (by omega) (by omega)⟩
  · exact fun i h1 => if_pos ⟨rfl, h1⟩
  · exact fun i h1 => ⟨hz 6 i (by omega) (by omega), hz 7 i (by omega) (by omega)⟩
  · exact fun k h1 => ⟨hz (34 + k) 6 (by omega) (by omega), hz (34 + k) 7 (by omega) (by omega), hm (34 + k) 8 (by omega) (by omega), hz (34 + k) 10 (by omega) (by omega)⟩
  · exact fun k h1 => ⟨hm (58 + k) 4 (by omega) (by omega), hz (58 + k) 6 (by omega) (by omega), hz (58 + k) 11 (by omega) (by omega)⟩
  · exact fun j _ => rfl
  · exact fun q j _ => rfl
  · exact fun j => rfl
theorem zarrP {s : State} {args : Array Value} {ty : FieldType} (hp : ty = .int ∨ ty = .long ∨ ty = .boolean) (h : (Cond.arrayClass ty).before args s = true) : ∃ cA : ClassId, ArrOfT s cA ty ∧ va_RA s cA ty := by
  obtain ⟨c, k, comp, h1, h2, h3⟩ := Cond.arrayClass_spec h
  rcases hp with rfl | rfl | rfl <;> exact ⟨c, fun n z => ⟨fun k h => (by cases h), k, h2, comp, h3⟩, h1⟩
theorem zarrO {s : State} {C : String} (h : va_AO C s) : ∃ cA : ClassId, ArrOfT s cA (.object C) ∧ va_RA s cA (.object C) := by
  obtain ⟨comp, c, k, h1, h2, h3, h4, h5⟩ := Cond.arrayOver_spec (va_AO.use (A := #[]) h)
  exact ⟨c, fun n z => ⟨fun k h => (by cases h), k, h3, comp, h4⟩, k, comp, h3, h4, h1, h5⟩
set_option maxHeartbeats 4000000 in
set_option maxRecDepth 100000 in
/-- THE LAW, from its entry -/
theorem whole_start {p : Program} {e : Env} {s : State} {m : MethodId} {below : List Frame} {meth : Method} {c : Code} (l : Launch) (hflags : l.flags = flags0) {b L : Nat} {xs : Nat → Int32} (hL : L ≤ 3584) (C0 : lw_At p s m meth c b L xs) : W p l e room_1 s m #[Value.ref b] below meth c s.heap [] 0 0 (lw_Z below #[Value.ref b] s) (entryFrame m ([Value.ref b] : List Value).toArray 8) := by
  obtain ⟨hx, hb, hr, hml, hown, hts, hXs, hbl, hlocks, hgv⟩ := C0
  have hfl : l.stackTraces = false := by
    unfold Launch.stackTraces
    rw [hflags]
    decide +kernel
  have htT : ∀ w ∈ tables_1, w.before #[Value.ref b] s = true := fun w hw => hts w (List.mem_append_right _ hw)
  have htW : ∀ w ∈ zWL, w.before #[Value.ref b] s = true := fun w hw => hts w (List.mem_filter.mp hw).1
  have hgs := flat_of_before _ hgv
  obtain ⟨c0, i0, hK0⟩ := u_known (C := RX0) (T := TX0) (N := 12) (n := 12) htW zin_X0 (htT _ zm_193)
  obtain ⟨c1, i1, hK1⟩ := u_known (C := RX1) (T := TX1) (N := 2) (n := 2) htW zin_X1 (htT _ zm_127)
  obtain ⟨c2, i2, hK2⟩ := u_known (C := RX2) (T := TX2) (N := 9) (n := 9) htW zin_X2 (htT _ zm_49)
  obtain ⟨c3, i3, hK3⟩ := u_known (C := RX3) (T := TX3) (N := 11) (n := 11) htW zin_X3 (htT _ zm_143)
  obtain ⟨c4, i4, hK4⟩ := u_known (C := RX4) (T := TX4) (N := 8) (n := 8) htW zin_X4 (htT _ zm_84)
  obtain ⟨c5, i5, hK5⟩ := u_known (C := RX5) (T := TX5) (N := 2) (n := 2) htW zin_X5 (htT _ zm_34)
  obtain ⟨c6, i6, hK6⟩ := u_known (C := RX6) (T := TX6) (N := 16) (n := 16) htW zin_X6 (htT _ zm_18)
  obtain ⟨c7, i7, hK7⟩ := u_known (C := RX7) (T := TX7) (N := 53) (n := 53) htW zin_X7 (htT _ zm_775)
  obtain ⟨D, hKc⟩ : ∃ D : va_G, ∀ (k : Nat) (q : vw_C), vwCl[k]? = some q → u_Kn s q.1 q.2.1 q.2.2 (D.1 k) (D.2 k) := by
    refine ⟨(fun k => [c0, c1, c2, c3, c4, c5, c6, c7].getD k c0, fun k => [i0, i1, i2, i3, i4, i5, i6, i7].getD k i0), ?_⟩
    intro k q hq
    match k, hq with
    | 0, hq => cases hq; exact hK0
    | 1, hq => cases hq; exact hK1
    | 2, hq => cases hq; exact hK2
    | 3, hq => cases hq; exact hK3
    | 4, hq => cases hq; exact hK4
    | 5, hq => cases hq; exact hK5
    | 6, hq => cases hq; exact hK6
    | 7, hq => cases hq; exact hK7
    | k + 8, hq => exact absurd (List.getElem?_eq_some_iff.mp hq).1 (by show ¬ k + 8 < 8; omega)
  have hAO : zAO s := ⟨va_AO.of (htT _ zm_26), va_AO.of (htT _ zm_28), va_AO.of (htT _ zm_30), va_AO.of (htT _ zm_32)⟩
  obtain ⟨a0, hA0⟩ := zarrP (Or.inl rfl) (htT _ zm_46)
  obtain ⟨a1, hA1⟩ := zarrP (Or.inr (Or.inl rfl)) (htT _ zm_47)
  obtain ⟨a2, hA2⟩ := zarrP (Or.inr (Or.inr rfl)) (htT _ zm_83)
  obtain ⟨a3, hA3⟩ := zarrO hAO.1
  obtain ⟨a4, hA4⟩ := zarrO hAO.2.1
  obtain ⟨a5, hA5⟩ := zarrO hAO.2.2.1
  obtain ⟨a6, hA6⟩ := zarrO hAO.2.2.2
  obtain ⟨aC, hKa⟩ : ∃ aC : Nat → ClassId, ∀ (k : Nat) (q : ClassId × FieldType), (ztys aC)[k]? = some q → ArrOfT s q.1 q.2 ∧ va_RA s q.1 q.2 := by
    refine ⟨fun k => [a0, a1, a2, a3, a4, a5, a6].getD k a0, ?_⟩
    intro k q hq
    match k, hq with
    | 0, hq => cases hq; exact hA0
    | 1, hq => cases hq; exact hA1
    | 2, hq => cases hq; exact hA2
    | 3, hq => cases hq; exact hA3
    | 4, hq => cases hq; exact hA4
    | 5, hq => cases hq; exact hA5
    | 6, hq => cases hq; exact hA6
    | k + 7, hq => exact absurd (List.getElem?_eq_some_iff.mp hq).1 (by show ¬ k + 7 < 7; omega)
  have hNs : zNs s := fun w hw hn => by
    have h1 := htT w hw
    cases w <;> first | exact va_Nw.of rfl h1 | exact absurd hn (by simp [zisN])
  have hna : ∀ a : Nat, a < s.heap.size → ¬ s.heap.size ≤ a := fun a h => Nat.not_le.mpr h
  have hZ : zXs (fun q => s.heap.size ≤ q) s s.heap := by
    refine ⟨⟨vx_Zqof (htT _ zm_347) (htT _ zm_9) (hgs _ (by decide +kernel)) hna, vx_Zqof (htT _ zm_349) (htT _ zm_9) (hgs _ (by decide +kernel)) hna⟩, ?_⟩
    intro i j h1 h2 h3 h4 h5
    rcases (show i = 1 ∨ i = 2 ∨ i = 3 ∨ i = 4 by omega) with rfl | rfl | rfl | rfl <;> rcases (show j = 1 ∨ j = 2 ∨ j = 3 ∨ j = 4 by omega) with rfl | rfl | rfl | rfl <;> first | exact absurd rfl h5 | exact va_Nc.of (hgs _ (by decide +kernel))
  have hl := lv_entry ([.ref b]) (n := 8) (Nat.le_of_ble_eq_true rfl)
  rw [lg_entry_eq]
  generalize (lg_sl ([.ref b]) ++ List.replicate (8 - (lg_sl ([.ref b])).length) Slot.unset).toArray = ls at hl ⊢
  have hD0 : va_D (fun q : Nat => s.heap.size ≤ q) [] := ⟨fun i j p q h => by simp at h, fun k q h => by simp at h⟩
  have hP0 : va_P D vwCl [] s.heap := fun k q h => by simp at h
  suffices hG : ∀ ad : Nat → Nat, zGw (zat ((p, l, e, room_1), (s, m, #[Value.ref b], below), (meth, c, 0, 0, 8), lw_Z below #[Value.ref b] s, (D, aC, ad, []), fun q => s.heap.size ≤ q) 0 0) [] 0 [(0, .ref b)] [] from hG (fun _ => 0) s.heap [] ls hP0 hD0 va_S.rf hl
  clear hl hP0 hD0
  intro ad0
  have hXa : ∀ (ad : Nat → Nat) (cc n : Nat), cc ≤ 601024 → n ≤ 7293034 → zOk (zat ((p, l, e, room_1), (s, m, #[Value.ref b], below), (meth, c, 0, 0, 8), lw_Z below #[Value.ref b] s, (D, aC, ad, []), fun q => s.heap.size ≤ q) cc n) RL code room_1 := fun ad cc n h1 h2 => ⟨⟨hx, hb⟩, hml, hown, htW, ⟨hKc, hKa⟩, hNs, hlocks, fun q h => h, rfl, h1, h2⟩
  have EXIT : ∀ (ad : Nat → Nat) (cc n : Nat) (ws : va_W) (lv : List (Nat × Value)), cc ≤ 601024 → n ≤ 7293034 → zGw (zat ((p, l, e, room_1), (s, m, #[Value.ref b], below), (meth, c, 0, 0, 8), lw_Z below #[Value.ref b] s, (D, aC, ad, []), fun q => s.heap.size ≤ q) cc n) ws 1929 lv [] := by
    intro ad cc n ws lv h1 h2
    refine z_iconst (hXa ad cc n h1 h2) dL_law_1929 (v := 1) (by decide) ?_
    intro H locs ls hP hD hS hl
    refine va_forget (fun q hq => hS.2.2 q hq) ?_
    refine W.widen (k := 601024) (n := 7293034) h1 h2 ?_
    exact lw_ret (d0 := s.drawn) (Drawn.sameBut.refl s.drawn lw_cs) hx hb hr hlocks dL_law_1930
  have hX := hXa ad0
  have hs : va_X b L xs s s.heap ∧ b < s.heap.size ∧ ¬ s.heap.size ≤ b := ⟨hXs, hbl, Nat.not_le.mpr hbl⟩
  refine z_new (hX 0 0 (by decide) (by decide)) dL_law_0 (ci := 6) (fs := [.null, .null, .null, .null, .null, .null, .null, .null, .null, .null, .null, .int 0, .int 0, .int 0, .int 0, .int 0]) rfl zin_X6 tyX6 tyX6_ok zdf_X6 zm_17 zm_18 zm_1 ⟨Nat.le_of_ble_eq_true rfl, Nat.le_of_ble_eq_true rfl⟩ (fun qC => ?_)
  refine z_dup (hX 1 16 (by decide) (by decide)) dL_law_3 rfl ?_
  refine z_callI (hX 1 16 (by decide) (by decide)) hAO (c_X6_init l []) zci_X6 rfl dL_law_4 zm_19 ⟨by decide, by decide⟩ ⟨rfl, rfl⟩ ⟨Nat.le_of_ble_eq_true rfl, Nat.le_of_ble_eq_true rfl⟩ (Nat.le_of_ble_eq_true rfl) ?_
  intro wsC hC
  obtain ⟨ad, cs, h0, hnd, hmem, e1⟩ := hC
  rw [List.nil_append] at e1
  subst e1
  subst h0
  refine z_astore_n (hX 98 944 (by decide) (by decide)) [(0, .ref b), (1, .ref (ad 0))] dL_law_7 rfl (zlt_ok rfl) [1, 0] rfl ?_
  refine z_new (hX 98 944 (by decide) (by decide)) dL_law_8 (ci := 7) (fs := [.int 0, .int 0, .null, .null, .null, .null, .null, .null, .null, .int 0, .null, .null, .null, .null, .null, .null, .null, .null, .null, .int 0, .null, .null, .null, .null, .null, .null, .null, .null, .null, .null, .int 0, .null, .null, .null, .null, .null, .null, .null, .null, .null, .null, .null, .null, .null, .null, .null, .int 0, .int 0, .int 0, .long 0, .long 0, .long 0, .int 0]) rfl zin_X7 tyX7 tyX7_ok zdf_X7 zm_774 zm_775 zm_8 ⟨Nat.le_of_ble_eq_true rfl, Nat.le_of_ble_eq_true rfl⟩ (fun qM => ?_)
  refine z_dup (hX 99 997 (by decide) (by decide)) dL_law_11 rfl ?_
  refine z_callI (hX 99 997 (by decide) (by decide)) hAO (c_X7_init l (zfw cs ad (zem aC (zstR 10) ad (zmf 4 6 24 40))).length) zci_X7 (zat_last _ _) dL_law_12 zm_776 ⟨by decide, by decide⟩ ⟨rfl, rfl⟩ ⟨Nat.le_of_ble_eq_true rfl, Nat.le_of_ble_eq_true rfl⟩ (Nat.le_of_ble_eq_true rfl) ?_
  intro wsM hM
  obtain ⟨q0, q1, q2, q3, q4, q5, q6, q7, q8, q9, q10, q11, q12, q13, q14, q15, q16, q17, q18, q19, q20, q21, q22, q23, q24, q25, q26, q27, q28, q29, q30, q31, q32, q33, q34, q35, q36, q37, q38, q39, q40, e2⟩ := hM
  rw [zset_last, List.append_assoc] at e2
  obtain ⟨adM, hadM⟩ : ∃ adM : Nat → Nat, adM = fun k => [qM, q0, q1, q2, q3, q4, q5, q6, q7, q8, q9, q10, q11, q12, q13, q14, q15, q16, q17, q18, q19, q20, q21, q22, q23, q24, q25, q26, q27, q28, q29, q30, q31, q32, q33, q34, q35, q36, q37, q38, q39, q40].getD k 0 := ⟨_, rfl⟩
  have e3 : wsM = zfw cs ad (zem aC (zstR 10) ad (zmf 4 6 24 40)) ++ zgw 42 shM adM aC zst1 := by
    rw [e2, hadM]
    congr 1
  have e4 : qM = adM 0 := by rw [hadM]; rfl
  clear e2 hadM
  subst e3
  subst e4
  refine z_astore_n (hX 140 4851 (by decide) (by decide)) [(0, .ref b), (1, .ref (ad 0)), (2, .ref (adM 0))] dL_law_15 rfl (zlt_ok rfl) [1, 2, 0] rfl ?_
  refine z_iconst (hX 140 4851 (by decide) (by decide)) dL_law_16 (v := 1) (by decide) ?_
  refine z_newa (t := 1) (N' := 1) (ty := .long) (a0 := (1, .inr (.inl (fun _ => 0)))) (hX 140 4851 (by decide) (by decide)) dL_law_17 rfl zm_47 rfl (Or.inr (Or.inl rfl)) (fun _ => rfl) (by decide) (by decide) (by decide) ⟨Nat.le_of_ble_eq_true rfl, Nat.le_of_ble_eq_true rfl⟩ (fun qo => ?_)
  have h98 : zu ad 98 qo 98 = qo := zu_self
  have h00 : zu ad 98 qo 0 = ad 0 := zu_ne (by decide)
  refine zworlds hnd hmem ?_
  rw [← h00]
  generalize hadC : zu ad 98 qo = adC at h98
  subst h98
  refine z_astore_n (hX 141 4852 (by decide) (by decide)) [(0, .ref b), (1, .ref (adC 0)), (2, .ref (adM 0)), (3, .ref (adC 98))] dL_law_19 rfl (zlt_ok rfl) [1, 2, 3, 0] rfl ?_
  refine z_iconst (hX 141 4852 (by decide) (by decide)) dL_law_20 (v := nI (7 * 0)) (by decide) ?_
  refine z_istore (hX 141 4852 (by decide) (by decide)) [(0, .ref b), (1, .ref (adC 0)), (2, .ref (adM 0)), (3, .ref (adC 98)), (4, .int (nI (7 * 0)))] dL_law_21 (zlt_ok rfl) [1, 2, 3, 4, 0] rfl ?_
  exact zl_loop ((p, l, e, room_1), (s, m, #[Value.ref b], below), (meth, c, 0, 0, 8), lw_Z below #[Value.ref b] s, (D, aC, adC, []), fun q => s.heap.size ≤ q) (hXa adC) rfl hZ hfl hs rfl hL (EXIT adC) 3584 0 (by omega) (by omega) (zstR 10) zst1 zR_fresh
end ZST
