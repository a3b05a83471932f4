/-! the fresh world in its numbers; the law from its entry -/
section ZST
variable {X : zCx} {ws ws' : va_W} {pc : Nat} {lv : List (Nat × Value)} {stk : List Value}
theorem zGw_cov (g : Nat → Nat → Prop) (hg : ∀ k q, ws'[k]? = some q → ∃ k' q', g k k' ∧ ws[k']? = some q' ∧ q'.1 = q.1 ∧ ∀ H, va_at X.D vwCl q' H → va_at X.D vwCl q H) (hinj : ∀ i j k', g i k' → g j k' → i = j) (h : zGw X ws' pc lv stk) : zGw X ws pc lv stk := fun H locs ls hP hD hS hl => by
  refine h H locs ls (fun k q hk => ?_) ⟨fun i j p q hi hj e => ?_, fun k q hk => ?_⟩ hS hl
  · obtain ⟨k', q', _, h1, _, h2⟩ := hg k q hk
    exact h2 H (hP k' q' h1)
  · obtain ⟨i', p', g1, h1, e1, _⟩ := hg i p hi
    obtain ⟨j', q', g2, h2, e2, _⟩ := hg j q hj
    have e3 : i' = j' := hD.1 i' j' p' q' h1 h2 (by rw [e1, e2]; exact e)
    subst e3
    exact hinj _ _ _ g1 g2
  · obtain ⟨k', q', _, h1, e1, _⟩ := hg k q hk
    rw [← e1]
    exact hD.2 k' q' h1
theorem zcell_ref {cA : ClassId} {n : Nat} {f g : Nat → Option Nat} (h : ∀ j, j < n → f j = g j) : vp_cell cA (n, .inr (.inr (.inr (.inr f)))) = vp_cell cA (n, .inr (.inr (.inr (.inr g)))) := by
  show arrV cA n (fun j => va_rf (f j)) = arrV cA n (fun j => va_rf (g j))
  unfold arrV
  have e : (Array.ofFn (n := n) fun j => va_rf (f j.val)) = Array.ofFn (n := n) fun j => va_rf (g j.val) := by
    congr 1
    funext j
    rw [h j.val j.isLt]
  rw [e]
theorem zemS_at {D : va_G} {aC : Nat → ClassId} {ad : Nat → Nat} {a : Nat → Int32} {b : Nat → Int64} {mc q : Nat} {H : Heap} : ∀ (s : zShp), (∀ t len r, s = .inr (t, len, r + 2) → len ≤ mc) → va_at D vwCl (q, zemS aC ad a b mc s) H → va_at D vwCl (q, zcel ad aC a b s) H
  | .inl x, _, h => h
  | .inr (t, len, 0), _, h => h
  | .inr (t, len, 1), _, h => h
  | .inr (t, len, r + 2), hm, h => by
    have hl := hm t len r rfl
    have h2 : H[q]? = some (vp_cell (aC t) (len, .inr (.inr (.inr (.inr (fun j => if j < mc then some (ad (r + j)) else none)))))) := h
    show H[q]? = some (vp_cell (aC t) (len, .inr (.inr (.inr (.inr (fun j => some (ad (r + j))))))))
    rw [h2, zcell_ref (f := fun j => if j < mc then some (ad (r + j)) else none) (g := fun j => some (ad (r + j))) (fun j hj => if_pos (by omega))]
theorem zlen_ok {c : Nat} (hc : c < 98) : ∀ t len r, shC c = .inr (t, len, r + 2) → len ≤ zmf 4 6 24 40 c := by
  intro t len r h
  have hz : (c = 5 ∨ c = 6 ∨ c = 7 ∨ c = 8 ∨ c = 12 ∨ c = 13 ∨ c = 0 ∨ c = 11) ∨ c = 1 ∨ c = 2 ∨ c = 3 ∨ c = 4 ∨ zkSpan c ∨ zkShip c ∨ zkCrew c ∨ zkSailing c ∨ zkBooking c := by
    unfold zkSpan zkShip zkCrew zkSailing zkBooking
    omega
  rcases hz with (rfl | rfl | rfl | rfl | rfl | rfl | rfl | rfl) | rfl | rfl | rfl | rfl | h1 | h1 | h1 | h1 | h1
  · cases h
  · cases h
  · cases h
  · cases h
  · cases h
  · cases h
  · cases h
  · cases h
  · cases h
    exact Nat.le_of_ble_eq_true rfl
  · cases h
    exact Nat.le_of_ble_eq_true rfl
  · cases h
    exact Nat.le_of_ble_eq_true rfl
  · cases h
    exact Nat.le_of_ble_eq_true rfl
  · rw [zsh_Span h1] at h
    cases h
  · rw [zsh_Ship h1] at h
    cases h
  · rw [zsh_Crew h1] at h
    cases h
  · rw [zsh_Sailing h1] at h
    cases h
  · rw [zsh_Booking h1] at h
    cases h
theorem zworldC {aC : Nat → ClassId} {cs : List Nat} {ad : Nat → Nat} (hnd : cs.Nodup) (hmem : ∀ c, c ∈ cs ↔ c < 98) (h : zGw X (zgw 98 shC ad aC (zstR 10) ++ []) pc lv stk) : zGw X (zfw cs ad (zem aC (zstR 10) ad (zmf 4 6 24 40))) pc lv stk := by
  have hlen : (zfw cs ad (zem aC (zstR 10) ad (zmf 4 6 24 40))).length = cs.length := List.length_map _
  refine zGw_cov (fun k k' => k < 98 ∧ cs[k']? = some k) ?_ ?_ h
  · intro k q hk
    rcases zgw_mem hk with ⟨h1, -⟩ | ⟨h1, h2⟩
    · rw [zgw_at h1 rfl] at hk
      cases hk
      obtain ⟨k', hk'⟩ := List.getElem?_of_mem ((hmem k).mpr h1)
      refine ⟨k', (ad k, zem aC (zstR 10) ad (zmf 4 6 24 40) k), ⟨h1, hk'⟩, ?_, rfl, ?_⟩
      · show (cs.map _)[k']? = _
        rw [List.getElem?_map, hk']
        rfl
      · intro H hH
        exact zemS_at _ (zlen_ok h1) hH
    · simp at h2
  · intro i j k' h1 h2
    exact Option.some.inj (h1.2.symm.trans h2.2)
theorem zarrP {s : State} {args : Array Value} {ty : FieldType} (hp : ty = .int ∨ ty = .long ∨ ty = .boolean) (h : (Cond.arrayClass ty).before args s = true) : ∃ cA : ClassId, ArrOfT s cA ty ∧ va_RA s cA ty := by
  obtain ⟨c, k, comp, h1, h2, h3⟩ := Cond.arrayClass_spec h
  rcases hp with rfl | rfl | rfl <;> exact ⟨c, fun n z => ⟨fun k h => (by cases h), k, h2, comp, h3⟩, h1⟩
theorem zarrO {s : State} {C : String} (h : va_AO C s) : ∃ cA : ClassId, ArrOfT s cA (.object C) ∧ va_RA s cA (.object C) := by
  obtain ⟨comp, c, k, h1, h2, h3, h4, h5⟩ := Cond.arrayOver_spec (va_AO.use (A := #[]) h)
  exact ⟨c, fun n z => ⟨fun k h => (by cases h), k, h3, comp, h4⟩, k, comp, h3, h4, h1, h5⟩
set_option maxHeartbeats 4000000 in
set_option maxRecDepth 100000 in
/-- THE LAW, from its entry -/
theorem whole_start {p : Program} {e : Env} {s : State} {m : MethodId} {below : List Frame} {meth : Method} {c : Code} (l : Launch) (hflags : l.flags = flags0) {b L : Nat} {xs : Nat → Int32} (hL : L ≤ 260) (C0 : lw_At p s m meth c b L xs) : W p l e room_1 s m #[Value.ref b] below meth c s.heap [] 0 0 (lw_Z below #[Value.ref b] s) (entryFrame m ([Value.ref b] : List Value).toArray 14) := by
  obtain ⟨hx, hb, hr, hml, hown, hts, hXs, hbl, hlocks, hgv⟩ := C0
  have hfl : l.stackTraces = false := by
    unfold Launch.stackTraces
    rw [hflags]
    decide +kernel
  have htT : ∀ w ∈ tables_1, w.before #[Value.ref b] s = true := fun w hw => hts w (List.mem_append_right _ hw)
  have htW : ∀ w ∈ zWL, w.before #[Value.ref b] s = true := fun w hw => hts w (List.mem_filter.mp hw).1
  have hgs := flat_of_before _ hgv
  obtain ⟨c0, i0, hK0⟩ := u_known (C := RX0) (T := TX0) (N := 12) (n := 12) htW zin_X0 (htT _ zm_192)
  obtain ⟨c1, i1, hK1⟩ := u_known (C := RX1) (T := TX1) (N := 2) (n := 2) htW zin_X1 (htT _ zm_126)
  obtain ⟨c2, i2, hK2⟩ := u_known (C := RX2) (T := TX2) (N := 9) (n := 9) htW zin_X2 (htT _ zm_48)
  obtain ⟨c3, i3, hK3⟩ := u_known (C := RX3) (T := TX3) (N := 11) (n := 11) htW zin_X3 (htT _ zm_142)
  obtain ⟨c4, i4, hK4⟩ := u_known (C := RX4) (T := TX4) (N := 8) (n := 8) htW zin_X4 (htT _ zm_83)
  obtain ⟨c5, i5, hK5⟩ := u_known (C := RX5) (T := TX5) (N := 2) (n := 2) htW zin_X5 (htT _ zm_33)
  obtain ⟨c6, i6, hK6⟩ := u_known (C := RX6) (T := TX6) (N := 16) (n := 16) htW zin_X6 (htT _ zm_17)
  obtain ⟨D, hKc⟩ : ∃ D : va_G, ∀ (k : Nat) (q : vw_C), vwCl[k]? = some q → u_Kn s q.1 q.2.1 q.2.2 (D.1 k) (D.2 k) := by
    refine ⟨(fun k => [c0, c1, c2, c3, c4, c5, c6].getD k c0, fun k => [i0, i1, i2, i3, i4, i5, i6].getD k i0), ?_⟩
    intro k q hq
    match k, hq with
    | 0, hq => cases hq; exact hK0
    | 1, hq => cases hq; exact hK1
    | 2, hq => cases hq; exact hK2
    | 3, hq => cases hq; exact hK3
    | 4, hq => cases hq; exact hK4
    | 5, hq => cases hq; exact hK5
    | 6, hq => cases hq; exact hK6
    | k + 7, hq => exact absurd (List.getElem?_eq_some_iff.mp hq).1 (by show ¬ k + 7 < 7; omega)
  have hAO : zAO s := ⟨va_AO.of (htT _ zm_25), va_AO.of (htT _ zm_27), va_AO.of (htT _ zm_29), va_AO.of (htT _ zm_31)⟩
  obtain ⟨a0, hA0⟩ := zarrP (Or.inl rfl) (htT _ zm_45)
  obtain ⟨a1, hA1⟩ := zarrP (Or.inr (Or.inl rfl)) (htT _ zm_46)
  obtain ⟨a2, hA2⟩ := zarrP (Or.inr (Or.inr rfl)) (htT _ zm_82)
  obtain ⟨a3, hA3⟩ := zarrO hAO.1
  obtain ⟨a4, hA4⟩ := zarrO hAO.2.1
  obtain ⟨a5, hA5⟩ := zarrO hAO.2.2.1
  obtain ⟨a6, hA6⟩ := zarrO hAO.2.2.2
  obtain ⟨aC, hKa⟩ : ∃ aC : Nat → ClassId, ∀ (k : Nat) (q : ClassId × FieldType), (ztys aC)[k]? = some q → ArrOfT s q.1 q.2 ∧ va_RA s q.1 q.2 := by
    refine ⟨fun k => [a0, a1, a2, a3, a4, a5, a6].getD k a0, ?_⟩
    intro k q hq
    match k, hq with
    | 0, hq => cases hq; exact hA0
    | 1, hq => cases hq; exact hA1
    | 2, hq => cases hq; exact hA2
    | 3, hq => cases hq; exact hA3
    | 4, hq => cases hq; exact hA4
    | 5, hq => cases hq; exact hA5
    | 6, hq => cases hq; exact hA6
    | k + 7, hq => exact absurd (List.getElem?_eq_some_iff.mp hq).1 (by show ¬ k + 7 < 7; omega)
  have hNs : zNs s := fun w hw hn => by
    have h1 := htT w hw
    cases w <;> first | exact va_Nw.of rfl h1 | exact absurd hn (by simp [zisN])
  have hna : ∀ a : Nat, a < s.heap.size → ¬ s.heap.size ≤ a := fun a h => Nat.not_le.mpr h
  have hZ : zXs (fun q => s.heap.size ≤ q) s s.heap := by
    refine ⟨⟨vx_Zqof (htT _ zm_336) (htT _ zm_8) (hgs _ (by decide +kernel)) hna, vx_Zqof (htT _ zm_338) (htT _ zm_8) (hgs _ (by decide +kernel)) hna⟩, ?_⟩
    intro i j h1 h2 h3 h4 h5
    rcases (show i = 1 ∨ i = 2 ∨ i = 3 ∨ i = 4 by omega) with rfl | rfl | rfl | rfl <;> rcases (show j = 2 ∨ j = 3 by omega) with rfl | rfl <;> first | exact absurd rfl h5 | exact va_Nc.of (hgs _ (by decide +kernel))
  have hl := lv_entry ([.ref b]) (n := 14) (Nat.le_of_ble_eq_true rfl)
  rw [lg_entry_eq]
  generalize (lg_sl ([.ref b]) ++ List.replicate (14 - (lg_sl ([.ref b])).length) Slot.unset).toArray = ls at hl ⊢
  have hD0 : va_D (fun q : Nat => s.heap.size ≤ q) [] := ⟨fun i j p q h => by simp at h, fun k q h => by simp at h⟩
  have hP0 : va_P D vwCl [] s.heap := fun k q h => by simp at h
  suffices hG : ∀ ad : Nat → Nat, zGw (zat ((p, l, e, room_1), (s, m, #[Value.ref b], below), (meth, c, 0, 0, 14), lw_Z below #[Value.ref b] s, (D, aC, ad, []), fun q => s.heap.size ≤ q) 0 0) [] 0 [(0, .ref b)] [] from hG (fun _ => 0) s.heap [] ls hP0 hD0 va_S.rf hl
  clear hl hP0 hD0
  intro ad0
  have hXa : ∀ (ad : Nat → Nat) (cc n : Nat), cc ≤ 681058 → n ≤ 7058595 → zOk (zat ((p, l, e, room_1), (s, m, #[Value.ref b], below), (meth, c, 0, 0, 14), lw_Z below #[Value.ref b] s, (D, aC, ad, []), fun q => s.heap.size ≤ q) cc n) RL code room_1 := fun ad cc n h1 h2 => ⟨⟨hx, hb⟩, hml, hown, htW, ⟨hKc, hKa⟩, hNs, hlocks, fun q h => h, rfl, h1, h2⟩
  have EXIT : ∀ (ad : Nat → Nat) (cc n : Nat) (ws : va_W) (lv : List (Nat × Value)), cc ≤ 681058 → n ≤ 7058595 → zGw (zat ((p, l, e, room_1), (s, m, #[Value.ref b], below), (meth, c, 0, 0, 14), lw_Z below #[Value.ref b] s, (D, aC, ad, []), fun q => s.heap.size ≤ q) cc n) ws 976 lv [.int 1] := by
    intro ad cc n ws lv h1 h2 H locs ls hP hD hS hl
    refine va_forget (fun q hq => hS.2.2 q hq) ?_
    refine W.widen (k := 681058) (n := 7058595) h1 h2 ?_
    exact lw_ret (d0 := s.drawn) (Drawn.sameBut.refl s.drawn lw_cs) hx hb hr hlocks dL_law_976
  have hX := hXa ad0
  have hs : va_X b L xs s s.heap ∧ b < s.heap.size ∧ ¬ s.heap.size ≤ b := ⟨hXs, hbl, Nat.not_le.mpr hbl⟩
  obtain ⟨out, hout⟩ : ∃ o, f_L_law L xs (zstR 10) = some o := t18 (xs := xs) hL 2 64 0 (zstR 10) (by omega) (by omega) zS_fresh (fun i _ hi => by rw [zstR_off (by omega)]; exact zst0_z (by omega)) (fun j hj => if_pos ⟨rfl, by omega⟩)
  refine z_new (hX 0 0 (by decide) (by decide)) dL_law_0 (ci := 6) (fs := [.null, .null, .null, .null, .null, .null, .null, .null, .null, .null, .null, .int 0, .int 0, .int 0, .int 0, .int 0]) rfl zin_X6 tyX6 tyX6_ok zdf_X6 zm_16 zm_17 zm_1 ⟨Nat.le_of_ble_eq_true rfl, Nat.le_of_ble_eq_true rfl⟩ (fun qC => ?_)
  refine z_dup (hX 1 16 (by decide) (by decide)) dL_law_3 rfl ?_
  refine z_callI (hX 1 16 (by decide) (by decide)) hAO (c_X6_init l []) zci_X6 rfl dL_law_4 zm_18 ⟨by decide, by decide⟩ ⟨rfl, rfl⟩ ⟨Nat.le_of_ble_eq_true rfl, Nat.le_of_ble_eq_true rfl⟩ (Nat.le_of_ble_eq_true rfl) ?_
  intro wsC hC
  obtain ⟨ad, cs, h0, hnd, hmem, e1⟩ := hC
  rw [List.nil_append] at e1
  subst e1
  subst h0
  refine z_astore_n (hX 98 944 (by decide) (by decide)) [(0, .ref b), (1, .ref (ad 0))] dL_law_7 rfl (zlt_ok rfl) [1, 0] rfl ?_
  refine zworldC hnd hmem ?_
  exact t_L_law ((p, l, e, room_1), (s, m, #[Value.ref b], below), (meth, c, 0, 0, 14), lw_Z below #[Value.ref b] s, (D, aC, ad, []), fun q => s.heap.size ≤ q) out (B := 98) (N := 944) (fun j hj => hXa ad _ _ (by omega) (by omega)) hZ hfl hs rfl (fun k st lv hk => EXIT ad _ _ _ lv (by omega) (by omega)) 0 (zstR 10) (by omega) hout
end ZST
