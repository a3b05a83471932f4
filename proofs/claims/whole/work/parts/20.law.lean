/-! the law's body: one call of each kind over both worlds, for any relation R of the two that the calls keep -/
abbrev zLC (X : zCx) (adM : Nat → Nat) (stM : zSt) : zCx := (X.1, X.2.1, X.2.2.1, X.2.2.2.1, (X.D, X.aC, X.ad, zgw 42 shM adM X.aC stM), X.A)
abbrev zLM (X : zCx) (adM : Nat → Nat) (stC : zSt) : zCx := (X.1, X.2.1, X.2.2.1, X.2.2.2.1, (X.D, X.aC, adM, zgw 99 shC X.ad X.aC stC), X.A)
def zScr (X : zCx) (b L : Nat) (xs : Nat → Int32) : Prop := va_X b L xs X.s X.s.heap ∧ b < X.s.heap.size ∧ ¬ X.A b
theorem va_P_comm {D : va_G} {cl : List vw_C} {a b : va_W} {H : Heap} (h : va_P D cl (a ++ b) H) : va_P D cl (b ++ a) H := by
  have h2 : va_P D cl (([] ++ a) ++ b) H := by rw [List.nil_append]; exact h
  have h3 := va_P.swap h2
  rw [List.nil_append] at h3
  exact h3
theorem va_D_comm {A : Nat → Prop} {a b : va_W} (h : va_D A (a ++ b)) : va_D A (b ++ a) := by
  have h2 : va_D A (([] ++ a) ++ b) := by rw [List.nil_append]; exact h
  have h3 := va_D.swap h2
  rw [List.nil_append] at h3
  exact h3
section ZL
variable {X : zCx} {own : String} {cc : ByteArray} {rm : Room} {pc : Nat} {lv : List (Nat × Value)} {stk : List Value} {n : Nat} {sh : Nat → zShp} {st u stC stM : zSt} {adM : Nat → Nat}
theorem zLC_ok (h : zOk X own cc rm) : zOk (zLC X adM stM) own cc rm := h
theorem zLM_ok (h : zOk X own cc rm) : zOk (zLM X adM stC) own cc rm := h
theorem z_toM (kk : zG 42 shM (zLM X adM stC) stM pc lv stk) : zG 99 shC (zLC X adM stM) stC pc lv stk := fun H locs ls hP hD hS hl => kk H locs ls (va_P_comm hP) (va_D_comm hD) hS hl
theorem z_toC (kk : zG 99 shC (zLC X adM stM) stC pc lv stk) : zG 42 shM (zLM X adM stC) stM pc lv stk := fun H locs ls hP hD hS hl => kk H locs ls (va_P_comm hP) (va_D_comm hD) hS hl
theorem zbump_ok (h : zOk X own cc rm) (hr : X.cells + 1 ≤ X.R.cells ∧ X.slots + 6 ≤ X.R.slots) : zOk (zbump X) own cc rm := ⟨h.1, h.2.1, h.2.2.1, h.2.2.2.1, h.2.2.2.2.1, h.2.2.2.2.2.1, h.2.2.2.2.2.2.1, h.2.2.2.2.2.2.2.1, h.2.2.2.2.2.2.2.2.1, hr.1, hr.2⟩
theorem z_sld {ws : va_W} (hX : zOk X own cc rm) {b L : Nat} {xs : Nat → Int32} (hs : zScr X b L xs) {i v : Int32} (hdg : decode cc pc = .ok (.iaload, 1)) (hi : vp_in i L) (hv : v = xs i.toNatClampNeg) (kk : zGw X ws (pc + 1) lv (.int v :: stk)) : zGw X ws pc lv (.int i :: .ref b :: stk) := fun H locs ls hP hD hS hl => va_sld hX.1.1 hX.1.2 hs.1 hs.2.1 hs.2.2 hS hi hdg (by rw [← hv]; exact kk H locs ls hP hD hS hl)
theorem z_slen {ws : va_W} (hX : zOk X own cc rm) {b L : Nat} {xs : Nat → Int32} (hs : zScr X b L xs) (hdg : decode cc pc = .ok (.arraylength, 1)) (kk : zGw X ws (pc + 1) lv (.int (nI L) :: stk)) : zGw X ws pc lv (.ref b :: stk) := fun H locs ls hP hD hS hl => va_slen hX.1.1 hX.1.2 hs.1 hs.2.1 hs.2.2 hS hdg (kk H locs ls hP hD hS hl)
theorem z_lcmpE {ws : va_W} (hX : zOk X own cc rm) {x y : Int64} (hdg : decode cc pc = .ok (.lcmp, 1)) (h : x = y) (kk : zGw X ws (pc + 1) lv (.int 0 :: stk)) : zGw X ws pc lv (.long y :: .long x :: stk) := fun H locs ls hP hD hS hl => by
  subst h
  have e : lg_cmp x x = 0 := by simp [lg_cmp]
  exact W.lcmp hX.1.1 hX.1.2 hdg (by rw [e]; exact kk H locs ls hP hD hS hl)
theorem zs_in {t L k : Nat} {v : Int32} (hv : v = nI k) (hk : k ≤ 6) (h : 7 * t + 6 < L) (hL : L ≤ 3584) : vp_in (nI (7 * t) + v) L := by
  rw [hv, nI_add]
  exact vp_in_nI (by omega) (by omega)
theorem zgoodw {y : MethodName} {cc' : ByteArray} {mL' : Nat} {ret' : Option FieldType} {hh : List (Nat × Nat × Nat × Nat)} (h : Cond.codeWith y cc' mL' ret' hh ∈ tables_1) : GoodIn zWL (.codeWith y cc' mL' ret' hh :: zWL) := fun w hw => (List.mem_cons.mp hw).elim (fun e => by rw [e]; exact zwl_good _ (zwl_in h rfl)) (fun h => zwl_good _ h)
theorem z_backW (hX : zOk X own cc rm) {u : zSt} {rv : Option Value} {stk0 : List Value} {H : Heap} {locs : List Loc} {ls : Array Slot}
    (hP : va_P X.D vwCl (zgw n sh X.ad X.aC st ++ X.rest) H) (hD : va_D X.A (zgw n sh X.ad X.aC st ++ X.rest)) (hS : va_S X.A X.s.heap H locs) (hl : lv_has ls X.nL lv)
    (hr : va_Run X.p X.l X.e X.R X.s X.m X.args X.below X.meth X.c H locs X.cells X.slots 1 6 (F0 X.m pc ls stk0) stk (zQ rv (zOut X.D X.aC X.ad X.rest n sh (zA X.ad n X.rest H.size) u) (zA X.ad n X.rest H.size) X.args) (zA X.ad n X.rest H.size))
    (kk : zG n sh (zbump X) u (pc + 3) lv (rv.toList ++ stk)) : W X.p X.l X.e X.R X.s X.m X.args X.below X.meth X.c H locs X.cells X.slots X.Q (F0 X.m pc ls stk0) := by
  intro T hT XS
  obtain ⟨v, st₀, t, T', L, h0, X', hL, e1, e2, ⟨⟨hv, hb⟩, hz, hk⟩, hst⟩ := hr T hT XS
  cases hv
  rw [h0] at hz hk
  have hA : ∀ q, zA X.ad n X.rest H.size q → X.A q := zA_sub hD (fun q hq => hX.2.2.2.2.2.2.2.1 q (Nat.le_trans hS.1 hq))
  have hD1 : va_D X.A (zgw n sh X.ad X.aC u ++ X.rest) := hb.2.weaken (fun k q hk hq => hA _ hq)
  have hS1 : va_S X.A X.s.heap T'.heap (locs ++ L) := ⟨Nat.le_trans hS.1 (by rw [e1]; exact hz), fun q h1 h2 => by rw [e1, hk q (Nat.lt_of_lt_of_le h1 hS.1) (fun z => h2 (hA q z))]; exact hS.2.1 q h1 h2, fun q hq => by
      rcases List.mem_append.mp hq with h | h
      · exact hS.2.2 q h
      · exact hA _ (hL q h)⟩
  obtain ⟨t2, a1, b1⟩ := kk T'.heap (locs ++ L) ls (by rw [e1]; exact hb.1) hD1 hS1 hl T' rfl X'
  exact ⟨t2, hst t2 a1, b1⟩
variable {y : MethodName} {cc' : ByteArray} {mL' : Nat} {ret' : Option FieldType} {rm' : Room} {av : (Nat → Nat) → List Value} {rv : (Nat → Nat) → Option Value} {index na : Nat} {As stk0 stk' : List Value}
theorem z_callW (hX : zOk X own cc rm) (hZ : zXs X.A X.s X.s.heap) {hh : List (Nat × Nat × Nat × Nat)} (hc : zMetW X.l y cc' mL' ret' hh rm' 99 shC av stC rv u)
    (hy : Cond.static y ∈ tables_1 ∧ Cond.initialized y.cls ∈ tables_1 ∧ Cond.codeWith y cc' mL' ret' hh ∈ tables_1 ∧ (y.cls ≠ "java/lang/invoke/MethodHandle" ∧ y.cls ≠ "java/lang/invoke/VarHandle" ∧ (parseMethodDescriptor y.desc).map (fun d => d.parameters.length) = some na))
    (hdg : decode cc pc = .ok (.invokestatic index, 3)) (hw : Cond.methodLink own index y ∈ tables_1) (hav : av X.ad = As) (hst : stk0 = As.reverse ++ stk) (hna : As.length = na) (hR : rm'.frames + 1 ≤ rm.frames ∧ 8 + (mL' + 11) + rm'.locals ≤ rm.locals) (hrc : rm'.cells = 1 ∧ rm'.slots = 6) (hcat : (stk.map fun v => v.category).sum ≤ 8) (hr : X.cells + 1 ≤ X.R.cells ∧ X.slots + 6 ≤ X.R.slots) (hk : (rv X.ad).toList ++ stk = stk') (kk : zG 99 shC (zLC (zbump X) adM stM) u (pc + 3) lv stk') : zG 99 shC (zLC X adM stM) stC pc lv stk0 := fun H locs ls hP hD hS hl => by
  have hR2 : rm'.frames + 1 ≤ X.R.frames ∧ 8 + (mL' + 11) + rm'.locals ≤ X.R.locals := by rw [hX.2.2.2.2.2.2.2.2.1]; exact hR
  have hM := hc X.D X.aC X.ad (zLC X adM stM).rest H.size
  rw [hav] at hM
  have hsig : ∀ sig, parseMethodDescriptor y.desc = some sig → na = sig.parameters.length := fun sig h => by
    have h2 := hy.2.2.2.2.2
    rw [h] at h2
    exact (Option.some.inj h2).symm
  exact z_backW (X := zLC X adM stM) (zLC_ok hX) hP hD hS hl (vx_runSW (As := As) (rest := stk) (g := F0 X.m pc ls stk0) ⟨hX.1.1, hX.1.2, hX.2.1, hX.2.2.1, hX.2.2.2.1⟩ hM ⟨⟨hrc.1, hrc.2, hR2.1, hR2.2, pay_in hX.2.2.2.1 (zgoodw hy.2.2.1), List.mem_cons_self⟩, hX.t hy.2.2.1 rfl, hX.t hy.2.1 rfl, ⟨hy.2.2.2.1, hy.2.2.2.2.1⟩, hsig, hX.t hw rfl, hX.t hy.1 rfl⟩ ⟨z_blindX, z_preX (X := zLC X adM stM) (zLC_ok hX) hZ hP hD hS rfl⟩ rfl hna hl.1 hst (lv_room hcat) hdg hr) (by rw [hk]; exact kk)
end ZL
def zCpl_ship (l : Launch) (R : zSt → zSt → Prop) : Prop := ∀ (stC stM : zSt) (a1 a2 a3 a4 a5 a6 : Int32), R stC stM → ∃ (k : Int32) (u : zSt) (b : Int32 × zSt), zMetW l yL_ship cL_ship 9 (some .int) zh_L_ship zr_L_ship 99 shC (fun ad => [.ref (ad 0), .int a1, .int a2, .int a3, .int a4, .int a5, .int a6, .ref (ad 98)]) stC (fun _ => some (.int k)) u ∧ f_X7_ship stM a1 a2 a3 a4 a5 a6 = some b ∧ b.2.1 0 52 = k ∧ (k = 0 → u.2 98 0 = b.1.toInt64) ∧ R u b.2
def zCpl_fill (l : Launch) (R : zSt → zSt → Prop) : Prop := ∀ (stC stM : zSt) (a1 a2 : Int32), R stC stM → ∃ (k : Int32) (u : zSt) (b : Int32 × zSt), zMetW l yL_fill cL_fill 5 (some .int) zh_L_fill zr_L_fill 99 shC (fun ad => [.ref (ad 0), .int a1, .int a2, .ref (ad 98)]) stC (fun _ => some (.int k)) u ∧ f_X7_fill stM a1 a2 = some b ∧ b.2.1 0 52 = k ∧ (k = 0 → u.2 98 0 = b.1.toInt64) ∧ R u b.2
def zCpl_crew (l : Launch) (R : zSt → zSt → Prop) : Prop := ∀ (stC stM : zSt) (a1 a2 a3 : Int32), R stC stM → ∃ (k : Int32) (u : zSt) (b : Int32 × zSt), zMetW l yL_crew cL_crew 6 (some .int) zh_L_crew zr_L_crew 99 shC (fun ad => [.ref (ad 0), .int a1, .int a2, .int a3, .ref (ad 98)]) stC (fun _ => some (.int k)) u ∧ f_X7_crew stM a1 a2 a3 = some b ∧ b.2.1 0 52 = k ∧ (k = 0 → u.2 98 0 = b.1.toInt64) ∧ R u b.2
def zCpl_hours (l : Launch) (R : zSt → zSt → Prop) : Prop := ∀ (stC stM : zSt) (a1 a2 : Int32), R stC stM → ∃ (k : Int32) (u : zSt) (b : Int32 × zSt), zMetW l yL_hours cL_hours 5 (some .int) zh_L_hours zr_L_hours 99 shC (fun ad => [.ref (ad 0), .int a1, .int a2, .ref (ad 98)]) stC (fun _ => some (.int k)) u ∧ f_X7_hours stM a1 a2 = some b ∧ b.2.1 0 52 = k ∧ (k = 0 → u.2 98 0 = b.1.toInt64) ∧ R u b.2
def zCpl_depth (l : Launch) (R : zSt → zSt → Prop) : Prop := ∀ (stC stM : zSt) (a1 a2 : Int32), R stC stM → ∃ (k : Int32) (u : zSt) (b : Int32 × zSt), zMetW l yL_depth cL_depth 5 (some .int) zh_L_depth zr_L_depth 99 shC (fun ad => [.ref (ad 0), .int a1, .int a2, .ref (ad 98)]) stC (fun _ => some (.int k)) u ∧ f_X7_depth stM a1 a2 = some b ∧ b.2.1 0 52 = k ∧ (k = 0 → u.2 98 0 = b.1.toInt64) ∧ R u b.2
def zCpl_hinder (l : Launch) (R : zSt → zSt → Prop) : Prop := ∀ (stC stM : zSt) (a1 a2 a3 a4 : Int32), R stC stM → ∃ (k : Int32) (u : zSt) (b : Unit × zSt), zMetW l yL_hinder cL_hinder 6 (some .int) zh_L_hinder zr_L_hinder 99 shC (fun ad => [.ref (ad 0), .int a1, .int a2, .int a3, .int a4]) stC (fun _ => some (.int k)) u ∧ f_X7_hinder stM a1 a2 a3 a4 = some b ∧ b.2.1 0 52 = k ∧ R u b.2
def zCpl_bus (l : Launch) (R : zSt → zSt → Prop) : Prop := ∀ (stC stM : zSt) (a1 a2 a3 : Int32), R stC stM → ∃ (k : Int32) (u : zSt) (b : Unit × zSt), zMetW l yL_bus cL_bus 5 (some .int) zh_L_bus zr_L_bus 99 shC (fun ad => [.ref (ad 0), .int a1, .int a2, .int a3]) stC (fun _ => some (.int k)) u ∧ f_X7_bus stM a1 a2 a3 = some b ∧ b.2.1 0 52 = k ∧ R u b.2
def zCpl_reside (l : Launch) (R : zSt → zSt → Prop) : Prop := ∀ (stC stM : zSt) (a1 a2 : Int32), R stC stM → ∃ (k : Int32) (u : zSt) (b : Int32 × zSt), zMetW l yL_reside cL_reside 5 (some .int) zh_L_reside zr_L_reside 99 shC (fun ad => [.ref (ad 0), .int a1, .int a2, .ref (ad 98)]) stC (fun _ => some (.int k)) u ∧ f_X7_reside stM a1 a2 = some b ∧ b.2.1 0 52 = k ∧ (k = 0 → u.2 98 0 = b.1.toInt64) ∧ R u b.2
def zCpl_plan (l : Launch) (R : zSt → zSt → Prop) : Prop := ∀ (stC stM : zSt) (a1 a2 a3 a4 : Int32), R stC stM → ∃ (k : Int32) (u : zSt) (b : Int32 × zSt), zMetW l yL_plan cL_plan 7 (some .int) zh_L_plan zr_L_plan 99 shC (fun ad => [.ref (ad 0), .int a1, .int a2, .int a3, .int a4, .ref (ad 98)]) stC (fun _ => some (.int k)) u ∧ f_X7_plan stM a1 a2 a3 a4 = some b ∧ b.2.1 0 52 = k ∧ (k = 0 → u.2 98 0 = b.1.toInt64) ∧ R u b.2
def zCpl_cancel (l : Launch) (R : zSt → zSt → Prop) : Prop := ∀ (stC stM : zSt) (a1 : Int32), R stC stM → ∃ (k : Int32) (u : zSt) (b : Int32 × zSt), zMetW l yL_cancel cL_cancel 4 (some .int) zh_L_cancel zr_L_cancel 99 shC (fun ad => [.ref (ad 0), .int a1, .ref (ad 98)]) stC (fun _ => some (.int k)) u ∧ f_X7_cancel stM a1 = some b ∧ b.2.1 0 52 = k ∧ (k = 0 → u.2 98 0 = b.1.toInt64) ∧ R u b.2
def zCpl_replace (l : Launch) (R : zSt → zSt → Prop) : Prop := ∀ (stC stM : zSt) (a1 a2 : Int32), R stC stM → ∃ (k : Int32) (u : zSt) (b : Int32 × zSt), zMetW l yL_replace cL_replace 5 (some .int) zh_L_replace zr_L_replace 99 shC (fun ad => [.ref (ad 0), .int a1, .int a2, .ref (ad 98)]) stC (fun _ => some (.int k)) u ∧ f_X7_replace stM a1 a2 = some b ∧ b.2.1 0 52 = k ∧ (k = 0 → u.2 98 0 = b.1.toInt64) ∧ R u b.2
def zCpl_pass (l : Launch) (R : zSt → zSt → Prop) : Prop := ∀ (stC stM : zSt) (a1 : Int32), R stC stM → ∃ (k : Int32) (u : zSt) (b : Int32 × zSt), zMetW l yL_pass cL_pass 4 (some .int) zh_L_pass zr_L_pass 99 shC (fun ad => [.ref (ad 0), .int a1, .ref (ad 98)]) stC (fun _ => some (.int k)) u ∧ f_X7_pass stM a1 = some b ∧ b.2.1 0 52 = k ∧ (k = 0 → u.2 98 0 = b.1.toInt64) ∧ R u b.2
def zCpl_now (l : Launch) (R : zSt → zSt → Prop) : Prop := ∀ stC stM : zSt, R stC stM → ∃ (q qM : Int32 × zSt), f_X6_now stC = some q ∧ f_X7_now stM = some qM ∧ q.1 = qM.1 ∧ R q.2 qM.2
def zCpl_state (l : Launch) (R : zSt → zSt → Prop) : Prop := ∀ (stC stM : zSt) (a1 : Int32), R stC stM → ∃ (k : Int32) (u : zSt) (b : Int32 × zSt), zMetW l yL_state cL_state 4 (some .int) zh_L_state zr_L_state 99 shC (fun ad => [.ref (ad 0), .int a1, .ref (ad 98)]) stC (fun _ => some (.int k)) u ∧ f_X7_state stM a1 = some b ∧ b.2.1 0 52 = k ∧ (k = 0 → u.2 98 0 = b.1.toInt64) ∧ R u b.2
def zCpl_ends (l : Launch) (R : zSt → zSt → Prop) : Prop := ∀ (stC stM : zSt) (a1 : Int32), R stC stM → ∃ (k : Int32) (u : zSt) (b : Int32 × zSt), zMetW l yL_ends cL_ends 4 (some .int) zh_L_ends zr_L_ends 99 shC (fun ad => [.ref (ad 0), .int a1, .ref (ad 98)]) stC (fun _ => some (.int k)) u ∧ f_X7_ends stM a1 = some b ∧ b.2.1 0 52 = k ∧ (k = 0 → u.2 98 0 = b.1.toInt64) ∧ R u b.2
def zCpl_busAfter (l : Launch) (R : zSt → zSt → Prop) : Prop := ∀ (stC stM : zSt) (a1 : Int32), R stC stM → ∃ (k : Int32) (u : zSt) (b : Int32 × zSt), zMetW l yL_busAfter cL_busAfter 4 (some .int) zh_L_busAfter zr_L_busAfter 99 shC (fun ad => [.ref (ad 0), .int a1, .ref (ad 98)]) stC (fun _ => some (.int k)) u ∧ f_X7_busAfter stM a1 = some b ∧ b.2.1 0 52 = k ∧ (k = 0 → u.2 98 0 = b.1.toInt64) ∧ R u b.2
def zCpl_place (l : Launch) (R : zSt → zSt → Prop) : Prop := ∀ (stC stM : zSt) (a1 : Int32), R stC stM → ∃ (k : Int32) (u : zSt) (b : Int32 × zSt), zMetW l yL_place cL_place 4 (some .int) zh_L_place zr_L_place 99 shC (fun ad => [.ref (ad 0), .int a1, .ref (ad 98)]) stC (fun _ => some (.int k)) u ∧ f_X7_place stM a1 = some b ∧ b.2.1 0 52 = k ∧ (k = 0 → u.2 98 0 = b.1.toInt64) ∧ R u b.2
def zCpl_placeByLine (l : Launch) (R : zSt → zSt → Prop) : Prop := ∀ (stC stM : zSt) (a1 a2 : Int32), R stC stM → ∃ (k : Int32) (u : zSt) (b : Int32 × zSt), zMetW l yL_placeByLine cL_placeByLine 5 (some .int) zh_L_placeByLine zr_L_placeByLine 99 shC (fun ad => [.ref (ad 0), .int a1, .int a2, .ref (ad 98)]) stC (fun _ => some (.int k)) u ∧ f_X7_placeByLine stM a1 a2 = some b ∧ b.2.1 0 52 = k ∧ (k = 0 → u.2 98 0 = b.1.toInt64) ∧ R u b.2
def zCpl_fuel (l : Launch) (R : zSt → zSt → Prop) : Prop := ∀ (stC stM : zSt) (a1 : Int32), R stC stM → ∃ (k : Int32) (u : zSt) (b : Int32 × zSt), zMetW l yL_fuel cL_fuel 4 (some .int) zh_L_fuel zr_L_fuel 99 shC (fun ad => [.ref (ad 0), .int a1, .ref (ad 98)]) stC (fun _ => some (.int k)) u ∧ f_X7_fuel stM a1 = some b ∧ b.2.1 0 52 = k ∧ (k = 0 → u.2 98 0 = b.1.toInt64) ∧ R u b.2
def zCpl_book (l : Launch) (R : zSt → zSt → Prop) : Prop := ∀ (stC stM : zSt) (a1 a2 a3 a4 a5 a6 : Int32), R stC stM → (a6 = 0 ∨ a6 = 1) → ∃ (k : Int32) (u : zSt) (b : Int32 × zSt), zMetW l yL_book cL_book 9 (some .int) zh_L_book zr_L_book 99 shC (fun ad => [.ref (ad 0), .int a1, .int a2, .int a3, .int a4, .int a5, .int a6, .ref (ad 98)]) stC (fun _ => some (.int k)) u ∧ f_X7_book stM a1 a2 a3 a4 a5 a6 = some b ∧ b.2.1 0 52 = k ∧ (k = 0 → u.2 98 0 = b.1.toInt64) ∧ R u b.2
def zCpl_sailingOf (l : Launch) (R : zSt → zSt → Prop) : Prop := ∀ (stC stM : zSt) (a1 : Int32), R stC stM → ∃ (k : Int32) (u : zSt) (b : Int32 × zSt), zMetW l yL_sailingOf cL_sailingOf 4 (some .int) zh_L_sailingOf zr_L_sailingOf 99 shC (fun ad => [.ref (ad 0), .int a1, .ref (ad 98)]) stC (fun _ => some (.int k)) u ∧ f_X7_sailingOf stM a1 = some b ∧ b.2.1 0 52 = k ∧ (k = 0 → u.2 98 0 = b.1.toInt64) ∧ R u b.2
def zCpl_lane (l : Launch) (R : zSt → zSt → Prop) : Prop := ∀ (stC stM : zSt) (a1 : Int32), R stC stM → ∃ (k : Int32) (u : zSt) (b : Int32 × zSt), zMetW l yL_lane cL_lane 4 (some .int) zh_L_lane zr_L_lane 99 shC (fun ad => [.ref (ad 0), .int a1, .ref (ad 98)]) stC (fun _ => some (.int k)) u ∧ f_X7_lane stM a1 = some b ∧ b.2.1 0 52 = k ∧ (k = 0 → u.2 98 0 = b.1.toInt64) ∧ R u b.2
def zCpl_paid (l : Launch) (R : zSt → zSt → Prop) : Prop := ∀ (stC stM : zSt) (a1 : Int32), R stC stM → ∃ (k : Int32) (u : zSt) (b : Int32 × zSt), zMetW l yL_paid cL_paid 4 (some .int) zh_L_paid zr_L_paid 99 shC (fun ad => [.ref (ad 0), .int a1, .ref (ad 98)]) stC (fun _ => some (.int k)) u ∧ f_X7_paid stM a1 = some b ∧ b.2.1 0 52 = k ∧ (k = 0 → u.2 98 0 = b.1.toInt64) ∧ R u b.2
def zCpl_taken (l : Launch) (R : zSt → zSt → Prop) : Prop := ∀ (stC stM : zSt) (a1 : Int32), R stC stM → ∃ (k : Int32) (u : zSt) (b : Int32 × zSt), zMetW l yL_taken cL_taken 4 (some .int) zh_L_taken zr_L_taken 99 shC (fun ad => [.ref (ad 0), .int a1, .ref (ad 98)]) stC (fun _ => some (.int k)) u ∧ f_X7_taken stM a1 = some b ∧ b.2.1 0 52 = k ∧ (k = 0 → u.2 98 0 = b.1.toInt64) ∧ R u b.2
def zCpl_list (l : Launch) (R : zSt → zSt → Prop) : Prop := ∀ (stC stM : zSt) (a1 : Int32), R stC stM → ∃ (k : Int32) (u : zSt) (b : Int32 × zSt), zMetW l yL_list cL_list 4 (some .int) zh_L_list zr_L_list 99 shC (fun ad => [.ref (ad 0), .int a1, .ref (ad 98)]) stC (fun _ => some (.int k)) u ∧ f_X7_list stM a1 = some b ∧ b.2.1 0 52 = k ∧ (k = 0 → u.2 98 0 = b.1.toInt64) ∧ R u b.2
def zCpl_account (l : Launch) (R : zSt → zSt → Prop) : Prop := ∀ (stC stM : zSt) (a1 : Int32), R stC stM → ∃ (k : Int32) (u : zSt) (b : Int64 × zSt), zMetW l yL_account cL_account 4 (some .int) zh_L_account zr_L_account 99 shC (fun ad => [.ref (ad 0), .int a1, .ref (ad 98)]) stC (fun _ => some (.int k)) u ∧ f_X7_account stM a1 = some b ∧ b.2.1 0 52 = k ∧ (k = 0 → u.2 98 0 = b.1) ∧ R u b.2
def zCpl_accountAnew (l : Launch) (R : zSt → zSt → Prop) : Prop := ∀ (stC stM : zSt) (a1 : Int32), R stC stM → ∃ (k : Int32) (u : zSt) (b : Int64 × zSt), zMetW l yL_accountAnew cL_accountAnew 4 (some .int) zh_L_accountAnew zr_L_accountAnew 99 shC (fun ad => [.ref (ad 0), .int a1, .ref (ad 98)]) stC (fun _ => some (.int k)) u ∧ f_X7_accountAnew stM a1 = some b ∧ b.2.1 0 52 = k ∧ (k = 0 → u.2 98 0 = b.1) ∧ R u b.2
set_option maxHeartbeats 4000000 in
set_option maxRecDepth 100000 in
theorem law_ship {R : zSt → zSt → Prop} (X : zCx) (hX : zOk X RL code room_1) (hr : X.cells + 1 ≤ X.R.cells ∧ X.slots + 6 ≤ X.R.slots) (hZ : zXs X.A X.s X.s.heap) {b0 L t : Nat} {xs : Nat → Int32} (hs : zScr X b0 L xs) (hnl : X.nL = 8) (ht : 7 * t + 6 < L) (hL : L ≤ 3584) {adM : Nat → Nat} (HC : zCpl_ship X.l R) (stC stM : zSt) (hR : R stC stM) (kk : ∀ u uM : zSt, R u uM → zG 99 shC (zLC (zbump X) adM uM) u 1923 [(0, .ref b0), (1, .ref (X.ad 0)), (2, .ref (adM 0)), (3, .ref (X.ad 98)), (4, .int (nI (7 * t)))] []) : zG 99 shC (zLC X adM stM) stC 164 [(0, .ref b0), (1, .ref (X.ad 0)), (2, .ref (adM 0)), (3, .ref (X.ad 98)), (4, .int (nI (7 * t)))] [] := by
  obtain ⟨a1, e1⟩ : ∃ a, a = xs (nI (7 * t) + 1).toNatClampNeg := ⟨_, rfl⟩
  obtain ⟨a2, e2⟩ : ∃ a, a = xs (nI (7 * t) + 2).toNatClampNeg := ⟨_, rfl⟩
  obtain ⟨a3, e3⟩ : ∃ a, a = xs (nI (7 * t) + 3).toNatClampNeg := ⟨_, rfl⟩
  obtain ⟨a4, e4⟩ : ∃ a, a = xs (nI (7 * t) + 4).toNatClampNeg := ⟨_, rfl⟩
  obtain ⟨a5, e5⟩ : ∃ a, a = xs (nI (7 * t) + 5).toNatClampNeg := ⟨_, rfl⟩
  obtain ⟨a6, e6⟩ : ∃ a, a = xs (nI (7 * t) + 6).toNatClampNeg := ⟨_, rfl⟩
  obtain ⟨k, u, b, hW, hM, hk, hb, hR2⟩ := HC stC stM a1 a2 a3 a4 a5 a6 hR
  have hXb := zbump_ok hX hr
  refine z_aload_n (zLC_ok (adM := adM) (stM := stM) hX) 1 dL_law_164 rfl rfl ?_
  refine z_aload_n (zLC_ok (adM := adM) (stM := stM) hX) 0 dL_law_165 rfl rfl ?_
  refine z_iload (zLC_ok (adM := adM) (stM := stM) hX) 4 dL_law_166 rfl ?_
  refine z_iconst (v := 1) (zLC_ok (adM := adM) (stM := stM) hX) dL_law_168 (by decide) ?_
  refine z_iadd (zLC_ok (adM := adM) (stM := stM) hX) dL_law_169 ?_
  refine z_sld (L := L) (xs := xs) (zLC_ok (adM := adM) (stM := stM) hX) hs dL_law_170 (zs_in (k := 1) rfl (by decide) ht hL) e1 ?_
  refine z_aload_n (zLC_ok (adM := adM) (stM := stM) hX) 0 dL_law_171 rfl rfl ?_
  refine z_iload (zLC_ok (adM := adM) (stM := stM) hX) 4 dL_law_172 rfl ?_
  refine z_iconst (v := 2) (zLC_ok (adM := adM) (stM := stM) hX) dL_law_174 (by decide) ?_
  refine z_iadd (zLC_ok (adM := adM) (stM := stM) hX) dL_law_175 ?_
  refine z_sld (L := L) (xs := xs) (zLC_ok (adM := adM) (stM := stM) hX) hs dL_law_176 (zs_in (k := 2) rfl (by decide) ht hL) e2 ?_
  refine z_aload_n (zLC_ok (adM := adM) (stM := stM) hX) 0 dL_law_177 rfl rfl ?_
  refine z_iload (zLC_ok (adM := adM) (stM := stM) hX) 4 dL_law_178 rfl ?_
  refine z_iconst (v := 3) (zLC_ok (adM := adM) (stM := stM) hX) dL_law_180 (by decide) ?_
  refine z_iadd (zLC_ok (adM := adM) (stM := stM) hX) dL_law_181 ?_
  refine z_sld (L := L) (xs := xs) (zLC_ok (adM := adM) (stM := stM) hX) hs dL_law_182 (zs_in (k := 3) rfl (by decide) ht hL) e3 ?_
  refine z_aload_n (zLC_ok (adM := adM) (stM := stM) hX) 0 dL_law_183 rfl rfl ?_
  refine z_iload (zLC_ok (adM := adM) (stM := stM) hX) 4 dL_law_184 rfl ?_
  refine z_iconst (v := 4) (zLC_ok (adM := adM) (stM := stM) hX) dL_law_186 (by decide) ?_
  refine z_iadd (zLC_ok (adM := adM) (stM := stM) hX) dL_law_187 ?_
  refine z_sld (L := L) (xs := xs) (zLC_ok (adM := adM) (stM := stM) hX) hs dL_law_188 (zs_in (k := 4) rfl (by decide) ht hL) e4 ?_
  refine z_aload_n (zLC_ok (adM := adM) (stM := stM) hX) 0 dL_law_189 rfl rfl ?_
  refine z_iload (zLC_ok (adM := adM) (stM := stM) hX) 4 dL_law_190 rfl ?_
  refine z_iconst (v := 5) (zLC_ok (adM := adM) (stM := stM) hX) dL_law_192 (by decide) ?_
  refine z_iadd (zLC_ok (adM := adM) (stM := stM) hX) dL_law_193 ?_
  refine z_sld (L := L) (xs := xs) (zLC_ok (adM := adM) (stM := stM) hX) hs dL_law_194 (zs_in (k := 5) rfl (by decide) ht hL) e5 ?_
  refine z_aload_n (zLC_ok (adM := adM) (stM := stM) hX) 0 dL_law_195 rfl rfl ?_
  refine z_iload (zLC_ok (adM := adM) (stM := stM) hX) 4 dL_law_196 rfl ?_
  refine z_bipush (v := 6) (zLC_ok (adM := adM) (stM := stM) hX) dL_law_198 (by decide) ?_
  refine z_iadd (zLC_ok (adM := adM) (stM := stM) hX) dL_law_200 ?_
  refine z_sld (L := L) (xs := xs) (zLC_ok (adM := adM) (stM := stM) hX) hs dL_law_201 (zs_in (k := 6) rfl (by decide) ht hL) e6 ?_
  refine z_aload_n (zLC_ok (adM := adM) (stM := stM) hX) 3 dL_law_202 rfl rfl ?_
  refine z_callW (stk := []) (stk' := [.int k]) hX hZ hW zbW_L_ship dL_law_203 zm_307 rfl rfl rfl ⟨by decide, by decide⟩ ⟨rfl, rfl⟩ (Nat.le_of_ble_eq_true rfl) hr rfl ?_
  refine z_istore (zLC_ok (adM := adM) (stM := stM) hXb) [(0, .ref b0), (1, .ref (X.ad 0)), (2, .ref (adM 0)), (3, .ref (X.ad 98)), (4, .int (nI (7 * t))), (5, .int k)] dL_law_206 (by show 5 < X.nL; rw [hnl]; decide) [1, 2, 3, 4, 5, 0] rfl ?_
  refine z_aload_n (zLC_ok (adM := adM) (stM := stM) hXb) 2 dL_law_208 rfl rfl ?_
  refine z_aload_n (zLC_ok (adM := adM) (stM := stM) hXb) 0 dL_law_209 rfl rfl ?_
  refine z_iload (zLC_ok (adM := adM) (stM := stM) hXb) 4 dL_law_210 rfl ?_
  refine z_iconst (v := 1) (zLC_ok (adM := adM) (stM := stM) hXb) dL_law_212 (by decide) ?_
  refine z_iadd (zLC_ok (adM := adM) (stM := stM) hXb) dL_law_213 ?_
  refine z_sld (L := L) (xs := xs) (zLC_ok (adM := adM) (stM := stM) hXb) hs dL_law_214 (zs_in (k := 1) rfl (by decide) ht hL) e1 ?_
  refine z_aload_n (zLC_ok (adM := adM) (stM := stM) hXb) 0 dL_law_215 rfl rfl ?_
  refine z_iload (zLC_ok (adM := adM) (stM := stM) hXb) 4 dL_law_216 rfl ?_
  refine z_iconst (v := 2) (zLC_ok (adM := adM) (stM := stM) hXb) dL_law_218 (by decide) ?_
  refine z_iadd (zLC_ok (adM := adM) (stM := stM) hXb) dL_law_219 ?_
  refine z_sld (L := L) (xs := xs) (zLC_ok (adM := adM) (stM := stM) hXb) hs dL_law_220 (zs_in (k := 2) rfl (by decide) ht hL) e2 ?_
  refine z_aload_n (zLC_ok (adM := adM) (stM := stM) hXb) 0 dL_law_221 rfl rfl ?_
  refine z_iload (zLC_ok (adM := adM) (stM := stM) hXb) 4 dL_law_222 rfl ?_
  refine z_iconst (v := 3) (zLC_ok (adM := adM) (stM := stM) hXb) dL_law_224 (by decide) ?_
  refine z_iadd (zLC_ok (adM := adM) (stM := stM) hXb) dL_law_225 ?_
  refine z_sld (L := L) (xs := xs) (zLC_ok (adM := adM) (stM := stM) hXb) hs dL_law_226 (zs_in (k := 3) rfl (by decide) ht hL) e3 ?_
  refine z_aload_n (zLC_ok (adM := adM) (stM := stM) hXb) 0 dL_law_227 rfl rfl ?_
  refine z_iload (zLC_ok (adM := adM) (stM := stM) hXb) 4 dL_law_228 rfl ?_
  refine z_iconst (v := 4) (zLC_ok (adM := adM) (stM := stM) hXb) dL_law_230 (by decide) ?_
  refine z_iadd (zLC_ok (adM := adM) (stM := stM) hXb) dL_law_231 ?_
  refine z_sld (L := L) (xs := xs) (zLC_ok (adM := adM) (stM := stM) hXb) hs dL_law_232 (zs_in (k := 4) rfl (by decide) ht hL) e4 ?_
  refine z_aload_n (zLC_ok (adM := adM) (stM := stM) hXb) 0 dL_law_233 rfl rfl ?_
  refine z_iload (zLC_ok (adM := adM) (stM := stM) hXb) 4 dL_law_234 rfl ?_
  refine z_iconst (v := 5) (zLC_ok (adM := adM) (stM := stM) hXb) dL_law_236 (by decide) ?_
  refine z_iadd (zLC_ok (adM := adM) (stM := stM) hXb) dL_law_237 ?_
  refine z_sld (L := L) (xs := xs) (zLC_ok (adM := adM) (stM := stM) hXb) hs dL_law_238 (zs_in (k := 5) rfl (by decide) ht hL) e5 ?_
  refine z_aload_n (zLC_ok (adM := adM) (stM := stM) hXb) 0 dL_law_239 rfl rfl ?_
  refine z_iload (zLC_ok (adM := adM) (stM := stM) hXb) 4 dL_law_240 rfl ?_
  refine z_bipush (v := 6) (zLC_ok (adM := adM) (stM := stM) hXb) dL_law_242 (by decide) ?_
  refine z_iadd (zLC_ok (adM := adM) (stM := stM) hXb) dL_law_244 ?_
  refine z_sld (L := L) (xs := xs) (zLC_ok (adM := adM) (stM := stM) hXb) hs dL_law_245 (zs_in (k := 6) rfl (by decide) ht hL) e6 ?_
  refine z_toM ?_
  refine z_callV (stk := []) (stk' := [.int b.1]) (zLM_ok (adM := adM) (stC := u) hXb) (c_X7_ship _ stM a1 a2 a3 a4 a5 a6 b hM) zb_X7_ship 0 dL_law_246 zm_944 (by decide) shM_0 rfl rfl rfl rfl ⟨by decide, by decide⟩ ⟨rfl, rfl⟩ (Nat.le_of_ble_eq_true rfl) rfl ?_
  refine z_toC ?_
  refine z_istore (zLC_ok (adM := adM) (stM := b.2) hXb) [(0, .ref b0), (1, .ref (X.ad 0)), (2, .ref (adM 0)), (3, .ref (X.ad 98)), (4, .int (nI (7 * t))), (5, .int k), (6, .int b.1)] dL_law_249 (by show 6 < X.nL; rw [hnl]; decide) [1, 2, 3, 4, 5, 6, 0] rfl ?_
  refine z_aload_n (zLC_ok (adM := adM) (stM := b.2) hXb) 2 dL_law_251 rfl rfl ?_
  refine z_toM ?_
  refine z_callV (stk := []) (stk' := .int (b.2.1 0 52) :: []) (zLM_ok (adM := adM) (stC := u) hXb) (c_X7_thrown _ b.2 (b.2.1 0 52, b.2) rfl) zb_X7_thrown 0 dL_law_252 zm_940 (by decide) shM_0 rfl rfl rfl rfl ⟨by decide, by decide⟩ ⟨rfl, rfl⟩ (Nat.le_of_ble_eq_true rfl) rfl ?_
  refine z_toC ?_
  refine z_iload (zLC_ok (adM := adM) (stM := b.2) hXb) 5 dL_law_255 rfl ?_
  refine z_icmp_eq (zLC_ok (adM := adM) (stM := b.2) hXb) 262 dL_law_257 (by decide) (fun _ => ?_) (fun c => absurd hk c)
  refine z_iload (zLC_ok (adM := adM) (stM := b.2) hXb) 5 dL_law_262 rfl ?_
  refine z_if_ne (zLC_ok (adM := adM) (stM := b.2) hXb) 279 dL_law_264 (by decide) (fun ck => ?_) (fun ck => ?_)
  · refine z_goto (zLC_ok (adM := adM) (stM := b.2) hXb) 1923 dL_law_279 (by decide) ?_
    refine z_locals [0, 1, 2, 3, 4] [(0, .ref b0), (1, .ref (X.ad 0)), (2, .ref (adM 0)), (3, .ref (X.ad 98)), (4, .int (nI (7 * t)))] rfl ?_
    exact kk u b.2 hR2
  refine z_aload_n (zLC_ok (adM := adM) (stM := b.2) hXb) 3 dL_law_267 rfl rfl ?_
  refine z_iconst (v := 0) (zLC_ok (adM := adM) (stM := b.2) hXb) dL_law_268 (by decide) ?_
  refine z_lald (zLC_ok (adM := adM) (stM := b.2) hXb) 98 dL_law_269 (by decide) shC_98 (show zin 0 1 by decide) ?_
  refine z_iload (zLC_ok (adM := adM) (stM := b.2) hXb) 6 dL_law_270 rfl ?_
  refine z_i2l (zLC_ok (adM := adM) (stM := b.2) hXb) dL_law_272 ?_
  refine z_lcmpE (zLC_ok (adM := adM) (stM := b.2) hXb) dL_law_273 (hb ck) ?_
  refine z_if_eq (zLC_ok (adM := adM) (stM := b.2) hXb) 279 dL_law_274 (by decide) (fun _ => ?_) (fun c => absurd rfl c)
  refine z_goto (zLC_ok (adM := adM) (stM := b.2) hXb) 1923 dL_law_279 (by decide) ?_
  refine z_locals [0, 1, 2, 3, 4] [(0, .ref b0), (1, .ref (X.ad 0)), (2, .ref (adM 0)), (3, .ref (X.ad 98)), (4, .int (nI (7 * t)))] rfl ?_
  exact kk u b.2 hR2
set_option maxHeartbeats 4000000 in
set_option maxRecDepth 100000 in
theorem law_fill {R : zSt → zSt → Prop} (X : zCx) (hX : zOk X RL code room_1) (hr : X.cells + 1 ≤ X.R.cells ∧ X.slots + 6 ≤ X.R.slots) (hZ : zXs X.A X.s X.s.heap) {b0 L t : Nat} {xs : Nat → Int32} (hs : zScr X b0 L xs) (hnl : X.nL = 8) (ht : 7 * t + 6 < L) (hL : L ≤ 3584) {adM : Nat → Nat} (HC : zCpl_fill X.l R) (stC stM : zSt) (hR : R stC stM) (kk : ∀ u uM : zSt, R u uM → zG 99 shC (zLC (zbump X) adM uM) u 1923 [(0, .ref b0), (1, .ref (X.ad 0)), (2, .ref (adM 0)), (3, .ref (X.ad 98)), (4, .int (nI (7 * t)))] []) : zG 99 shC (zLC X adM stM) stC 282 [(0, .ref b0), (1, .ref (X.ad 0)), (2, .ref (adM 0)), (3, .ref (X.ad 98)), (4, .int (nI (7 * t)))] [] := by
  obtain ⟨a1, e1⟩ : ∃ a, a = xs (nI (7 * t) + 1).toNatClampNeg := ⟨_, rfl⟩
  obtain ⟨a2, e2⟩ : ∃ a, a = xs (nI (7 * t) + 2).toNatClampNeg := ⟨_, rfl⟩
  obtain ⟨k, u, b, hW, hM, hk, hb, hR2⟩ := HC stC stM a1 a2 hR
  have hXb := zbump_ok hX hr
  refine z_aload_n (zLC_ok (adM := adM) (stM := stM) hX) 1 dL_law_282 rfl rfl ?_
  refine z_aload_n (zLC_ok (adM := adM) (stM := stM) hX) 0 dL_law_283 rfl rfl ?_
  refine z_iload (zLC_ok (adM := adM) (stM := stM) hX) 4 dL_law_284 rfl ?_
  refine z_iconst (v := 1) (zLC_ok (adM := adM) (stM := stM) hX) dL_law_286 (by decide) ?_
  refine z_iadd (zLC_ok (adM := adM) (stM := stM) hX) dL_law_287 ?_
  refine z_sld (L := L) (xs := xs) (zLC_ok (adM := adM) (stM := stM) hX) hs dL_law_288 (zs_in (k := 1) rfl (by decide) ht hL) e1 ?_
  refine z_aload_n (zLC_ok (adM := adM) (stM := stM) hX) 0 dL_law_289 rfl rfl ?_
  refine z_iload (zLC_ok (adM := adM) (stM := stM) hX) 4 dL_law_290 rfl ?_
  refine z_iconst (v := 2) (zLC_ok (adM := adM) (stM := stM) hX) dL_law_292 (by decide) ?_
  refine z_iadd (zLC_ok (adM := adM) (stM := stM) hX) dL_law_293 ?_
  refine z_sld (L := L) (xs := xs) (zLC_ok (adM := adM) (stM := stM) hX) hs dL_law_294 (zs_in (k := 2) rfl (by decide) ht hL) e2 ?_
  refine z_aload_n (zLC_ok (adM := adM) (stM := stM) hX) 3 dL_law_295 rfl rfl ?_
  refine z_callW (stk := []) (stk' := [.int k]) hX hZ hW zbW_L_fill dL_law_296 zm_427 rfl rfl rfl ⟨by decide, by decide⟩ ⟨rfl, rfl⟩ (Nat.le_of_ble_eq_true rfl) hr rfl ?_
  refine z_istore (zLC_ok (adM := adM) (stM := stM) hXb) [(0, .ref b0), (1, .ref (X.ad 0)), (2, .ref (adM 0)), (3, .ref (X.ad 98)), (4, .int (nI (7 * t))), (5, .int k)] dL_law_299 (by show 5 < X.nL; rw [hnl]; decide) [1, 2, 3, 4, 5, 0] rfl ?_
  refine z_aload_n (zLC_ok (adM := adM) (stM := stM) hXb) 2 dL_law_301 rfl rfl ?_
  refine z_aload_n (zLC_ok (adM := adM) (stM := stM) hXb) 0 dL_law_302 rfl rfl ?_
  refine z_iload (zLC_ok (adM := adM) (stM := stM) hXb) 4 dL_law_303 rfl ?_
  refine z_iconst (v := 1) (zLC_ok (adM := adM) (stM := stM) hXb) dL_law_305 (by decide) ?_
  refine z_iadd (zLC_ok (adM := adM) (stM := stM) hXb) dL_law_306 ?_
  refine z_sld (L := L) (xs := xs) (zLC_ok (adM := adM) (stM := stM) hXb) hs dL_law_307 (zs_in (k := 1) rfl (by decide) ht hL) e1 ?_
  refine z_aload_n (zLC_ok (adM := adM) (stM := stM) hXb) 0 dL_law_308 rfl rfl ?_
  refine z_iload (zLC_ok (adM := adM) (stM := stM) hXb) 4 dL_law_309 rfl ?_
  refine z_iconst (v := 2) (zLC_ok (adM := adM) (stM := stM) hXb) dL_law_311 (by decide) ?_
  refine z_iadd (zLC_ok (adM := adM) (stM := stM) hXb) dL_law_312 ?_
  refine z_sld (L := L) (xs := xs) (zLC_ok (adM := adM) (stM := stM) hXb) hs dL_law_313 (zs_in (k := 2) rfl (by decide) ht hL) e2 ?_
  refine z_toM ?_
  refine z_callV (stk := []) (stk' := [.int b.1]) (zLM_ok (adM := adM) (stC := u) hXb) (c_X7_fill _ stM a1 a2 b hM) zb_X7_fill 0 dL_law_314 zm_954 (by decide) shM_0 rfl rfl rfl rfl ⟨by decide, by decide⟩ ⟨rfl, rfl⟩ (Nat.le_of_ble_eq_true rfl) rfl ?_
  refine z_toC ?_
  refine z_istore (zLC_ok (adM := adM) (stM := b.2) hXb) [(0, .ref b0), (1, .ref (X.ad 0)), (2, .ref (adM 0)), (3, .ref (X.ad 98)), (4, .int (nI (7 * t))), (5, .int k), (6, .int b.1)] dL_law_317 (by show 6 < X.nL; rw [hnl]; decide) [1, 2, 3, 4, 5, 6, 0] rfl ?_
  refine z_aload_n (zLC_ok (adM := adM) (stM := b.2) hXb) 2 dL_law_319 rfl rfl ?_
  refine z_toM ?_
  refine z_callV (stk := []) (stk' := .int (b.2.1 0 52) :: []) (zLM_ok (adM := adM) (stC := u) hXb) (c_X7_thrown _ b.2 (b.2.1 0 52, b.2) rfl) zb_X7_thrown 0 dL_law_320 zm_940 (by decide) shM_0 rfl rfl rfl rfl ⟨by decide, by decide⟩ ⟨rfl, rfl⟩ (Nat.le_of_ble_eq_true rfl) rfl ?_
  refine z_toC ?_
  refine z_iload (zLC_ok (adM := adM) (stM := b.2) hXb) 5 dL_law_323 rfl ?_
  refine z_icmp_eq (zLC_ok (adM := adM) (stM := b.2) hXb) 330 dL_law_325 (by decide) (fun _ => ?_) (fun c => absurd hk c)
  refine z_iload (zLC_ok (adM := adM) (stM := b.2) hXb) 5 dL_law_330 rfl ?_
  refine z_if_ne (zLC_ok (adM := adM) (stM := b.2) hXb) 347 dL_law_332 (by decide) (fun ck => ?_) (fun ck => ?_)
  · refine z_goto (zLC_ok (adM := adM) (stM := b.2) hXb) 1923 dL_law_347 (by decide) ?_
    refine z_locals [0, 1, 2, 3, 4] [(0, .ref b0), (1, .ref (X.ad 0)), (2, .ref (adM 0)), (3, .ref (X.ad 98)), (4, .int (nI (7 * t)))] rfl ?_
    exact kk u b.2 hR2
  refine z_aload_n (zLC_ok (adM := adM) (stM := b.2) hXb) 3 dL_law_335 rfl rfl ?_
  refine z_iconst (v := 0) (zLC_ok (adM := adM) (stM := b.2) hXb) dL_law_336 (by decide) ?_
  refine z_lald (zLC_ok (adM := adM) (stM := b.2) hXb) 98 dL_law_337 (by decide) shC_98 (show zin 0 1 by decide) ?_
  refine z_iload (zLC_ok (adM := adM) (stM := b.2) hXb) 6 dL_law_338 rfl ?_
  refine z_i2l (zLC_ok (adM := adM) (stM := b.2) hXb) dL_law_340 ?_
  refine z_lcmpE (zLC_ok (adM := adM) (stM := b.2) hXb) dL_law_341 (hb ck) ?_
  refine z_if_eq (zLC_ok (adM := adM) (stM := b.2) hXb) 347 dL_law_342 (by decide) (fun _ => ?_) (fun c => absurd rfl c)
  refine z_goto (zLC_ok (adM := adM) (stM := b.2) hXb) 1923 dL_law_347 (by decide) ?_
  refine z_locals [0, 1, 2, 3, 4] [(0, .ref b0), (1, .ref (X.ad 0)), (2, .ref (adM 0)), (3, .ref (X.ad 98)), (4, .int (nI (7 * t)))] rfl ?_
  exact kk u b.2 hR2
set_option maxHeartbeats 4000000 in
set_option maxRecDepth 100000 in
theorem law_crew {R : zSt → zSt → Prop} (X : zCx) (hX : zOk X RL code room_1) (hr : X.cells + 1 ≤ X.R.cells ∧ X.slots + 6 ≤ X.R.slots) (hZ : zXs X.A X.s X.s.heap) {b0 L t : Nat} {xs : Nat → Int32} (hs : zScr X b0 L xs) (hnl : X.nL = 8) (ht : 7 * t + 6 < L) (hL : L ≤ 3584) {adM : Nat → Nat} (HC : zCpl_crew X.l R) (stC stM : zSt) (hR : R stC stM) (kk : ∀ u uM : zSt, R u uM → zG 99 shC (zLC (zbump X) adM uM) u 1923 [(0, .ref b0), (1, .ref (X.ad 0)), (2, .ref (adM 0)), (3, .ref (X.ad 98)), (4, .int (nI (7 * t)))] []) : zG 99 shC (zLC X adM stM) stC 350 [(0, .ref b0), (1, .ref (X.ad 0)), (2, .ref (adM 0)), (3, .ref (X.ad 98)), (4, .int (nI (7 * t)))] [] := by
  obtain ⟨a1, e1⟩ : ∃ a, a = xs (nI (7 * t) + 1).toNatClampNeg := ⟨_, rfl⟩
  obtain ⟨a2, e2⟩ : ∃ a, a = xs (nI (7 * t) + 2).toNatClampNeg := ⟨_, rfl⟩
  obtain ⟨a3, e3⟩ : ∃ a, a = xs (nI (7 * t) + 3).toNatClampNeg := ⟨_, rfl⟩
  obtain ⟨k, u, b, hW, hM, hk, hb, hR2⟩ := HC stC stM a1 a2 a3 hR
  have hXb := zbump_ok hX hr
  refine z_aload_n (zLC_ok (adM := adM) (stM := stM) hX) 1 dL_law_350 rfl rfl ?_
  refine z_aload_n (zLC_ok (adM := adM) (stM := stM) hX) 0 dL_law_351 rfl rfl ?_
  refine z_iload (zLC_ok (adM := adM) (stM := stM) hX) 4 dL_law_352 rfl ?_
  refine z_iconst (v := 1) (zLC_ok (adM := adM) (stM := stM) hX) dL_law_354 (by decide) ?_
  refine z_iadd (zLC_ok (adM := adM) (stM := stM) hX) dL_law_355 ?_
  refine z_sld (L := L) (xs := xs) (zLC_ok (adM := adM) (stM := stM) hX) hs dL_law_356 (zs_in (k := 1) rfl (by decide) ht hL) e1 ?_
  refine z_aload_n (zLC_ok (adM := adM) (stM := stM) hX) 0 dL_law_357 rfl rfl ?_
  refine z_iload (zLC_ok (adM := adM) (stM := stM) hX) 4 dL_law_358 rfl ?_
  refine z_iconst (v := 2) (zLC_ok (adM := adM) (stM := stM) hX) dL_law_360 (by decide) ?_
  refine z_iadd (zLC_ok (adM := adM) (stM := stM) hX) dL_law_361 ?_
  refine z_sld (L := L) (xs := xs) (zLC_ok (adM := adM) (stM := stM) hX) hs dL_law_362 (zs_in (k := 2) rfl (by decide) ht hL) e2 ?_
  refine z_aload_n (zLC_ok (adM := adM) (stM := stM) hX) 0 dL_law_363 rfl rfl ?_
  refine z_iload (zLC_ok (adM := adM) (stM := stM) hX) 4 dL_law_364 rfl ?_
  refine z_iconst (v := 3) (zLC_ok (adM := adM) (stM := stM) hX) dL_law_366 (by decide) ?_
  refine z_iadd (zLC_ok (adM := adM) (stM := stM) hX) dL_law_367 ?_
  refine z_sld (L := L) (xs := xs) (zLC_ok (adM := adM) (stM := stM) hX) hs dL_law_368 (zs_in (k := 3) rfl (by decide) ht hL) e3 ?_
  refine z_aload_n (zLC_ok (adM := adM) (stM := stM) hX) 3 dL_law_369 rfl rfl ?_
  refine z_callW (stk := []) (stk' := [.int k]) hX hZ hW zbW_L_crew dL_law_370 zm_434 rfl rfl rfl ⟨by decide, by decide⟩ ⟨rfl, rfl⟩ (Nat.le_of_ble_eq_true rfl) hr rfl ?_
  refine z_istore (zLC_ok (adM := adM) (stM := stM) hXb) [(0, .ref b0), (1, .ref (X.ad 0)), (2, .ref (adM 0)), (3, .ref (X.ad 98)), (4, .int (nI (7 * t))), (5, .int k)] dL_law_373 (by show 5 < X.nL; rw [hnl]; decide) [1, 2, 3, 4, 5, 0] rfl ?_
  refine z_aload_n (zLC_ok (adM := adM) (stM := stM) hXb) 2 dL_law_375 rfl rfl ?_
  refine z_aload_n (zLC_ok (adM := adM) (stM := stM) hXb) 0 dL_law_376 rfl rfl ?_
  refine z_iload (zLC_ok (adM := adM) (stM := stM) hXb) 4 dL_law_377 rfl ?_
  refine z_iconst (v := 1) (zLC_ok (adM := adM) (stM := stM) hXb) dL_law_379 (by decide) ?_
  refine z_iadd (zLC_ok (adM := adM) (stM := stM) hXb) dL_law_380 ?_
  refine z_sld (L := L) (xs := xs) (zLC_ok (adM := adM) (stM := stM) hXb) hs dL_law_381 (zs_in (k := 1) rfl (by decide) ht hL) e1 ?_
  refine z_aload_n (zLC_ok (adM := adM) (stM := stM) hXb) 0 dL_law_382 rfl rfl ?_
  refine z_iload (zLC_ok (adM := adM) (stM := stM) hXb) 4 dL_law_383 rfl ?_
  refine z_iconst (v := 2) (zLC_ok (adM := adM) (stM := stM) hXb) dL_law_385 (by decide) ?_
  refine z_iadd (zLC_ok (adM := adM) (stM := stM) hXb) dL_law_386 ?_
  refine z_sld (L := L) (xs := xs) (zLC_ok (adM := adM) (stM := stM) hXb) hs dL_law_387 (zs_in (k := 2) rfl (by decide) ht hL) e2 ?_
  refine z_aload_n (zLC_ok (adM := adM) (stM := stM) hXb) 0 dL_law_388 rfl rfl ?_
  refine z_iload (zLC_ok (adM := adM) (stM := stM) hXb) 4 dL_law_389 rfl ?_
  refine z_iconst (v := 3) (zLC_ok (adM := adM) (stM := stM) hXb) dL_law_391 (by decide) ?_
  refine z_iadd (zLC_ok (adM := adM) (stM := stM) hXb) dL_law_392 ?_
  refine z_sld (L := L) (xs := xs) (zLC_ok (adM := adM) (stM := stM) hXb) hs dL_law_393 (zs_in (k := 3) rfl (by decide) ht hL) e3 ?_
  refine z_toM ?_
  refine z_callV (stk := []) (stk' := [.int b.1]) (zLM_ok (adM := adM) (stC := u) hXb) (c_X7_crew _ stM a1 a2 a3 b hM) zb_X7_crew 0 dL_law_394 zm_963 (by decide) shM_0 rfl rfl rfl rfl ⟨by decide, by decide⟩ ⟨rfl, rfl⟩ (Nat.le_of_ble_eq_true rfl) rfl ?_
  refine z_toC ?_
  refine z_istore (zLC_ok (adM := adM) (stM := b.2) hXb) [(0, .ref b0), (1, .ref (X.ad 0)), (2, .ref (adM 0)), (3, .ref (X.ad 98)), (4, .int (nI (7 * t))), (5, .int k), (6, .int b.1)] dL_law_397 (by show 6 < X.nL; rw [hnl]; decide) [1, 2, 3, 4, 5, 6, 0] rfl ?_
  refine z_aload_n (zLC_ok (adM := adM) (stM := b.2) hXb) 2 dL_law_399 rfl rfl ?_
  refine z_toM ?_
  refine z_callV (stk := []) (stk' := .int (b.2.1 0 52) :: []) (zLM_ok (adM := adM) (stC := u) hXb) (c_X7_thrown _ b.2 (b.2.1 0 52, b.2) rfl) zb_X7_thrown 0 dL_law_400 zm_940 (by decide) shM_0 rfl rfl rfl rfl ⟨by decide, by decide⟩ ⟨rfl, rfl⟩ (Nat.le_of_ble_eq_true rfl) rfl ?_
  refine z_toC ?_
  refine z_iload (zLC_ok (adM := adM) (stM := b.2) hXb) 5 dL_law_403 rfl ?_
  refine z_icmp_eq (zLC_ok (adM := adM) (stM := b.2) hXb) 410 dL_law_405 (by decide) (fun _ => ?_) (fun c => absurd hk c)
  refine z_iload (zLC_ok (adM := adM) (stM := b.2) hXb) 5 dL_law_410 rfl ?_
  refine z_if_ne (zLC_ok (adM := adM) (stM := b.2) hXb) 427 dL_law_412 (by decide) (fun ck => ?_) (fun ck => ?_)
  · refine z_goto (zLC_ok (adM := adM) (stM := b.2) hXb) 1923 dL_law_427 (by decide) ?_
    refine z_locals [0, 1, 2, 3, 4] [(0, .ref b0), (1, .ref (X.ad 0)), (2, .ref (adM 0)), (3, .ref (X.ad 98)), (4, .int (nI (7 * t)))] rfl ?_
    exact kk u b.2 hR2
  refine z_aload_n (zLC_ok (adM := adM) (stM := b.2) hXb) 3 dL_law_415 rfl rfl ?_
  refine z_iconst (v := 0) (zLC_ok (adM := adM) (stM := b.2) hXb) dL_law_416 (by decide) ?_
  refine z_lald (zLC_ok (adM := adM) (stM := b.2) hXb) 98 dL_law_417 (by decide) shC_98 (show zin 0 1 by decide) ?_
  refine z_iload (zLC_ok (adM := adM) (stM := b.2) hXb) 6 dL_law_418 rfl ?_
  refine z_i2l (zLC_ok (adM := adM) (stM := b.2) hXb) dL_law_420 ?_
  refine z_lcmpE (zLC_ok (adM := adM) (stM := b.2) hXb) dL_law_421 (hb ck) ?_
  refine z_if_eq (zLC_ok (adM := adM) (stM := b.2) hXb) 427 dL_law_422 (by decide) (fun _ => ?_) (fun c => absurd rfl c)
  refine z_goto (zLC_ok (adM := adM) (stM := b.2) hXb) 1923 dL_law_427 (by decide) ?_
  refine z_locals [0, 1, 2, 3, 4] [(0, .ref b0), (1, .ref (X.ad 0)), (2, .ref (adM 0)), (3, .ref (X.ad 98)), (4, .int (nI (7 * t)))] rfl ?_
  exact kk u b.2 hR2
set_option maxHeartbeats 4000000 in
set_option maxRecDepth 100000 in
theorem law_hours {R : zSt → zSt → Prop} (X : zCx) (hX : zOk X RL code room_1) (hr : X.cells + 1 ≤ X.R.cells ∧ X.slots + 6 ≤ X.R.slots) (hZ : zXs X.A X.s X.s.heap) {b0 L t : Nat} {xs : Nat → Int32} (hs : zScr X b0 L xs) (hnl : X.nL = 8) (ht : 7 * t + 6 < L) (hL : L ≤ 3584) {adM : Nat → Nat} (HC : zCpl_hours X.l R) (stC stM : zSt) (hR : R stC stM) (kk : ∀ u uM : zSt, R u uM → zG 99 shC (zLC (zbump X) adM uM) u 1923 [(0, .ref b0), (1, .ref (X.ad 0)), (2, .ref (adM 0)), (3, .ref (X.ad 98)), (4, .int (nI (7 * t)))] []) : zG 99 shC (zLC X adM stM) stC 430 [(0, .ref b0), (1, .ref (X.ad 0)), (2, .ref (adM 0)), (3, .ref (X.ad 98)), (4, .int (nI (7 * t)))] [] := by
  obtain ⟨a1, e1⟩ : ∃ a, a = xs (nI (7 * t) + 1).toNatClampNeg := ⟨_, rfl⟩
  obtain ⟨a2, e2⟩ : ∃ a, a = xs (nI (7 * t) + 2).toNatClampNeg := ⟨_, rfl⟩
  obtain ⟨k, u, b, hW, hM, hk, hb, hR2⟩ := HC stC stM a1 a2 hR
  have hXb := zbump_ok hX hr
  refine z_aload_n (zLC_ok (adM := adM) (stM := stM) hX) 1 dL_law_430 rfl rfl ?_
  refine z_aload_n (zLC_ok (adM := adM) (stM := stM) hX) 0 dL_law_431 rfl rfl ?_
  refine z_iload (zLC_ok (adM := adM) (stM := stM) hX) 4 dL_law_432 rfl ?_
  refine z_iconst (v := 1) (zLC_ok (adM := adM) (stM := stM) hX) dL_law_434 (by decide) ?_
  refine z_iadd (zLC_ok (adM := adM) (stM := stM) hX) dL_law_435 ?_
  refine z_sld (L := L) (xs := xs) (zLC_ok (adM := adM) (stM := stM) hX) hs dL_law_436 (zs_in (k := 1) rfl (by decide) ht hL) e1 ?_
  refine z_aload_n (zLC_ok (adM := adM) (stM := stM) hX) 0 dL_law_437 rfl rfl ?_
  refine z_iload (zLC_ok (adM := adM) (stM := stM) hX) 4 dL_law_438 rfl ?_
  refine z_iconst (v := 2) (zLC_ok (adM := adM) (stM := stM) hX) dL_law_440 (by decide) ?_
  refine z_iadd (zLC_ok (adM := adM) (stM := stM) hX) dL_law_441 ?_
  refine z_sld (L := L) (xs := xs) (zLC_ok (adM := adM) (stM := stM) hX) hs dL_law_442 (zs_in (k := 2) rfl (by decide) ht hL) e2 ?_
  refine z_aload_n (zLC_ok (adM := adM) (stM := stM) hX) 3 dL_law_443 rfl rfl ?_
  refine z_callW (stk := []) (stk' := [.int k]) hX hZ hW zbW_L_hours dL_law_444 zm_449 rfl rfl rfl ⟨by decide, by decide⟩ ⟨rfl, rfl⟩ (Nat.le_of_ble_eq_true rfl) hr rfl ?_
  refine z_istore (zLC_ok (adM := adM) (stM := stM) hXb) [(0, .ref b0), (1, .ref (X.ad 0)), (2, .ref (adM 0)), (3, .ref (X.ad 98)), (4, .int (nI (7 * t))), (5, .int k)] dL_law_447 (by show 5 < X.nL; rw [hnl]; decide) [1, 2, 3, 4, 5, 0] rfl ?_
  refine z_aload_n (zLC_ok (adM := adM) (stM := stM) hXb) 2 dL_law_449 rfl rfl ?_
  refine z_aload_n (zLC_ok (adM := adM) (stM := stM) hXb) 0 dL_law_450 rfl rfl ?_
  refine z_iload (zLC_ok (adM := adM) (stM := stM) hXb) 4 dL_law_451 rfl ?_
  refine z_iconst (v := 1) (zLC_ok (adM := adM) (stM := stM) hXb) dL_law_453 (by decide) ?_
  refine z_iadd (zLC_ok (adM := adM) (stM := stM) hXb) dL_law_454 ?_
  refine z_sld (L := L) (xs := xs) (zLC_ok (adM := adM) (stM := stM) hXb) hs dL_law_455 (zs_in (k := 1) rfl (by decide) ht hL) e1 ?_
  refine z_aload_n (zLC_ok (adM := adM) (stM := stM) hXb) 0 dL_law_456 rfl rfl ?_
  refine z_iload (zLC_ok (adM := adM) (stM := stM) hXb) 4 dL_law_457 rfl ?_
  refine z_iconst (v := 2) (zLC_ok (adM := adM) (stM := stM) hXb) dL_law_459 (by decide) ?_
  refine z_iadd (zLC_ok (adM := adM) (stM := stM) hXb) dL_law_460 ?_
  refine z_sld (L := L) (xs := xs) (zLC_ok (adM := adM) (stM := stM) hXb) hs dL_law_461 (zs_in (k := 2) rfl (by decide) ht hL) e2 ?_
  refine z_toM ?_
  refine z_callV (stk := []) (stk' := [.int b.1]) (zLM_ok (adM := adM) (stC := u) hXb) (c_X7_hours _ stM a1 a2 b hM) zb_X7_hours 0 dL_law_462 zm_967 (by decide) shM_0 rfl rfl rfl rfl ⟨by decide, by decide⟩ ⟨rfl, rfl⟩ (Nat.le_of_ble_eq_true rfl) rfl ?_
  refine z_toC ?_
  refine z_istore (zLC_ok (adM := adM) (stM := b.2) hXb) [(0, .ref b0), (1, .ref (X.ad 0)), (2, .ref (adM 0)), (3, .ref (X.ad 98)), (4, .int (nI (7 * t))), (5, .int k), (6, .int b.1)] dL_law_465 (by show 6 < X.nL; rw [hnl]; decide) [1, 2, 3, 4, 5, 6, 0] rfl ?_
  refine z_aload_n (zLC_ok (adM := adM) (stM := b.2) hXb) 2 dL_law_467 rfl rfl ?_
  refine z_toM ?_
  refine z_callV (stk := []) (stk' := .int (b.2.1 0 52) :: []) (zLM_ok (adM := adM) (stC := u) hXb) (c_X7_thrown _ b.2 (b.2.1 0 52, b.2) rfl) zb_X7_thrown 0 dL_law_468 zm_940 (by decide) shM_0 rfl rfl rfl rfl ⟨by decide, by decide⟩ ⟨rfl, rfl⟩ (Nat.le_of_ble_eq_true rfl) rfl ?_
  refine z_toC ?_
  refine z_iload (zLC_ok (adM := adM) (stM := b.2) hXb) 5 dL_law_471 rfl ?_
  refine z_icmp_eq (zLC_ok (adM := adM) (stM := b.2) hXb) 478 dL_law_473 (by decide) (fun _ => ?_) (fun c => absurd hk c)
  refine z_iload (zLC_ok (adM := adM) (stM := b.2) hXb) 5 dL_law_478 rfl ?_
  refine z_if_ne (zLC_ok (adM := adM) (stM := b.2) hXb) 495 dL_law_480 (by decide) (fun ck => ?_) (fun ck => ?_)
  · refine z_goto (zLC_ok (adM := adM) (stM := b.2) hXb) 1923 dL_law_495 (by decide) ?_
    refine z_locals [0, 1, 2, 3, 4] [(0, .ref b0), (1, .ref (X.ad 0)), (2, .ref (adM 0)), (3, .ref (X.ad 98)), (4, .int (nI (7 * t)))] rfl ?_
    exact kk u b.2 hR2
  refine z_aload_n (zLC_ok (adM := adM) (stM := b.2) hXb) 3 dL_law_483 rfl rfl ?_
  refine z_iconst (v := 0) (zLC_ok (adM := adM) (stM := b.2) hXb) dL_law_484 (by decide) ?_
  refine z_lald (zLC_ok (adM := adM) (stM := b.2) hXb) 98 dL_law_485 (by decide) shC_98 (show zin 0 1 by decide) ?_
  refine z_iload (zLC_ok (adM := adM) (stM := b.2) hXb) 6 dL_law_486 rfl ?_
  refine z_i2l (zLC_ok (adM := adM) (stM := b.2) hXb) dL_law_488 ?_
  refine z_lcmpE (zLC_ok (adM := adM) (stM := b.2) hXb) dL_law_489 (hb ck) ?_
  refine z_if_eq (zLC_ok (adM := adM) (stM := b.2) hXb) 495 dL_law_490 (by decide) (fun _ => ?_) (fun c => absurd rfl c)
  refine z_goto (zLC_ok (adM := adM) (stM := b.2) hXb) 1923 dL_law_495 (by decide) ?_
  refine z_locals [0, 1, 2, 3, 4] [(0, .ref b0), (1, .ref (X.ad 0)), (2, .ref (adM 0)), (3, .ref (X.ad 98)), (4, .int (nI (7 * t)))] rfl ?_
  exact kk u b.2 hR2
set_option maxHeartbeats 4000000 in
set_option maxRecDepth 100000 in
theorem law_depth {R : zSt → zSt → Prop} (X : zCx) (hX : zOk X RL code room_1) (hr : X.cells + 1 ≤ X.R.cells ∧ X.slots + 6 ≤ X.R.slots) (hZ : zXs X.A X.s X.s.heap) {b0 L t : Nat} {xs : Nat → Int32} (hs : zScr X b0 L xs) (hnl : X.nL = 8) (ht : 7 * t + 6 < L) (hL : L ≤ 3584) {adM : Nat → Nat} (HC : zCpl_depth X.l R) (stC stM : zSt) (hR : R stC stM) (kk : ∀ u uM : zSt, R u uM → zG 99 shC (zLC (zbump X) adM uM) u 1923 [(0, .ref b0), (1, .ref (X.ad 0)), (2, .ref (adM 0)), (3, .ref (X.ad 98)), (4, .int (nI (7 * t)))] []) : zG 99 shC (zLC X adM stM) stC 498 [(0, .ref b0), (1, .ref (X.ad 0)), (2, .ref (adM 0)), (3, .ref (X.ad 98)), (4, .int (nI (7 * t)))] [] := by
  obtain ⟨a1, e1⟩ : ∃ a, a = xs (nI (7 * t) + 1).toNatClampNeg := ⟨_, rfl⟩
  obtain ⟨a2, e2⟩ : ∃ a, a = xs (nI (7 * t) + 2).toNatClampNeg := ⟨_, rfl⟩
  obtain ⟨k, u, b, hW, hM, hk, hb, hR2⟩ := HC stC stM a1 a2 hR
  have hXb := zbump_ok hX hr
  refine z_aload_n (zLC_ok (adM := adM) (stM := stM) hX) 1 dL_law_498 rfl rfl ?_
  refine z_aload_n (zLC_ok (adM := adM) (stM := stM) hX) 0 dL_law_499 rfl rfl ?_
  refine z_iload (zLC_ok (adM := adM) (stM := stM) hX) 4 dL_law_500 rfl ?_
  refine z_iconst (v := 1) (zLC_ok (adM := adM) (stM := stM) hX) dL_law_502 (by decide) ?_
  refine z_iadd (zLC_ok (adM := adM) (stM := stM) hX) dL_law_503 ?_
  refine z_sld (L := L) (xs := xs) (zLC_ok (adM := adM) (stM := stM) hX) hs dL_law_504 (zs_in (k := 1) rfl (by decide) ht hL) e1 ?_
  refine z_aload_n (zLC_ok (adM := adM) (stM := stM) hX) 0 dL_law_505 rfl rfl ?_
  refine z_iload (zLC_ok (adM := adM) (stM := stM) hX) 4 dL_law_506 rfl ?_
  refine z_iconst (v := 2) (zLC_ok (adM := adM) (stM := stM) hX) dL_law_508 (by decide) ?_
  refine z_iadd (zLC_ok (adM := adM) (stM := stM) hX) dL_law_509 ?_
  refine z_sld (L := L) (xs := xs) (zLC_ok (adM := adM) (stM := stM) hX) hs dL_law_510 (zs_in (k := 2) rfl (by decide) ht hL) e2 ?_
  refine z_aload_n (zLC_ok (adM := adM) (stM := stM) hX) 3 dL_law_511 rfl rfl ?_
  refine z_callW (stk := []) (stk' := [.int k]) hX hZ hW zbW_L_depth dL_law_512 zm_464 rfl rfl rfl ⟨by decide, by decide⟩ ⟨rfl, rfl⟩ (Nat.le_of_ble_eq_true rfl) hr rfl ?_
  refine z_istore (zLC_ok (adM := adM) (stM := stM) hXb) [(0, .ref b0), (1, .ref (X.ad 0)), (2, .ref (adM 0)), (3, .ref (X.ad 98)), (4, .int (nI (7 * t))), (5, .int k)] dL_law_515 (by show 5 < X.nL; rw [hnl]; decide) [1, 2, 3, 4, 5, 0] rfl ?_
  refine z_aload_n (zLC_ok (adM := adM) (stM := stM) hXb) 2 dL_law_517 rfl rfl ?_
  refine z_aload_n (zLC_ok (adM := adM) (stM := stM) hXb) 0 dL_law_518 rfl rfl ?_
  refine z_iload (zLC_ok (adM := adM) (stM := stM) hXb) 4 dL_law_519 rfl ?_
  refine z_iconst (v := 1) (zLC_ok (adM := adM) (stM := stM) hXb) dL_law_521 (by decide) ?_
  refine z_iadd (zLC_ok (adM := adM) (stM := stM) hXb) dL_law_522 ?_
  refine z_sld (L := L) (xs := xs) (zLC_ok (adM := adM) (stM := stM) hXb) hs dL_law_523 (zs_in (k := 1) rfl (by decide) ht hL) e1 ?_
  refine z_aload_n (zLC_ok (adM := adM) (stM := stM) hXb) 0 dL_law_524 rfl rfl ?_
  refine z_iload (zLC_ok (adM := adM) (stM := stM) hXb) 4 dL_law_525 rfl ?_
  refine z_iconst (v := 2) (zLC_ok (adM := adM) (stM := stM) hXb) dL_law_527 (by decide) ?_
  refine z_iadd (zLC_ok (adM := adM) (stM := stM) hXb) dL_law_528 ?_
  refine z_sld (L := L) (xs := xs) (zLC_ok (adM := adM) (stM := stM) hXb) hs dL_law_529 (zs_in (k := 2) rfl (by decide) ht hL) e2 ?_
  refine z_toM ?_
  refine z_callV (stk := []) (stk' := [.int b.1]) (zLM_ok (adM := adM) (stC := u) hXb) (c_X7_depth _ stM a1 a2 b hM) zb_X7_depth 0 dL_law_530 zm_971 (by decide) shM_0 rfl rfl rfl rfl ⟨by decide, by decide⟩ ⟨rfl, rfl⟩ (Nat.le_of_ble_eq_true rfl) rfl ?_
  refine z_toC ?_
  refine z_istore (zLC_ok (adM := adM) (stM := b.2) hXb) [(0, .ref b0), (1, .ref (X.ad 0)), (2, .ref (adM 0)), (3, .ref (X.ad 98)), (4, .int (nI (7 * t))), (5, .int k), (6, .int b.1)] dL_law_533 (by show 6 < X.nL; rw [hnl]; decide) [1, 2, 3, 4, 5, 6, 0] rfl ?_
  refine z_aload_n (zLC_ok (adM := adM) (stM := b.2) hXb) 2 dL_law_535 rfl rfl ?_
  refine z_toM ?_
  refine z_callV (stk := []) (stk' := .int (b.2.1 0 52) :: []) (zLM_ok (adM := adM) (stC := u) hXb) (c_X7_thrown _ b.2 (b.2.1 0 52, b.2) rfl) zb_X7_thrown 0 dL_law_536 zm_940 (by decide) shM_0 rfl rfl rfl rfl ⟨by decide, by decide⟩ ⟨rfl, rfl⟩ (Nat.le_of_ble_eq_true rfl) rfl ?_
  refine z_toC ?_
  refine z_iload (zLC_ok (adM := adM) (stM := b.2) hXb) 5 dL_law_539 rfl ?_
  refine z_icmp_eq (zLC_ok (adM := adM) (stM := b.2) hXb) 546 dL_law_541 (by decide) (fun _ => ?_) (fun c => absurd hk c)
  refine z_iload (zLC_ok (adM := adM) (stM := b.2) hXb) 5 dL_law_546 rfl ?_
  refine z_if_ne (zLC_ok (adM := adM) (stM := b.2) hXb) 563 dL_law_548 (by decide) (fun ck => ?_) (fun ck => ?_)
  · refine z_goto (zLC_ok (adM := adM) (stM := b.2) hXb) 1923 dL_law_563 (by decide) ?_
    refine z_locals [0, 1, 2, 3, 4] [(0, .ref b0), (1, .ref (X.ad 0)), (2, .ref (adM 0)), (3, .ref (X.ad 98)), (4, .int (nI (7 * t)))] rfl ?_
    exact kk u b.2 hR2
  refine z_aload_n (zLC_ok (adM := adM) (stM := b.2) hXb) 3 dL_law_551 rfl rfl ?_
  refine z_iconst (v := 0) (zLC_ok (adM := adM) (stM := b.2) hXb) dL_law_552 (by decide) ?_
  refine z_lald (zLC_ok (adM := adM) (stM := b.2) hXb) 98 dL_law_553 (by decide) shC_98 (show zin 0 1 by decide) ?_
  refine z_iload (zLC_ok (adM := adM) (stM := b.2) hXb) 6 dL_law_554 rfl ?_
  refine z_i2l (zLC_ok (adM := adM) (stM := b.2) hXb) dL_law_556 ?_
  refine z_lcmpE (zLC_ok (adM := adM) (stM := b.2) hXb) dL_law_557 (hb ck) ?_
  refine z_if_eq (zLC_ok (adM := adM) (stM := b.2) hXb) 563 dL_law_558 (by decide) (fun _ => ?_) (fun c => absurd rfl c)
  refine z_goto (zLC_ok (adM := adM) (stM := b.2) hXb) 1923 dL_law_563 (by decide) ?_
  refine z_locals [0, 1, 2, 3, 4] [(0, .ref b0), (1, .ref (X.ad 0)), (2, .ref (adM 0)), (3, .ref (X.ad 98)), (4, .int (nI (7 * t)))] rfl ?_
  exact kk u b.2 hR2
set_option maxHeartbeats 4000000 in
set_option maxRecDepth 100000 in
theorem law_hinder {R : zSt → zSt → Prop} (X : zCx) (hX : zOk X RL code room_1) (hr : X.cells + 1 ≤ X.R.cells ∧ X.slots + 6 ≤ X.R.slots) (hZ : zXs X.A X.s X.s.heap) {b0 L t : Nat} {xs : Nat → Int32} (hs : zScr X b0 L xs) (hnl : X.nL = 8) (ht : 7 * t + 6 < L) (hL : L ≤ 3584) {adM : Nat → Nat} (HC : zCpl_hinder X.l R) (stC stM : zSt) (hR : R stC stM) (kk : ∀ u uM : zSt, R u uM → zG 99 shC (zLC (zbump X) adM uM) u 1923 [(0, .ref b0), (1, .ref (X.ad 0)), (2, .ref (adM 0)), (3, .ref (X.ad 98)), (4, .int (nI (7 * t)))] []) : zG 99 shC (zLC X adM stM) stC 566 [(0, .ref b0), (1, .ref (X.ad 0)), (2, .ref (adM 0)), (3, .ref (X.ad 98)), (4, .int (nI (7 * t)))] [] := by
  obtain ⟨a1, e1⟩ : ∃ a, a = xs (nI (7 * t) + 1).toNatClampNeg := ⟨_, rfl⟩
  obtain ⟨a2, e2⟩ : ∃ a, a = xs (nI (7 * t) + 2).toNatClampNeg := ⟨_, rfl⟩
  obtain ⟨a3, e3⟩ : ∃ a, a = xs (nI (7 * t) + 3).toNatClampNeg := ⟨_, rfl⟩
  obtain ⟨a4, e4⟩ : ∃ a, a = xs (nI (7 * t) + 4).toNatClampNeg := ⟨_, rfl⟩
  obtain ⟨k, u, b, hW, hM, hk, hR2⟩ := HC stC stM a1 a2 a3 a4 hR
  have hXb := zbump_ok hX hr
  refine z_aload_n (zLC_ok (adM := adM) (stM := stM) hX) 1 dL_law_566 rfl rfl ?_
  refine z_aload_n (zLC_ok (adM := adM) (stM := stM) hX) 0 dL_law_567 rfl rfl ?_
  refine z_iload (zLC_ok (adM := adM) (stM := stM) hX) 4 dL_law_568 rfl ?_
  refine z_iconst (v := 1) (zLC_ok (adM := adM) (stM := stM) hX) dL_law_570 (by decide) ?_
  refine z_iadd (zLC_ok (adM := adM) (stM := stM) hX) dL_law_571 ?_
  refine z_sld (L := L) (xs := xs) (zLC_ok (adM := adM) (stM := stM) hX) hs dL_law_572 (zs_in (k := 1) rfl (by decide) ht hL) e1 ?_
  refine z_aload_n (zLC_ok (adM := adM) (stM := stM) hX) 0 dL_law_573 rfl rfl ?_
  refine z_iload (zLC_ok (adM := adM) (stM := stM) hX) 4 dL_law_574 rfl ?_
  refine z_iconst (v := 2) (zLC_ok (adM := adM) (stM := stM) hX) dL_law_576 (by decide) ?_
  refine z_iadd (zLC_ok (adM := adM) (stM := stM) hX) dL_law_577 ?_
  refine z_sld (L := L) (xs := xs) (zLC_ok (adM := adM) (stM := stM) hX) hs dL_law_578 (zs_in (k := 2) rfl (by decide) ht hL) e2 ?_
  refine z_aload_n (zLC_ok (adM := adM) (stM := stM) hX) 0 dL_law_579 rfl rfl ?_
  refine z_iload (zLC_ok (adM := adM) (stM := stM) hX) 4 dL_law_580 rfl ?_
  refine z_iconst (v := 3) (zLC_ok (adM := adM) (stM := stM) hX) dL_law_582 (by decide) ?_
  refine z_iadd (zLC_ok (adM := adM) (stM := stM) hX) dL_law_583 ?_
  refine z_sld (L := L) (xs := xs) (zLC_ok (adM := adM) (stM := stM) hX) hs dL_law_584 (zs_in (k := 3) rfl (by decide) ht hL) e3 ?_
  refine z_aload_n (zLC_ok (adM := adM) (stM := stM) hX) 0 dL_law_585 rfl rfl ?_
  refine z_iload (zLC_ok (adM := adM) (stM := stM) hX) 4 dL_law_586 rfl ?_
  refine z_iconst (v := 4) (zLC_ok (adM := adM) (stM := stM) hX) dL_law_588 (by decide) ?_
  refine z_iadd (zLC_ok (adM := adM) (stM := stM) hX) dL_law_589 ?_
  refine z_sld (L := L) (xs := xs) (zLC_ok (adM := adM) (stM := stM) hX) hs dL_law_590 (zs_in (k := 4) rfl (by decide) ht hL) e4 ?_
  refine z_callW (stk := []) (stk' := [.int k]) hX hZ hW zbW_L_hinder dL_law_591 zm_477 rfl rfl rfl ⟨by decide, by decide⟩ ⟨rfl, rfl⟩ (Nat.le_of_ble_eq_true rfl) hr rfl ?_
  refine z_istore (zLC_ok (adM := adM) (stM := stM) hXb) [(0, .ref b0), (1, .ref (X.ad 0)), (2, .ref (adM 0)), (3, .ref (X.ad 98)), (4, .int (nI (7 * t))), (5, .int k)] dL_law_594 (by show 5 < X.nL; rw [hnl]; decide) [1, 2, 3, 4, 5, 0] rfl ?_
  refine z_aload_n (zLC_ok (adM := adM) (stM := stM) hXb) 2 dL_law_596 rfl rfl ?_
  refine z_aload_n (zLC_ok (adM := adM) (stM := stM) hXb) 0 dL_law_597 rfl rfl ?_
  refine z_iload (zLC_ok (adM := adM) (stM := stM) hXb) 4 dL_law_598 rfl ?_
  refine z_iconst (v := 1) (zLC_ok (adM := adM) (stM := stM) hXb) dL_law_600 (by decide) ?_
  refine z_iadd (zLC_ok (adM := adM) (stM := stM) hXb) dL_law_601 ?_
  refine z_sld (L := L) (xs := xs) (zLC_ok (adM := adM) (stM := stM) hXb) hs dL_law_602 (zs_in (k := 1) rfl (by decide) ht hL) e1 ?_
  refine z_aload_n (zLC_ok (adM := adM) (stM := stM) hXb) 0 dL_law_603 rfl rfl ?_
  refine z_iload (zLC_ok (adM := adM) (stM := stM) hXb) 4 dL_law_604 rfl ?_
  refine z_iconst (v := 2) (zLC_ok (adM := adM) (stM := stM) hXb) dL_law_606 (by decide) ?_
  refine z_iadd (zLC_ok (adM := adM) (stM := stM) hXb) dL_law_607 ?_
  refine z_sld (L := L) (xs := xs) (zLC_ok (adM := adM) (stM := stM) hXb) hs dL_law_608 (zs_in (k := 2) rfl (by decide) ht hL) e2 ?_
  refine z_aload_n (zLC_ok (adM := adM) (stM := stM) hXb) 0 dL_law_609 rfl rfl ?_
  refine z_iload (zLC_ok (adM := adM) (stM := stM) hXb) 4 dL_law_610 rfl ?_
  refine z_iconst (v := 3) (zLC_ok (adM := adM) (stM := stM) hXb) dL_law_612 (by decide) ?_
  refine z_iadd (zLC_ok (adM := adM) (stM := stM) hXb) dL_law_613 ?_
  refine z_sld (L := L) (xs := xs) (zLC_ok (adM := adM) (stM := stM) hXb) hs dL_law_614 (zs_in (k := 3) rfl (by decide) ht hL) e3 ?_
  refine z_aload_n (zLC_ok (adM := adM) (stM := stM) hXb) 0 dL_law_615 rfl rfl ?_
  refine z_iload (zLC_ok (adM := adM) (stM := stM) hXb) 4 dL_law_616 rfl ?_
  refine z_iconst (v := 4) (zLC_ok (adM := adM) (stM := stM) hXb) dL_law_618 (by decide) ?_
  refine z_iadd (zLC_ok (adM := adM) (stM := stM) hXb) dL_law_619 ?_
  refine z_sld (L := L) (xs := xs) (zLC_ok (adM := adM) (stM := stM) hXb) hs dL_law_620 (zs_in (k := 4) rfl (by decide) ht hL) e4 ?_
  refine z_toM ?_
  refine z_callV (stk := []) (stk' := []) (zLM_ok (adM := adM) (stC := u) hXb) (c_X7_hinder _ stM a1 a2 a3 a4 b hM) zb_X7_hinder 0 dL_law_621 zm_978 (by decide) shM_0 rfl rfl rfl rfl ⟨by decide, by decide⟩ ⟨rfl, rfl⟩ (Nat.le_of_ble_eq_true rfl) rfl ?_
  refine z_toC ?_
  refine z_aload_n (zLC_ok (adM := adM) (stM := b.2) hXb) 2 dL_law_624 rfl rfl ?_
  refine z_toM ?_
  refine z_callV (stk := []) (stk' := .int (b.2.1 0 52) :: []) (zLM_ok (adM := adM) (stC := u) hXb) (c_X7_thrown _ b.2 (b.2.1 0 52, b.2) rfl) zb_X7_thrown 0 dL_law_625 zm_940 (by decide) shM_0 rfl rfl rfl rfl ⟨by decide, by decide⟩ ⟨rfl, rfl⟩ (Nat.le_of_ble_eq_true rfl) rfl ?_
  refine z_toC ?_
  refine z_iload (zLC_ok (adM := adM) (stM := b.2) hXb) 5 dL_law_628 rfl ?_
  refine z_icmp_eq (zLC_ok (adM := adM) (stM := b.2) hXb) 635 dL_law_630 (by decide) (fun _ => ?_) (fun c => absurd hk c)
  refine z_goto (zLC_ok (adM := adM) (stM := b.2) hXb) 1923 dL_law_635 (by decide) ?_
  refine z_locals [0, 1, 2, 3, 4] [(0, .ref b0), (1, .ref (X.ad 0)), (2, .ref (adM 0)), (3, .ref (X.ad 98)), (4, .int (nI (7 * t)))] rfl ?_
  exact kk u b.2 hR2
set_option maxHeartbeats 4000000 in
set_option maxRecDepth 100000 in
theorem law_bus {R : zSt → zSt → Prop} (X : zCx) (hX : zOk X RL code room_1) (hr : X.cells + 1 ≤ X.R.cells ∧ X.slots + 6 ≤ X.R.slots) (hZ : zXs X.A X.s X.s.heap) {b0 L t : Nat} {xs : Nat → Int32} (hs : zScr X b0 L xs) (hnl : X.nL = 8) (ht : 7 * t + 6 < L) (hL : L ≤ 3584) {adM : Nat → Nat} (HC : zCpl_bus X.l R) (stC stM : zSt) (hR : R stC stM) (kk : ∀ u uM : zSt, R u uM → zG 99 shC (zLC (zbump X) adM uM) u 1923 [(0, .ref b0), (1, .ref (X.ad 0)), (2, .ref (adM 0)), (3, .ref (X.ad 98)), (4, .int (nI (7 * t)))] []) : zG 99 shC (zLC X adM stM) stC 638 [(0, .ref b0), (1, .ref (X.ad 0)), (2, .ref (adM 0)), (3, .ref (X.ad 98)), (4, .int (nI (7 * t)))] [] := by
  obtain ⟨a1, e1⟩ : ∃ a, a = xs (nI (7 * t) + 1).toNatClampNeg := ⟨_, rfl⟩
  obtain ⟨a2, e2⟩ : ∃ a, a = xs (nI (7 * t) + 2).toNatClampNeg := ⟨_, rfl⟩
  obtain ⟨a3, e3⟩ : ∃ a, a = xs (nI (7 * t) + 3).toNatClampNeg := ⟨_, rfl⟩
  obtain ⟨k, u, b, hW, hM, hk, hR2⟩ := HC stC stM a1 a2 a3 hR
  have hXb := zbump_ok hX hr
  refine z_aload_n (zLC_ok (adM := adM) (stM := stM) hX) 1 dL_law_638 rfl rfl ?_
  refine z_aload_n (zLC_ok (adM := adM) (stM := stM) hX) 0 dL_law_639 rfl rfl ?_
  refine z_iload (zLC_ok (adM := adM) (stM := stM) hX) 4 dL_law_640 rfl ?_
  refine z_iconst (v := 1) (zLC_ok (adM := adM) (stM := stM) hX) dL_law_642 (by decide) ?_
  refine z_iadd (zLC_ok (adM := adM) (stM := stM) hX) dL_law_643 ?_
  refine z_sld (L := L) (xs := xs) (zLC_ok (adM := adM) (stM := stM) hX) hs dL_law_644 (zs_in (k := 1) rfl (by decide) ht hL) e1 ?_
  refine z_aload_n (zLC_ok (adM := adM) (stM := stM) hX) 0 dL_law_645 rfl rfl ?_
  refine z_iload (zLC_ok (adM := adM) (stM := stM) hX) 4 dL_law_646 rfl ?_
  refine z_iconst (v := 2) (zLC_ok (adM := adM) (stM := stM) hX) dL_law_648 (by decide) ?_
  refine z_iadd (zLC_ok (adM := adM) (stM := stM) hX) dL_law_649 ?_
  refine z_sld (L := L) (xs := xs) (zLC_ok (adM := adM) (stM := stM) hX) hs dL_law_650 (zs_in (k := 2) rfl (by decide) ht hL) e2 ?_
  refine z_aload_n (zLC_ok (adM := adM) (stM := stM) hX) 0 dL_law_651 rfl rfl ?_
  refine z_iload (zLC_ok (adM := adM) (stM := stM) hX) 4 dL_law_652 rfl ?_
  refine z_iconst (v := 3) (zLC_ok (adM := adM) (stM := stM) hX) dL_law_654 (by decide) ?_
  refine z_iadd (zLC_ok (adM := adM) (stM := stM) hX) dL_law_655 ?_
  refine z_sld (L := L) (xs := xs) (zLC_ok (adM := adM) (stM := stM) hX) hs dL_law_656 (zs_in (k := 3) rfl (by decide) ht hL) e3 ?_
  refine z_callW (stk := []) (stk' := [.int k]) hX hZ hW zbW_L_bus dL_law_657 zm_488 rfl rfl rfl ⟨by decide, by decide⟩ ⟨rfl, rfl⟩ (Nat.le_of_ble_eq_true rfl) hr rfl ?_
  refine z_istore (zLC_ok (adM := adM) (stM := stM) hXb) [(0, .ref b0), (1, .ref (X.ad 0)), (2, .ref (adM 0)), (3, .ref (X.ad 98)), (4, .int (nI (7 * t))), (5, .int k)] dL_law_660 (by show 5 < X.nL; rw [hnl]; decide) [1, 2, 3, 4, 5, 0] rfl ?_
  refine z_aload_n (zLC_ok (adM := adM) (stM := stM) hXb) 2 dL_law_662 rfl rfl ?_
  refine z_aload_n (zLC_ok (adM := adM) (stM := stM) hXb) 0 dL_law_663 rfl rfl ?_
  refine z_iload (zLC_ok (adM := adM) (stM := stM) hXb) 4 dL_law_664 rfl ?_
  refine z_iconst (v := 1) (zLC_ok (adM := adM) (stM := stM) hXb) dL_law_666 (by decide) ?_
  refine z_iadd (zLC_ok (adM := adM) (stM := stM) hXb) dL_law_667 ?_
  refine z_sld (L := L) (xs := xs) (zLC_ok (adM := adM) (stM := stM) hXb) hs dL_law_668 (zs_in (k := 1) rfl (by decide) ht hL) e1 ?_
  refine z_aload_n (zLC_ok (adM := adM) (stM := stM) hXb) 0 dL_law_669 rfl rfl ?_
  refine z_iload (zLC_ok (adM := adM) (stM := stM) hXb) 4 dL_law_670 rfl ?_
  refine z_iconst (v := 2) (zLC_ok (adM := adM) (stM := stM) hXb) dL_law_672 (by decide) ?_
  refine z_iadd (zLC_ok (adM := adM) (stM := stM) hXb) dL_law_673 ?_
  refine z_sld (L := L) (xs := xs) (zLC_ok (adM := adM) (stM := stM) hXb) hs dL_law_674 (zs_in (k := 2) rfl (by decide) ht hL) e2 ?_
  refine z_aload_n (zLC_ok (adM := adM) (stM := stM) hXb) 0 dL_law_675 rfl rfl ?_
  refine z_iload (zLC_ok (adM := adM) (stM := stM) hXb) 4 dL_law_676 rfl ?_
  refine z_iconst (v := 3) (zLC_ok (adM := adM) (stM := stM) hXb) dL_law_678 (by decide) ?_
  refine z_iadd (zLC_ok (adM := adM) (stM := stM) hXb) dL_law_679 ?_
  refine z_sld (L := L) (xs := xs) (zLC_ok (adM := adM) (stM := stM) hXb) hs dL_law_680 (zs_in (k := 3) rfl (by decide) ht hL) e3 ?_
  refine z_toM ?_
  refine z_callV (stk := []) (stk' := []) (zLM_ok (adM := adM) (stC := u) hXb) (c_X7_bus _ stM a1 a2 a3 b hM) zb_X7_bus 0 dL_law_681 zm_982 (by decide) shM_0 rfl rfl rfl rfl ⟨by decide, by decide⟩ ⟨rfl, rfl⟩ (Nat.le_of_ble_eq_true rfl) rfl ?_
  refine z_toC ?_
  refine z_aload_n (zLC_ok (adM := adM) (stM := b.2) hXb) 2 dL_law_684 rfl rfl ?_
  refine z_toM ?_
  refine z_callV (stk := []) (stk' := .int (b.2.1 0 52) :: []) (zLM_ok (adM := adM) (stC := u) hXb) (c_X7_thrown _ b.2 (b.2.1 0 52, b.2) rfl) zb_X7_thrown 0 dL_law_685 zm_940 (by decide) shM_0 rfl rfl rfl rfl ⟨by decide, by decide⟩ ⟨rfl, rfl⟩ (Nat.le_of_ble_eq_true rfl) rfl ?_
  refine z_toC ?_
  refine z_iload (zLC_ok (adM := adM) (stM := b.2) hXb) 5 dL_law_688 rfl ?_
  refine z_icmp_eq (zLC_ok (adM := adM) (stM := b.2) hXb) 695 dL_law_690 (by decide) (fun _ => ?_) (fun c => absurd hk c)
  refine z_goto (zLC_ok (adM := adM) (stM := b.2) hXb) 1923 dL_law_695 (by decide) ?_
  refine z_locals [0, 1, 2, 3, 4] [(0, .ref b0), (1, .ref (X.ad 0)), (2, .ref (adM 0)), (3, .ref (X.ad 98)), (4, .int (nI (7 * t)))] rfl ?_
  exact kk u b.2 hR2
set_option maxHeartbeats 4000000 in
set_option maxRecDepth 100000 in
theorem law_reside {R : zSt → zSt → Prop} (X : zCx) (hX : zOk X RL code room_1) (hr : X.cells + 1 ≤ X.R.cells ∧ X.slots + 6 ≤ X.R.slots) (hZ : zXs X.A X.s X.s.heap) {b0 L t : Nat} {xs : Nat → Int32} (hs : zScr X b0 L xs) (hnl : X.nL = 8) (ht : 7 * t + 6 < L) (hL : L ≤ 3584) {adM : Nat → Nat} (HC : zCpl_reside X.l R) (stC stM : zSt) (hR : R stC stM) (kk : ∀ u uM : zSt, R u uM → zG 99 shC (zLC (zbump X) adM uM) u 1923 [(0, .ref b0), (1, .ref (X.ad 0)), (2, .ref (adM 0)), (3, .ref (X.ad 98)), (4, .int (nI (7 * t)))] []) : zG 99 shC (zLC X adM stM) stC 698 [(0, .ref b0), (1, .ref (X.ad 0)), (2, .ref (adM 0)), (3, .ref (X.ad 98)), (4, .int (nI (7 * t)))] [] := by
  obtain ⟨a1, e1⟩ : ∃ a, a = xs (nI (7 * t) + 1).toNatClampNeg := ⟨_, rfl⟩
  obtain ⟨a2, e2⟩ : ∃ a, a = xs (nI (7 * t) + 2).toNatClampNeg := ⟨_, rfl⟩
  obtain ⟨k, u, b, hW, hM, hk, hb, hR2⟩ := HC stC stM a1 a2 hR
  have hXb := zbump_ok hX hr
  refine z_aload_n (zLC_ok (adM := adM) (stM := stM) hX) 1 dL_law_698 rfl rfl ?_
  refine z_aload_n (zLC_ok (adM := adM) (stM := stM) hX) 0 dL_law_699 rfl rfl ?_
  refine z_iload (zLC_ok (adM := adM) (stM := stM) hX) 4 dL_law_700 rfl ?_
  refine z_iconst (v := 1) (zLC_ok (adM := adM) (stM := stM) hX) dL_law_702 (by decide) ?_
  refine z_iadd (zLC_ok (adM := adM) (stM := stM) hX) dL_law_703 ?_
  refine z_sld (L := L) (xs := xs) (zLC_ok (adM := adM) (stM := stM) hX) hs dL_law_704 (zs_in (k := 1) rfl (by decide) ht hL) e1 ?_
  refine z_aload_n (zLC_ok (adM := adM) (stM := stM) hX) 0 dL_law_705 rfl rfl ?_
  refine z_iload (zLC_ok (adM := adM) (stM := stM) hX) 4 dL_law_706 rfl ?_
  refine z_iconst (v := 2) (zLC_ok (adM := adM) (stM := stM) hX) dL_law_708 (by decide) ?_
  refine z_iadd (zLC_ok (adM := adM) (stM := stM) hX) dL_law_709 ?_
  refine z_sld (L := L) (xs := xs) (zLC_ok (adM := adM) (stM := stM) hX) hs dL_law_710 (zs_in (k := 2) rfl (by decide) ht hL) e2 ?_
  refine z_aload_n (zLC_ok (adM := adM) (stM := stM) hX) 3 dL_law_711 rfl rfl ?_
  refine z_callW (stk := []) (stk' := [.int k]) hX hZ hW zbW_L_reside dL_law_712 zm_495 rfl rfl rfl ⟨by decide, by decide⟩ ⟨rfl, rfl⟩ (Nat.le_of_ble_eq_true rfl) hr rfl ?_
  refine z_istore (zLC_ok (adM := adM) (stM := stM) hXb) [(0, .ref b0), (1, .ref (X.ad 0)), (2, .ref (adM 0)), (3, .ref (X.ad 98)), (4, .int (nI (7 * t))), (5, .int k)] dL_law_715 (by show 5 < X.nL; rw [hnl]; decide) [1, 2, 3, 4, 5, 0] rfl ?_
  refine z_aload_n (zLC_ok (adM := adM) (stM := stM) hXb) 2 dL_law_717 rfl rfl ?_
  refine z_aload_n (zLC_ok (adM := adM) (stM := stM) hXb) 0 dL_law_718 rfl rfl ?_
  refine z_iload (zLC_ok (adM := adM) (stM := stM) hXb) 4 dL_law_719 rfl ?_
  refine z_iconst (v := 1) (zLC_ok (adM := adM) (stM := stM) hXb) dL_law_721 (by decide) ?_
  refine z_iadd (zLC_ok (adM := adM) (stM := stM) hXb) dL_law_722 ?_
  refine z_sld (L := L) (xs := xs) (zLC_ok (adM := adM) (stM := stM) hXb) hs dL_law_723 (zs_in (k := 1) rfl (by decide) ht hL) e1 ?_
  refine z_aload_n (zLC_ok (adM := adM) (stM := stM) hXb) 0 dL_law_724 rfl rfl ?_
  refine z_iload (zLC_ok (adM := adM) (stM := stM) hXb) 4 dL_law_725 rfl ?_
  refine z_iconst (v := 2) (zLC_ok (adM := adM) (stM := stM) hXb) dL_law_727 (by decide) ?_
  refine z_iadd (zLC_ok (adM := adM) (stM := stM) hXb) dL_law_728 ?_
  refine z_sld (L := L) (xs := xs) (zLC_ok (adM := adM) (stM := stM) hXb) hs dL_law_729 (zs_in (k := 2) rfl (by decide) ht hL) e2 ?_
  refine z_toM ?_
  refine z_callV (stk := []) (stk' := [.int b.1]) (zLM_ok (adM := adM) (stC := u) hXb) (c_X7_reside _ stM a1 a2 b hM) zb_X7_reside 0 dL_law_730 zm_986 (by decide) shM_0 rfl rfl rfl rfl ⟨by decide, by decide⟩ ⟨rfl, rfl⟩ (Nat.le_of_ble_eq_true rfl) rfl ?_
  refine z_toC ?_
  refine z_istore (zLC_ok (adM := adM) (stM := b.2) hXb) [(0, .ref b0), (1, .ref (X.ad 0)), (2, .ref (adM 0)), (3, .ref (X.ad 98)), (4, .int (nI (7 * t))), (5, .int k), (6, .int b.1)] dL_law_733 (by show 6 < X.nL; rw [hnl]; decide) [1, 2, 3, 4, 5, 6, 0] rfl ?_
  refine z_aload_n (zLC_ok (adM := adM) (stM := b.2) hXb) 2 dL_law_735 rfl rfl ?_
  refine z_toM ?_
  refine z_callV (stk := []) (stk' := .int (b.2.1 0 52) :: []) (zLM_ok (adM := adM) (stC := u) hXb) (c_X7_thrown _ b.2 (b.2.1 0 52, b.2) rfl) zb_X7_thrown 0 dL_law_736 zm_940 (by decide) shM_0 rfl rfl rfl rfl ⟨by decide, by decide⟩ ⟨rfl, rfl⟩ (Nat.le_of_ble_eq_true rfl) rfl ?_
  refine z_toC ?_
  refine z_iload (zLC_ok (adM := adM) (stM := b.2) hXb) 5 dL_law_739 rfl ?_
  refine z_icmp_eq (zLC_ok (adM := adM) (stM := b.2) hXb) 746 dL_law_741 (by decide) (fun _ => ?_) (fun c => absurd hk c)
  refine z_iload (zLC_ok (adM := adM) (stM := b.2) hXb) 5 dL_law_746 rfl ?_
  refine z_if_ne (zLC_ok (adM := adM) (stM := b.2) hXb) 763 dL_law_748 (by decide) (fun ck => ?_) (fun ck => ?_)
  · refine z_goto (zLC_ok (adM := adM) (stM := b.2) hXb) 1923 dL_law_763 (by decide) ?_
    refine z_locals [0, 1, 2, 3, 4] [(0, .ref b0), (1, .ref (X.ad 0)), (2, .ref (adM 0)), (3, .ref (X.ad 98)), (4, .int (nI (7 * t)))] rfl ?_
    exact kk u b.2 hR2
  refine z_aload_n (zLC_ok (adM := adM) (stM := b.2) hXb) 3 dL_law_751 rfl rfl ?_
  refine z_iconst (v := 0) (zLC_ok (adM := adM) (stM := b.2) hXb) dL_law_752 (by decide) ?_
  refine z_lald (zLC_ok (adM := adM) (stM := b.2) hXb) 98 dL_law_753 (by decide) shC_98 (show zin 0 1 by decide) ?_
  refine z_iload (zLC_ok (adM := adM) (stM := b.2) hXb) 6 dL_law_754 rfl ?_
  refine z_i2l (zLC_ok (adM := adM) (stM := b.2) hXb) dL_law_756 ?_
  refine z_lcmpE (zLC_ok (adM := adM) (stM := b.2) hXb) dL_law_757 (hb ck) ?_
  refine z_if_eq (zLC_ok (adM := adM) (stM := b.2) hXb) 763 dL_law_758 (by decide) (fun _ => ?_) (fun c => absurd rfl c)
  refine z_goto (zLC_ok (adM := adM) (stM := b.2) hXb) 1923 dL_law_763 (by decide) ?_
  refine z_locals [0, 1, 2, 3, 4] [(0, .ref b0), (1, .ref (X.ad 0)), (2, .ref (adM 0)), (3, .ref (X.ad 98)), (4, .int (nI (7 * t)))] rfl ?_
  exact kk u b.2 hR2
set_option maxHeartbeats 4000000 in
set_option maxRecDepth 100000 in
theorem law_plan {R : zSt → zSt → Prop} (X : zCx) (hX : zOk X RL code room_1) (hr : X.cells + 1 ≤ X.R.cells ∧ X.slots + 6 ≤ X.R.slots) (hZ : zXs X.A X.s X.s.heap) {b0 L t : Nat} {xs : Nat → Int32} (hs : zScr X b0 L xs) (hnl : X.nL = 8) (ht : 7 * t + 6 < L) (hL : L ≤ 3584) {adM : Nat → Nat} (HC : zCpl_plan X.l R) (stC stM : zSt) (hR : R stC stM) (kk : ∀ u uM : zSt, R u uM → zG 99 shC (zLC (zbump X) adM uM) u 1923 [(0, .ref b0), (1, .ref (X.ad 0)), (2, .ref (adM 0)), (3, .ref (X.ad 98)), (4, .int (nI (7 * t)))] []) : zG 99 shC (zLC X adM stM) stC 766 [(0, .ref b0), (1, .ref (X.ad 0)), (2, .ref (adM 0)), (3, .ref (X.ad 98)), (4, .int (nI (7 * t)))] [] := by
  obtain ⟨a1, e1⟩ : ∃ a, a = xs (nI (7 * t) + 1).toNatClampNeg := ⟨_, rfl⟩
  obtain ⟨a2, e2⟩ : ∃ a, a = xs (nI (7 * t) + 2).toNatClampNeg := ⟨_, rfl⟩
  obtain ⟨a3, e3⟩ : ∃ a, a = xs (nI (7 * t) + 3).toNatClampNeg := ⟨_, rfl⟩
  obtain ⟨a4, e4⟩ : ∃ a, a = xs (nI (7 * t) + 4).toNatClampNeg := ⟨_, rfl⟩
  obtain ⟨k, u, b, hW, hM, hk, hb, hR2⟩ := HC stC stM a1 a2 a3 a4 hR
  have hXb := zbump_ok hX hr
  refine z_aload_n (zLC_ok (adM := adM) (stM := stM) hX) 1 dL_law_766 rfl rfl ?_
  refine z_aload_n (zLC_ok (adM := adM) (stM := stM) hX) 0 dL_law_767 rfl rfl ?_
  refine z_iload (zLC_ok (adM := adM) (stM := stM) hX) 4 dL_law_768 rfl ?_
  refine z_iconst (v := 1) (zLC_ok (adM := adM) (stM := stM) hX) dL_law_770 (by decide) ?_
  refine z_iadd (zLC_ok (adM := adM) (stM := stM) hX) dL_law_771 ?_
  refine z_sld (L := L) (xs := xs) (zLC_ok (adM := adM) (stM := stM) hX) hs dL_law_772 (zs_in (k := 1) rfl (by decide) ht hL) e1 ?_
  refine z_aload_n (zLC_ok (adM := adM) (stM := stM) hX) 0 dL_law_773 rfl rfl ?_
  refine z_iload (zLC_ok (adM := adM) (stM := stM) hX) 4 dL_law_774 rfl ?_
  refine z_iconst (v := 2) (zLC_ok (adM := adM) (stM := stM) hX) dL_law_776 (by decide) ?_
  refine z_iadd (zLC_ok (adM := adM) (stM := stM) hX) dL_law_777 ?_
  refine z_sld (L := L) (xs := xs) (zLC_ok (adM := adM) (stM := stM) hX) hs dL_law_778 (zs_in (k := 2) rfl (by decide) ht hL) e2 ?_
  refine z_aload_n (zLC_ok (adM := adM) (stM := stM) hX) 0 dL_law_779 rfl rfl ?_
  refine z_iload (zLC_ok (adM := adM) (stM := stM) hX) 4 dL_law_780 rfl ?_
  refine z_iconst (v := 3) (zLC_ok (adM := adM) (stM := stM) hX) dL_law_782 (by decide) ?_
  refine z_iadd (zLC_ok (adM := adM) (stM := stM) hX) dL_law_783 ?_
  refine z_sld (L := L) (xs := xs) (zLC_ok (adM := adM) (stM := stM) hX) hs dL_law_784 (zs_in (k := 3) rfl (by decide) ht hL) e3 ?_
  refine z_aload_n (zLC_ok (adM := adM) (stM := stM) hX) 0 dL_law_785 rfl rfl ?_
  refine z_iload (zLC_ok (adM := adM) (stM := stM) hX) 4 dL_law_786 rfl ?_
  refine z_iconst (v := 4) (zLC_ok (adM := adM) (stM := stM) hX) dL_law_788 (by decide) ?_
  refine z_iadd (zLC_ok (adM := adM) (stM := stM) hX) dL_law_789 ?_
  refine z_sld (L := L) (xs := xs) (zLC_ok (adM := adM) (stM := stM) hX) hs dL_law_790 (zs_in (k := 4) rfl (by decide) ht hL) e4 ?_
  refine z_aload_n (zLC_ok (adM := adM) (stM := stM) hX) 3 dL_law_791 rfl rfl ?_
  refine z_callW (stk := []) (stk' := [.int k]) hX hZ hW zbW_L_plan dL_law_792 zm_502 rfl rfl rfl ⟨by decide, by decide⟩ ⟨rfl, rfl⟩ (Nat.le_of_ble_eq_true rfl) hr rfl ?_
  refine z_istore (zLC_ok (adM := adM) (stM := stM) hXb) [(0, .ref b0), (1, .ref (X.ad 0)), (2, .ref (adM 0)), (3, .ref (X.ad 98)), (4, .int (nI (7 * t))), (5, .int k)] dL_law_795 (by show 5 < X.nL; rw [hnl]; decide) [1, 2, 3, 4, 5, 0] rfl ?_
  refine z_aload_n (zLC_ok (adM := adM) (stM := stM) hXb) 2 dL_law_797 rfl rfl ?_
  refine z_aload_n (zLC_ok (adM := adM) (stM := stM) hXb) 0 dL_law_798 rfl rfl ?_
  refine z_iload (zLC_ok (adM := adM) (stM := stM) hXb) 4 dL_law_799 rfl ?_
  refine z_iconst (v := 1) (zLC_ok (adM := adM) (stM := stM) hXb) dL_law_801 (by decide) ?_
  refine z_iadd (zLC_ok (adM := adM) (stM := stM) hXb) dL_law_802 ?_
  refine z_sld (L := L) (xs := xs) (zLC_ok (adM := adM) (stM := stM) hXb) hs dL_law_803 (zs_in (k := 1) rfl (by decide) ht hL) e1 ?_
  refine z_aload_n (zLC_ok (adM := adM) (stM := stM) hXb) 0 dL_law_804 rfl rfl ?_
  refine z_iload (zLC_ok (adM := adM) (stM := stM) hXb) 4 dL_law_805 rfl ?_
  refine z_iconst (v := 2) (zLC_ok (adM := adM) (stM := stM) hXb) dL_law_807 (by decide) ?_
  refine z_iadd (zLC_ok (adM := adM) (stM := stM) hXb) dL_law_808 ?_
  refine z_sld (L := L) (xs := xs) (zLC_ok (adM := adM) (stM := stM) hXb) hs dL_law_809 (zs_in (k := 2) rfl (by decide) ht hL) e2 ?_
  refine z_aload_n (zLC_ok (adM := adM) (stM := stM) hXb) 0 dL_law_810 rfl rfl ?_
  refine z_iload (zLC_ok (adM := adM) (stM := stM) hXb) 4 dL_law_811 rfl ?_
  refine z_iconst (v := 3) (zLC_ok (adM := adM) (stM := stM) hXb) dL_law_813 (by decide) ?_
  refine z_iadd (zLC_ok (adM := adM) (stM := stM) hXb) dL_law_814 ?_
  refine z_sld (L := L) (xs := xs) (zLC_ok (adM := adM) (stM := stM) hXb) hs dL_law_815 (zs_in (k := 3) rfl (by decide) ht hL) e3 ?_
  refine z_aload_n (zLC_ok (adM := adM) (stM := stM) hXb) 0 dL_law_816 rfl rfl ?_
  refine z_iload (zLC_ok (adM := adM) (stM := stM) hXb) 4 dL_law_817 rfl ?_
  refine z_iconst (v := 4) (zLC_ok (adM := adM) (stM := stM) hXb) dL_law_819 (by decide) ?_
  refine z_iadd (zLC_ok (adM := adM) (stM := stM) hXb) dL_law_820 ?_
  refine z_sld (L := L) (xs := xs) (zLC_ok (adM := adM) (stM := stM) hXb) hs dL_law_821 (zs_in (k := 4) rfl (by decide) ht hL) e4 ?_
  refine z_toM ?_
  refine z_callV (stk := []) (stk' := [.int b.1]) (zLM_ok (adM := adM) (stC := u) hXb) (c_X7_plan _ stM a1 a2 a3 a4 b hM) zb_X7_plan 0 dL_law_822 zm_990 (by decide) shM_0 rfl rfl rfl rfl ⟨by decide, by decide⟩ ⟨rfl, rfl⟩ (Nat.le_of_ble_eq_true rfl) rfl ?_
  refine z_toC ?_
  refine z_istore (zLC_ok (adM := adM) (stM := b.2) hXb) [(0, .ref b0), (1, .ref (X.ad 0)), (2, .ref (adM 0)), (3, .ref (X.ad 98)), (4, .int (nI (7 * t))), (5, .int k), (6, .int b.1)] dL_law_825 (by show 6 < X.nL; rw [hnl]; decide) [1, 2, 3, 4, 5, 6, 0] rfl ?_
  refine z_aload_n (zLC_ok (adM := adM) (stM := b.2) hXb) 2 dL_law_827 rfl rfl ?_
  refine z_toM ?_
  refine z_callV (stk := []) (stk' := .int (b.2.1 0 52) :: []) (zLM_ok (adM := adM) (stC := u) hXb) (c_X7_thrown _ b.2 (b.2.1 0 52, b.2) rfl) zb_X7_thrown 0 dL_law_828 zm_940 (by decide) shM_0 rfl rfl rfl rfl ⟨by decide, by decide⟩ ⟨rfl, rfl⟩ (Nat.le_of_ble_eq_true rfl) rfl ?_
  refine z_toC ?_
  refine z_iload (zLC_ok (adM := adM) (stM := b.2) hXb) 5 dL_law_831 rfl ?_
  refine z_icmp_eq (zLC_ok (adM := adM) (stM := b.2) hXb) 838 dL_law_833 (by decide) (fun _ => ?_) (fun c => absurd hk c)
  refine z_iload (zLC_ok (adM := adM) (stM := b.2) hXb) 5 dL_law_838 rfl ?_
  refine z_if_ne (zLC_ok (adM := adM) (stM := b.2) hXb) 855 dL_law_840 (by decide) (fun ck => ?_) (fun ck => ?_)
  · refine z_goto (zLC_ok (adM := adM) (stM := b.2) hXb) 1923 dL_law_855 (by decide) ?_
    refine z_locals [0, 1, 2, 3, 4] [(0, .ref b0), (1, .ref (X.ad 0)), (2, .ref (adM 0)), (3, .ref (X.ad 98)), (4, .int (nI (7 * t)))] rfl ?_
    exact kk u b.2 hR2
  refine z_aload_n (zLC_ok (adM := adM) (stM := b.2) hXb) 3 dL_law_843 rfl rfl ?_
  refine z_iconst (v := 0) (zLC_ok (adM := adM) (stM := b.2) hXb) dL_law_844 (by decide) ?_
  refine z_lald (zLC_ok (adM := adM) (stM := b.2) hXb) 98 dL_law_845 (by decide) shC_98 (show zin 0 1 by decide) ?_
  refine z_iload (zLC_ok (adM := adM) (stM := b.2) hXb) 6 dL_law_846 rfl ?_
  refine z_i2l (zLC_ok (adM := adM) (stM := b.2) hXb) dL_law_848 ?_
  refine z_lcmpE (zLC_ok (adM := adM) (stM := b.2) hXb) dL_law_849 (hb ck) ?_
  refine z_if_eq (zLC_ok (adM := adM) (stM := b.2) hXb) 855 dL_law_850 (by decide) (fun _ => ?_) (fun c => absurd rfl c)
  refine z_goto (zLC_ok (adM := adM) (stM := b.2) hXb) 1923 dL_law_855 (by decide) ?_
  refine z_locals [0, 1, 2, 3, 4] [(0, .ref b0), (1, .ref (X.ad 0)), (2, .ref (adM 0)), (3, .ref (X.ad 98)), (4, .int (nI (7 * t)))] rfl ?_
  exact kk u b.2 hR2
set_option maxHeartbeats 4000000 in
set_option maxRecDepth 100000 in
theorem law_cancel {R : zSt → zSt → Prop} (X : zCx) (hX : zOk X RL code room_1) (hr : X.cells + 1 ≤ X.R.cells ∧ X.slots + 6 ≤ X.R.slots) (hZ : zXs X.A X.s X.s.heap) {b0 L t : Nat} {xs : Nat → Int32} (hs : zScr X b0 L xs) (hnl : X.nL = 8) (ht : 7 * t + 6 < L) (hL : L ≤ 3584) {adM : Nat → Nat} (HC : zCpl_cancel X.l R) (stC stM : zSt) (hR : R stC stM) (kk : ∀ u uM : zSt, R u uM → zG 99 shC (zLC (zbump X) adM uM) u 1923 [(0, .ref b0), (1, .ref (X.ad 0)), (2, .ref (adM 0)), (3, .ref (X.ad 98)), (4, .int (nI (7 * t)))] []) : zG 99 shC (zLC X adM stM) stC 858 [(0, .ref b0), (1, .ref (X.ad 0)), (2, .ref (adM 0)), (3, .ref (X.ad 98)), (4, .int (nI (7 * t)))] [] := by
  obtain ⟨a1, e1⟩ : ∃ a, a = xs (nI (7 * t) + 1).toNatClampNeg := ⟨_, rfl⟩
  obtain ⟨k, u, b, hW, hM, hk, hb, hR2⟩ := HC stC stM a1 hR
  have hXb := zbump_ok hX hr
  refine z_aload_n (zLC_ok (adM := adM) (stM := stM) hX) 1 dL_law_858 rfl rfl ?_
  refine z_aload_n (zLC_ok (adM := adM) (stM := stM) hX) 0 dL_law_859 rfl rfl ?_
  refine z_iload (zLC_ok (adM := adM) (stM := stM) hX) 4 dL_law_860 rfl ?_
  refine z_iconst (v := 1) (zLC_ok (adM := adM) (stM := stM) hX) dL_law_862 (by decide) ?_
  refine z_iadd (zLC_ok (adM := adM) (stM := stM) hX) dL_law_863 ?_
  refine z_sld (L := L) (xs := xs) (zLC_ok (adM := adM) (stM := stM) hX) hs dL_law_864 (zs_in (k := 1) rfl (by decide) ht hL) e1 ?_
  refine z_aload_n (zLC_ok (adM := adM) (stM := stM) hX) 3 dL_law_865 rfl rfl ?_
  refine z_callW (stk := []) (stk' := [.int k]) hX hZ hW zbW_L_cancel dL_law_866 zm_521 rfl rfl rfl ⟨by decide, by decide⟩ ⟨rfl, rfl⟩ (Nat.le_of_ble_eq_true rfl) hr rfl ?_
  refine z_istore (zLC_ok (adM := adM) (stM := stM) hXb) [(0, .ref b0), (1, .ref (X.ad 0)), (2, .ref (adM 0)), (3, .ref (X.ad 98)), (4, .int (nI (7 * t))), (5, .int k)] dL_law_869 (by show 5 < X.nL; rw [hnl]; decide) [1, 2, 3, 4, 5, 0] rfl ?_
  refine z_aload_n (zLC_ok (adM := adM) (stM := stM) hXb) 2 dL_law_871 rfl rfl ?_
  refine z_aload_n (zLC_ok (adM := adM) (stM := stM) hXb) 0 dL_law_872 rfl rfl ?_
  refine z_iload (zLC_ok (adM := adM) (stM := stM) hXb) 4 dL_law_873 rfl ?_
  refine z_iconst (v := 1) (zLC_ok (adM := adM) (stM := stM) hXb) dL_law_875 (by decide) ?_
  refine z_iadd (zLC_ok (adM := adM) (stM := stM) hXb) dL_law_876 ?_
  refine z_sld (L := L) (xs := xs) (zLC_ok (adM := adM) (stM := stM) hXb) hs dL_law_877 (zs_in (k := 1) rfl (by decide) ht hL) e1 ?_
  refine z_toM ?_
  refine z_callV (stk := []) (stk' := [.int b.1]) (zLM_ok (adM := adM) (stC := u) hXb) (c_X7_cancel _ stM a1 b hM) zb_X7_cancel 0 dL_law_878 zm_1014 (by decide) shM_0 rfl rfl rfl rfl ⟨by decide, by decide⟩ ⟨rfl, rfl⟩ (Nat.le_of_ble_eq_true rfl) rfl ?_
  refine z_toC ?_
  refine z_istore (zLC_ok (adM := adM) (stM := b.2) hXb) [(0, .ref b0), (1, .ref (X.ad 0)), (2, .ref (adM 0)), (3, .ref (X.ad 98)), (4, .int (nI (7 * t))), (5, .int k), (6, .int b.1)] dL_law_881 (by show 6 < X.nL; rw [hnl]; decide) [1, 2, 3, 4, 5, 6, 0] rfl ?_
  refine z_aload_n (zLC_ok (adM := adM) (stM := b.2) hXb) 2 dL_law_883 rfl rfl ?_
  refine z_toM ?_
  refine z_callV (stk := []) (stk' := .int (b.2.1 0 52) :: []) (zLM_ok (adM := adM) (stC := u) hXb) (c_X7_thrown _ b.2 (b.2.1 0 52, b.2) rfl) zb_X7_thrown 0 dL_law_884 zm_940 (by decide) shM_0 rfl rfl rfl rfl ⟨by decide, by decide⟩ ⟨rfl, rfl⟩ (Nat.le_of_ble_eq_true rfl) rfl ?_
  refine z_toC ?_
  refine z_iload (zLC_ok (adM := adM) (stM := b.2) hXb) 5 dL_law_887 rfl ?_
  refine z_icmp_eq (zLC_ok (adM := adM) (stM := b.2) hXb) 894 dL_law_889 (by decide) (fun _ => ?_) (fun c => absurd hk c)
  refine z_iload (zLC_ok (adM := adM) (stM := b.2) hXb) 5 dL_law_894 rfl ?_
  refine z_if_ne (zLC_ok (adM := adM) (stM := b.2) hXb) 911 dL_law_896 (by decide) (fun ck => ?_) (fun ck => ?_)
  · refine z_goto (zLC_ok (adM := adM) (stM := b.2) hXb) 1923 dL_law_911 (by decide) ?_
    refine z_locals [0, 1, 2, 3, 4] [(0, .ref b0), (1, .ref (X.ad 0)), (2, .ref (adM 0)), (3, .ref (X.ad 98)), (4, .int (nI (7 * t)))] rfl ?_
    exact kk u b.2 hR2
  refine z_aload_n (zLC_ok (adM := adM) (stM := b.2) hXb) 3 dL_law_899 rfl rfl ?_
  refine z_iconst (v := 0) (zLC_ok (adM := adM) (stM := b.2) hXb) dL_law_900 (by decide) ?_
  refine z_lald (zLC_ok (adM := adM) (stM := b.2) hXb) 98 dL_law_901 (by decide) shC_98 (show zin 0 1 by decide) ?_
  refine z_iload (zLC_ok (adM := adM) (stM := b.2) hXb) 6 dL_law_902 rfl ?_
  refine z_i2l (zLC_ok (adM := adM) (stM := b.2) hXb) dL_law_904 ?_
  refine z_lcmpE (zLC_ok (adM := adM) (stM := b.2) hXb) dL_law_905 (hb ck) ?_
  refine z_if_eq (zLC_ok (adM := adM) (stM := b.2) hXb) 911 dL_law_906 (by decide) (fun _ => ?_) (fun c => absurd rfl c)
  refine z_goto (zLC_ok (adM := adM) (stM := b.2) hXb) 1923 dL_law_911 (by decide) ?_
  refine z_locals [0, 1, 2, 3, 4] [(0, .ref b0), (1, .ref (X.ad 0)), (2, .ref (adM 0)), (3, .ref (X.ad 98)), (4, .int (nI (7 * t)))] rfl ?_
  exact kk u b.2 hR2
set_option maxHeartbeats 4000000 in
set_option maxRecDepth 100000 in
theorem law_replace {R : zSt → zSt → Prop} (X : zCx) (hX : zOk X RL code room_1) (hr : X.cells + 1 ≤ X.R.cells ∧ X.slots + 6 ≤ X.R.slots) (hZ : zXs X.A X.s X.s.heap) {b0 L t : Nat} {xs : Nat → Int32} (hs : zScr X b0 L xs) (hnl : X.nL = 8) (ht : 7 * t + 6 < L) (hL : L ≤ 3584) {adM : Nat → Nat} (HC : zCpl_replace X.l R) (stC stM : zSt) (hR : R stC stM) (kk : ∀ u uM : zSt, R u uM → zG 99 shC (zLC (zbump X) adM uM) u 1923 [(0, .ref b0), (1, .ref (X.ad 0)), (2, .ref (adM 0)), (3, .ref (X.ad 98)), (4, .int (nI (7 * t)))] []) : zG 99 shC (zLC X adM stM) stC 914 [(0, .ref b0), (1, .ref (X.ad 0)), (2, .ref (adM 0)), (3, .ref (X.ad 98)), (4, .int (nI (7 * t)))] [] := by
  obtain ⟨a1, e1⟩ : ∃ a, a = xs (nI (7 * t) + 1).toNatClampNeg := ⟨_, rfl⟩
  obtain ⟨a2, e2⟩ : ∃ a, a = xs (nI (7 * t) + 2).toNatClampNeg := ⟨_, rfl⟩
  obtain ⟨k, u, b, hW, hM, hk, hb, hR2⟩ := HC stC stM a1 a2 hR
  have hXb := zbump_ok hX hr
  refine z_aload_n (zLC_ok (adM := adM) (stM := stM) hX) 1 dL_law_914 rfl rfl ?_
  refine z_aload_n (zLC_ok (adM := adM) (stM := stM) hX) 0 dL_law_915 rfl rfl ?_
  refine z_iload (zLC_ok (adM := adM) (stM := stM) hX) 4 dL_law_916 rfl ?_
  refine z_iconst (v := 1) (zLC_ok (adM := adM) (stM := stM) hX) dL_law_918 (by decide) ?_
  refine z_iadd (zLC_ok (adM := adM) (stM := stM) hX) dL_law_919 ?_
  refine z_sld (L := L) (xs := xs) (zLC_ok (adM := adM) (stM := stM) hX) hs dL_law_920 (zs_in (k := 1) rfl (by decide) ht hL) e1 ?_
  refine z_aload_n (zLC_ok (adM := adM) (stM := stM) hX) 0 dL_law_921 rfl rfl ?_
  refine z_iload (zLC_ok (adM := adM) (stM := stM) hX) 4 dL_law_922 rfl ?_
  refine z_iconst (v := 2) (zLC_ok (adM := adM) (stM := stM) hX) dL_law_924 (by decide) ?_
  refine z_iadd (zLC_ok (adM := adM) (stM := stM) hX) dL_law_925 ?_
  refine z_sld (L := L) (xs := xs) (zLC_ok (adM := adM) (stM := stM) hX) hs dL_law_926 (zs_in (k := 2) rfl (by decide) ht hL) e2 ?_
  refine z_aload_n (zLC_ok (adM := adM) (stM := stM) hX) 3 dL_law_927 rfl rfl ?_
  refine z_callW (stk := []) (stk' := [.int k]) hX hZ hW zbW_L_replace dL_law_928 zm_552 rfl rfl rfl ⟨by decide, by decide⟩ ⟨rfl, rfl⟩ (Nat.le_of_ble_eq_true rfl) hr rfl ?_
  refine z_istore (zLC_ok (adM := adM) (stM := stM) hXb) [(0, .ref b0), (1, .ref (X.ad 0)), (2, .ref (adM 0)), (3, .ref (X.ad 98)), (4, .int (nI (7 * t))), (5, .int k)] dL_law_931 (by show 5 < X.nL; rw [hnl]; decide) [1, 2, 3, 4, 5, 0] rfl ?_
  refine z_aload_n (zLC_ok (adM := adM) (stM := stM) hXb) 2 dL_law_933 rfl rfl ?_
  refine z_aload_n (zLC_ok (adM := adM) (stM := stM) hXb) 0 dL_law_934 rfl rfl ?_
  refine z_iload (zLC_ok (adM := adM) (stM := stM) hXb) 4 dL_law_935 rfl ?_
  refine z_iconst (v := 1) (zLC_ok (adM := adM) (stM := stM) hXb) dL_law_937 (by decide) ?_
  refine z_iadd (zLC_ok (adM := adM) (stM := stM) hXb) dL_law_938 ?_
  refine z_sld (L := L) (xs := xs) (zLC_ok (adM := adM) (stM := stM) hXb) hs dL_law_939 (zs_in (k := 1) rfl (by decide) ht hL) e1 ?_
  refine z_aload_n (zLC_ok (adM := adM) (stM := stM) hXb) 0 dL_law_940 rfl rfl ?_
  refine z_iload (zLC_ok (adM := adM) (stM := stM) hXb) 4 dL_law_941 rfl ?_
  refine z_iconst (v := 2) (zLC_ok (adM := adM) (stM := stM) hXb) dL_law_943 (by decide) ?_
  refine z_iadd (zLC_ok (adM := adM) (stM := stM) hXb) dL_law_944 ?_
  refine z_sld (L := L) (xs := xs) (zLC_ok (adM := adM) (stM := stM) hXb) hs dL_law_945 (zs_in (k := 2) rfl (by decide) ht hL) e2 ?_
  refine z_toM ?_
  refine z_callV (stk := []) (stk' := [.int b.1]) (zLM_ok (adM := adM) (stC := u) hXb) (c_X7_replace _ stM a1 a2 b hM) zb_X7_replace 0 dL_law_946 zm_1030 (by decide) shM_0 rfl rfl rfl rfl ⟨by decide, by decide⟩ ⟨rfl, rfl⟩ (Nat.le_of_ble_eq_true rfl) rfl ?_
  refine z_toC ?_
  refine z_istore (zLC_ok (adM := adM) (stM := b.2) hXb) [(0, .ref b0), (1, .ref (X.ad 0)), (2, .ref (adM 0)), (3, .ref (X.ad 98)), (4, .int (nI (7 * t))), (5, .int k), (6, .int b.1)] dL_law_949 (by show 6 < X.nL; rw [hnl]; decide) [1, 2, 3, 4, 5, 6, 0] rfl ?_
  refine z_aload_n (zLC_ok (adM := adM) (stM := b.2) hXb) 2 dL_law_951 rfl rfl ?_
  refine z_toM ?_
  refine z_callV (stk := []) (stk' := .int (b.2.1 0 52) :: []) (zLM_ok (adM := adM) (stC := u) hXb) (c_X7_thrown _ b.2 (b.2.1 0 52, b.2) rfl) zb_X7_thrown 0 dL_law_952 zm_940 (by decide) shM_0 rfl rfl rfl rfl ⟨by decide, by decide⟩ ⟨rfl, rfl⟩ (Nat.le_of_ble_eq_true rfl) rfl ?_
  refine z_toC ?_
  refine z_iload (zLC_ok (adM := adM) (stM := b.2) hXb) 5 dL_law_955 rfl ?_
  refine z_icmp_eq (zLC_ok (adM := adM) (stM := b.2) hXb) 962 dL_law_957 (by decide) (fun _ => ?_) (fun c => absurd hk c)
  refine z_iload (zLC_ok (adM := adM) (stM := b.2) hXb) 5 dL_law_962 rfl ?_
  refine z_if_ne (zLC_ok (adM := adM) (stM := b.2) hXb) 979 dL_law_964 (by decide) (fun ck => ?_) (fun ck => ?_)
  · refine z_goto (zLC_ok (adM := adM) (stM := b.2) hXb) 1923 dL_law_979 (by decide) ?_
    refine z_locals [0, 1, 2, 3, 4] [(0, .ref b0), (1, .ref (X.ad 0)), (2, .ref (adM 0)), (3, .ref (X.ad 98)), (4, .int (nI (7 * t)))] rfl ?_
    exact kk u b.2 hR2
  refine z_aload_n (zLC_ok (adM := adM) (stM := b.2) hXb) 3 dL_law_967 rfl rfl ?_
  refine z_iconst (v := 0) (zLC_ok (adM := adM) (stM := b.2) hXb) dL_law_968 (by decide) ?_
  refine z_lald (zLC_ok (adM := adM) (stM := b.2) hXb) 98 dL_law_969 (by decide) shC_98 (show zin 0 1 by decide) ?_
  refine z_iload (zLC_ok (adM := adM) (stM := b.2) hXb) 6 dL_law_970 rfl ?_
  refine z_i2l (zLC_ok (adM := adM) (stM := b.2) hXb) dL_law_972 ?_
  refine z_lcmpE (zLC_ok (adM := adM) (stM := b.2) hXb) dL_law_973 (hb ck) ?_
  refine z_if_eq (zLC_ok (adM := adM) (stM := b.2) hXb) 979 dL_law_974 (by decide) (fun _ => ?_) (fun c => absurd rfl c)
  refine z_goto (zLC_ok (adM := adM) (stM := b.2) hXb) 1923 dL_law_979 (by decide) ?_
  refine z_locals [0, 1, 2, 3, 4] [(0, .ref b0), (1, .ref (X.ad 0)), (2, .ref (adM 0)), (3, .ref (X.ad 98)), (4, .int (nI (7 * t)))] rfl ?_
  exact kk u b.2 hR2
set_option maxHeartbeats 4000000 in
set_option maxRecDepth 100000 in
theorem law_pass {R : zSt → zSt → Prop} (X : zCx) (hX : zOk X RL code room_1) (hr : X.cells + 1 ≤ X.R.cells ∧ X.slots + 6 ≤ X.R.slots) (hZ : zXs X.A X.s X.s.heap) {b0 L t : Nat} {xs : Nat → Int32} (hs : zScr X b0 L xs) (hnl : X.nL = 8) (ht : 7 * t + 6 < L) (hL : L ≤ 3584) {adM : Nat → Nat} (HC : zCpl_pass X.l R) (stC stM : zSt) (hR : R stC stM) (kk : ∀ u uM : zSt, R u uM → zG 99 shC (zLC (zbump X) adM uM) u 1923 [(0, .ref b0), (1, .ref (X.ad 0)), (2, .ref (adM 0)), (3, .ref (X.ad 98)), (4, .int (nI (7 * t)))] []) : zG 99 shC (zLC X adM stM) stC 982 [(0, .ref b0), (1, .ref (X.ad 0)), (2, .ref (adM 0)), (3, .ref (X.ad 98)), (4, .int (nI (7 * t)))] [] := by
  obtain ⟨a1, e1⟩ : ∃ a, a = xs (nI (7 * t) + 1).toNatClampNeg := ⟨_, rfl⟩
  obtain ⟨k, u, b, hW, hM, hk, hb, hR2⟩ := HC stC stM a1 hR
  have hXb := zbump_ok hX hr
  refine z_aload_n (zLC_ok (adM := adM) (stM := stM) hX) 1 dL_law_982 rfl rfl ?_
  refine z_aload_n (zLC_ok (adM := adM) (stM := stM) hX) 0 dL_law_983 rfl rfl ?_
  refine z_iload (zLC_ok (adM := adM) (stM := stM) hX) 4 dL_law_984 rfl ?_
  refine z_iconst (v := 1) (zLC_ok (adM := adM) (stM := stM) hX) dL_law_986 (by decide) ?_
  refine z_iadd (zLC_ok (adM := adM) (stM := stM) hX) dL_law_987 ?_
  refine z_sld (L := L) (xs := xs) (zLC_ok (adM := adM) (stM := stM) hX) hs dL_law_988 (zs_in (k := 1) rfl (by decide) ht hL) e1 ?_
  refine z_aload_n (zLC_ok (adM := adM) (stM := stM) hX) 3 dL_law_989 rfl rfl ?_
  refine z_callW (stk := []) (stk' := [.int k]) hX hZ hW zbW_L_pass dL_law_990 zm_571 rfl rfl rfl ⟨by decide, by decide⟩ ⟨rfl, rfl⟩ (Nat.le_of_ble_eq_true rfl) hr rfl ?_
  refine z_istore (zLC_ok (adM := adM) (stM := stM) hXb) [(0, .ref b0), (1, .ref (X.ad 0)), (2, .ref (adM 0)), (3, .ref (X.ad 98)), (4, .int (nI (7 * t))), (5, .int k)] dL_law_993 (by show 5 < X.nL; rw [hnl]; decide) [1, 2, 3, 4, 5, 0] rfl ?_
  refine z_aload_n (zLC_ok (adM := adM) (stM := stM) hXb) 2 dL_law_995 rfl rfl ?_
  refine z_aload_n (zLC_ok (adM := adM) (stM := stM) hXb) 0 dL_law_996 rfl rfl ?_
  refine z_iload (zLC_ok (adM := adM) (stM := stM) hXb) 4 dL_law_997 rfl ?_
  refine z_iconst (v := 1) (zLC_ok (adM := adM) (stM := stM) hXb) dL_law_999 (by decide) ?_
  refine z_iadd (zLC_ok (adM := adM) (stM := stM) hXb) dL_law_1000 ?_
  refine z_sld (L := L) (xs := xs) (zLC_ok (adM := adM) (stM := stM) hXb) hs dL_law_1001 (zs_in (k := 1) rfl (by decide) ht hL) e1 ?_
  refine z_toM ?_
  refine z_callV (stk := []) (stk' := [.int b.1]) (zLM_ok (adM := adM) (stC := u) hXb) (c_X7_pass _ stM a1 b hM) zb_X7_pass 0 dL_law_1002 zm_1038 (by decide) shM_0 rfl rfl rfl rfl ⟨by decide, by decide⟩ ⟨rfl, rfl⟩ (Nat.le_of_ble_eq_true rfl) rfl ?_
  refine z_toC ?_
  refine z_istore (zLC_ok (adM := adM) (stM := b.2) hXb) [(0, .ref b0), (1, .ref (X.ad 0)), (2, .ref (adM 0)), (3, .ref (X.ad 98)), (4, .int (nI (7 * t))), (5, .int k), (6, .int b.1)] dL_law_1005 (by show 6 < X.nL; rw [hnl]; decide) [1, 2, 3, 4, 5, 6, 0] rfl ?_
  refine z_aload_n (zLC_ok (adM := adM) (stM := b.2) hXb) 2 dL_law_1007 rfl rfl ?_
  refine z_toM ?_
  refine z_callV (stk := []) (stk' := .int (b.2.1 0 52) :: []) (zLM_ok (adM := adM) (stC := u) hXb) (c_X7_thrown _ b.2 (b.2.1 0 52, b.2) rfl) zb_X7_thrown 0 dL_law_1008 zm_940 (by decide) shM_0 rfl rfl rfl rfl ⟨by decide, by decide⟩ ⟨rfl, rfl⟩ (Nat.le_of_ble_eq_true rfl) rfl ?_
  refine z_toC ?_
  refine z_iload (zLC_ok (adM := adM) (stM := b.2) hXb) 5 dL_law_1011 rfl ?_
  refine z_icmp_eq (zLC_ok (adM := adM) (stM := b.2) hXb) 1018 dL_law_1013 (by decide) (fun _ => ?_) (fun c => absurd hk c)
  refine z_iload (zLC_ok (adM := adM) (stM := b.2) hXb) 5 dL_law_1018 rfl ?_
  refine z_if_ne (zLC_ok (adM := adM) (stM := b.2) hXb) 1035 dL_law_1020 (by decide) (fun ck => ?_) (fun ck => ?_)
  · refine z_goto (zLC_ok (adM := adM) (stM := b.2) hXb) 1923 dL_law_1035 (by decide) ?_
    refine z_locals [0, 1, 2, 3, 4] [(0, .ref b0), (1, .ref (X.ad 0)), (2, .ref (adM 0)), (3, .ref (X.ad 98)), (4, .int (nI (7 * t)))] rfl ?_
    exact kk u b.2 hR2
  refine z_aload_n (zLC_ok (adM := adM) (stM := b.2) hXb) 3 dL_law_1023 rfl rfl ?_
  refine z_iconst (v := 0) (zLC_ok (adM := adM) (stM := b.2) hXb) dL_law_1024 (by decide) ?_
  refine z_lald (zLC_ok (adM := adM) (stM := b.2) hXb) 98 dL_law_1025 (by decide) shC_98 (show zin 0 1 by decide) ?_
  refine z_iload (zLC_ok (adM := adM) (stM := b.2) hXb) 6 dL_law_1026 rfl ?_
  refine z_i2l (zLC_ok (adM := adM) (stM := b.2) hXb) dL_law_1028 ?_
  refine z_lcmpE (zLC_ok (adM := adM) (stM := b.2) hXb) dL_law_1029 (hb ck) ?_
  refine z_if_eq (zLC_ok (adM := adM) (stM := b.2) hXb) 1035 dL_law_1030 (by decide) (fun _ => ?_) (fun c => absurd rfl c)
  refine z_goto (zLC_ok (adM := adM) (stM := b.2) hXb) 1923 dL_law_1035 (by decide) ?_
  refine z_locals [0, 1, 2, 3, 4] [(0, .ref b0), (1, .ref (X.ad 0)), (2, .ref (adM 0)), (3, .ref (X.ad 98)), (4, .int (nI (7 * t)))] rfl ?_
  exact kk u b.2 hR2
set_option maxHeartbeats 4000000 in
set_option maxRecDepth 100000 in
theorem law_now {R : zSt → zSt → Prop} (X : zCx) (hX : zOk X RL code room_1) (hr : X.cells + 1 ≤ X.R.cells ∧ X.slots + 6 ≤ X.R.slots) (hZ : zXs X.A X.s X.s.heap) {b0 L t : Nat} {xs : Nat → Int32} (hs : zScr X b0 L xs) (hnl : X.nL = 8) (ht : 7 * t + 6 < L) (hL : L ≤ 3584) {adM : Nat → Nat} (HC : zCpl_now X.l R) (stC stM : zSt) (hR : R stC stM) (kk : ∀ u uM : zSt, R u uM → zG 99 shC (zLC (zbump X) adM uM) u 1923 [(0, .ref b0), (1, .ref (X.ad 0)), (2, .ref (adM 0)), (3, .ref (X.ad 98)), (4, .int (nI (7 * t)))] []) : zG 99 shC (zLC X adM stM) stC 1038 [(0, .ref b0), (1, .ref (X.ad 0)), (2, .ref (adM 0)), (3, .ref (X.ad 98)), (4, .int (nI (7 * t)))] [] := by
  obtain ⟨q, qM, hq, hqM, hqq, hR2⟩ := HC stC stM hR
  have hXb := zbump_ok hX hr
  refine z_widen ?_
  show zG 99 shC (zLC (zbump X) adM stM) stC 1038 [(0, .ref b0), (1, .ref (X.ad 0)), (2, .ref (adM 0)), (3, .ref (X.ad 98)), (4, .int (nI (7 * t)))] []
  refine z_aload_n (zLC_ok (adM := adM) (stM := stM) hXb) 1 dL_law_1038 rfl rfl ?_
  refine z_callV (stk := []) (stk' := [.int q.1]) (zLC_ok (adM := adM) (stM := stM) hXb) (c_X6_now _ stC q hq) zb_X6_now 0 dL_law_1039 zm_303 (by decide) shC_0 rfl rfl rfl rfl ⟨by decide, by decide⟩ ⟨rfl, rfl⟩ (Nat.le_of_ble_eq_true rfl) rfl ?_
  show zG 99 shC (zLC (zbump X) adM stM) q.2 1042 [(0, .ref b0), (1, .ref (X.ad 0)), (2, .ref (adM 0)), (3, .ref (X.ad 98)), (4, .int (nI (7 * t)))] [.int q.1]
  refine z_aload_n (zLC_ok (adM := adM) (stM := stM) hXb) 2 dL_law_1042 rfl rfl ?_
  refine z_toM ?_
  refine z_callV (stk := [.int q.1]) (stk' := [.int qM.1, .int q.1]) (zLM_ok (adM := adM) (stC := q.2) hXb) (c_X7_now _ stM  qM hqM) zb_X7_now 0 dL_law_1043 zm_1082 (by decide) shM_0 rfl rfl rfl rfl ⟨by decide, by decide⟩ ⟨rfl, rfl⟩ (Nat.le_of_ble_eq_true rfl) rfl ?_
  refine z_toC ?_
  refine z_icmp_eq (zLC_ok (adM := adM) (stM := qM.2) hXb) 1923 dL_law_1046 (by decide) (fun _ => ?_) (fun c => absurd hqq c)
  exact kk q.2 qM.2 hR2
set_option maxHeartbeats 4000000 in
set_option maxRecDepth 100000 in
theorem law_state {R : zSt → zSt → Prop} (X : zCx) (hX : zOk X RL code room_1) (hr : X.cells + 1 ≤ X.R.cells ∧ X.slots + 6 ≤ X.R.slots) (hZ : zXs X.A X.s X.s.heap) {b0 L t : Nat} {xs : Nat → Int32} (hs : zScr X b0 L xs) (hnl : X.nL = 8) (ht : 7 * t + 6 < L) (hL : L ≤ 3584) {adM : Nat → Nat} (HC : zCpl_state X.l R) (stC stM : zSt) (hR : R stC stM) (kk : ∀ u uM : zSt, R u uM → zG 99 shC (zLC (zbump X) adM uM) u 1923 [(0, .ref b0), (1, .ref (X.ad 0)), (2, .ref (adM 0)), (3, .ref (X.ad 98)), (4, .int (nI (7 * t)))] []) : zG 99 shC (zLC X adM stM) stC 1051 [(0, .ref b0), (1, .ref (X.ad 0)), (2, .ref (adM 0)), (3, .ref (X.ad 98)), (4, .int (nI (7 * t)))] [] := by
  obtain ⟨a1, e1⟩ : ∃ a, a = xs (nI (7 * t) + 1).toNatClampNeg := ⟨_, rfl⟩
  obtain ⟨k, u, b, hW, hM, hk, hb, hR2⟩ := HC stC stM a1 hR
  have hXb := zbump_ok hX hr
  refine z_aload_n (zLC_ok (adM := adM) (stM := stM) hX) 1 dL_law_1051 rfl rfl ?_
  refine z_aload_n (zLC_ok (adM := adM) (stM := stM) hX) 0 dL_law_1052 rfl rfl ?_
  refine z_iload (zLC_ok (adM := adM) (stM := stM) hX) 4 dL_law_1053 rfl ?_
  refine z_iconst (v := 1) (zLC_ok (adM := adM) (stM := stM) hX) dL_law_1055 (by decide) ?_
  refine z_iadd (zLC_ok (adM := adM) (stM := stM) hX) dL_law_1056 ?_
  refine z_sld (L := L) (xs := xs) (zLC_ok (adM := adM) (stM := stM) hX) hs dL_law_1057 (zs_in (k := 1) rfl (by decide) ht hL) e1 ?_
  refine z_aload_n (zLC_ok (adM := adM) (stM := stM) hX) 3 dL_law_1058 rfl rfl ?_
  refine z_callW (stk := []) (stk' := [.int k]) hX hZ hW zbW_L_state dL_law_1059 zm_647 rfl rfl rfl ⟨by decide, by decide⟩ ⟨rfl, rfl⟩ (Nat.le_of_ble_eq_true rfl) hr rfl ?_
  refine z_istore (zLC_ok (adM := adM) (stM := stM) hXb) [(0, .ref b0), (1, .ref (X.ad 0)), (2, .ref (adM 0)), (3, .ref (X.ad 98)), (4, .int (nI (7 * t))), (5, .int k)] dL_law_1062 (by show 5 < X.nL; rw [hnl]; decide) [1, 2, 3, 4, 5, 0] rfl ?_
  refine z_aload_n (zLC_ok (adM := adM) (stM := stM) hXb) 2 dL_law_1064 rfl rfl ?_
  refine z_aload_n (zLC_ok (adM := adM) (stM := stM) hXb) 0 dL_law_1065 rfl rfl ?_
  refine z_iload (zLC_ok (adM := adM) (stM := stM) hXb) 4 dL_law_1066 rfl ?_
  refine z_iconst (v := 1) (zLC_ok (adM := adM) (stM := stM) hXb) dL_law_1068 (by decide) ?_
  refine z_iadd (zLC_ok (adM := adM) (stM := stM) hXb) dL_law_1069 ?_
  refine z_sld (L := L) (xs := xs) (zLC_ok (adM := adM) (stM := stM) hXb) hs dL_law_1070 (zs_in (k := 1) rfl (by decide) ht hL) e1 ?_
  refine z_toM ?_
  refine z_callV (stk := []) (stk' := [.int b.1]) (zLM_ok (adM := adM) (stC := u) hXb) (c_X7_state _ stM a1 b hM) zb_X7_state 0 dL_law_1071 zm_1086 (by decide) shM_0 rfl rfl rfl rfl ⟨by decide, by decide⟩ ⟨rfl, rfl⟩ (Nat.le_of_ble_eq_true rfl) rfl ?_
  refine z_toC ?_
  refine z_istore (zLC_ok (adM := adM) (stM := b.2) hXb) [(0, .ref b0), (1, .ref (X.ad 0)), (2, .ref (adM 0)), (3, .ref (X.ad 98)), (4, .int (nI (7 * t))), (5, .int k), (6, .int b.1)] dL_law_1074 (by show 6 < X.nL; rw [hnl]; decide) [1, 2, 3, 4, 5, 6, 0] rfl ?_
  refine z_aload_n (zLC_ok (adM := adM) (stM := b.2) hXb) 2 dL_law_1076 rfl rfl ?_
  refine z_toM ?_
  refine z_callV (stk := []) (stk' := .int (b.2.1 0 52) :: []) (zLM_ok (adM := adM) (stC := u) hXb) (c_X7_thrown _ b.2 (b.2.1 0 52, b.2) rfl) zb_X7_thrown 0 dL_law_1077 zm_940 (by decide) shM_0 rfl rfl rfl rfl ⟨by decide, by decide⟩ ⟨rfl, rfl⟩ (Nat.le_of_ble_eq_true rfl) rfl ?_
  refine z_toC ?_
  refine z_iload (zLC_ok (adM := adM) (stM := b.2) hXb) 5 dL_law_1080 rfl ?_
  refine z_icmp_eq (zLC_ok (adM := adM) (stM := b.2) hXb) 1087 dL_law_1082 (by decide) (fun _ => ?_) (fun c => absurd hk c)
  refine z_iload (zLC_ok (adM := adM) (stM := b.2) hXb) 5 dL_law_1087 rfl ?_
  refine z_if_ne (zLC_ok (adM := adM) (stM := b.2) hXb) 1104 dL_law_1089 (by decide) (fun ck => ?_) (fun ck => ?_)
  · refine z_goto (zLC_ok (adM := adM) (stM := b.2) hXb) 1923 dL_law_1104 (by decide) ?_
    refine z_locals [0, 1, 2, 3, 4] [(0, .ref b0), (1, .ref (X.ad 0)), (2, .ref (adM 0)), (3, .ref (X.ad 98)), (4, .int (nI (7 * t)))] rfl ?_
    exact kk u b.2 hR2
  refine z_aload_n (zLC_ok (adM := adM) (stM := b.2) hXb) 3 dL_law_1092 rfl rfl ?_
  refine z_iconst (v := 0) (zLC_ok (adM := adM) (stM := b.2) hXb) dL_law_1093 (by decide) ?_
  refine z_lald (zLC_ok (adM := adM) (stM := b.2) hXb) 98 dL_law_1094 (by decide) shC_98 (show zin 0 1 by decide) ?_
  refine z_iload (zLC_ok (adM := adM) (stM := b.2) hXb) 6 dL_law_1095 rfl ?_
  refine z_i2l (zLC_ok (adM := adM) (stM := b.2) hXb) dL_law_1097 ?_
  refine z_lcmpE (zLC_ok (adM := adM) (stM := b.2) hXb) dL_law_1098 (hb ck) ?_
  refine z_if_eq (zLC_ok (adM := adM) (stM := b.2) hXb) 1104 dL_law_1099 (by decide) (fun _ => ?_) (fun c => absurd rfl c)
  refine z_goto (zLC_ok (adM := adM) (stM := b.2) hXb) 1923 dL_law_1104 (by decide) ?_
  refine z_locals [0, 1, 2, 3, 4] [(0, .ref b0), (1, .ref (X.ad 0)), (2, .ref (adM 0)), (3, .ref (X.ad 98)), (4, .int (nI (7 * t)))] rfl ?_
  exact kk u b.2 hR2
set_option maxHeartbeats 4000000 in
set_option maxRecDepth 100000 in
theorem law_ends {R : zSt → zSt → Prop} (X : zCx) (hX : zOk X RL code room_1) (hr : X.cells + 1 ≤ X.R.cells ∧ X.slots + 6 ≤ X.R.slots) (hZ : zXs X.A X.s X.s.heap) {b0 L t : Nat} {xs : Nat → Int32} (hs : zScr X b0 L xs) (hnl : X.nL = 8) (ht : 7 * t + 6 < L) (hL : L ≤ 3584) {adM : Nat → Nat} (HC : zCpl_ends X.l R) (stC stM : zSt) (hR : R stC stM) (kk : ∀ u uM : zSt, R u uM → zG 99 shC (zLC (zbump X) adM uM) u 1923 [(0, .ref b0), (1, .ref (X.ad 0)), (2, .ref (adM 0)), (3, .ref (X.ad 98)), (4, .int (nI (7 * t)))] []) : zG 99 shC (zLC X adM stM) stC 1107 [(0, .ref b0), (1, .ref (X.ad 0)), (2, .ref (adM 0)), (3, .ref (X.ad 98)), (4, .int (nI (7 * t)))] [] := by
  obtain ⟨a1, e1⟩ : ∃ a, a = xs (nI (7 * t) + 1).toNatClampNeg := ⟨_, rfl⟩
  obtain ⟨k, u, b, hW, hM, hk, hb, hR2⟩ := HC stC stM a1 hR
  have hXb := zbump_ok hX hr
  refine z_aload_n (zLC_ok (adM := adM) (stM := stM) hX) 1 dL_law_1107 rfl rfl ?_
  refine z_aload_n (zLC_ok (adM := adM) (stM := stM) hX) 0 dL_law_1108 rfl rfl ?_
  refine z_iload (zLC_ok (adM := adM) (stM := stM) hX) 4 dL_law_1109 rfl ?_
  refine z_iconst (v := 1) (zLC_ok (adM := adM) (stM := stM) hX) dL_law_1111 (by decide) ?_
  refine z_iadd (zLC_ok (adM := adM) (stM := stM) hX) dL_law_1112 ?_
  refine z_sld (L := L) (xs := xs) (zLC_ok (adM := adM) (stM := stM) hX) hs dL_law_1113 (zs_in (k := 1) rfl (by decide) ht hL) e1 ?_
  refine z_aload_n (zLC_ok (adM := adM) (stM := stM) hX) 3 dL_law_1114 rfl rfl ?_
  refine z_callW (stk := []) (stk' := [.int k]) hX hZ hW zbW_L_ends dL_law_1115 zm_654 rfl rfl rfl ⟨by decide, by decide⟩ ⟨rfl, rfl⟩ (Nat.le_of_ble_eq_true rfl) hr rfl ?_
  refine z_istore (zLC_ok (adM := adM) (stM := stM) hXb) [(0, .ref b0), (1, .ref (X.ad 0)), (2, .ref (adM 0)), (3, .ref (X.ad 98)), (4, .int (nI (7 * t))), (5, .int k)] dL_law_1118 (by show 5 < X.nL; rw [hnl]; decide) [1, 2, 3, 4, 5, 0] rfl ?_
  refine z_aload_n (zLC_ok (adM := adM) (stM := stM) hXb) 2 dL_law_1120 rfl rfl ?_
  refine z_aload_n (zLC_ok (adM := adM) (stM := stM) hXb) 0 dL_law_1121 rfl rfl ?_
  refine z_iload (zLC_ok (adM := adM) (stM := stM) hXb) 4 dL_law_1122 rfl ?_
  refine z_iconst (v := 1) (zLC_ok (adM := adM) (stM := stM) hXb) dL_law_1124 (by decide) ?_
  refine z_iadd (zLC_ok (adM := adM) (stM := stM) hXb) dL_law_1125 ?_
  refine z_sld (L := L) (xs := xs) (zLC_ok (adM := adM) (stM := stM) hXb) hs dL_law_1126 (zs_in (k := 1) rfl (by decide) ht hL) e1 ?_
  refine z_toM ?_
  refine z_callV (stk := []) (stk' := [.int b.1]) (zLM_ok (adM := adM) (stC := u) hXb) (c_X7_ends _ stM a1 b hM) zb_X7_ends 0 dL_law_1127 zm_1090 (by decide) shM_0 rfl rfl rfl rfl ⟨by decide, by decide⟩ ⟨rfl, rfl⟩ (Nat.le_of_ble_eq_true rfl) rfl ?_
  refine z_toC ?_
  refine z_istore (zLC_ok (adM := adM) (stM := b.2) hXb) [(0, .ref b0), (1, .ref (X.ad 0)), (2, .ref (adM 0)), (3, .ref (X.ad 98)), (4, .int (nI (7 * t))), (5, .int k), (6, .int b.1)] dL_law_1130 (by show 6 < X.nL; rw [hnl]; decide) [1, 2, 3, 4, 5, 6, 0] rfl ?_
  refine z_aload_n (zLC_ok (adM := adM) (stM := b.2) hXb) 2 dL_law_1132 rfl rfl ?_
  refine z_toM ?_
  refine z_callV (stk := []) (stk' := .int (b.2.1 0 52) :: []) (zLM_ok (adM := adM) (stC := u) hXb) (c_X7_thrown _ b.2 (b.2.1 0 52, b.2) rfl) zb_X7_thrown 0 dL_law_1133 zm_940 (by decide) shM_0 rfl rfl rfl rfl ⟨by decide, by decide⟩ ⟨rfl, rfl⟩ (Nat.le_of_ble_eq_true rfl) rfl ?_
  refine z_toC ?_
  refine z_iload (zLC_ok (adM := adM) (stM := b.2) hXb) 5 dL_law_1136 rfl ?_
  refine z_icmp_eq (zLC_ok (adM := adM) (stM := b.2) hXb) 1143 dL_law_1138 (by decide) (fun _ => ?_) (fun c => absurd hk c)
  refine z_iload (zLC_ok (adM := adM) (stM := b.2) hXb) 5 dL_law_1143 rfl ?_
  refine z_if_ne (zLC_ok (adM := adM) (stM := b.2) hXb) 1160 dL_law_1145 (by decide) (fun ck => ?_) (fun ck => ?_)
  · refine z_goto (zLC_ok (adM := adM) (stM := b.2) hXb) 1923 dL_law_1160 (by decide) ?_
    refine z_locals [0, 1, 2, 3, 4] [(0, .ref b0), (1, .ref (X.ad 0)), (2, .ref (adM 0)), (3, .ref (X.ad 98)), (4, .int (nI (7 * t)))] rfl ?_
    exact kk u b.2 hR2
  refine z_aload_n (zLC_ok (adM := adM) (stM := b.2) hXb) 3 dL_law_1148 rfl rfl ?_
  refine z_iconst (v := 0) (zLC_ok (adM := adM) (stM := b.2) hXb) dL_law_1149 (by decide) ?_
  refine z_lald (zLC_ok (adM := adM) (stM := b.2) hXb) 98 dL_law_1150 (by decide) shC_98 (show zin 0 1 by decide) ?_
  refine z_iload (zLC_ok (adM := adM) (stM := b.2) hXb) 6 dL_law_1151 rfl ?_
  refine z_i2l (zLC_ok (adM := adM) (stM := b.2) hXb) dL_law_1153 ?_
  refine z_lcmpE (zLC_ok (adM := adM) (stM := b.2) hXb) dL_law_1154 (hb ck) ?_
  refine z_if_eq (zLC_ok (adM := adM) (stM := b.2) hXb) 1160 dL_law_1155 (by decide) (fun _ => ?_) (fun c => absurd rfl c)
  refine z_goto (zLC_ok (adM := adM) (stM := b.2) hXb) 1923 dL_law_1160 (by decide) ?_
  refine z_locals [0, 1, 2, 3, 4] [(0, .ref b0), (1, .ref (X.ad 0)), (2, .ref (adM 0)), (3, .ref (X.ad 98)), (4, .int (nI (7 * t)))] rfl ?_
  exact kk u b.2 hR2
set_option maxHeartbeats 4000000 in
set_option maxRecDepth 100000 in
theorem law_busAfter {R : zSt → zSt → Prop} (X : zCx) (hX : zOk X RL code room_1) (hr : X.cells + 1 ≤ X.R.cells ∧ X.slots + 6 ≤ X.R.slots) (hZ : zXs X.A X.s X.s.heap) {b0 L t : Nat} {xs : Nat → Int32} (hs : zScr X b0 L xs) (hnl : X.nL = 8) (ht : 7 * t + 6 < L) (hL : L ≤ 3584) {adM : Nat → Nat} (HC : zCpl_busAfter X.l R) (stC stM : zSt) (hR : R stC stM) (kk : ∀ u uM : zSt, R u uM → zG 99 shC (zLC (zbump X) adM uM) u 1923 [(0, .ref b0), (1, .ref (X.ad 0)), (2, .ref (adM 0)), (3, .ref (X.ad 98)), (4, .int (nI (7 * t)))] []) : zG 99 shC (zLC X adM stM) stC 1163 [(0, .ref b0), (1, .ref (X.ad 0)), (2, .ref (adM 0)), (3, .ref (X.ad 98)), (4, .int (nI (7 * t)))] [] := by
  obtain ⟨a1, e1⟩ : ∃ a, a = xs (nI (7 * t) + 1).toNatClampNeg := ⟨_, rfl⟩
  obtain ⟨k, u, b, hW, hM, hk, hb, hR2⟩ := HC stC stM a1 hR
  have hXb := zbump_ok hX hr
  refine z_aload_n (zLC_ok (adM := adM) (stM := stM) hX) 1 dL_law_1163 rfl rfl ?_
  refine z_aload_n (zLC_ok (adM := adM) (stM := stM) hX) 0 dL_law_1164 rfl rfl ?_
  refine z_iload (zLC_ok (adM := adM) (stM := stM) hX) 4 dL_law_1165 rfl ?_
  refine z_iconst (v := 1) (zLC_ok (adM := adM) (stM := stM) hX) dL_law_1167 (by decide) ?_
  refine z_iadd (zLC_ok (adM := adM) (stM := stM) hX) dL_law_1168 ?_
  refine z_sld (L := L) (xs := xs) (zLC_ok (adM := adM) (stM := stM) hX) hs dL_law_1169 (zs_in (k := 1) rfl (by decide) ht hL) e1 ?_
  refine z_aload_n (zLC_ok (adM := adM) (stM := stM) hX) 3 dL_law_1170 rfl rfl ?_
  refine z_callW (stk := []) (stk' := [.int k]) hX hZ hW zbW_L_busAfter dL_law_1171 zm_661 rfl rfl rfl ⟨by decide, by decide⟩ ⟨rfl, rfl⟩ (Nat.le_of_ble_eq_true rfl) hr rfl ?_
  refine z_istore (zLC_ok (adM := adM) (stM := stM) hXb) [(0, .ref b0), (1, .ref (X.ad 0)), (2, .ref (adM 0)), (3, .ref (X.ad 98)), (4, .int (nI (7 * t))), (5, .int k)] dL_law_1174 (by show 5 < X.nL; rw [hnl]; decide) [1, 2, 3, 4, 5, 0] rfl ?_
  refine z_aload_n (zLC_ok (adM := adM) (stM := stM) hXb) 2 dL_law_1176 rfl rfl ?_
  refine z_aload_n (zLC_ok (adM := adM) (stM := stM) hXb) 0 dL_law_1177 rfl rfl ?_
  refine z_iload (zLC_ok (adM := adM) (stM := stM) hXb) 4 dL_law_1178 rfl ?_
  refine z_iconst (v := 1) (zLC_ok (adM := adM) (stM := stM) hXb) dL_law_1180 (by decide) ?_
  refine z_iadd (zLC_ok (adM := adM) (stM := stM) hXb) dL_law_1181 ?_
  refine z_sld (L := L) (xs := xs) (zLC_ok (adM := adM) (stM := stM) hXb) hs dL_law_1182 (zs_in (k := 1) rfl (by decide) ht hL) e1 ?_
  refine z_toM ?_
  refine z_callV (stk := []) (stk' := [.int b.1]) (zLM_ok (adM := adM) (stC := u) hXb) (c_X7_busAfter _ stM a1 b hM) zb_X7_busAfter 0 dL_law_1183 zm_1094 (by decide) shM_0 rfl rfl rfl rfl ⟨by decide, by decide⟩ ⟨rfl, rfl⟩ (Nat.le_of_ble_eq_true rfl) rfl ?_
  refine z_toC ?_
  refine z_istore (zLC_ok (adM := adM) (stM := b.2) hXb) [(0, .ref b0), (1, .ref (X.ad 0)), (2, .ref (adM 0)), (3, .ref (X.ad 98)), (4, .int (nI (7 * t))), (5, .int k), (6, .int b.1)] dL_law_1186 (by show 6 < X.nL; rw [hnl]; decide) [1, 2, 3, 4, 5, 6, 0] rfl ?_
  refine z_aload_n (zLC_ok (adM := adM) (stM := b.2) hXb) 2 dL_law_1188 rfl rfl ?_
  refine z_toM ?_
  refine z_callV (stk := []) (stk' := .int (b.2.1 0 52) :: []) (zLM_ok (adM := adM) (stC := u) hXb) (c_X7_thrown _ b.2 (b.2.1 0 52, b.2) rfl) zb_X7_thrown 0 dL_law_1189 zm_940 (by decide) shM_0 rfl rfl rfl rfl ⟨by decide, by decide⟩ ⟨rfl, rfl⟩ (Nat.le_of_ble_eq_true rfl) rfl ?_
  refine z_toC ?_
  refine z_iload (zLC_ok (adM := adM) (stM := b.2) hXb) 5 dL_law_1192 rfl ?_
  refine z_icmp_eq (zLC_ok (adM := adM) (stM := b.2) hXb) 1199 dL_law_1194 (by decide) (fun _ => ?_) (fun c => absurd hk c)
  refine z_iload (zLC_ok (adM := adM) (stM := b.2) hXb) 5 dL_law_1199 rfl ?_
  refine z_if_ne (zLC_ok (adM := adM) (stM := b.2) hXb) 1216 dL_law_1201 (by decide) (fun ck => ?_) (fun ck => ?_)
  · refine z_goto (zLC_ok (adM := adM) (stM := b.2) hXb) 1923 dL_law_1216 (by decide) ?_
    refine z_locals [0, 1, 2, 3, 4] [(0, .ref b0), (1, .ref (X.ad 0)), (2, .ref (adM 0)), (3, .ref (X.ad 98)), (4, .int (nI (7 * t)))] rfl ?_
    exact kk u b.2 hR2
  refine z_aload_n (zLC_ok (adM := adM) (stM := b.2) hXb) 3 dL_law_1204 rfl rfl ?_
  refine z_iconst (v := 0) (zLC_ok (adM := adM) (stM := b.2) hXb) dL_law_1205 (by decide) ?_
  refine z_lald (zLC_ok (adM := adM) (stM := b.2) hXb) 98 dL_law_1206 (by decide) shC_98 (show zin 0 1 by decide) ?_
  refine z_iload (zLC_ok (adM := adM) (stM := b.2) hXb) 6 dL_law_1207 rfl ?_
  refine z_i2l (zLC_ok (adM := adM) (stM := b.2) hXb) dL_law_1209 ?_
  refine z_lcmpE (zLC_ok (adM := adM) (stM := b.2) hXb) dL_law_1210 (hb ck) ?_
  refine z_if_eq (zLC_ok (adM := adM) (stM := b.2) hXb) 1216 dL_law_1211 (by decide) (fun _ => ?_) (fun c => absurd rfl c)
  refine z_goto (zLC_ok (adM := adM) (stM := b.2) hXb) 1923 dL_law_1216 (by decide) ?_
  refine z_locals [0, 1, 2, 3, 4] [(0, .ref b0), (1, .ref (X.ad 0)), (2, .ref (adM 0)), (3, .ref (X.ad 98)), (4, .int (nI (7 * t)))] rfl ?_
  exact kk u b.2 hR2
set_option maxHeartbeats 4000000 in
set_option maxRecDepth 100000 in
theorem law_place {R : zSt → zSt → Prop} (X : zCx) (hX : zOk X RL code room_1) (hr : X.cells + 1 ≤ X.R.cells ∧ X.slots + 6 ≤ X.R.slots) (hZ : zXs X.A X.s X.s.heap) {b0 L t : Nat} {xs : Nat → Int32} (hs : zScr X b0 L xs) (hnl : X.nL = 8) (ht : 7 * t + 6 < L) (hL : L ≤ 3584) {adM : Nat → Nat} (HC : zCpl_place X.l R) (stC stM : zSt) (hR : R stC stM) (kk : ∀ u uM : zSt, R u uM → zG 99 shC (zLC (zbump X) adM uM) u 1923 [(0, .ref b0), (1, .ref (X.ad 0)), (2, .ref (adM 0)), (3, .ref (X.ad 98)), (4, .int (nI (7 * t)))] []) : zG 99 shC (zLC X adM stM) stC 1219 [(0, .ref b0), (1, .ref (X.ad 0)), (2, .ref (adM 0)), (3, .ref (X.ad 98)), (4, .int (nI (7 * t)))] [] := by
  obtain ⟨a1, e1⟩ : ∃ a, a = xs (nI (7 * t) + 1).toNatClampNeg := ⟨_, rfl⟩
  obtain ⟨k, u, b, hW, hM, hk, hb, hR2⟩ := HC stC stM a1 hR
  have hXb := zbump_ok hX hr
  refine z_aload_n (zLC_ok (adM := adM) (stM := stM) hX) 1 dL_law_1219 rfl rfl ?_
  refine z_aload_n (zLC_ok (adM := adM) (stM := stM) hX) 0 dL_law_1220 rfl rfl ?_
  refine z_iload (zLC_ok (adM := adM) (stM := stM) hX) 4 dL_law_1221 rfl ?_
  refine z_iconst (v := 1) (zLC_ok (adM := adM) (stM := stM) hX) dL_law_1223 (by decide) ?_
  refine z_iadd (zLC_ok (adM := adM) (stM := stM) hX) dL_law_1224 ?_
  refine z_sld (L := L) (xs := xs) (zLC_ok (adM := adM) (stM := stM) hX) hs dL_law_1225 (zs_in (k := 1) rfl (by decide) ht hL) e1 ?_
  refine z_aload_n (zLC_ok (adM := adM) (stM := stM) hX) 3 dL_law_1226 rfl rfl ?_
  refine z_callW (stk := []) (stk' := [.int k]) hX hZ hW zbW_L_place dL_law_1227 zm_671 rfl rfl rfl ⟨by decide, by decide⟩ ⟨rfl, rfl⟩ (Nat.le_of_ble_eq_true rfl) hr rfl ?_
  refine z_istore (zLC_ok (adM := adM) (stM := stM) hXb) [(0, .ref b0), (1, .ref (X.ad 0)), (2, .ref (adM 0)), (3, .ref (X.ad 98)), (4, .int (nI (7 * t))), (5, .int k)] dL_law_1230 (by show 5 < X.nL; rw [hnl]; decide) [1, 2, 3, 4, 5, 0] rfl ?_
  refine z_aload_n (zLC_ok (adM := adM) (stM := stM) hXb) 2 dL_law_1232 rfl rfl ?_
  refine z_aload_n (zLC_ok (adM := adM) (stM := stM) hXb) 0 dL_law_1233 rfl rfl ?_
  refine z_iload (zLC_ok (adM := adM) (stM := stM) hXb) 4 dL_law_1234 rfl ?_
  refine z_iconst (v := 1) (zLC_ok (adM := adM) (stM := stM) hXb) dL_law_1236 (by decide) ?_
  refine z_iadd (zLC_ok (adM := adM) (stM := stM) hXb) dL_law_1237 ?_
  refine z_sld (L := L) (xs := xs) (zLC_ok (adM := adM) (stM := stM) hXb) hs dL_law_1238 (zs_in (k := 1) rfl (by decide) ht hL) e1 ?_
  refine z_toM ?_
  refine z_callV (stk := []) (stk' := [.int b.1]) (zLM_ok (adM := adM) (stC := u) hXb) (c_X7_place _ stM a1 b hM) zb_X7_place 0 dL_law_1239 zm_1098 (by decide) shM_0 rfl rfl rfl rfl ⟨by decide, by decide⟩ ⟨rfl, rfl⟩ (Nat.le_of_ble_eq_true rfl) rfl ?_
  refine z_toC ?_
  refine z_istore (zLC_ok (adM := adM) (stM := b.2) hXb) [(0, .ref b0), (1, .ref (X.ad 0)), (2, .ref (adM 0)), (3, .ref (X.ad 98)), (4, .int (nI (7 * t))), (5, .int k), (6, .int b.1)] dL_law_1242 (by show 6 < X.nL; rw [hnl]; decide) [1, 2, 3, 4, 5, 6, 0] rfl ?_
  refine z_aload_n (zLC_ok (adM := adM) (stM := b.2) hXb) 2 dL_law_1244 rfl rfl ?_
  refine z_toM ?_
  refine z_callV (stk := []) (stk' := .int (b.2.1 0 52) :: []) (zLM_ok (adM := adM) (stC := u) hXb) (c_X7_thrown _ b.2 (b.2.1 0 52, b.2) rfl) zb_X7_thrown 0 dL_law_1245 zm_940 (by decide) shM_0 rfl rfl rfl rfl ⟨by decide, by decide⟩ ⟨rfl, rfl⟩ (Nat.le_of_ble_eq_true rfl) rfl ?_
  refine z_toC ?_
  refine z_iload (zLC_ok (adM := adM) (stM := b.2) hXb) 5 dL_law_1248 rfl ?_
  refine z_icmp_eq (zLC_ok (adM := adM) (stM := b.2) hXb) 1255 dL_law_1250 (by decide) (fun _ => ?_) (fun c => absurd hk c)
  refine z_iload (zLC_ok (adM := adM) (stM := b.2) hXb) 5 dL_law_1255 rfl ?_
  refine z_if_ne (zLC_ok (adM := adM) (stM := b.2) hXb) 1272 dL_law_1257 (by decide) (fun ck => ?_) (fun ck => ?_)
  · refine z_goto (zLC_ok (adM := adM) (stM := b.2) hXb) 1923 dL_law_1272 (by decide) ?_
    refine z_locals [0, 1, 2, 3, 4] [(0, .ref b0), (1, .ref (X.ad 0)), (2, .ref (adM 0)), (3, .ref (X.ad 98)), (4, .int (nI (7 * t)))] rfl ?_
    exact kk u b.2 hR2
  refine z_aload_n (zLC_ok (adM := adM) (stM := b.2) hXb) 3 dL_law_1260 rfl rfl ?_
  refine z_iconst (v := 0) (zLC_ok (adM := adM) (stM := b.2) hXb) dL_law_1261 (by decide) ?_
  refine z_lald (zLC_ok (adM := adM) (stM := b.2) hXb) 98 dL_law_1262 (by decide) shC_98 (show zin 0 1 by decide) ?_
  refine z_iload (zLC_ok (adM := adM) (stM := b.2) hXb) 6 dL_law_1263 rfl ?_
  refine z_i2l (zLC_ok (adM := adM) (stM := b.2) hXb) dL_law_1265 ?_
  refine z_lcmpE (zLC_ok (adM := adM) (stM := b.2) hXb) dL_law_1266 (hb ck) ?_
  refine z_if_eq (zLC_ok (adM := adM) (stM := b.2) hXb) 1272 dL_law_1267 (by decide) (fun _ => ?_) (fun c => absurd rfl c)
  refine z_goto (zLC_ok (adM := adM) (stM := b.2) hXb) 1923 dL_law_1272 (by decide) ?_
  refine z_locals [0, 1, 2, 3, 4] [(0, .ref b0), (1, .ref (X.ad 0)), (2, .ref (adM 0)), (3, .ref (X.ad 98)), (4, .int (nI (7 * t)))] rfl ?_
  exact kk u b.2 hR2
set_option maxHeartbeats 4000000 in
set_option maxRecDepth 100000 in
theorem law_placeByLine {R : zSt → zSt → Prop} (X : zCx) (hX : zOk X RL code room_1) (hr : X.cells + 1 ≤ X.R.cells ∧ X.slots + 6 ≤ X.R.slots) (hZ : zXs X.A X.s X.s.heap) {b0 L t : Nat} {xs : Nat → Int32} (hs : zScr X b0 L xs) (hnl : X.nL = 8) (ht : 7 * t + 6 < L) (hL : L ≤ 3584) {adM : Nat → Nat} (HC : zCpl_placeByLine X.l R) (stC stM : zSt) (hR : R stC stM) (kk : ∀ u uM : zSt, R u uM → zG 99 shC (zLC (zbump X) adM uM) u 1923 [(0, .ref b0), (1, .ref (X.ad 0)), (2, .ref (adM 0)), (3, .ref (X.ad 98)), (4, .int (nI (7 * t)))] []) : zG 99 shC (zLC X adM stM) stC 1275 [(0, .ref b0), (1, .ref (X.ad 0)), (2, .ref (adM 0)), (3, .ref (X.ad 98)), (4, .int (nI (7 * t)))] [] := by
  obtain ⟨a1, e1⟩ : ∃ a, a = xs (nI (7 * t) + 1).toNatClampNeg := ⟨_, rfl⟩
  obtain ⟨a2, e2⟩ : ∃ a, a = xs (nI (7 * t) + 2).toNatClampNeg := ⟨_, rfl⟩
  obtain ⟨k, u, b, hW, hM, hk, hb, hR2⟩ := HC stC stM a1 a2 hR
  have hXb := zbump_ok hX hr
  refine z_aload_n (zLC_ok (adM := adM) (stM := stM) hX) 1 dL_law_1275 rfl rfl ?_
  refine z_aload_n (zLC_ok (adM := adM) (stM := stM) hX) 0 dL_law_1276 rfl rfl ?_
  refine z_iload (zLC_ok (adM := adM) (stM := stM) hX) 4 dL_law_1277 rfl ?_
  refine z_iconst (v := 1) (zLC_ok (adM := adM) (stM := stM) hX) dL_law_1279 (by decide) ?_
  refine z_iadd (zLC_ok (adM := adM) (stM := stM) hX) dL_law_1280 ?_
  refine z_sld (L := L) (xs := xs) (zLC_ok (adM := adM) (stM := stM) hX) hs dL_law_1281 (zs_in (k := 1) rfl (by decide) ht hL) e1 ?_
  refine z_aload_n (zLC_ok (adM := adM) (stM := stM) hX) 0 dL_law_1282 rfl rfl ?_
  refine z_iload (zLC_ok (adM := adM) (stM := stM) hX) 4 dL_law_1283 rfl ?_
  refine z_iconst (v := 2) (zLC_ok (adM := adM) (stM := stM) hX) dL_law_1285 (by decide) ?_
  refine z_iadd (zLC_ok (adM := adM) (stM := stM) hX) dL_law_1286 ?_
  refine z_sld (L := L) (xs := xs) (zLC_ok (adM := adM) (stM := stM) hX) hs dL_law_1287 (zs_in (k := 2) rfl (by decide) ht hL) e2 ?_
  refine z_aload_n (zLC_ok (adM := adM) (stM := stM) hX) 3 dL_law_1288 rfl rfl ?_
  refine z_callW (stk := []) (stk' := [.int k]) hX hZ hW zbW_L_placeByLine dL_law_1289 zm_678 rfl rfl rfl ⟨by decide, by decide⟩ ⟨rfl, rfl⟩ (Nat.le_of_ble_eq_true rfl) hr rfl ?_
  refine z_istore (zLC_ok (adM := adM) (stM := stM) hXb) [(0, .ref b0), (1, .ref (X.ad 0)), (2, .ref (adM 0)), (3, .ref (X.ad 98)), (4, .int (nI (7 * t))), (5, .int k)] dL_law_1292 (by show 5 < X.nL; rw [hnl]; decide) [1, 2, 3, 4, 5, 0] rfl ?_
  refine z_aload_n (zLC_ok (adM := adM) (stM := stM) hXb) 2 dL_law_1294 rfl rfl ?_
  refine z_aload_n (zLC_ok (adM := adM) (stM := stM) hXb) 0 dL_law_1295 rfl rfl ?_
  refine z_iload (zLC_ok (adM := adM) (stM := stM) hXb) 4 dL_law_1296 rfl ?_
  refine z_iconst (v := 1) (zLC_ok (adM := adM) (stM := stM) hXb) dL_law_1298 (by decide) ?_
  refine z_iadd (zLC_ok (adM := adM) (stM := stM) hXb) dL_law_1299 ?_
  refine z_sld (L := L) (xs := xs) (zLC_ok (adM := adM) (stM := stM) hXb) hs dL_law_1300 (zs_in (k := 1) rfl (by decide) ht hL) e1 ?_
  refine z_aload_n (zLC_ok (adM := adM) (stM := stM) hXb) 0 dL_law_1301 rfl rfl ?_
  refine z_iload (zLC_ok (adM := adM) (stM := stM) hXb) 4 dL_law_1302 rfl ?_
  refine z_iconst (v := 2) (zLC_ok (adM := adM) (stM := stM) hXb) dL_law_1304 (by decide) ?_
  refine z_iadd (zLC_ok (adM := adM) (stM := stM) hXb) dL_law_1305 ?_
  refine z_sld (L := L) (xs := xs) (zLC_ok (adM := adM) (stM := stM) hXb) hs dL_law_1306 (zs_in (k := 2) rfl (by decide) ht hL) e2 ?_
  refine z_toM ?_
  refine z_callV (stk := []) (stk' := [.int b.1]) (zLM_ok (adM := adM) (stC := u) hXb) (c_X7_placeByLine _ stM a1 a2 b hM) zb_X7_placeByLine 0 dL_law_1307 zm_1102 (by decide) shM_0 rfl rfl rfl rfl ⟨by decide, by decide⟩ ⟨rfl, rfl⟩ (Nat.le_of_ble_eq_true rfl) rfl ?_
  refine z_toC ?_
  refine z_istore (zLC_ok (adM := adM) (stM := b.2) hXb) [(0, .ref b0), (1, .ref (X.ad 0)), (2, .ref (adM 0)), (3, .ref (X.ad 98)), (4, .int (nI (7 * t))), (5, .int k), (6, .int b.1)] dL_law_1310 (by show 6 < X.nL; rw [hnl]; decide) [1, 2, 3, 4, 5, 6, 0] rfl ?_
  refine z_aload_n (zLC_ok (adM := adM) (stM := b.2) hXb) 2 dL_law_1312 rfl rfl ?_
  refine z_toM ?_
  refine z_callV (stk := []) (stk' := .int (b.2.1 0 52) :: []) (zLM_ok (adM := adM) (stC := u) hXb) (c_X7_thrown _ b.2 (b.2.1 0 52, b.2) rfl) zb_X7_thrown 0 dL_law_1313 zm_940 (by decide) shM_0 rfl rfl rfl rfl ⟨by decide, by decide⟩ ⟨rfl, rfl⟩ (Nat.le_of_ble_eq_true rfl) rfl ?_
  refine z_toC ?_
  refine z_iload (zLC_ok (adM := adM) (stM := b.2) hXb) 5 dL_law_1316 rfl ?_
  refine z_icmp_eq (zLC_ok (adM := adM) (stM := b.2) hXb) 1323 dL_law_1318 (by decide) (fun _ => ?_) (fun c => absurd hk c)
  refine z_iload (zLC_ok (adM := adM) (stM := b.2) hXb) 5 dL_law_1323 rfl ?_
  refine z_if_ne (zLC_ok (adM := adM) (stM := b.2) hXb) 1340 dL_law_1325 (by decide) (fun ck => ?_) (fun ck => ?_)
  · refine z_goto (zLC_ok (adM := adM) (stM := b.2) hXb) 1923 dL_law_1340 (by decide) ?_
    refine z_locals [0, 1, 2, 3, 4] [(0, .ref b0), (1, .ref (X.ad 0)), (2, .ref (adM 0)), (3, .ref (X.ad 98)), (4, .int (nI (7 * t)))] rfl ?_
    exact kk u b.2 hR2
  refine z_aload_n (zLC_ok (adM := adM) (stM := b.2) hXb) 3 dL_law_1328 rfl rfl ?_
  refine z_iconst (v := 0) (zLC_ok (adM := adM) (stM := b.2) hXb) dL_law_1329 (by decide) ?_
  refine z_lald (zLC_ok (adM := adM) (stM := b.2) hXb) 98 dL_law_1330 (by decide) shC_98 (show zin 0 1 by decide) ?_
  refine z_iload (zLC_ok (adM := adM) (stM := b.2) hXb) 6 dL_law_1331 rfl ?_
  refine z_i2l (zLC_ok (adM := adM) (stM := b.2) hXb) dL_law_1333 ?_
  refine z_lcmpE (zLC_ok (adM := adM) (stM := b.2) hXb) dL_law_1334 (hb ck) ?_
  refine z_if_eq (zLC_ok (adM := adM) (stM := b.2) hXb) 1340 dL_law_1335 (by decide) (fun _ => ?_) (fun c => absurd rfl c)
  refine z_goto (zLC_ok (adM := adM) (stM := b.2) hXb) 1923 dL_law_1340 (by decide) ?_
  refine z_locals [0, 1, 2, 3, 4] [(0, .ref b0), (1, .ref (X.ad 0)), (2, .ref (adM 0)), (3, .ref (X.ad 98)), (4, .int (nI (7 * t)))] rfl ?_
  exact kk u b.2 hR2
set_option maxHeartbeats 4000000 in
set_option maxRecDepth 100000 in
theorem law_fuel {R : zSt → zSt → Prop} (X : zCx) (hX : zOk X RL code room_1) (hr : X.cells + 1 ≤ X.R.cells ∧ X.slots + 6 ≤ X.R.slots) (hZ : zXs X.A X.s X.s.heap) {b0 L t : Nat} {xs : Nat → Int32} (hs : zScr X b0 L xs) (hnl : X.nL = 8) (ht : 7 * t + 6 < L) (hL : L ≤ 3584) {adM : Nat → Nat} (HC : zCpl_fuel X.l R) (stC stM : zSt) (hR : R stC stM) (kk : ∀ u uM : zSt, R u uM → zG 99 shC (zLC (zbump X) adM uM) u 1923 [(0, .ref b0), (1, .ref (X.ad 0)), (2, .ref (adM 0)), (3, .ref (X.ad 98)), (4, .int (nI (7 * t)))] []) : zG 99 shC (zLC X adM stM) stC 1343 [(0, .ref b0), (1, .ref (X.ad 0)), (2, .ref (adM 0)), (3, .ref (X.ad 98)), (4, .int (nI (7 * t)))] [] := by
  obtain ⟨a1, e1⟩ : ∃ a, a = xs (nI (7 * t) + 1).toNatClampNeg := ⟨_, rfl⟩
  obtain ⟨k, u, b, hW, hM, hk, hb, hR2⟩ := HC stC stM a1 hR
  have hXb := zbump_ok hX hr
  refine z_aload_n (zLC_ok (adM := adM) (stM := stM) hX) 1 dL_law_1343 rfl rfl ?_
  refine z_aload_n (zLC_ok (adM := adM) (stM := stM) hX) 0 dL_law_1344 rfl rfl ?_
  refine z_iload (zLC_ok (adM := adM) (stM := stM) hX) 4 dL_law_1345 rfl ?_
  refine z_iconst (v := 1) (zLC_ok (adM := adM) (stM := stM) hX) dL_law_1347 (by decide) ?_
  refine z_iadd (zLC_ok (adM := adM) (stM := stM) hX) dL_law_1348 ?_
  refine z_sld (L := L) (xs := xs) (zLC_ok (adM := adM) (stM := stM) hX) hs dL_law_1349 (zs_in (k := 1) rfl (by decide) ht hL) e1 ?_
  refine z_aload_n (zLC_ok (adM := adM) (stM := stM) hX) 3 dL_law_1350 rfl rfl ?_
  refine z_callW (stk := []) (stk' := [.int k]) hX hZ hW zbW_L_fuel dL_law_1351 zm_685 rfl rfl rfl ⟨by decide, by decide⟩ ⟨rfl, rfl⟩ (Nat.le_of_ble_eq_true rfl) hr rfl ?_
  refine z_istore (zLC_ok (adM := adM) (stM := stM) hXb) [(0, .ref b0), (1, .ref (X.ad 0)), (2, .ref (adM 0)), (3, .ref (X.ad 98)), (4, .int (nI (7 * t))), (5, .int k)] dL_law_1354 (by show 5 < X.nL; rw [hnl]; decide) [1, 2, 3, 4, 5, 0] rfl ?_
  refine z_aload_n (zLC_ok (adM := adM) (stM := stM) hXb) 2 dL_law_1356 rfl rfl ?_
  refine z_aload_n (zLC_ok (adM := adM) (stM := stM) hXb) 0 dL_law_1357 rfl rfl ?_
  refine z_iload (zLC_ok (adM := adM) (stM := stM) hXb) 4 dL_law_1358 rfl ?_
  refine z_iconst (v := 1) (zLC_ok (adM := adM) (stM := stM) hXb) dL_law_1360 (by decide) ?_
  refine z_iadd (zLC_ok (adM := adM) (stM := stM) hXb) dL_law_1361 ?_
  refine z_sld (L := L) (xs := xs) (zLC_ok (adM := adM) (stM := stM) hXb) hs dL_law_1362 (zs_in (k := 1) rfl (by decide) ht hL) e1 ?_
  refine z_toM ?_
  refine z_callV (stk := []) (stk' := [.int b.1]) (zLM_ok (adM := adM) (stC := u) hXb) (c_X7_fuel _ stM a1 b hM) zb_X7_fuel 0 dL_law_1363 zm_1106 (by decide) shM_0 rfl rfl rfl rfl ⟨by decide, by decide⟩ ⟨rfl, rfl⟩ (Nat.le_of_ble_eq_true rfl) rfl ?_
  refine z_toC ?_
  refine z_istore (zLC_ok (adM := adM) (stM := b.2) hXb) [(0, .ref b0), (1, .ref (X.ad 0)), (2, .ref (adM 0)), (3, .ref (X.ad 98)), (4, .int (nI (7 * t))), (5, .int k), (6, .int b.1)] dL_law_1366 (by show 6 < X.nL; rw [hnl]; decide) [1, 2, 3, 4, 5, 6, 0] rfl ?_
  refine z_aload_n (zLC_ok (adM := adM) (stM := b.2) hXb) 2 dL_law_1368 rfl rfl ?_
  refine z_toM ?_
  refine z_callV (stk := []) (stk' := .int (b.2.1 0 52) :: []) (zLM_ok (adM := adM) (stC := u) hXb) (c_X7_thrown _ b.2 (b.2.1 0 52, b.2) rfl) zb_X7_thrown 0 dL_law_1369 zm_940 (by decide) shM_0 rfl rfl rfl rfl ⟨by decide, by decide⟩ ⟨rfl, rfl⟩ (Nat.le_of_ble_eq_true rfl) rfl ?_
  refine z_toC ?_
  refine z_iload (zLC_ok (adM := adM) (stM := b.2) hXb) 5 dL_law_1372 rfl ?_
  refine z_icmp_eq (zLC_ok (adM := adM) (stM := b.2) hXb) 1379 dL_law_1374 (by decide) (fun _ => ?_) (fun c => absurd hk c)
  refine z_iload (zLC_ok (adM := adM) (stM := b.2) hXb) 5 dL_law_1379 rfl ?_
  refine z_if_ne (zLC_ok (adM := adM) (stM := b.2) hXb) 1396 dL_law_1381 (by decide) (fun ck => ?_) (fun ck => ?_)
  · refine z_goto (zLC_ok (adM := adM) (stM := b.2) hXb) 1923 dL_law_1396 (by decide) ?_
    refine z_locals [0, 1, 2, 3, 4] [(0, .ref b0), (1, .ref (X.ad 0)), (2, .ref (adM 0)), (3, .ref (X.ad 98)), (4, .int (nI (7 * t)))] rfl ?_
    exact kk u b.2 hR2
  refine z_aload_n (zLC_ok (adM := adM) (stM := b.2) hXb) 3 dL_law_1384 rfl rfl ?_
  refine z_iconst (v := 0) (zLC_ok (adM := adM) (stM := b.2) hXb) dL_law_1385 (by decide) ?_
  refine z_lald (zLC_ok (adM := adM) (stM := b.2) hXb) 98 dL_law_1386 (by decide) shC_98 (show zin 0 1 by decide) ?_
  refine z_iload (zLC_ok (adM := adM) (stM := b.2) hXb) 6 dL_law_1387 rfl ?_
  refine z_i2l (zLC_ok (adM := adM) (stM := b.2) hXb) dL_law_1389 ?_
  refine z_lcmpE (zLC_ok (adM := adM) (stM := b.2) hXb) dL_law_1390 (hb ck) ?_
  refine z_if_eq (zLC_ok (adM := adM) (stM := b.2) hXb) 1396 dL_law_1391 (by decide) (fun _ => ?_) (fun c => absurd rfl c)
  refine z_goto (zLC_ok (adM := adM) (stM := b.2) hXb) 1923 dL_law_1396 (by decide) ?_
  refine z_locals [0, 1, 2, 3, 4] [(0, .ref b0), (1, .ref (X.ad 0)), (2, .ref (adM 0)), (3, .ref (X.ad 98)), (4, .int (nI (7 * t)))] rfl ?_
  exact kk u b.2 hR2
set_option maxHeartbeats 4000000 in
set_option maxRecDepth 100000 in
theorem law_book {R : zSt → zSt → Prop} (X : zCx) (hX : zOk X RL code room_1) (hr : X.cells + 1 ≤ X.R.cells ∧ X.slots + 6 ≤ X.R.slots) (hZ : zXs X.A X.s X.s.heap) {b0 L t : Nat} {xs : Nat → Int32} (hs : zScr X b0 L xs) (hnl : X.nL = 8) (ht : 7 * t + 6 < L) (hL : L ≤ 3584) {adM : Nat → Nat} (HC : zCpl_book X.l R) (stC stM : zSt) (hR : R stC stM) (kk : ∀ u uM : zSt, R u uM → zG 99 shC (zLC (zbump X) adM uM) u 1923 [(0, .ref b0), (1, .ref (X.ad 0)), (2, .ref (adM 0)), (3, .ref (X.ad 98)), (4, .int (nI (7 * t)))] []) : zG 99 shC (zLC X adM stM) stC 1399 [(0, .ref b0), (1, .ref (X.ad 0)), (2, .ref (adM 0)), (3, .ref (X.ad 98)), (4, .int (nI (7 * t)))] [] := by
  obtain ⟨a1, e1⟩ : ∃ a, a = xs (nI (7 * t) + 1).toNatClampNeg := ⟨_, rfl⟩
  obtain ⟨a2, e2⟩ : ∃ a, a = xs (nI (7 * t) + 2).toNatClampNeg := ⟨_, rfl⟩
  obtain ⟨a3, e3⟩ : ∃ a, a = xs (nI (7 * t) + 3).toNatClampNeg := ⟨_, rfl⟩
  obtain ⟨a4, e4⟩ : ∃ a, a = xs (nI (7 * t) + 4).toNatClampNeg := ⟨_, rfl⟩
  obtain ⟨a5, e5⟩ : ∃ a, a = xs (nI (7 * t) + 5).toNatClampNeg := ⟨_, rfl⟩
  obtain ⟨a6, e6⟩ : ∃ a, a = xs (nI (7 * t) + 6).toNatClampNeg := ⟨_, rfl⟩
  by_cases c6 : a6 = 0
  · obtain ⟨k, u, b, hW, hM, hk, hb, hR2⟩ := HC stC stM a1 a2 a3 a4 a5 0 hR (Or.inl rfl)
    have hXb := zbump_ok hX hr
    refine z_aload_n (zLC_ok (adM := adM) (stM := stM) hX) 1 dL_law_1399 rfl rfl ?_
    refine z_aload_n (zLC_ok (adM := adM) (stM := stM) hX) 0 dL_law_1400 rfl rfl ?_
    refine z_iload (zLC_ok (adM := adM) (stM := stM) hX) 4 dL_law_1401 rfl ?_
    refine z_iconst (v := 1) (zLC_ok (adM := adM) (stM := stM) hX) dL_law_1403 (by decide) ?_
    refine z_iadd (zLC_ok (adM := adM) (stM := stM) hX) dL_law_1404 ?_
    refine z_sld (L := L) (xs := xs) (zLC_ok (adM := adM) (stM := stM) hX) hs dL_law_1405 (zs_in (k := 1) rfl (by decide) ht hL) e1 ?_
    refine z_aload_n (zLC_ok (adM := adM) (stM := stM) hX) 0 dL_law_1406 rfl rfl ?_
    refine z_iload (zLC_ok (adM := adM) (stM := stM) hX) 4 dL_law_1407 rfl ?_
    refine z_iconst (v := 2) (zLC_ok (adM := adM) (stM := stM) hX) dL_law_1409 (by decide) ?_
    refine z_iadd (zLC_ok (adM := adM) (stM := stM) hX) dL_law_1410 ?_
    refine z_sld (L := L) (xs := xs) (zLC_ok (adM := adM) (stM := stM) hX) hs dL_law_1411 (zs_in (k := 2) rfl (by decide) ht hL) e2 ?_
    refine z_aload_n (zLC_ok (adM := adM) (stM := stM) hX) 0 dL_law_1412 rfl rfl ?_
    refine z_iload (zLC_ok (adM := adM) (stM := stM) hX) 4 dL_law_1413 rfl ?_
    refine z_iconst (v := 3) (zLC_ok (adM := adM) (stM := stM) hX) dL_law_1415 (by decide) ?_
    refine z_iadd (zLC_ok (adM := adM) (stM := stM) hX) dL_law_1416 ?_
    refine z_sld (L := L) (xs := xs) (zLC_ok (adM := adM) (stM := stM) hX) hs dL_law_1417 (zs_in (k := 3) rfl (by decide) ht hL) e3 ?_
    refine z_aload_n (zLC_ok (adM := adM) (stM := stM) hX) 0 dL_law_1418 rfl rfl ?_
    refine z_iload (zLC_ok (adM := adM) (stM := stM) hX) 4 dL_law_1419 rfl ?_
    refine z_iconst (v := 4) (zLC_ok (adM := adM) (stM := stM) hX) dL_law_1421 (by decide) ?_
    refine z_iadd (zLC_ok (adM := adM) (stM := stM) hX) dL_law_1422 ?_
    refine z_sld (L := L) (xs := xs) (zLC_ok (adM := adM) (stM := stM) hX) hs dL_law_1423 (zs_in (k := 4) rfl (by decide) ht hL) e4 ?_
    refine z_aload_n (zLC_ok (adM := adM) (stM := stM) hX) 0 dL_law_1424 rfl rfl ?_
    refine z_iload (zLC_ok (adM := adM) (stM := stM) hX) 4 dL_law_1425 rfl ?_
    refine z_iconst (v := 5) (zLC_ok (adM := adM) (stM := stM) hX) dL_law_1427 (by decide) ?_
    refine z_iadd (zLC_ok (adM := adM) (stM := stM) hX) dL_law_1428 ?_
    refine z_sld (L := L) (xs := xs) (zLC_ok (adM := adM) (stM := stM) hX) hs dL_law_1429 (zs_in (k := 5) rfl (by decide) ht hL) e5 ?_
    refine z_aload_n (zLC_ok (adM := adM) (stM := stM) hX) 0 dL_law_1430 rfl rfl ?_
    refine z_iload (zLC_ok (adM := adM) (stM := stM) hX) 4 dL_law_1431 rfl ?_
    refine z_bipush (v := 6) (zLC_ok (adM := adM) (stM := stM) hX) dL_law_1433 (by decide) ?_
    refine z_iadd (zLC_ok (adM := adM) (stM := stM) hX) dL_law_1435 ?_
    refine z_sld (L := L) (xs := xs) (zLC_ok (adM := adM) (stM := stM) hX) hs dL_law_1436 (zs_in (k := 6) rfl (by decide) ht hL) e6 ?_
    refine z_if_eq (zLC_ok (adM := adM) (stM := stM) hX) 1444 dL_law_1437 (by decide) (fun _ => ?_) (fun c => absurd c6 c)
    refine z_iconst (v := 0) (zLC_ok (adM := adM) (stM := stM) hX) dL_law_1444 (by decide) ?_
    refine z_aload_n (zLC_ok (adM := adM) (stM := stM) hX) 3 dL_law_1445 rfl rfl ?_
    refine z_callW (stk := []) (stk' := [.int k]) hX hZ hW zbW_L_book dL_law_1446 zm_692 rfl rfl rfl ⟨by decide, by decide⟩ ⟨rfl, rfl⟩ (Nat.le_of_ble_eq_true rfl) hr rfl ?_
    refine z_istore (zLC_ok (adM := adM) (stM := stM) hXb) [(0, .ref b0), (1, .ref (X.ad 0)), (2, .ref (adM 0)), (3, .ref (X.ad 98)), (4, .int (nI (7 * t))), (5, .int k)] dL_law_1449 (by show 5 < X.nL; rw [hnl]; decide) [1, 2, 3, 4, 5, 0] rfl ?_
    refine z_aload_n (zLC_ok (adM := adM) (stM := stM) hXb) 2 dL_law_1451 rfl rfl ?_
    refine z_aload_n (zLC_ok (adM := adM) (stM := stM) hXb) 0 dL_law_1452 rfl rfl ?_
    refine z_iload (zLC_ok (adM := adM) (stM := stM) hXb) 4 dL_law_1453 rfl ?_
    refine z_iconst (v := 1) (zLC_ok (adM := adM) (stM := stM) hXb) dL_law_1455 (by decide) ?_
    refine z_iadd (zLC_ok (adM := adM) (stM := stM) hXb) dL_law_1456 ?_
    refine z_sld (L := L) (xs := xs) (zLC_ok (adM := adM) (stM := stM) hXb) hs dL_law_1457 (zs_in (k := 1) rfl (by decide) ht hL) e1 ?_
    refine z_aload_n (zLC_ok (adM := adM) (stM := stM) hXb) 0 dL_law_1458 rfl rfl ?_
    refine z_iload (zLC_ok (adM := adM) (stM := stM) hXb) 4 dL_law_1459 rfl ?_
    refine z_iconst (v := 2) (zLC_ok (adM := adM) (stM := stM) hXb) dL_law_1461 (by decide) ?_
    refine z_iadd (zLC_ok (adM := adM) (stM := stM) hXb) dL_law_1462 ?_
    refine z_sld (L := L) (xs := xs) (zLC_ok (adM := adM) (stM := stM) hXb) hs dL_law_1463 (zs_in (k := 2) rfl (by decide) ht hL) e2 ?_
    refine z_aload_n (zLC_ok (adM := adM) (stM := stM) hXb) 0 dL_law_1464 rfl rfl ?_
    refine z_iload (zLC_ok (adM := adM) (stM := stM) hXb) 4 dL_law_1465 rfl ?_
    refine z_iconst (v := 3) (zLC_ok (adM := adM) (stM := stM) hXb) dL_law_1467 (by decide) ?_
    refine z_iadd (zLC_ok (adM := adM) (stM := stM) hXb) dL_law_1468 ?_
    refine z_sld (L := L) (xs := xs) (zLC_ok (adM := adM) (stM := stM) hXb) hs dL_law_1469 (zs_in (k := 3) rfl (by decide) ht hL) e3 ?_
    refine z_aload_n (zLC_ok (adM := adM) (stM := stM) hXb) 0 dL_law_1470 rfl rfl ?_
    refine z_iload (zLC_ok (adM := adM) (stM := stM) hXb) 4 dL_law_1471 rfl ?_
    refine z_iconst (v := 4) (zLC_ok (adM := adM) (stM := stM) hXb) dL_law_1473 (by decide) ?_
    refine z_iadd (zLC_ok (adM := adM) (stM := stM) hXb) dL_law_1474 ?_
    refine z_sld (L := L) (xs := xs) (zLC_ok (adM := adM) (stM := stM) hXb) hs dL_law_1475 (zs_in (k := 4) rfl (by decide) ht hL) e4 ?_
    refine z_aload_n (zLC_ok (adM := adM) (stM := stM) hXb) 0 dL_law_1476 rfl rfl ?_
    refine z_iload (zLC_ok (adM := adM) (stM := stM) hXb) 4 dL_law_1477 rfl ?_
    refine z_iconst (v := 5) (zLC_ok (adM := adM) (stM := stM) hXb) dL_law_1479 (by decide) ?_
    refine z_iadd (zLC_ok (adM := adM) (stM := stM) hXb) dL_law_1480 ?_
    refine z_sld (L := L) (xs := xs) (zLC_ok (adM := adM) (stM := stM) hXb) hs dL_law_1481 (zs_in (k := 5) rfl (by decide) ht hL) e5 ?_
    refine z_aload_n (zLC_ok (adM := adM) (stM := stM) hXb) 0 dL_law_1482 rfl rfl ?_
    refine z_iload (zLC_ok (adM := adM) (stM := stM) hXb) 4 dL_law_1483 rfl ?_
    refine z_bipush (v := 6) (zLC_ok (adM := adM) (stM := stM) hXb) dL_law_1485 (by decide) ?_
    refine z_iadd (zLC_ok (adM := adM) (stM := stM) hXb) dL_law_1487 ?_
    refine z_sld (L := L) (xs := xs) (zLC_ok (adM := adM) (stM := stM) hXb) hs dL_law_1488 (zs_in (k := 6) rfl (by decide) ht hL) e6 ?_
    refine z_if_eq (zLC_ok (adM := adM) (stM := stM) hXb) 1496 dL_law_1489 (by decide) (fun _ => ?_) (fun c => absurd c6 c)
    refine z_iconst (v := 0) (zLC_ok (adM := adM) (stM := stM) hXb) dL_law_1496 (by decide) ?_
    refine z_toM ?_
    refine z_callV (stk := []) (stk' := [.int b.1]) (zLM_ok (adM := adM) (stC := u) hXb) (c_X7_book _ stM a1 a2 a3 a4 a5 0 b hM) zb_X7_book 0 dL_law_1497 zm_1110 (by decide) shM_0 rfl rfl rfl rfl ⟨by decide, by decide⟩ ⟨rfl, rfl⟩ (Nat.le_of_ble_eq_true rfl) rfl ?_
    refine z_toC ?_
    refine z_istore (zLC_ok (adM := adM) (stM := b.2) hXb) [(0, .ref b0), (1, .ref (X.ad 0)), (2, .ref (adM 0)), (3, .ref (X.ad 98)), (4, .int (nI (7 * t))), (5, .int k), (6, .int b.1)] dL_law_1500 (by show 6 < X.nL; rw [hnl]; decide) [1, 2, 3, 4, 5, 6, 0] rfl ?_
    refine z_aload_n (zLC_ok (adM := adM) (stM := b.2) hXb) 2 dL_law_1502 rfl rfl ?_
    refine z_toM ?_
    refine z_callV (stk := []) (stk' := .int (b.2.1 0 52) :: []) (zLM_ok (adM := adM) (stC := u) hXb) (c_X7_thrown _ b.2 (b.2.1 0 52, b.2) rfl) zb_X7_thrown 0 dL_law_1503 zm_940 (by decide) shM_0 rfl rfl rfl rfl ⟨by decide, by decide⟩ ⟨rfl, rfl⟩ (Nat.le_of_ble_eq_true rfl) rfl ?_
    refine z_toC ?_
    refine z_iload (zLC_ok (adM := adM) (stM := b.2) hXb) 5 dL_law_1506 rfl ?_
    refine z_icmp_eq (zLC_ok (adM := adM) (stM := b.2) hXb) 1513 dL_law_1508 (by decide) (fun _ => ?_) (fun c => absurd hk c)
    refine z_iload (zLC_ok (adM := adM) (stM := b.2) hXb) 5 dL_law_1513 rfl ?_
    refine z_if_ne (zLC_ok (adM := adM) (stM := b.2) hXb) 1530 dL_law_1515 (by decide) (fun ck => ?_) (fun ck => ?_)
    · refine z_goto (zLC_ok (adM := adM) (stM := b.2) hXb) 1923 dL_law_1530 (by decide) ?_
      refine z_locals [0, 1, 2, 3, 4] [(0, .ref b0), (1, .ref (X.ad 0)), (2, .ref (adM 0)), (3, .ref (X.ad 98)), (4, .int (nI (7 * t)))] rfl ?_
      exact kk u b.2 hR2
    refine z_aload_n (zLC_ok (adM := adM) (stM := b.2) hXb) 3 dL_law_1518 rfl rfl ?_
    refine z_iconst (v := 0) (zLC_ok (adM := adM) (stM := b.2) hXb) dL_law_1519 (by decide) ?_
    refine z_lald (zLC_ok (adM := adM) (stM := b.2) hXb) 98 dL_law_1520 (by decide) shC_98 (show zin 0 1 by decide) ?_
    refine z_iload (zLC_ok (adM := adM) (stM := b.2) hXb) 6 dL_law_1521 rfl ?_
    refine z_i2l (zLC_ok (adM := adM) (stM := b.2) hXb) dL_law_1523 ?_
    refine z_lcmpE (zLC_ok (adM := adM) (stM := b.2) hXb) dL_law_1524 (hb ck) ?_
    refine z_if_eq (zLC_ok (adM := adM) (stM := b.2) hXb) 1530 dL_law_1525 (by decide) (fun _ => ?_) (fun c => absurd rfl c)
    refine z_goto (zLC_ok (adM := adM) (stM := b.2) hXb) 1923 dL_law_1530 (by decide) ?_
    refine z_locals [0, 1, 2, 3, 4] [(0, .ref b0), (1, .ref (X.ad 0)), (2, .ref (adM 0)), (3, .ref (X.ad 98)), (4, .int (nI (7 * t)))] rfl ?_
    exact kk u b.2 hR2
  obtain ⟨k, u, b, hW, hM, hk, hb, hR2⟩ := HC stC stM a1 a2 a3 a4 a5 1 hR (Or.inr rfl)
  have hXb := zbump_ok hX hr
  refine z_aload_n (zLC_ok (adM := adM) (stM := stM) hX) 1 dL_law_1399 rfl rfl ?_
  refine z_aload_n (zLC_ok (adM := adM) (stM := stM) hX) 0 dL_law_1400 rfl rfl ?_
  refine z_iload (zLC_ok (adM := adM) (stM := stM) hX) 4 dL_law_1401 rfl ?_
  refine z_iconst (v := 1) (zLC_ok (adM := adM) (stM := stM) hX) dL_law_1403 (by decide) ?_
  refine z_iadd (zLC_ok (adM := adM) (stM := stM) hX) dL_law_1404 ?_
  refine z_sld (L := L) (xs := xs) (zLC_ok (adM := adM) (stM := stM) hX) hs dL_law_1405 (zs_in (k := 1) rfl (by decide) ht hL) e1 ?_
  refine z_aload_n (zLC_ok (adM := adM) (stM := stM) hX) 0 dL_law_1406 rfl rfl ?_
  refine z_iload (zLC_ok (adM := adM) (stM := stM) hX) 4 dL_law_1407 rfl ?_
  refine z_iconst (v := 2) (zLC_ok (adM := adM) (stM := stM) hX) dL_law_1409 (by decide) ?_
  refine z_iadd (zLC_ok (adM := adM) (stM := stM) hX) dL_law_1410 ?_
  refine z_sld (L := L) (xs := xs) (zLC_ok (adM := adM) (stM := stM) hX) hs dL_law_1411 (zs_in (k := 2) rfl (by decide) ht hL) e2 ?_
  refine z_aload_n (zLC_ok (adM := adM) (stM := stM) hX) 0 dL_law_1412 rfl rfl ?_
  refine z_iload (zLC_ok (adM := adM) (stM := stM) hX) 4 dL_law_1413 rfl ?_
  refine z_iconst (v := 3) (zLC_ok (adM := adM) (stM := stM) hX) dL_law_1415 (by decide) ?_
  refine z_iadd (zLC_ok (adM := adM) (stM := stM) hX) dL_law_1416 ?_
  refine z_sld (L := L) (xs := xs) (zLC_ok (adM := adM) (stM := stM) hX) hs dL_law_1417 (zs_in (k := 3) rfl (by decide) ht hL) e3 ?_
  refine z_aload_n (zLC_ok (adM := adM) (stM := stM) hX) 0 dL_law_1418 rfl rfl ?_
  refine z_iload (zLC_ok (adM := adM) (stM := stM) hX) 4 dL_law_1419 rfl ?_
  refine z_iconst (v := 4) (zLC_ok (adM := adM) (stM := stM) hX) dL_law_1421 (by decide) ?_
  refine z_iadd (zLC_ok (adM := adM) (stM := stM) hX) dL_law_1422 ?_
  refine z_sld (L := L) (xs := xs) (zLC_ok (adM := adM) (stM := stM) hX) hs dL_law_1423 (zs_in (k := 4) rfl (by decide) ht hL) e4 ?_
  refine z_aload_n (zLC_ok (adM := adM) (stM := stM) hX) 0 dL_law_1424 rfl rfl ?_
  refine z_iload (zLC_ok (adM := adM) (stM := stM) hX) 4 dL_law_1425 rfl ?_
  refine z_iconst (v := 5) (zLC_ok (adM := adM) (stM := stM) hX) dL_law_1427 (by decide) ?_
  refine z_iadd (zLC_ok (adM := adM) (stM := stM) hX) dL_law_1428 ?_
  refine z_sld (L := L) (xs := xs) (zLC_ok (adM := adM) (stM := stM) hX) hs dL_law_1429 (zs_in (k := 5) rfl (by decide) ht hL) e5 ?_
  refine z_aload_n (zLC_ok (adM := adM) (stM := stM) hX) 0 dL_law_1430 rfl rfl ?_
  refine z_iload (zLC_ok (adM := adM) (stM := stM) hX) 4 dL_law_1431 rfl ?_
  refine z_bipush (v := 6) (zLC_ok (adM := adM) (stM := stM) hX) dL_law_1433 (by decide) ?_
  refine z_iadd (zLC_ok (adM := adM) (stM := stM) hX) dL_law_1435 ?_
  refine z_sld (L := L) (xs := xs) (zLC_ok (adM := adM) (stM := stM) hX) hs dL_law_1436 (zs_in (k := 6) rfl (by decide) ht hL) e6 ?_
  refine z_if_eq (zLC_ok (adM := adM) (stM := stM) hX) 1444 dL_law_1437 (by decide) (fun c => absurd c c6) (fun _ => ?_)
  refine z_iconst (v := 1) (zLC_ok (adM := adM) (stM := stM) hX) dL_law_1440 (by decide) ?_
  refine z_goto (zLC_ok (adM := adM) (stM := stM) hX) 1445 dL_law_1441 (by decide) ?_
  refine z_aload_n (zLC_ok (adM := adM) (stM := stM) hX) 3 dL_law_1445 rfl rfl ?_
  refine z_callW (stk := []) (stk' := [.int k]) hX hZ hW zbW_L_book dL_law_1446 zm_692 rfl rfl rfl ⟨by decide, by decide⟩ ⟨rfl, rfl⟩ (Nat.le_of_ble_eq_true rfl) hr rfl ?_
  refine z_istore (zLC_ok (adM := adM) (stM := stM) hXb) [(0, .ref b0), (1, .ref (X.ad 0)), (2, .ref (adM 0)), (3, .ref (X.ad 98)), (4, .int (nI (7 * t))), (5, .int k)] dL_law_1449 (by show 5 < X.nL; rw [hnl]; decide) [1, 2, 3, 4, 5, 0] rfl ?_
  refine z_aload_n (zLC_ok (adM := adM) (stM := stM) hXb) 2 dL_law_1451 rfl rfl ?_
  refine z_aload_n (zLC_ok (adM := adM) (stM := stM) hXb) 0 dL_law_1452 rfl rfl ?_
  refine z_iload (zLC_ok (adM := adM) (stM := stM) hXb) 4 dL_law_1453 rfl ?_
  refine z_iconst (v := 1) (zLC_ok (adM := adM) (stM := stM) hXb) dL_law_1455 (by decide) ?_
  refine z_iadd (zLC_ok (adM := adM) (stM := stM) hXb) dL_law_1456 ?_
  refine z_sld (L := L) (xs := xs) (zLC_ok (adM := adM) (stM := stM) hXb) hs dL_law_1457 (zs_in (k := 1) rfl (by decide) ht hL) e1 ?_
  refine z_aload_n (zLC_ok (adM := adM) (stM := stM) hXb) 0 dL_law_1458 rfl rfl ?_
  refine z_iload (zLC_ok (adM := adM) (stM := stM) hXb) 4 dL_law_1459 rfl ?_
  refine z_iconst (v := 2) (zLC_ok (adM := adM) (stM := stM) hXb) dL_law_1461 (by decide) ?_
  refine z_iadd (zLC_ok (adM := adM) (stM := stM) hXb) dL_law_1462 ?_
  refine z_sld (L := L) (xs := xs) (zLC_ok (adM := adM) (stM := stM) hXb) hs dL_law_1463 (zs_in (k := 2) rfl (by decide) ht hL) e2 ?_
  refine z_aload_n (zLC_ok (adM := adM) (stM := stM) hXb) 0 dL_law_1464 rfl rfl ?_
  refine z_iload (zLC_ok (adM := adM) (stM := stM) hXb) 4 dL_law_1465 rfl ?_
  refine z_iconst (v := 3) (zLC_ok (adM := adM) (stM := stM) hXb) dL_law_1467 (by decide) ?_
  refine z_iadd (zLC_ok (adM := adM) (stM := stM) hXb) dL_law_1468 ?_
  refine z_sld (L := L) (xs := xs) (zLC_ok (adM := adM) (stM := stM) hXb) hs dL_law_1469 (zs_in (k := 3) rfl (by decide) ht hL) e3 ?_
  refine z_aload_n (zLC_ok (adM := adM) (stM := stM) hXb) 0 dL_law_1470 rfl rfl ?_
  refine z_iload (zLC_ok (adM := adM) (stM := stM) hXb) 4 dL_law_1471 rfl ?_
  refine z_iconst (v := 4) (zLC_ok (adM := adM) (stM := stM) hXb) dL_law_1473 (by decide) ?_
  refine z_iadd (zLC_ok (adM := adM) (stM := stM) hXb) dL_law_1474 ?_
  refine z_sld (L := L) (xs := xs) (zLC_ok (adM := adM) (stM := stM) hXb) hs dL_law_1475 (zs_in (k := 4) rfl (by decide) ht hL) e4 ?_
  refine z_aload_n (zLC_ok (adM := adM) (stM := stM) hXb) 0 dL_law_1476 rfl rfl ?_
  refine z_iload (zLC_ok (adM := adM) (stM := stM) hXb) 4 dL_law_1477 rfl ?_
  refine z_iconst (v := 5) (zLC_ok (adM := adM) (stM := stM) hXb) dL_law_1479 (by decide) ?_
  refine z_iadd (zLC_ok (adM := adM) (stM := stM) hXb) dL_law_1480 ?_
  refine z_sld (L := L) (xs := xs) (zLC_ok (adM := adM) (stM := stM) hXb) hs dL_law_1481 (zs_in (k := 5) rfl (by decide) ht hL) e5 ?_
  refine z_aload_n (zLC_ok (adM := adM) (stM := stM) hXb) 0 dL_law_1482 rfl rfl ?_
  refine z_iload (zLC_ok (adM := adM) (stM := stM) hXb) 4 dL_law_1483 rfl ?_
  refine z_bipush (v := 6) (zLC_ok (adM := adM) (stM := stM) hXb) dL_law_1485 (by decide) ?_
  refine z_iadd (zLC_ok (adM := adM) (stM := stM) hXb) dL_law_1487 ?_
  refine z_sld (L := L) (xs := xs) (zLC_ok (adM := adM) (stM := stM) hXb) hs dL_law_1488 (zs_in (k := 6) rfl (by decide) ht hL) e6 ?_
  refine z_if_eq (zLC_ok (adM := adM) (stM := stM) hXb) 1496 dL_law_1489 (by decide) (fun c => absurd c c6) (fun _ => ?_)
  refine z_iconst (v := 1) (zLC_ok (adM := adM) (stM := stM) hXb) dL_law_1492 (by decide) ?_
  refine z_goto (zLC_ok (adM := adM) (stM := stM) hXb) 1497 dL_law_1493 (by decide) ?_
  refine z_toM ?_
  refine z_callV (stk := []) (stk' := [.int b.1]) (zLM_ok (adM := adM) (stC := u) hXb) (c_X7_book _ stM a1 a2 a3 a4 a5 1 b hM) zb_X7_book 0 dL_law_1497 zm_1110 (by decide) shM_0 rfl rfl rfl rfl ⟨by decide, by decide⟩ ⟨rfl, rfl⟩ (Nat.le_of_ble_eq_true rfl) rfl ?_
  refine z_toC ?_
  refine z_istore (zLC_ok (adM := adM) (stM := b.2) hXb) [(0, .ref b0), (1, .ref (X.ad 0)), (2, .ref (adM 0)), (3, .ref (X.ad 98)), (4, .int (nI (7 * t))), (5, .int k), (6, .int b.1)] dL_law_1500 (by show 6 < X.nL; rw [hnl]; decide) [1, 2, 3, 4, 5, 6, 0] rfl ?_
  refine z_aload_n (zLC_ok (adM := adM) (stM := b.2) hXb) 2 dL_law_1502 rfl rfl ?_
  refine z_toM ?_
  refine z_callV (stk := []) (stk' := .int (b.2.1 0 52) :: []) (zLM_ok (adM := adM) (stC := u) hXb) (c_X7_thrown _ b.2 (b.2.1 0 52, b.2) rfl) zb_X7_thrown 0 dL_law_1503 zm_940 (by decide) shM_0 rfl rfl rfl rfl ⟨by decide, by decide⟩ ⟨rfl, rfl⟩ (Nat.le_of_ble_eq_true rfl) rfl ?_
  refine z_toC ?_
  refine z_iload (zLC_ok (adM := adM) (stM := b.2) hXb) 5 dL_law_1506 rfl ?_
  refine z_icmp_eq (zLC_ok (adM := adM) (stM := b.2) hXb) 1513 dL_law_1508 (by decide) (fun _ => ?_) (fun c => absurd hk c)
  refine z_iload (zLC_ok (adM := adM) (stM := b.2) hXb) 5 dL_law_1513 rfl ?_
  refine z_if_ne (zLC_ok (adM := adM) (stM := b.2) hXb) 1530 dL_law_1515 (by decide) (fun ck => ?_) (fun ck => ?_)
  · refine z_goto (zLC_ok (adM := adM) (stM := b.2) hXb) 1923 dL_law_1530 (by decide) ?_
    refine z_locals [0, 1, 2, 3, 4] [(0, .ref b0), (1, .ref (X.ad 0)), (2, .ref (adM 0)), (3, .ref (X.ad 98)), (4, .int (nI (7 * t)))] rfl ?_
    exact kk u b.2 hR2
  refine z_aload_n (zLC_ok (adM := adM) (stM := b.2) hXb) 3 dL_law_1518 rfl rfl ?_
  refine z_iconst (v := 0) (zLC_ok (adM := adM) (stM := b.2) hXb) dL_law_1519 (by decide) ?_
  refine z_lald (zLC_ok (adM := adM) (stM := b.2) hXb) 98 dL_law_1520 (by decide) shC_98 (show zin 0 1 by decide) ?_
  refine z_iload (zLC_ok (adM := adM) (stM := b.2) hXb) 6 dL_law_1521 rfl ?_
  refine z_i2l (zLC_ok (adM := adM) (stM := b.2) hXb) dL_law_1523 ?_
  refine z_lcmpE (zLC_ok (adM := adM) (stM := b.2) hXb) dL_law_1524 (hb ck) ?_
  refine z_if_eq (zLC_ok (adM := adM) (stM := b.2) hXb) 1530 dL_law_1525 (by decide) (fun _ => ?_) (fun c => absurd rfl c)
  refine z_goto (zLC_ok (adM := adM) (stM := b.2) hXb) 1923 dL_law_1530 (by decide) ?_
  refine z_locals [0, 1, 2, 3, 4] [(0, .ref b0), (1, .ref (X.ad 0)), (2, .ref (adM 0)), (3, .ref (X.ad 98)), (4, .int (nI (7 * t)))] rfl ?_
  exact kk u b.2 hR2
set_option maxHeartbeats 4000000 in
set_option maxRecDepth 100000 in
theorem law_sailingOf {R : zSt → zSt → Prop} (X : zCx) (hX : zOk X RL code room_1) (hr : X.cells + 1 ≤ X.R.cells ∧ X.slots + 6 ≤ X.R.slots) (hZ : zXs X.A X.s X.s.heap) {b0 L t : Nat} {xs : Nat → Int32} (hs : zScr X b0 L xs) (hnl : X.nL = 8) (ht : 7 * t + 6 < L) (hL : L ≤ 3584) {adM : Nat → Nat} (HC : zCpl_sailingOf X.l R) (stC stM : zSt) (hR : R stC stM) (kk : ∀ u uM : zSt, R u uM → zG 99 shC (zLC (zbump X) adM uM) u 1923 [(0, .ref b0), (1, .ref (X.ad 0)), (2, .ref (adM 0)), (3, .ref (X.ad 98)), (4, .int (nI (7 * t)))] []) : zG 99 shC (zLC X adM stM) stC 1533 [(0, .ref b0), (1, .ref (X.ad 0)), (2, .ref (adM 0)), (3, .ref (X.ad 98)), (4, .int (nI (7 * t)))] [] := by
  obtain ⟨a1, e1⟩ : ∃ a, a = xs (nI (7 * t) + 1).toNatClampNeg := ⟨_, rfl⟩
  obtain ⟨k, u, b, hW, hM, hk, hb, hR2⟩ := HC stC stM a1 hR
  have hXb := zbump_ok hX hr
  refine z_aload_n (zLC_ok (adM := adM) (stM := stM) hX) 1 dL_law_1533 rfl rfl ?_
  refine z_aload_n (zLC_ok (adM := adM) (stM := stM) hX) 0 dL_law_1534 rfl rfl ?_
  refine z_iload (zLC_ok (adM := adM) (stM := stM) hX) 4 dL_law_1535 rfl ?_
  refine z_iconst (v := 1) (zLC_ok (adM := adM) (stM := stM) hX) dL_law_1537 (by decide) ?_
  refine z_iadd (zLC_ok (adM := adM) (stM := stM) hX) dL_law_1538 ?_
  refine z_sld (L := L) (xs := xs) (zLC_ok (adM := adM) (stM := stM) hX) hs dL_law_1539 (zs_in (k := 1) rfl (by decide) ht hL) e1 ?_
  refine z_aload_n (zLC_ok (adM := adM) (stM := stM) hX) 3 dL_law_1540 rfl rfl ?_
  refine z_callW (stk := []) (stk' := [.int k]) hX hZ hW zbW_L_sailingOf dL_law_1541 zm_709 rfl rfl rfl ⟨by decide, by decide⟩ ⟨rfl, rfl⟩ (Nat.le_of_ble_eq_true rfl) hr rfl ?_
  refine z_istore (zLC_ok (adM := adM) (stM := stM) hXb) [(0, .ref b0), (1, .ref (X.ad 0)), (2, .ref (adM 0)), (3, .ref (X.ad 98)), (4, .int (nI (7 * t))), (5, .int k)] dL_law_1544 (by show 5 < X.nL; rw [hnl]; decide) [1, 2, 3, 4, 5, 0] rfl ?_
  refine z_aload_n (zLC_ok (adM := adM) (stM := stM) hXb) 2 dL_law_1546 rfl rfl ?_
  refine z_aload_n (zLC_ok (adM := adM) (stM := stM) hXb) 0 dL_law_1547 rfl rfl ?_
  refine z_iload (zLC_ok (adM := adM) (stM := stM) hXb) 4 dL_law_1548 rfl ?_
  refine z_iconst (v := 1) (zLC_ok (adM := adM) (stM := stM) hXb) dL_law_1550 (by decide) ?_
  refine z_iadd (zLC_ok (adM := adM) (stM := stM) hXb) dL_law_1551 ?_
  refine z_sld (L := L) (xs := xs) (zLC_ok (adM := adM) (stM := stM) hXb) hs dL_law_1552 (zs_in (k := 1) rfl (by decide) ht hL) e1 ?_
  refine z_toM ?_
  refine z_callV (stk := []) (stk' := [.int b.1]) (zLM_ok (adM := adM) (stC := u) hXb) (c_X7_sailingOf _ stM a1 b hM) zb_X7_sailingOf 0 dL_law_1553 zm_1114 (by decide) shM_0 rfl rfl rfl rfl ⟨by decide, by decide⟩ ⟨rfl, rfl⟩ (Nat.le_of_ble_eq_true rfl) rfl ?_
  refine z_toC ?_
  refine z_istore (zLC_ok (adM := adM) (stM := b.2) hXb) [(0, .ref b0), (1, .ref (X.ad 0)), (2, .ref (adM 0)), (3, .ref (X.ad 98)), (4, .int (nI (7 * t))), (5, .int k), (6, .int b.1)] dL_law_1556 (by show 6 < X.nL; rw [hnl]; decide) [1, 2, 3, 4, 5, 6, 0] rfl ?_
  refine z_aload_n (zLC_ok (adM := adM) (stM := b.2) hXb) 2 dL_law_1558 rfl rfl ?_
  refine z_toM ?_
  refine z_callV (stk := []) (stk' := .int (b.2.1 0 52) :: []) (zLM_ok (adM := adM) (stC := u) hXb) (c_X7_thrown _ b.2 (b.2.1 0 52, b.2) rfl) zb_X7_thrown 0 dL_law_1559 zm_940 (by decide) shM_0 rfl rfl rfl rfl ⟨by decide, by decide⟩ ⟨rfl, rfl⟩ (Nat.le_of_ble_eq_true rfl) rfl ?_
  refine z_toC ?_
  refine z_iload (zLC_ok (adM := adM) (stM := b.2) hXb) 5 dL_law_1562 rfl ?_
  refine z_icmp_eq (zLC_ok (adM := adM) (stM := b.2) hXb) 1569 dL_law_1564 (by decide) (fun _ => ?_) (fun c => absurd hk c)
  refine z_iload (zLC_ok (adM := adM) (stM := b.2) hXb) 5 dL_law_1569 rfl ?_
  refine z_if_ne (zLC_ok (adM := adM) (stM := b.2) hXb) 1586 dL_law_1571 (by decide) (fun ck => ?_) (fun ck => ?_)
  · refine z_goto (zLC_ok (adM := adM) (stM := b.2) hXb) 1923 dL_law_1586 (by decide) ?_
    refine z_locals [0, 1, 2, 3, 4] [(0, .ref b0), (1, .ref (X.ad 0)), (2, .ref (adM 0)), (3, .ref (X.ad 98)), (4, .int (nI (7 * t)))] rfl ?_
    exact kk u b.2 hR2
  refine z_aload_n (zLC_ok (adM := adM) (stM := b.2) hXb) 3 dL_law_1574 rfl rfl ?_
  refine z_iconst (v := 0) (zLC_ok (adM := adM) (stM := b.2) hXb) dL_law_1575 (by decide) ?_
  refine z_lald (zLC_ok (adM := adM) (stM := b.2) hXb) 98 dL_law_1576 (by decide) shC_98 (show zin 0 1 by decide) ?_
  refine z_iload (zLC_ok (adM := adM) (stM := b.2) hXb) 6 dL_law_1577 rfl ?_
  refine z_i2l (zLC_ok (adM := adM) (stM := b.2) hXb) dL_law_1579 ?_
  refine z_lcmpE (zLC_ok (adM := adM) (stM := b.2) hXb) dL_law_1580 (hb ck) ?_
  refine z_if_eq (zLC_ok (adM := adM) (stM := b.2) hXb) 1586 dL_law_1581 (by decide) (fun _ => ?_) (fun c => absurd rfl c)
  refine z_goto (zLC_ok (adM := adM) (stM := b.2) hXb) 1923 dL_law_1586 (by decide) ?_
  refine z_locals [0, 1, 2, 3, 4] [(0, .ref b0), (1, .ref (X.ad 0)), (2, .ref (adM 0)), (3, .ref (X.ad 98)), (4, .int (nI (7 * t)))] rfl ?_
  exact kk u b.2 hR2
set_option maxHeartbeats 4000000 in
set_option maxRecDepth 100000 in
theorem law_lane {R : zSt → zSt → Prop} (X : zCx) (hX : zOk X RL code room_1) (hr : X.cells + 1 ≤ X.R.cells ∧ X.slots + 6 ≤ X.R.slots) (hZ : zXs X.A X.s X.s.heap) {b0 L t : Nat} {xs : Nat → Int32} (hs : zScr X b0 L xs) (hnl : X.nL = 8) (ht : 7 * t + 6 < L) (hL : L ≤ 3584) {adM : Nat → Nat} (HC : zCpl_lane X.l R) (stC stM : zSt) (hR : R stC stM) (kk : ∀ u uM : zSt, R u uM → zG 99 shC (zLC (zbump X) adM uM) u 1923 [(0, .ref b0), (1, .ref (X.ad 0)), (2, .ref (adM 0)), (3, .ref (X.ad 98)), (4, .int (nI (7 * t)))] []) : zG 99 shC (zLC X adM stM) stC 1589 [(0, .ref b0), (1, .ref (X.ad 0)), (2, .ref (adM 0)), (3, .ref (X.ad 98)), (4, .int (nI (7 * t)))] [] := by
  obtain ⟨a1, e1⟩ : ∃ a, a = xs (nI (7 * t) + 1).toNatClampNeg := ⟨_, rfl⟩
  obtain ⟨k, u, b, hW, hM, hk, hb, hR2⟩ := HC stC stM a1 hR
  have hXb := zbump_ok hX hr
  refine z_aload_n (zLC_ok (adM := adM) (stM := stM) hX) 1 dL_law_1589 rfl rfl ?_
  refine z_aload_n (zLC_ok (adM := adM) (stM := stM) hX) 0 dL_law_1590 rfl rfl ?_
  refine z_iload (zLC_ok (adM := adM) (stM := stM) hX) 4 dL_law_1591 rfl ?_
  refine z_iconst (v := 1) (zLC_ok (adM := adM) (stM := stM) hX) dL_law_1593 (by decide) ?_
  refine z_iadd (zLC_ok (adM := adM) (stM := stM) hX) dL_law_1594 ?_
  refine z_sld (L := L) (xs := xs) (zLC_ok (adM := adM) (stM := stM) hX) hs dL_law_1595 (zs_in (k := 1) rfl (by decide) ht hL) e1 ?_
  refine z_aload_n (zLC_ok (adM := adM) (stM := stM) hX) 3 dL_law_1596 rfl rfl ?_
  refine z_callW (stk := []) (stk' := [.int k]) hX hZ hW zbW_L_lane dL_law_1597 zm_716 rfl rfl rfl ⟨by decide, by decide⟩ ⟨rfl, rfl⟩ (Nat.le_of_ble_eq_true rfl) hr rfl ?_
  refine z_istore (zLC_ok (adM := adM) (stM := stM) hXb) [(0, .ref b0), (1, .ref (X.ad 0)), (2, .ref (adM 0)), (3, .ref (X.ad 98)), (4, .int (nI (7 * t))), (5, .int k)] dL_law_1600 (by show 5 < X.nL; rw [hnl]; decide) [1, 2, 3, 4, 5, 0] rfl ?_
  refine z_aload_n (zLC_ok (adM := adM) (stM := stM) hXb) 2 dL_law_1602 rfl rfl ?_
  refine z_aload_n (zLC_ok (adM := adM) (stM := stM) hXb) 0 dL_law_1603 rfl rfl ?_
  refine z_iload (zLC_ok (adM := adM) (stM := stM) hXb) 4 dL_law_1604 rfl ?_
  refine z_iconst (v := 1) (zLC_ok (adM := adM) (stM := stM) hXb) dL_law_1606 (by decide) ?_
  refine z_iadd (zLC_ok (adM := adM) (stM := stM) hXb) dL_law_1607 ?_
  refine z_sld (L := L) (xs := xs) (zLC_ok (adM := adM) (stM := stM) hXb) hs dL_law_1608 (zs_in (k := 1) rfl (by decide) ht hL) e1 ?_
  refine z_toM ?_
  refine z_callV (stk := []) (stk' := [.int b.1]) (zLM_ok (adM := adM) (stC := u) hXb) (c_X7_lane _ stM a1 b hM) zb_X7_lane 0 dL_law_1609 zm_1122 (by decide) shM_0 rfl rfl rfl rfl ⟨by decide, by decide⟩ ⟨rfl, rfl⟩ (Nat.le_of_ble_eq_true rfl) rfl ?_
  refine z_toC ?_
  refine z_istore (zLC_ok (adM := adM) (stM := b.2) hXb) [(0, .ref b0), (1, .ref (X.ad 0)), (2, .ref (adM 0)), (3, .ref (X.ad 98)), (4, .int (nI (7 * t))), (5, .int k), (6, .int b.1)] dL_law_1612 (by show 6 < X.nL; rw [hnl]; decide) [1, 2, 3, 4, 5, 6, 0] rfl ?_
  refine z_aload_n (zLC_ok (adM := adM) (stM := b.2) hXb) 2 dL_law_1614 rfl rfl ?_
  refine z_toM ?_
  refine z_callV (stk := []) (stk' := .int (b.2.1 0 52) :: []) (zLM_ok (adM := adM) (stC := u) hXb) (c_X7_thrown _ b.2 (b.2.1 0 52, b.2) rfl) zb_X7_thrown 0 dL_law_1615 zm_940 (by decide) shM_0 rfl rfl rfl rfl ⟨by decide, by decide⟩ ⟨rfl, rfl⟩ (Nat.le_of_ble_eq_true rfl) rfl ?_
  refine z_toC ?_
  refine z_iload (zLC_ok (adM := adM) (stM := b.2) hXb) 5 dL_law_1618 rfl ?_
  refine z_icmp_eq (zLC_ok (adM := adM) (stM := b.2) hXb) 1625 dL_law_1620 (by decide) (fun _ => ?_) (fun c => absurd hk c)
  refine z_iload (zLC_ok (adM := adM) (stM := b.2) hXb) 5 dL_law_1625 rfl ?_
  refine z_if_ne (zLC_ok (adM := adM) (stM := b.2) hXb) 1642 dL_law_1627 (by decide) (fun ck => ?_) (fun ck => ?_)
  · refine z_goto (zLC_ok (adM := adM) (stM := b.2) hXb) 1923 dL_law_1642 (by decide) ?_
    refine z_locals [0, 1, 2, 3, 4] [(0, .ref b0), (1, .ref (X.ad 0)), (2, .ref (adM 0)), (3, .ref (X.ad 98)), (4, .int (nI (7 * t)))] rfl ?_
    exact kk u b.2 hR2
  refine z_aload_n (zLC_ok (adM := adM) (stM := b.2) hXb) 3 dL_law_1630 rfl rfl ?_
  refine z_iconst (v := 0) (zLC_ok (adM := adM) (stM := b.2) hXb) dL_law_1631 (by decide) ?_
  refine z_lald (zLC_ok (adM := adM) (stM := b.2) hXb) 98 dL_law_1632 (by decide) shC_98 (show zin 0 1 by decide) ?_
  refine z_iload (zLC_ok (adM := adM) (stM := b.2) hXb) 6 dL_law_1633 rfl ?_
  refine z_i2l (zLC_ok (adM := adM) (stM := b.2) hXb) dL_law_1635 ?_
  refine z_lcmpE (zLC_ok (adM := adM) (stM := b.2) hXb) dL_law_1636 (hb ck) ?_
  refine z_if_eq (zLC_ok (adM := adM) (stM := b.2) hXb) 1642 dL_law_1637 (by decide) (fun _ => ?_) (fun c => absurd rfl c)
  refine z_goto (zLC_ok (adM := adM) (stM := b.2) hXb) 1923 dL_law_1642 (by decide) ?_
  refine z_locals [0, 1, 2, 3, 4] [(0, .ref b0), (1, .ref (X.ad 0)), (2, .ref (adM 0)), (3, .ref (X.ad 98)), (4, .int (nI (7 * t)))] rfl ?_
  exact kk u b.2 hR2
set_option maxHeartbeats 4000000 in
set_option maxRecDepth 100000 in
theorem law_paid {R : zSt → zSt → Prop} (X : zCx) (hX : zOk X RL code room_1) (hr : X.cells + 1 ≤ X.R.cells ∧ X.slots + 6 ≤ X.R.slots) (hZ : zXs X.A X.s X.s.heap) {b0 L t : Nat} {xs : Nat → Int32} (hs : zScr X b0 L xs) (hnl : X.nL = 8) (ht : 7 * t + 6 < L) (hL : L ≤ 3584) {adM : Nat → Nat} (HC : zCpl_paid X.l R) (stC stM : zSt) (hR : R stC stM) (kk : ∀ u uM : zSt, R u uM → zG 99 shC (zLC (zbump X) adM uM) u 1923 [(0, .ref b0), (1, .ref (X.ad 0)), (2, .ref (adM 0)), (3, .ref (X.ad 98)), (4, .int (nI (7 * t)))] []) : zG 99 shC (zLC X adM stM) stC 1645 [(0, .ref b0), (1, .ref (X.ad 0)), (2, .ref (adM 0)), (3, .ref (X.ad 98)), (4, .int (nI (7 * t)))] [] := by
  obtain ⟨a1, e1⟩ : ∃ a, a = xs (nI (7 * t) + 1).toNatClampNeg := ⟨_, rfl⟩
  obtain ⟨k, u, b, hW, hM, hk, hb, hR2⟩ := HC stC stM a1 hR
  have hXb := zbump_ok hX hr
  refine z_aload_n (zLC_ok (adM := adM) (stM := stM) hX) 1 dL_law_1645 rfl rfl ?_
  refine z_aload_n (zLC_ok (adM := adM) (stM := stM) hX) 0 dL_law_1646 rfl rfl ?_
  refine z_iload (zLC_ok (adM := adM) (stM := stM) hX) 4 dL_law_1647 rfl ?_
  refine z_iconst (v := 1) (zLC_ok (adM := adM) (stM := stM) hX) dL_law_1649 (by decide) ?_
  refine z_iadd (zLC_ok (adM := adM) (stM := stM) hX) dL_law_1650 ?_
  refine z_sld (L := L) (xs := xs) (zLC_ok (adM := adM) (stM := stM) hX) hs dL_law_1651 (zs_in (k := 1) rfl (by decide) ht hL) e1 ?_
  refine z_aload_n (zLC_ok (adM := adM) (stM := stM) hX) 3 dL_law_1652 rfl rfl ?_
  refine z_callW (stk := []) (stk' := [.int k]) hX hZ hW zbW_L_paid dL_law_1653 zm_723 rfl rfl rfl ⟨by decide, by decide⟩ ⟨rfl, rfl⟩ (Nat.le_of_ble_eq_true rfl) hr rfl ?_
  refine z_istore (zLC_ok (adM := adM) (stM := stM) hXb) [(0, .ref b0), (1, .ref (X.ad 0)), (2, .ref (adM 0)), (3, .ref (X.ad 98)), (4, .int (nI (7 * t))), (5, .int k)] dL_law_1656 (by show 5 < X.nL; rw [hnl]; decide) [1, 2, 3, 4, 5, 0] rfl ?_
  refine z_aload_n (zLC_ok (adM := adM) (stM := stM) hXb) 2 dL_law_1658 rfl rfl ?_
  refine z_aload_n (zLC_ok (adM := adM) (stM := stM) hXb) 0 dL_law_1659 rfl rfl ?_
  refine z_iload (zLC_ok (adM := adM) (stM := stM) hXb) 4 dL_law_1660 rfl ?_
  refine z_iconst (v := 1) (zLC_ok (adM := adM) (stM := stM) hXb) dL_law_1662 (by decide) ?_
  refine z_iadd (zLC_ok (adM := adM) (stM := stM) hXb) dL_law_1663 ?_
  refine z_sld (L := L) (xs := xs) (zLC_ok (adM := adM) (stM := stM) hXb) hs dL_law_1664 (zs_in (k := 1) rfl (by decide) ht hL) e1 ?_
  refine z_toM ?_
  refine z_callV (stk := []) (stk' := [.int b.1]) (zLM_ok (adM := adM) (stC := u) hXb) (c_X7_paid _ stM a1 b hM) zb_X7_paid 0 dL_law_1665 zm_1126 (by decide) shM_0 rfl rfl rfl rfl ⟨by decide, by decide⟩ ⟨rfl, rfl⟩ (Nat.le_of_ble_eq_true rfl) rfl ?_
  refine z_toC ?_
  refine z_istore (zLC_ok (adM := adM) (stM := b.2) hXb) [(0, .ref b0), (1, .ref (X.ad 0)), (2, .ref (adM 0)), (3, .ref (X.ad 98)), (4, .int (nI (7 * t))), (5, .int k), (6, .int b.1)] dL_law_1668 (by show 6 < X.nL; rw [hnl]; decide) [1, 2, 3, 4, 5, 6, 0] rfl ?_
  refine z_aload_n (zLC_ok (adM := adM) (stM := b.2) hXb) 2 dL_law_1670 rfl rfl ?_
  refine z_toM ?_
  refine z_callV (stk := []) (stk' := .int (b.2.1 0 52) :: []) (zLM_ok (adM := adM) (stC := u) hXb) (c_X7_thrown _ b.2 (b.2.1 0 52, b.2) rfl) zb_X7_thrown 0 dL_law_1671 zm_940 (by decide) shM_0 rfl rfl rfl rfl ⟨by decide, by decide⟩ ⟨rfl, rfl⟩ (Nat.le_of_ble_eq_true rfl) rfl ?_
  refine z_toC ?_
  refine z_iload (zLC_ok (adM := adM) (stM := b.2) hXb) 5 dL_law_1674 rfl ?_
  refine z_icmp_eq (zLC_ok (adM := adM) (stM := b.2) hXb) 1681 dL_law_1676 (by decide) (fun _ => ?_) (fun c => absurd hk c)
  refine z_iload (zLC_ok (adM := adM) (stM := b.2) hXb) 5 dL_law_1681 rfl ?_
  refine z_if_ne (zLC_ok (adM := adM) (stM := b.2) hXb) 1698 dL_law_1683 (by decide) (fun ck => ?_) (fun ck => ?_)
  · refine z_goto (zLC_ok (adM := adM) (stM := b.2) hXb) 1923 dL_law_1698 (by decide) ?_
    refine z_locals [0, 1, 2, 3, 4] [(0, .ref b0), (1, .ref (X.ad 0)), (2, .ref (adM 0)), (3, .ref (X.ad 98)), (4, .int (nI (7 * t)))] rfl ?_
    exact kk u b.2 hR2
  refine z_aload_n (zLC_ok (adM := adM) (stM := b.2) hXb) 3 dL_law_1686 rfl rfl ?_
  refine z_iconst (v := 0) (zLC_ok (adM := adM) (stM := b.2) hXb) dL_law_1687 (by decide) ?_
  refine z_lald (zLC_ok (adM := adM) (stM := b.2) hXb) 98 dL_law_1688 (by decide) shC_98 (show zin 0 1 by decide) ?_
  refine z_iload (zLC_ok (adM := adM) (stM := b.2) hXb) 6 dL_law_1689 rfl ?_
  refine z_i2l (zLC_ok (adM := adM) (stM := b.2) hXb) dL_law_1691 ?_
  refine z_lcmpE (zLC_ok (adM := adM) (stM := b.2) hXb) dL_law_1692 (hb ck) ?_
  refine z_if_eq (zLC_ok (adM := adM) (stM := b.2) hXb) 1698 dL_law_1693 (by decide) (fun _ => ?_) (fun c => absurd rfl c)
  refine z_goto (zLC_ok (adM := adM) (stM := b.2) hXb) 1923 dL_law_1698 (by decide) ?_
  refine z_locals [0, 1, 2, 3, 4] [(0, .ref b0), (1, .ref (X.ad 0)), (2, .ref (adM 0)), (3, .ref (X.ad 98)), (4, .int (nI (7 * t)))] rfl ?_
  exact kk u b.2 hR2
set_option maxHeartbeats 4000000 in
set_option maxRecDepth 100000 in
theorem law_taken {R : zSt → zSt → Prop} (X : zCx) (hX : zOk X RL code room_1) (hr : X.cells + 1 ≤ X.R.cells ∧ X.slots + 6 ≤ X.R.slots) (hZ : zXs X.A X.s X.s.heap) {b0 L t : Nat} {xs : Nat → Int32} (hs : zScr X b0 L xs) (hnl : X.nL = 8) (ht : 7 * t + 6 < L) (hL : L ≤ 3584) {adM : Nat → Nat} (HC : zCpl_taken X.l R) (stC stM : zSt) (hR : R stC stM) (kk : ∀ u uM : zSt, R u uM → zG 99 shC (zLC (zbump X) adM uM) u 1923 [(0, .ref b0), (1, .ref (X.ad 0)), (2, .ref (adM 0)), (3, .ref (X.ad 98)), (4, .int (nI (7 * t)))] []) : zG 99 shC (zLC X adM stM) stC 1701 [(0, .ref b0), (1, .ref (X.ad 0)), (2, .ref (adM 0)), (3, .ref (X.ad 98)), (4, .int (nI (7 * t)))] [] := by
  obtain ⟨a1, e1⟩ : ∃ a, a = xs (nI (7 * t) + 1).toNatClampNeg := ⟨_, rfl⟩
  obtain ⟨k, u, b, hW, hM, hk, hb, hR2⟩ := HC stC stM a1 hR
  have hXb := zbump_ok hX hr
  refine z_aload_n (zLC_ok (adM := adM) (stM := stM) hX) 1 dL_law_1701 rfl rfl ?_
  refine z_aload_n (zLC_ok (adM := adM) (stM := stM) hX) 0 dL_law_1702 rfl rfl ?_
  refine z_iload (zLC_ok (adM := adM) (stM := stM) hX) 4 dL_law_1703 rfl ?_
  refine z_iconst (v := 1) (zLC_ok (adM := adM) (stM := stM) hX) dL_law_1705 (by decide) ?_
  refine z_iadd (zLC_ok (adM := adM) (stM := stM) hX) dL_law_1706 ?_
  refine z_sld (L := L) (xs := xs) (zLC_ok (adM := adM) (stM := stM) hX) hs dL_law_1707 (zs_in (k := 1) rfl (by decide) ht hL) e1 ?_
  refine z_aload_n (zLC_ok (adM := adM) (stM := stM) hX) 3 dL_law_1708 rfl rfl ?_
  refine z_callW (stk := []) (stk' := [.int k]) hX hZ hW zbW_L_taken dL_law_1709 zm_730 rfl rfl rfl ⟨by decide, by decide⟩ ⟨rfl, rfl⟩ (Nat.le_of_ble_eq_true rfl) hr rfl ?_
  refine z_istore (zLC_ok (adM := adM) (stM := stM) hXb) [(0, .ref b0), (1, .ref (X.ad 0)), (2, .ref (adM 0)), (3, .ref (X.ad 98)), (4, .int (nI (7 * t))), (5, .int k)] dL_law_1712 (by show 5 < X.nL; rw [hnl]; decide) [1, 2, 3, 4, 5, 0] rfl ?_
  refine z_aload_n (zLC_ok (adM := adM) (stM := stM) hXb) 2 dL_law_1714 rfl rfl ?_
  refine z_aload_n (zLC_ok (adM := adM) (stM := stM) hXb) 0 dL_law_1715 rfl rfl ?_
  refine z_iload (zLC_ok (adM := adM) (stM := stM) hXb) 4 dL_law_1716 rfl ?_
  refine z_iconst (v := 1) (zLC_ok (adM := adM) (stM := stM) hXb) dL_law_1718 (by decide) ?_
  refine z_iadd (zLC_ok (adM := adM) (stM := stM) hXb) dL_law_1719 ?_
  refine z_sld (L := L) (xs := xs) (zLC_ok (adM := adM) (stM := stM) hXb) hs dL_law_1720 (zs_in (k := 1) rfl (by decide) ht hL) e1 ?_
  refine z_toM ?_
  refine z_callV (stk := []) (stk' := [.int b.1]) (zLM_ok (adM := adM) (stC := u) hXb) (c_X7_taken _ stM a1 b hM) zb_X7_taken 0 dL_law_1721 zm_1130 (by decide) shM_0 rfl rfl rfl rfl ⟨by decide, by decide⟩ ⟨rfl, rfl⟩ (Nat.le_of_ble_eq_true rfl) rfl ?_
  refine z_toC ?_
  refine z_istore (zLC_ok (adM := adM) (stM := b.2) hXb) [(0, .ref b0), (1, .ref (X.ad 0)), (2, .ref (adM 0)), (3, .ref (X.ad 98)), (4, .int (nI (7 * t))), (5, .int k), (6, .int b.1)] dL_law_1724 (by show 6 < X.nL; rw [hnl]; decide) [1, 2, 3, 4, 5, 6, 0] rfl ?_
  refine z_aload_n (zLC_ok (adM := adM) (stM := b.2) hXb) 2 dL_law_1726 rfl rfl ?_
  refine z_toM ?_
  refine z_callV (stk := []) (stk' := .int (b.2.1 0 52) :: []) (zLM_ok (adM := adM) (stC := u) hXb) (c_X7_thrown _ b.2 (b.2.1 0 52, b.2) rfl) zb_X7_thrown 0 dL_law_1727 zm_940 (by decide) shM_0 rfl rfl rfl rfl ⟨by decide, by decide⟩ ⟨rfl, rfl⟩ (Nat.le_of_ble_eq_true rfl) rfl ?_
  refine z_toC ?_
  refine z_iload (zLC_ok (adM := adM) (stM := b.2) hXb) 5 dL_law_1730 rfl ?_
  refine z_icmp_eq (zLC_ok (adM := adM) (stM := b.2) hXb) 1737 dL_law_1732 (by decide) (fun _ => ?_) (fun c => absurd hk c)
  refine z_iload (zLC_ok (adM := adM) (stM := b.2) hXb) 5 dL_law_1737 rfl ?_
  refine z_if_ne (zLC_ok (adM := adM) (stM := b.2) hXb) 1754 dL_law_1739 (by decide) (fun ck => ?_) (fun ck => ?_)
  · refine z_goto (zLC_ok (adM := adM) (stM := b.2) hXb) 1923 dL_law_1754 (by decide) ?_
    refine z_locals [0, 1, 2, 3, 4] [(0, .ref b0), (1, .ref (X.ad 0)), (2, .ref (adM 0)), (3, .ref (X.ad 98)), (4, .int (nI (7 * t)))] rfl ?_
    exact kk u b.2 hR2
  refine z_aload_n (zLC_ok (adM := adM) (stM := b.2) hXb) 3 dL_law_1742 rfl rfl ?_
  refine z_iconst (v := 0) (zLC_ok (adM := adM) (stM := b.2) hXb) dL_law_1743 (by decide) ?_
  refine z_lald (zLC_ok (adM := adM) (stM := b.2) hXb) 98 dL_law_1744 (by decide) shC_98 (show zin 0 1 by decide) ?_
  refine z_iload (zLC_ok (adM := adM) (stM := b.2) hXb) 6 dL_law_1745 rfl ?_
  refine z_i2l (zLC_ok (adM := adM) (stM := b.2) hXb) dL_law_1747 ?_
  refine z_lcmpE (zLC_ok (adM := adM) (stM := b.2) hXb) dL_law_1748 (hb ck) ?_
  refine z_if_eq (zLC_ok (adM := adM) (stM := b.2) hXb) 1754 dL_law_1749 (by decide) (fun _ => ?_) (fun c => absurd rfl c)
  refine z_goto (zLC_ok (adM := adM) (stM := b.2) hXb) 1923 dL_law_1754 (by decide) ?_
  refine z_locals [0, 1, 2, 3, 4] [(0, .ref b0), (1, .ref (X.ad 0)), (2, .ref (adM 0)), (3, .ref (X.ad 98)), (4, .int (nI (7 * t)))] rfl ?_
  exact kk u b.2 hR2
set_option maxHeartbeats 4000000 in
set_option maxRecDepth 100000 in
theorem law_list {R : zSt → zSt → Prop} (X : zCx) (hX : zOk X RL code room_1) (hr : X.cells + 1 ≤ X.R.cells ∧ X.slots + 6 ≤ X.R.slots) (hZ : zXs X.A X.s X.s.heap) {b0 L t : Nat} {xs : Nat → Int32} (hs : zScr X b0 L xs) (hnl : X.nL = 8) (ht : 7 * t + 6 < L) (hL : L ≤ 3584) {adM : Nat → Nat} (HC : zCpl_list X.l R) (stC stM : zSt) (hR : R stC stM) (kk : ∀ u uM : zSt, R u uM → zG 99 shC (zLC (zbump X) adM uM) u 1923 [(0, .ref b0), (1, .ref (X.ad 0)), (2, .ref (adM 0)), (3, .ref (X.ad 98)), (4, .int (nI (7 * t)))] []) : zG 99 shC (zLC X adM stM) stC 1757 [(0, .ref b0), (1, .ref (X.ad 0)), (2, .ref (adM 0)), (3, .ref (X.ad 98)), (4, .int (nI (7 * t)))] [] := by
  obtain ⟨a1, e1⟩ : ∃ a, a = xs (nI (7 * t) + 1).toNatClampNeg := ⟨_, rfl⟩
  obtain ⟨k, u, b, hW, hM, hk, hb, hR2⟩ := HC stC stM a1 hR
  have hXb := zbump_ok hX hr
  refine z_aload_n (zLC_ok (adM := adM) (stM := stM) hX) 1 dL_law_1757 rfl rfl ?_
  refine z_aload_n (zLC_ok (adM := adM) (stM := stM) hX) 0 dL_law_1758 rfl rfl ?_
  refine z_iload (zLC_ok (adM := adM) (stM := stM) hX) 4 dL_law_1759 rfl ?_
  refine z_iconst (v := 1) (zLC_ok (adM := adM) (stM := stM) hX) dL_law_1761 (by decide) ?_
  refine z_iadd (zLC_ok (adM := adM) (stM := stM) hX) dL_law_1762 ?_
  refine z_sld (L := L) (xs := xs) (zLC_ok (adM := adM) (stM := stM) hX) hs dL_law_1763 (zs_in (k := 1) rfl (by decide) ht hL) e1 ?_
  refine z_aload_n (zLC_ok (adM := adM) (stM := stM) hX) 3 dL_law_1764 rfl rfl ?_
  refine z_callW (stk := []) (stk' := [.int k]) hX hZ hW zbW_L_list dL_law_1765 zm_737 rfl rfl rfl ⟨by decide, by decide⟩ ⟨rfl, rfl⟩ (Nat.le_of_ble_eq_true rfl) hr rfl ?_
  refine z_istore (zLC_ok (adM := adM) (stM := stM) hXb) [(0, .ref b0), (1, .ref (X.ad 0)), (2, .ref (adM 0)), (3, .ref (X.ad 98)), (4, .int (nI (7 * t))), (5, .int k)] dL_law_1768 (by show 5 < X.nL; rw [hnl]; decide) [1, 2, 3, 4, 5, 0] rfl ?_
  refine z_aload_n (zLC_ok (adM := adM) (stM := stM) hXb) 2 dL_law_1770 rfl rfl ?_
  refine z_aload_n (zLC_ok (adM := adM) (stM := stM) hXb) 0 dL_law_1771 rfl rfl ?_
  refine z_iload (zLC_ok (adM := adM) (stM := stM) hXb) 4 dL_law_1772 rfl ?_
  refine z_iconst (v := 1) (zLC_ok (adM := adM) (stM := stM) hXb) dL_law_1774 (by decide) ?_
  refine z_iadd (zLC_ok (adM := adM) (stM := stM) hXb) dL_law_1775 ?_
  refine z_sld (L := L) (xs := xs) (zLC_ok (adM := adM) (stM := stM) hXb) hs dL_law_1776 (zs_in (k := 1) rfl (by decide) ht hL) e1 ?_
  refine z_toM ?_
  refine z_callV (stk := []) (stk' := [.int b.1]) (zLM_ok (adM := adM) (stC := u) hXb) (c_X7_list _ stM a1 b hM) zb_X7_list 0 dL_law_1777 zm_1134 (by decide) shM_0 rfl rfl rfl rfl ⟨by decide, by decide⟩ ⟨rfl, rfl⟩ (Nat.le_of_ble_eq_true rfl) rfl ?_
  refine z_toC ?_
  refine z_istore (zLC_ok (adM := adM) (stM := b.2) hXb) [(0, .ref b0), (1, .ref (X.ad 0)), (2, .ref (adM 0)), (3, .ref (X.ad 98)), (4, .int (nI (7 * t))), (5, .int k), (6, .int b.1)] dL_law_1780 (by show 6 < X.nL; rw [hnl]; decide) [1, 2, 3, 4, 5, 6, 0] rfl ?_
  refine z_aload_n (zLC_ok (adM := adM) (stM := b.2) hXb) 2 dL_law_1782 rfl rfl ?_
  refine z_toM ?_
  refine z_callV (stk := []) (stk' := .int (b.2.1 0 52) :: []) (zLM_ok (adM := adM) (stC := u) hXb) (c_X7_thrown _ b.2 (b.2.1 0 52, b.2) rfl) zb_X7_thrown 0 dL_law_1783 zm_940 (by decide) shM_0 rfl rfl rfl rfl ⟨by decide, by decide⟩ ⟨rfl, rfl⟩ (Nat.le_of_ble_eq_true rfl) rfl ?_
  refine z_toC ?_
  refine z_iload (zLC_ok (adM := adM) (stM := b.2) hXb) 5 dL_law_1786 rfl ?_
  refine z_icmp_eq (zLC_ok (adM := adM) (stM := b.2) hXb) 1793 dL_law_1788 (by decide) (fun _ => ?_) (fun c => absurd hk c)
  refine z_iload (zLC_ok (adM := adM) (stM := b.2) hXb) 5 dL_law_1793 rfl ?_
  refine z_if_ne (zLC_ok (adM := adM) (stM := b.2) hXb) 1810 dL_law_1795 (by decide) (fun ck => ?_) (fun ck => ?_)
  · refine z_goto (zLC_ok (adM := adM) (stM := b.2) hXb) 1923 dL_law_1810 (by decide) ?_
    refine z_locals [0, 1, 2, 3, 4] [(0, .ref b0), (1, .ref (X.ad 0)), (2, .ref (adM 0)), (3, .ref (X.ad 98)), (4, .int (nI (7 * t)))] rfl ?_
    exact kk u b.2 hR2
  refine z_aload_n (zLC_ok (adM := adM) (stM := b.2) hXb) 3 dL_law_1798 rfl rfl ?_
  refine z_iconst (v := 0) (zLC_ok (adM := adM) (stM := b.2) hXb) dL_law_1799 (by decide) ?_
  refine z_lald (zLC_ok (adM := adM) (stM := b.2) hXb) 98 dL_law_1800 (by decide) shC_98 (show zin 0 1 by decide) ?_
  refine z_iload (zLC_ok (adM := adM) (stM := b.2) hXb) 6 dL_law_1801 rfl ?_
  refine z_i2l (zLC_ok (adM := adM) (stM := b.2) hXb) dL_law_1803 ?_
  refine z_lcmpE (zLC_ok (adM := adM) (stM := b.2) hXb) dL_law_1804 (hb ck) ?_
  refine z_if_eq (zLC_ok (adM := adM) (stM := b.2) hXb) 1810 dL_law_1805 (by decide) (fun _ => ?_) (fun c => absurd rfl c)
  refine z_goto (zLC_ok (adM := adM) (stM := b.2) hXb) 1923 dL_law_1810 (by decide) ?_
  refine z_locals [0, 1, 2, 3, 4] [(0, .ref b0), (1, .ref (X.ad 0)), (2, .ref (adM 0)), (3, .ref (X.ad 98)), (4, .int (nI (7 * t)))] rfl ?_
  exact kk u b.2 hR2
set_option maxHeartbeats 4000000 in
set_option maxRecDepth 100000 in
theorem law_account {R : zSt → zSt → Prop} (X : zCx) (hX : zOk X RL code room_1) (hr : X.cells + 1 ≤ X.R.cells ∧ X.slots + 6 ≤ X.R.slots) (hZ : zXs X.A X.s X.s.heap) {b0 L t : Nat} {xs : Nat → Int32} (hs : zScr X b0 L xs) (hnl : X.nL = 8) (ht : 7 * t + 6 < L) (hL : L ≤ 3584) {adM : Nat → Nat} (HC : zCpl_account X.l R) (stC stM : zSt) (hR : R stC stM) (kk : ∀ u uM : zSt, R u uM → zG 99 shC (zLC (zbump X) adM uM) u 1923 [(0, .ref b0), (1, .ref (X.ad 0)), (2, .ref (adM 0)), (3, .ref (X.ad 98)), (4, .int (nI (7 * t)))] []) : zG 99 shC (zLC X adM stM) stC 1813 [(0, .ref b0), (1, .ref (X.ad 0)), (2, .ref (adM 0)), (3, .ref (X.ad 98)), (4, .int (nI (7 * t)))] [] := by
  obtain ⟨a1, e1⟩ : ∃ a, a = xs (nI (7 * t) + 1).toNatClampNeg := ⟨_, rfl⟩
  obtain ⟨k, u, b, hW, hM, hk, hb, hR2⟩ := HC stC stM a1 hR
  have hXb := zbump_ok hX hr
  refine z_aload_n (zLC_ok (adM := adM) (stM := stM) hX) 1 dL_law_1813 rfl rfl ?_
  refine z_aload_n (zLC_ok (adM := adM) (stM := stM) hX) 0 dL_law_1814 rfl rfl ?_
  refine z_iload (zLC_ok (adM := adM) (stM := stM) hX) 4 dL_law_1815 rfl ?_
  refine z_iconst (v := 1) (zLC_ok (adM := adM) (stM := stM) hX) dL_law_1817 (by decide) ?_
  refine z_iadd (zLC_ok (adM := adM) (stM := stM) hX) dL_law_1818 ?_
  refine z_sld (L := L) (xs := xs) (zLC_ok (adM := adM) (stM := stM) hX) hs dL_law_1819 (zs_in (k := 1) rfl (by decide) ht hL) e1 ?_
  refine z_aload_n (zLC_ok (adM := adM) (stM := stM) hX) 3 dL_law_1820 rfl rfl ?_
  refine z_callW (stk := []) (stk' := [.int k]) hX hZ hW zbW_L_account dL_law_1821 zm_760 rfl rfl rfl ⟨by decide, by decide⟩ ⟨rfl, rfl⟩ (Nat.le_of_ble_eq_true rfl) hr rfl ?_
  refine z_istore (zLC_ok (adM := adM) (stM := stM) hXb) [(0, .ref b0), (1, .ref (X.ad 0)), (2, .ref (adM 0)), (3, .ref (X.ad 98)), (4, .int (nI (7 * t))), (5, .int k)] dL_law_1824 (by show 5 < X.nL; rw [hnl]; decide) [1, 2, 3, 4, 5, 0] rfl ?_
  refine z_aload_n (zLC_ok (adM := adM) (stM := stM) hXb) 2 dL_law_1826 rfl rfl ?_
  refine z_aload_n (zLC_ok (adM := adM) (stM := stM) hXb) 0 dL_law_1827 rfl rfl ?_
  refine z_iload (zLC_ok (adM := adM) (stM := stM) hXb) 4 dL_law_1828 rfl ?_
  refine z_iconst (v := 1) (zLC_ok (adM := adM) (stM := stM) hXb) dL_law_1830 (by decide) ?_
  refine z_iadd (zLC_ok (adM := adM) (stM := stM) hXb) dL_law_1831 ?_
  refine z_sld (L := L) (xs := xs) (zLC_ok (adM := adM) (stM := stM) hXb) hs dL_law_1832 (zs_in (k := 1) rfl (by decide) ht hL) e1 ?_
  refine z_toM ?_
  refine z_callV (stk := []) (stk' := [.long b.1]) (zLM_ok (adM := adM) (stC := u) hXb) (c_X7_account _ stM a1 b hM) zb_X7_account 0 dL_law_1833 zm_1138 (by decide) shM_0 rfl rfl rfl rfl ⟨by decide, by decide⟩ ⟨rfl, rfl⟩ (Nat.le_of_ble_eq_true rfl) rfl ?_
  refine z_toC ?_
  refine z_lstore (zLC_ok (adM := adM) (stM := b.2) hXb) [(0, .ref b0), (1, .ref (X.ad 0)), (2, .ref (adM 0)), (3, .ref (X.ad 98)), (4, .int (nI (7 * t))), (5, .int k), (6, .long b.1)] dL_law_1836 (by show 6 + 1 < X.nL; rw [hnl]; decide) [1, 2, 3, 4, 5, 6, 0] rfl ?_
  refine z_aload_n (zLC_ok (adM := adM) (stM := b.2) hXb) 2 dL_law_1838 rfl rfl ?_
  refine z_toM ?_
  refine z_callV (stk := []) (stk' := .int (b.2.1 0 52) :: []) (zLM_ok (adM := adM) (stC := u) hXb) (c_X7_thrown _ b.2 (b.2.1 0 52, b.2) rfl) zb_X7_thrown 0 dL_law_1839 zm_940 (by decide) shM_0 rfl rfl rfl rfl ⟨by decide, by decide⟩ ⟨rfl, rfl⟩ (Nat.le_of_ble_eq_true rfl) rfl ?_
  refine z_toC ?_
  refine z_iload (zLC_ok (adM := adM) (stM := b.2) hXb) 5 dL_law_1842 rfl ?_
  refine z_icmp_eq (zLC_ok (adM := adM) (stM := b.2) hXb) 1849 dL_law_1844 (by decide) (fun _ => ?_) (fun c => absurd hk c)
  refine z_iload (zLC_ok (adM := adM) (stM := b.2) hXb) 5 dL_law_1849 rfl ?_
  refine z_if_ne (zLC_ok (adM := adM) (stM := b.2) hXb) 1865 dL_law_1851 (by decide) (fun ck => ?_) (fun ck => ?_)
  · refine z_goto (zLC_ok (adM := adM) (stM := b.2) hXb) 1923 dL_law_1865 (by decide) ?_
    refine z_locals [0, 1, 2, 3, 4] [(0, .ref b0), (1, .ref (X.ad 0)), (2, .ref (adM 0)), (3, .ref (X.ad 98)), (4, .int (nI (7 * t)))] rfl ?_
    exact kk u b.2 hR2
  refine z_aload_n (zLC_ok (adM := adM) (stM := b.2) hXb) 3 dL_law_1854 rfl rfl ?_
  refine z_iconst (v := 0) (zLC_ok (adM := adM) (stM := b.2) hXb) dL_law_1855 (by decide) ?_
  refine z_lald (zLC_ok (adM := adM) (stM := b.2) hXb) 98 dL_law_1856 (by decide) shC_98 (show zin 0 1 by decide) ?_
  refine z_lload (zLC_ok (adM := adM) (stM := b.2) hXb) 6 dL_law_1857 rfl ?_
  refine z_lcmpE (zLC_ok (adM := adM) (stM := b.2) hXb) dL_law_1859 (hb ck) ?_
  refine z_if_eq (zLC_ok (adM := adM) (stM := b.2) hXb) 1865 dL_law_1860 (by decide) (fun _ => ?_) (fun c => absurd rfl c)
  refine z_goto (zLC_ok (adM := adM) (stM := b.2) hXb) 1923 dL_law_1865 (by decide) ?_
  refine z_locals [0, 1, 2, 3, 4] [(0, .ref b0), (1, .ref (X.ad 0)), (2, .ref (adM 0)), (3, .ref (X.ad 98)), (4, .int (nI (7 * t)))] rfl ?_
  exact kk u b.2 hR2
set_option maxHeartbeats 4000000 in
set_option maxRecDepth 100000 in
theorem law_accountAnew {R : zSt → zSt → Prop} (X : zCx) (hX : zOk X RL code room_1) (hr : X.cells + 1 ≤ X.R.cells ∧ X.slots + 6 ≤ X.R.slots) (hZ : zXs X.A X.s X.s.heap) {b0 L t : Nat} {xs : Nat → Int32} (hs : zScr X b0 L xs) (hnl : X.nL = 8) (ht : 7 * t + 6 < L) (hL : L ≤ 3584) {adM : Nat → Nat} (HC : zCpl_accountAnew X.l R) (stC stM : zSt) (hR : R stC stM) (kk : ∀ u uM : zSt, R u uM → zG 99 shC (zLC (zbump X) adM uM) u 1923 [(0, .ref b0), (1, .ref (X.ad 0)), (2, .ref (adM 0)), (3, .ref (X.ad 98)), (4, .int (nI (7 * t)))] []) : zG 99 shC (zLC X adM stM) stC 1868 [(0, .ref b0), (1, .ref (X.ad 0)), (2, .ref (adM 0)), (3, .ref (X.ad 98)), (4, .int (nI (7 * t)))] [] := by
  obtain ⟨a1, e1⟩ : ∃ a, a = xs (nI (7 * t) + 1).toNatClampNeg := ⟨_, rfl⟩
  obtain ⟨k, u, b, hW, hM, hk, hb, hR2⟩ := HC stC stM a1 hR
  have hXb := zbump_ok hX hr
  refine z_aload_n (zLC_ok (adM := adM) (stM := stM) hX) 1 dL_law_1868 rfl rfl ?_
  refine z_aload_n (zLC_ok (adM := adM) (stM := stM) hX) 0 dL_law_1869 rfl rfl ?_
  refine z_iload (zLC_ok (adM := adM) (stM := stM) hX) 4 dL_law_1870 rfl ?_
  refine z_iconst (v := 1) (zLC_ok (adM := adM) (stM := stM) hX) dL_law_1872 (by decide) ?_
  refine z_iadd (zLC_ok (adM := adM) (stM := stM) hX) dL_law_1873 ?_
  refine z_sld (L := L) (xs := xs) (zLC_ok (adM := adM) (stM := stM) hX) hs dL_law_1874 (zs_in (k := 1) rfl (by decide) ht hL) e1 ?_
  refine z_aload_n (zLC_ok (adM := adM) (stM := stM) hX) 3 dL_law_1875 rfl rfl ?_
  refine z_callW (stk := []) (stk' := [.int k]) hX hZ hW zbW_L_accountAnew dL_law_1876 zm_767 rfl rfl rfl ⟨by decide, by decide⟩ ⟨rfl, rfl⟩ (Nat.le_of_ble_eq_true rfl) hr rfl ?_
  refine z_istore (zLC_ok (adM := adM) (stM := stM) hXb) [(0, .ref b0), (1, .ref (X.ad 0)), (2, .ref (adM 0)), (3, .ref (X.ad 98)), (4, .int (nI (7 * t))), (5, .int k)] dL_law_1879 (by show 5 < X.nL; rw [hnl]; decide) [1, 2, 3, 4, 5, 0] rfl ?_
  refine z_aload_n (zLC_ok (adM := adM) (stM := stM) hXb) 2 dL_law_1881 rfl rfl ?_
  refine z_aload_n (zLC_ok (adM := adM) (stM := stM) hXb) 0 dL_law_1882 rfl rfl ?_
  refine z_iload (zLC_ok (adM := adM) (stM := stM) hXb) 4 dL_law_1883 rfl ?_
  refine z_iconst (v := 1) (zLC_ok (adM := adM) (stM := stM) hXb) dL_law_1885 (by decide) ?_
  refine z_iadd (zLC_ok (adM := adM) (stM := stM) hXb) dL_law_1886 ?_
  refine z_sld (L := L) (xs := xs) (zLC_ok (adM := adM) (stM := stM) hXb) hs dL_law_1887 (zs_in (k := 1) rfl (by decide) ht hL) e1 ?_
  refine z_toM ?_
  refine z_callV (stk := []) (stk' := [.long b.1]) (zLM_ok (adM := adM) (stC := u) hXb) (c_X7_accountAnew _ stM a1 b hM) zb_X7_accountAnew 0 dL_law_1888 zm_1142 (by decide) shM_0 rfl rfl rfl rfl ⟨by decide, by decide⟩ ⟨rfl, rfl⟩ (Nat.le_of_ble_eq_true rfl) rfl ?_
  refine z_toC ?_
  refine z_lstore (zLC_ok (adM := adM) (stM := b.2) hXb) [(0, .ref b0), (1, .ref (X.ad 0)), (2, .ref (adM 0)), (3, .ref (X.ad 98)), (4, .int (nI (7 * t))), (5, .int k), (6, .long b.1)] dL_law_1891 (by show 6 + 1 < X.nL; rw [hnl]; decide) [1, 2, 3, 4, 5, 6, 0] rfl ?_
  refine z_aload_n (zLC_ok (adM := adM) (stM := b.2) hXb) 2 dL_law_1893 rfl rfl ?_
  refine z_toM ?_
  refine z_callV (stk := []) (stk' := .int (b.2.1 0 52) :: []) (zLM_ok (adM := adM) (stC := u) hXb) (c_X7_thrown _ b.2 (b.2.1 0 52, b.2) rfl) zb_X7_thrown 0 dL_law_1894 zm_940 (by decide) shM_0 rfl rfl rfl rfl ⟨by decide, by decide⟩ ⟨rfl, rfl⟩ (Nat.le_of_ble_eq_true rfl) rfl ?_
  refine z_toC ?_
  refine z_iload (zLC_ok (adM := adM) (stM := b.2) hXb) 5 dL_law_1897 rfl ?_
  refine z_icmp_eq (zLC_ok (adM := adM) (stM := b.2) hXb) 1904 dL_law_1899 (by decide) (fun _ => ?_) (fun c => absurd hk c)
  refine z_iload (zLC_ok (adM := adM) (stM := b.2) hXb) 5 dL_law_1904 rfl ?_
  refine z_if_ne (zLC_ok (adM := adM) (stM := b.2) hXb) 1920 dL_law_1906 (by decide) (fun ck => ?_) (fun ck => ?_)
  · refine z_goto (zLC_ok (adM := adM) (stM := b.2) hXb) 1923 dL_law_1920 (by decide) ?_
    refine z_locals [0, 1, 2, 3, 4] [(0, .ref b0), (1, .ref (X.ad 0)), (2, .ref (adM 0)), (3, .ref (X.ad 98)), (4, .int (nI (7 * t)))] rfl ?_
    exact kk u b.2 hR2
  refine z_aload_n (zLC_ok (adM := adM) (stM := b.2) hXb) 3 dL_law_1909 rfl rfl ?_
  refine z_iconst (v := 0) (zLC_ok (adM := adM) (stM := b.2) hXb) dL_law_1910 (by decide) ?_
  refine z_lald (zLC_ok (adM := adM) (stM := b.2) hXb) 98 dL_law_1911 (by decide) shC_98 (show zin 0 1 by decide) ?_
  refine z_lload (zLC_ok (adM := adM) (stM := b.2) hXb) 6 dL_law_1912 rfl ?_
  refine z_lcmpE (zLC_ok (adM := adM) (stM := b.2) hXb) dL_law_1914 (hb ck) ?_
  refine z_if_eq (zLC_ok (adM := adM) (stM := b.2) hXb) 1920 dL_law_1915 (by decide) (fun _ => ?_) (fun c => absurd rfl c)
  refine z_goto (zLC_ok (adM := adM) (stM := b.2) hXb) 1923 dL_law_1920 (by decide) ?_
  refine z_locals [0, 1, 2, 3, 4] [(0, .ref b0), (1, .ref (X.ad 0)), (2, .ref (adM 0)), (3, .ref (X.ad 98)), (4, .int (nI (7 * t)))] rfl ?_
  exact kk u b.2 hR2
