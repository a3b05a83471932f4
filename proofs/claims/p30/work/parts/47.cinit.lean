/-! the class's constructor, whole -/
section ZCY
theorem zdf_X6 : ∀ j, j < 16 → defaultValue (tyX6 j) = vp_V [.null, .null, .null, .null, .null, .null, .null, .null, .null, .null, .null, .int 0, .int 0, .int 0, .int 0, .int 0] j := fun j hj => match j, hj with
  | 0, _ => rfl
  | 1, _ => rfl
  | 2, _ => rfl
  | 3, _ => rfl
  | 4, _ => rfl
  | 5, _ => rfl
  | 6, _ => rfl
  | 7, _ => rfl
  | 8, _ => rfl
  | 9, _ => rfl
  | 10, _ => rfl
  | 11, _ => rfl
  | 12, _ => rfl
  | 13, _ => rfl
  | 14, _ => rfl
  | 15, _ => rfl
  | j + 16, h => absurd h (by omega)
theorem zci_X6 : zCalI yX6_init cX6_init 2 := ⟨rfl, zm_19, zm_1, zm_20, by decide, by decide, rfl⟩
theorem zob_appL {ws : va_W} {k a ci : Nat} {fs : List Value} {nw l : va_W} : zob ws k a ci fs nw ++ l = zob ws k a ci fs (nw ++ l) := List.append_assoc _ _ _
def zstR (i : Nat) : zSt := (fun c j => if c = 5 ∧ j < i then -1 else zst0.1 c j, zst0.2)
theorem zstR_0 : zstR 0 = zst0 := by
  unfold zstR
  have e : (fun c j => if c = 5 ∧ j < 0 then (-1 : Int32) else zst0.1 c j) = zst0.1 := by
    funext c j
    rw [if_neg (by omega)]
  rw [e]
theorem zstR_off {i c : Nat} (h : c ≠ 5) : (zstR i).1 c = zst0.1 c := by
  funext j
  show (if c = 5 ∧ j < i then (-1 : Int32) else zst0.1 c j) = _
  rw [if_neg (fun q => h q.1)]
theorem zem_off {aC : Nat → ClassId} {ad m : Nat → Nat} {i c : Nat} (h : c ≠ 5) : zem aC (zstR i) ad m c = zem aC zst0 ad m c := by
  unfold zem
  rw [zstR_off h]
  rfl
theorem zstR_up {i : Nat} : upd ((zstR i).1 5) i (-1) = (zstR (i + 1)).1 5 := by
  funext j
  show (if j = i then (-1 : Int32) else if 5 = 5 ∧ j < i then (-1 : Int32) else zst0.1 5 j) = if 5 = 5 ∧ j < i + 1 then (-1 : Int32) else zst0.1 5 j
  by_cases h1 : j = i
  · rw [if_pos h1, if_pos ⟨rfl, by omega⟩]
  · by_cases h2 : j < i
    · rw [if_neg h1, if_pos ⟨rfl, h2⟩, if_pos ⟨rfl, by omega⟩]
    · rw [if_neg h1, if_neg (fun q => h2 q.2), if_neg (fun q => by have := q.2; omega)]
variable {X : zCx} {r : va_W} {a : Nat}
theorem l6_5 (hnl : X.nL = 2) (hX : ∀ c n, c ≤ 97 → n ≤ 928 → zOk (zat X c n) RX6 cX6_init ({ frames := 3, cells := 97, slots := 928, locals := 52 } : Room)) {cs : List Nat} {ad : Nat → Nat} (h0 : ad 0 = a) (hnd : cs.Nodup) (hpre : ∀ k, k < 14 → cs[k]? = some k) (KK : zGw (zat X 97 928) (r ++ zfw cs ad (zem X.aC (zstR 10) ad (zmf 4 6 24 40))) 256 [(0, .ref a)] []) : ∀ (d i : Nat), i + d = 10 → zGw (zat X 97 928) (r ++ zfw cs ad (zem X.aC (zstR i) ad (zmf 4 6 24 40))) 237 [(0, .ref a), (1, .int (nI i))] [] := by
  intro d
  induction d with
  | zero =>
    intro i hi
    obtain rfl : i = 10 := by omega
    refine z_iload_n (hX 97 928 (by decide) (by decide)) 1 dX6_init_237 rfl rfl ?_
    refine z_bipush (hX 97 928 (by decide) (by decide)) dX6_init_238 (v := nI 10) (by decide) ?_
    refine z_icmp_ge (hX 97 928 (by decide) (by decide)) 256 dX6_init_240 (by decide) (fun _ => ?_) (fun h => absurd (nI_le (Nat.le_refl _) (by decide)) h)
    refine z_locals [0] [(0, .ref a)] rfl ?_
    exact KK
  | succ d ih =>
    intro i hi
    have hi4 : i < 10 := by omega
    refine z_iload_n (hX 97 928 (by decide) (by decide)) 1 dX6_init_237 rfl rfl ?_
    refine z_bipush (hX 97 928 (by decide) (by decide)) dX6_init_238 (v := nI 10) (by decide) ?_
    refine z_icmp_ge (hX 97 928 (by decide) (by decide)) 256 dX6_init_240 (by decide) (fun h => absurd h (nI_ge hi4 (by decide))) (fun _ => ?_)
    refine z_aload_n (hX 97 928 (by decide) (by decide)) 0 dX6_init_243 rfl rfl ?_
    have he0 : (r ++ zfw cs ad (zem X.aC (zstR i) ad (zmf 4 6 24 40)))[r.length + 0]? = some (a, .inr (6, [.ref (ad 1), .ref (ad 2), .ref (ad 3), .ref (ad 4), .ref (ad 5), .ref (ad 6), .ref (ad 7), .ref (ad 8), .ref (ad 9), .ref (ad 10), .ref (ad 11), .int 0, .int 0, .int 0, .int 0, .int 0])) := by rw [zfw_at (hpre 0 (by decide)), h0, zem_off (by decide), zem_0]
    refine z_getw (k := 4) (hX 97 928 (by decide) (by decide)) (r.length + 0) dX6_init_244 he0 rfl zin_X6 (by decide) zm_257 (v := .ref (ad 5)) rfl ?_
    refine z_iload_n (hX 97 928 (by decide) (by decide)) 1 dX6_init_247 rfl rfl ?_
    refine z_iconst (hX 97 928 (by decide) (by decide)) dX6_init_248 (v := -1) (by decide) ?_
    have ha : (r ++ zfw cs ad (zem X.aC (zstR i) ad (zmf 4 6 24 40)))[r.length + 5]? = some (ad 5, .inl (X.aC 0, 10, .inl ((zstR i).1 5))) := by
      rw [zfw_at (hpre 5 (by decide))]
      rfl
    refine z_iastw (hX 97 928 (by decide) (by decide)) (r.length + 5) dX6_init_249 ha rfl (vp_in_nI hi4 (by decide)) ?_
    rw [nI_clamp (show i < 2 ^ 31 by omega), zfw_set hnd (hpre 5 (by decide)), zstR_up]
    have e : zfw cs ad (zu (zem X.aC (zstR i) ad (zmf 4 6 24 40)) 5 (.inl (X.aC 0, 10, .inl ((zstR (i + 1)).1 5)))) = zfw cs ad (zem X.aC (zstR (i + 1)) ad (zmf 4 6 24 40)) := zfw_congr fun c hc => ⟨rfl, by
      by_cases h : c = 5
      · subst h
        rw [zu_self]
        rfl
      · rw [zu_ne h, zem_off h, zem_off h]⟩
    rw [e]
    refine z_iinc (j := 1) (v := 1) (hX 97 928 (by decide) (by decide)) [(0, .ref a), (1, .int (nI i + 1))] dX6_init_250 rfl (by decide) (by show 1 < X.nL; rw [hnl]; decide) [1, 0] rfl ?_
    rw [nI_1]
    refine z_goto (hX 97 928 (by decide) (by decide)) 237 dX6_init_253 (by decide) ?_
    exact ih (i + 1) (by omega)
theorem zconv {aC : Nat → ClassId} {r : va_W} {x : Nat × va_E} {a q0 q1 q2 q3 q4 q5 q6 q7 q8 q9 q10 q11 q12 : Nat} : zob (r ++ [x]) r.length a 6 [.ref q0, .ref q1, .ref q2, .ref q3, .ref q4, .ref q5, .ref q6, .ref q7, .ref q8, .ref q9, .ref q10, .int 0, .int 0, .int 0, .int 0, .int 0] [(q0, .inl (aC 3, 4, .inr (.inr (.inr (.inr (fun _ => none)))))), (q1, .inl (aC 4, 6, .inr (.inr (.inr (.inr (fun _ => none)))))), (q2, .inl (aC 5, 24, .inr (.inr (.inr (.inr (fun _ => none)))))), (q3, .inl (aC 6, 40, .inr (.inr (.inr (.inr (fun _ => none)))))), (q4, .inl (aC 0, (10, .inl (fun _ => 0)))), (q5, .inl (aC 0, (6, .inl (fun _ => 0)))), (q6, .inl (aC 0, (6, .inl (fun _ => 0)))), (q7, .inl (aC 1, (3, .inr (.inl (fun _ => 0))))), (q8, .inr (5, [.int 0, .int (-1)])), (q9, .inr (5, [.int 0, .int (-1)])), (q10, .inr (2, [.ref q11, .ref q12, .int 0, .int 0, .int 0, .int 0, .int 0, .int 0, .int 0])), (q11, .inl (aC 0, (4, .inl (fun _ => 0)))), (q12, .inl (aC 2, (4, .inl (fun _ => 0))))] = r ++ zfw [0, 1, 2, 3, 4, 5, 6, 7, 8, 9, 10, 11, 12, 13] (fun c => [a, q0, q1, q2, q3, q4, q5, q6, q7, q8, q9, q10, q11, q12].getD c 0) (zem aC zst0 (fun c => [a, q0, q1, q2, q3, q4, q5, q6, q7, q8, q9, q10, q11, q12].getD c 0) (zmf 0 0 0 0)) := by
  show (r ++ [x]).set r.length _ ++ _ = _
  rw [zset_last, List.append_assoc]
  congr 1
set_option maxHeartbeats 40000000 in
theorem c_X6_init (l : Launch) (r : va_W) : zMetI l yX6_init cX6_init 2 ({ frames := 3, cells := 97, slots := 928, locals := 52 } : Room) 97 928 (fun ws a => ws = r ++ [(a, .inr (6, [.null, .null, .null, .null, .null, .null, .null, .null, .null, .null, .null, .int 0, .int 0, .int 0, .int 0, .int 0]))]) (fun aC ws a ws' => ∃ (ad : Nat → Nat) (cs : List Nat), ad 0 = a ∧ cs.Nodup ∧ (∀ c, c ∈ cs ↔ c < 98) ∧ ws' = r ++ zfw cs ad (zem aC (zstR 10) ad (zmf 4 6 24 40))) := by
  refine zmetI_of (by decide) (by decide) rfl ?_
  intro X hl hnl hR hX0 hAO hini ws a hpre hQ
  obtain ⟨k, hk⟩ : ∃ k, k = r.length := ⟨_, rfl⟩
  have hat : ws[k]? = some (a, .inr (6, [.null, .null, .null, .null, .null, .null, .null, .null, .null, .null, .null, .int 0, .int 0, .int 0, .int 0, .int 0])) := by rw [hk, hpre]; exact zat_last r _
  have hq : k < ws.length := (List.getElem?_eq_some_iff.mp hat).1
  have hX : ∀ c n, c ≤ 97 → n ≤ 928 → zOk (zat X c n) RX6 cX6_init ({ frames := 3, cells := 97, slots := 928, locals := 52 } : Room) := fun c n h1 h2 => zat_ok hX0 c n ⟨by show c ≤ X.R.cells; rw [hR]; exact h1, by show n ≤ X.R.slots; rw [hR]; exact h2⟩
  rw [zob_self hat]
  refine z_aload_n (hX 0 0 (by decide) (by decide)) 0 dX6_init_0 rfl rfl ?_
  refine z_super (hX 0 0 (by decide) (by decide)) dX6_init_1 zm_21 zm_22 zm_23 (by show 1 ≤ X.R.frames; rw [hR]; decide) (by show 0 + 12 ≤ X.R.locals; rw [hR]; decide) ?_
  refine z_aload_n (hX 0 0 (by decide) (by decide)) 0 dX6_init_4 rfl rfl ?_
  refine z_iconst (hX 0 0 (by decide) (by decide)) dX6_init_5 (v := 4) (by decide) ?_
  refine p_arrq (t := 3) (N' := 4) (j := 0) (fs' := fun q0 => [.ref q0, .null, .null, .null, .null, .null, .null, .null, .null, .null, .null, .int 0, .int 0, .int 0, .int 0, .int 0]) (hX 0 0 (by decide) (by decide)) hini hq dX6_init_6 zm_24 hAO.1 rfl (by decide) (by decide) (by decide) ⟨by show 1 ≤ X.R.cells; rw [hR]; decide, by show 4 ≤ X.R.slots; rw [hR]; decide⟩ dX6_init_9 rfl zin_X6 tyX6_ok nmX6 (by decide) zm_253 rfl rfl rfl (fun _ => ⟨rfl, rfl⟩) (zlt_ok rfl) (fun _ => rfl) (fun q0 => ?_)
  show zGw (zat X 1 4) (zob ws k a 6 [.ref q0, .null, .null, .null, .null, .null, .null, .null, .null, .null, .null, .int 0, .int 0, .int 0, .int 0, .int 0] [(q0, .inl (X.aC 3, 4, .inr (.inr (.inr (.inr (fun _ => none))))))]) 12 [(0, .ref a)] []
  refine z_aload_n (hX 1 4 (by decide) (by decide)) 0 dX6_init_12 rfl rfl ?_
  refine z_bipush (hX 1 4 (by decide) (by decide)) dX6_init_13 (v := 6) (by decide) ?_
  refine p_arrq (t := 4) (N' := 6) (j := 1) (fs' := fun q1 => [.ref q0, .ref q1, .null, .null, .null, .null, .null, .null, .null, .null, .null, .int 0, .int 0, .int 0, .int 0, .int 0]) (hX 1 4 (by decide) (by decide)) hini hq dX6_init_15 zm_26 hAO.2.1 rfl (by decide) (by decide) (by decide) ⟨by show 2 ≤ X.R.cells; rw [hR]; decide, by show 10 ≤ X.R.slots; rw [hR]; decide⟩ dX6_init_18 rfl zin_X6 tyX6_ok nmX6 (by decide) zm_254 rfl rfl rfl (fun _ => ⟨rfl, rfl⟩) (zlt_ok rfl) (fun _ => rfl) (fun q1 => ?_)
  show zGw (zat X 2 10) (zob ws k a 6 [.ref q0, .ref q1, .null, .null, .null, .null, .null, .null, .null, .null, .null, .int 0, .int 0, .int 0, .int 0, .int 0] [(q0, .inl (X.aC 3, 4, .inr (.inr (.inr (.inr (fun _ => none)))))), (q1, .inl (X.aC 4, 6, .inr (.inr (.inr (.inr (fun _ => none))))))]) 21 [(0, .ref a)] []
  refine z_aload_n (hX 2 10 (by decide) (by decide)) 0 dX6_init_21 rfl rfl ?_
  refine z_bipush (hX 2 10 (by decide) (by decide)) dX6_init_22 (v := 24) (by decide) ?_
  refine p_arrq (t := 5) (N' := 24) (j := 2) (fs' := fun q2 => [.ref q0, .ref q1, .ref q2, .null, .null, .null, .null, .null, .null, .null, .null, .int 0, .int 0, .int 0, .int 0, .int 0]) (hX 2 10 (by decide) (by decide)) hini hq dX6_init_24 zm_28 hAO.2.2.1 rfl (by decide) (by decide) (by decide) ⟨by show 3 ≤ X.R.cells; rw [hR]; decide, by show 34 ≤ X.R.slots; rw [hR]; decide⟩ dX6_init_27 rfl zin_X6 tyX6_ok nmX6 (by decide) zm_255 rfl rfl rfl (fun _ => ⟨rfl, rfl⟩) (zlt_ok rfl) (fun _ => rfl) (fun q2 => ?_)
  show zGw (zat X 3 34) (zob ws k a 6 [.ref q0, .ref q1, .ref q2, .null, .null, .null, .null, .null, .null, .null, .null, .int 0, .int 0, .int 0, .int 0, .int 0] [(q0, .inl (X.aC 3, 4, .inr (.inr (.inr (.inr (fun _ => none)))))), (q1, .inl (X.aC 4, 6, .inr (.inr (.inr (.inr (fun _ => none)))))), (q2, .inl (X.aC 5, 24, .inr (.inr (.inr (.inr (fun _ => none))))))]) 30 [(0, .ref a)] []
  refine z_aload_n (hX 3 34 (by decide) (by decide)) 0 dX6_init_30 rfl rfl ?_
  refine z_bipush (hX 3 34 (by decide) (by decide)) dX6_init_31 (v := 40) (by decide) ?_
  refine p_arrq (t := 6) (N' := 40) (j := 3) (fs' := fun q3 => [.ref q0, .ref q1, .ref q2, .ref q3, .null, .null, .null, .null, .null, .null, .null, .int 0, .int 0, .int 0, .int 0, .int 0]) (hX 3 34 (by decide) (by decide)) hini hq dX6_init_33 zm_30 hAO.2.2.2 rfl (by decide) (by decide) (by decide) ⟨by show 4 ≤ X.R.cells; rw [hR]; decide, by show 74 ≤ X.R.slots; rw [hR]; decide⟩ dX6_init_36 rfl zin_X6 tyX6_ok nmX6 (by decide) zm_256 rfl rfl rfl (fun _ => ⟨rfl, rfl⟩) (zlt_ok rfl) (fun _ => rfl) (fun q3 => ?_)
  show zGw (zat X 4 74) (zob ws k a 6 [.ref q0, .ref q1, .ref q2, .ref q3, .null, .null, .null, .null, .null, .null, .null, .int 0, .int 0, .int 0, .int 0, .int 0] [(q0, .inl (X.aC 3, 4, .inr (.inr (.inr (.inr (fun _ => none)))))), (q1, .inl (X.aC 4, 6, .inr (.inr (.inr (.inr (fun _ => none)))))), (q2, .inl (X.aC 5, 24, .inr (.inr (.inr (.inr (fun _ => none)))))), (q3, .inl (X.aC 6, 40, .inr (.inr (.inr (.inr (fun _ => none))))))]) 39 [(0, .ref a)] []
  refine z_aload_n (hX 4 74 (by decide) (by decide)) 0 dX6_init_39 rfl rfl ?_
  refine z_bipush (hX 4 74 (by decide) (by decide)) dX6_init_40 (v := 10) (by decide) ?_
  refine p_arr (t := 0) (N' := 10) (ty := .int) (a0 := (10, .inl (fun _ => 0))) (j := 4) (fs' := fun q4 => [.ref q0, .ref q1, .ref q2, .ref q3, .ref q4, .null, .null, .null, .null, .null, .null, .int 0, .int 0, .int 0, .int 0, .int 0]) (hX 4 74 (by decide) (by decide)) hini hq dX6_init_42 rfl zm_45 rfl (Or.inl rfl) (fun _ => rfl) (by decide) (by decide) (by decide) ⟨by show 5 ≤ X.R.cells; rw [hR]; decide, by show 84 ≤ X.R.slots; rw [hR]; decide⟩ dX6_init_44 rfl zin_X6 tyX6_ok nmX6 (by decide) zm_257 rfl rfl rfl (fun _ => ⟨rfl, rfl⟩) (zlt_ok rfl) (fun _ => rfl) (fun q4 => ?_)
  show zGw (zat X 5 84) (zob ws k a 6 [.ref q0, .ref q1, .ref q2, .ref q3, .ref q4, .null, .null, .null, .null, .null, .null, .int 0, .int 0, .int 0, .int 0, .int 0] [(q0, .inl (X.aC 3, 4, .inr (.inr (.inr (.inr (fun _ => none)))))), (q1, .inl (X.aC 4, 6, .inr (.inr (.inr (.inr (fun _ => none)))))), (q2, .inl (X.aC 5, 24, .inr (.inr (.inr (.inr (fun _ => none)))))), (q3, .inl (X.aC 6, 40, .inr (.inr (.inr (.inr (fun _ => none)))))), (q4, .inl (X.aC 0, (10, .inl (fun _ => 0))))]) 47 [(0, .ref a)] []
  refine z_aload_n (hX 5 84 (by decide) (by decide)) 0 dX6_init_47 rfl rfl ?_
  refine z_bipush (hX 5 84 (by decide) (by decide)) dX6_init_48 (v := 6) (by decide) ?_
  refine p_arr (t := 0) (N' := 6) (ty := .int) (a0 := (6, .inl (fun _ => 0))) (j := 5) (fs' := fun q5 => [.ref q0, .ref q1, .ref q2, .ref q3, .ref q4, .ref q5, .null, .null, .null, .null, .null, .int 0, .int 0, .int 0, .int 0, .int 0]) (hX 5 84 (by decide) (by decide)) hini hq dX6_init_50 rfl zm_45 rfl (Or.inl rfl) (fun _ => rfl) (by decide) (by decide) (by decide) ⟨by show 6 ≤ X.R.cells; rw [hR]; decide, by show 90 ≤ X.R.slots; rw [hR]; decide⟩ dX6_init_52 rfl zin_X6 tyX6_ok nmX6 (by decide) zm_258 rfl rfl rfl (fun _ => ⟨rfl, rfl⟩) (zlt_ok rfl) (fun _ => rfl) (fun q5 => ?_)
  show zGw (zat X 6 90) (zob ws k a 6 [.ref q0, .ref q1, .ref q2, .ref q3, .ref q4, .ref q5, .null, .null, .null, .null, .null, .int 0, .int 0, .int 0, .int 0, .int 0] [(q0, .inl (X.aC 3, 4, .inr (.inr (.inr (.inr (fun _ => none)))))), (q1, .inl (X.aC 4, 6, .inr (.inr (.inr (.inr (fun _ => none)))))), (q2, .inl (X.aC 5, 24, .inr (.inr (.inr (.inr (fun _ => none)))))), (q3, .inl (X.aC 6, 40, .inr (.inr (.inr (.inr (fun _ => none)))))), (q4, .inl (X.aC 0, (10, .inl (fun _ => 0)))), (q5, .inl (X.aC 0, (6, .inl (fun _ => 0))))]) 55 [(0, .ref a)] []
  refine z_aload_n (hX 6 90 (by decide) (by decide)) 0 dX6_init_55 rfl rfl ?_
  refine z_bipush (hX 6 90 (by decide) (by decide)) dX6_init_56 (v := 6) (by decide) ?_
  refine p_arr (t := 0) (N' := 6) (ty := .int) (a0 := (6, .inl (fun _ => 0))) (j := 6) (fs' := fun q6 => [.ref q0, .ref q1, .ref q2, .ref q3, .ref q4, .ref q5, .ref q6, .null, .null, .null, .null, .int 0, .int 0, .int 0, .int 0, .int 0]) (hX 6 90 (by decide) (by decide)) hini hq dX6_init_58 rfl zm_45 rfl (Or.inl rfl) (fun _ => rfl) (by decide) (by decide) (by decide) ⟨by show 7 ≤ X.R.cells; rw [hR]; decide, by show 96 ≤ X.R.slots; rw [hR]; decide⟩ dX6_init_60 rfl zin_X6 tyX6_ok nmX6 (by decide) zm_259 rfl rfl rfl (fun _ => ⟨rfl, rfl⟩) (zlt_ok rfl) (fun _ => rfl) (fun q6 => ?_)
  show zGw (zat X 7 96) (zob ws k a 6 [.ref q0, .ref q1, .ref q2, .ref q3, .ref q4, .ref q5, .ref q6, .null, .null, .null, .null, .int 0, .int 0, .int 0, .int 0, .int 0] [(q0, .inl (X.aC 3, 4, .inr (.inr (.inr (.inr (fun _ => none)))))), (q1, .inl (X.aC 4, 6, .inr (.inr (.inr (.inr (fun _ => none)))))), (q2, .inl (X.aC 5, 24, .inr (.inr (.inr (.inr (fun _ => none)))))), (q3, .inl (X.aC 6, 40, .inr (.inr (.inr (.inr (fun _ => none)))))), (q4, .inl (X.aC 0, (10, .inl (fun _ => 0)))), (q5, .inl (X.aC 0, (6, .inl (fun _ => 0)))), (q6, .inl (X.aC 0, (6, .inl (fun _ => 0))))]) 63 [(0, .ref a)] []
  refine z_aload_n (hX 7 96 (by decide) (by decide)) 0 dX6_init_63 rfl rfl ?_
  refine z_iconst (hX 7 96 (by decide) (by decide)) dX6_init_64 (v := 3) (by decide) ?_
  refine p_arr (t := 1) (N' := 3) (ty := .long) (a0 := (3, .inr (.inl (fun _ => 0)))) (j := 7) (fs' := fun q7 => [.ref q0, .ref q1, .ref q2, .ref q3, .ref q4, .ref q5, .ref q6, .ref q7, .null, .null, .null, .int 0, .int 0, .int 0, .int 0, .int 0]) (hX 7 96 (by decide) (by decide)) hini hq dX6_init_65 rfl zm_46 rfl (Or.inr (Or.inl rfl)) (fun _ => rfl) (by decide) (by decide) (by decide) ⟨by show 8 ≤ X.R.cells; rw [hR]; decide, by show 99 ≤ X.R.slots; rw [hR]; decide⟩ dX6_init_67 rfl zin_X6 tyX6_ok nmX6 (by decide) zm_260 rfl rfl rfl (fun _ => ⟨rfl, rfl⟩) (zlt_ok rfl) (fun _ => rfl) (fun q7 => ?_)
  show zGw (zat X 8 99) (zob ws k a 6 [.ref q0, .ref q1, .ref q2, .ref q3, .ref q4, .ref q5, .ref q6, .ref q7, .null, .null, .null, .int 0, .int 0, .int 0, .int 0, .int 0] [(q0, .inl (X.aC 3, 4, .inr (.inr (.inr (.inr (fun _ => none)))))), (q1, .inl (X.aC 4, 6, .inr (.inr (.inr (.inr (fun _ => none)))))), (q2, .inl (X.aC 5, 24, .inr (.inr (.inr (.inr (fun _ => none)))))), (q3, .inl (X.aC 6, 40, .inr (.inr (.inr (.inr (fun _ => none)))))), (q4, .inl (X.aC 0, (10, .inl (fun _ => 0)))), (q5, .inl (X.aC 0, (6, .inl (fun _ => 0)))), (q6, .inl (X.aC 0, (6, .inl (fun _ => 0)))), (q7, .inl (X.aC 1, (3, .inr (.inl (fun _ => 0)))))]) 70 [(0, .ref a)] []
  refine z_aload_n (hX 8 99 (by decide) (by decide)) 0 dX6_init_70 rfl rfl ?_
  refine z_mk5 (hX 8 99 (by decide) (by decide)) hAO dX6_init_71 dX6_init_74 dX6_init_75 zm_32 zm_34 ⟨by decide, by decide⟩ ⟨by decide, by decide⟩ (Nat.le_of_ble_eq_true rfl) (fun q8 => ?_)
  rw [zob_app]
  refine p_putF (j := 8) (v := .ref q8) (fs' := [.ref q0, .ref q1, .ref q2, .ref q3, .ref q4, .ref q5, .ref q6, .ref q7, .ref q8, .null, .null, .int 0, .int 0, .int 0, .int 0, .int 0]) (hX 9 101 (by decide) (by decide)) hini hq dX6_init_78 rfl zin_X6 tyX6_ok nmX6 (by decide) zm_261 rfl rfl rfl rfl rfl (zlt_ok rfl) rfl ?_
  refine z_aload_n (hX 9 101 (by decide) (by decide)) 0 dX6_init_81 rfl rfl ?_
  refine z_mk5 (hX 9 101 (by decide) (by decide)) hAO dX6_init_82 dX6_init_85 dX6_init_86 zm_32 zm_34 ⟨by decide, by decide⟩ ⟨by decide, by decide⟩ (Nat.le_of_ble_eq_true rfl) (fun q9 => ?_)
  rw [zob_app]
  refine p_putF (j := 9) (v := .ref q9) (fs' := [.ref q0, .ref q1, .ref q2, .ref q3, .ref q4, .ref q5, .ref q6, .ref q7, .ref q8, .ref q9, .null, .int 0, .int 0, .int 0, .int 0, .int 0]) (hX 10 103 (by decide) (by decide)) hini hq dX6_init_89 rfl zin_X6 tyX6_ok nmX6 (by decide) zm_262 rfl rfl rfl rfl rfl (zlt_ok rfl) rfl ?_
  refine z_aload_n (hX 10 103 (by decide) (by decide)) 0 dX6_init_92 rfl rfl ?_
  refine z_mk2 (hX 10 103 (by decide) (by decide)) hAO dX6_init_93 dX6_init_96 dX6_init_97 zm_47 zm_49 ⟨by decide, by decide⟩ ⟨by decide, by decide⟩ (Nat.le_of_ble_eq_true rfl) (fun q10 q11 q12 => ?_)
  rw [zob_appL]
  refine p_putF (j := 10) (v := .ref q10) (fs' := [.ref q0, .ref q1, .ref q2, .ref q3, .ref q4, .ref q5, .ref q6, .ref q7, .ref q8, .ref q9, .ref q10, .int 0, .int 0, .int 0, .int 0, .int 0]) (hX 13 120 (by decide) (by decide)) hini hq dX6_init_100 rfl zin_X6 tyX6_ok nmX6 (by decide) zm_263 rfl rfl rfl rfl rfl (zlt_ok rfl) rfl ?_
  refine z_aload_n (hX 13 120 (by decide) (by decide)) 0 dX6_init_103 rfl rfl ?_
  refine z_iconst (hX 13 120 (by decide) (by decide)) dX6_init_104 (v := 0) (by decide) ?_
  refine p_put (j := 11) (v := .int (0)) (fs' := [.ref q0, .ref q1, .ref q2, .ref q3, .ref q4, .ref q5, .ref q6, .ref q7, .ref q8, .ref q9, .ref q10, .int 0, .int 0, .int 0, .int 0, .int 0]) (hX 13 120 (by decide) (by decide)) hq dX6_init_105 rfl zin_X6 tyX6_ok nmX6 (by decide) zm_264 rfl rfl rfl rfl (zlt_ok rfl) rfl ?_
  refine z_aload_n (hX 13 120 (by decide) (by decide)) 0 dX6_init_108 rfl rfl ?_
  refine z_iconst (hX 13 120 (by decide) (by decide)) dX6_init_109 (v := 0) (by decide) ?_
  refine p_put (j := 12) (v := .int (0)) (fs' := [.ref q0, .ref q1, .ref q2, .ref q3, .ref q4, .ref q5, .ref q6, .ref q7, .ref q8, .ref q9, .ref q10, .int 0, .int 0, .int 0, .int 0, .int 0]) (hX 13 120 (by decide) (by decide)) hq dX6_init_110 rfl zin_X6 tyX6_ok nmX6 (by decide) zm_265 rfl rfl rfl rfl (zlt_ok rfl) rfl ?_
  refine z_aload_n (hX 13 120 (by decide) (by decide)) 0 dX6_init_113 rfl rfl ?_
  refine z_iconst (hX 13 120 (by decide) (by decide)) dX6_init_114 (v := 0) (by decide) ?_
  refine p_put (j := 13) (v := .int (0)) (fs' := [.ref q0, .ref q1, .ref q2, .ref q3, .ref q4, .ref q5, .ref q6, .ref q7, .ref q8, .ref q9, .ref q10, .int 0, .int 0, .int 0, .int 0, .int 0]) (hX 13 120 (by decide) (by decide)) hq dX6_init_115 rfl zin_X6 tyX6_ok nmX6 (by decide) zm_266 rfl rfl rfl rfl (zlt_ok rfl) rfl ?_
  refine z_aload_n (hX 13 120 (by decide) (by decide)) 0 dX6_init_118 rfl rfl ?_
  refine z_iconst (hX 13 120 (by decide) (by decide)) dX6_init_119 (v := 0) (by decide) ?_
  refine p_put (j := 14) (v := .int (0)) (fs' := [.ref q0, .ref q1, .ref q2, .ref q3, .ref q4, .ref q5, .ref q6, .ref q7, .ref q8, .ref q9, .ref q10, .int 0, .int 0, .int 0, .int 0, .int 0]) (hX 13 120 (by decide) (by decide)) hq dX6_init_120 rfl zin_X6 tyX6_ok nmX6 (by decide) zm_267 rfl rfl rfl rfl (zlt_ok rfl) rfl ?_
  refine z_aload_n (hX 13 120 (by decide) (by decide)) 0 dX6_init_123 rfl rfl ?_
  refine z_iconst (hX 13 120 (by decide) (by decide)) dX6_init_124 (v := 0) (by decide) ?_
  refine p_put (j := 15) (v := .int (0)) (fs' := [.ref q0, .ref q1, .ref q2, .ref q3, .ref q4, .ref q5, .ref q6, .ref q7, .ref q8, .ref q9, .ref q10, .int 0, .int 0, .int 0, .int 0, .int 0]) (hX 13 120 (by decide) (by decide)) hq dX6_init_125 rfl zin_X6 tyX6_ok nmX6 (by decide) zm_268 rfl rfl rfl rfl (zlt_ok rfl) rfl ?_
  show zGw (zat X 13 120) (zob ws k a 6 [.ref q0, .ref q1, .ref q2, .ref q3, .ref q4, .ref q5, .ref q6, .ref q7, .ref q8, .ref q9, .ref q10, .int 0, .int 0, .int 0, .int 0, .int 0] [(q0, .inl (X.aC 3, 4, .inr (.inr (.inr (.inr (fun _ => none)))))), (q1, .inl (X.aC 4, 6, .inr (.inr (.inr (.inr (fun _ => none)))))), (q2, .inl (X.aC 5, 24, .inr (.inr (.inr (.inr (fun _ => none)))))), (q3, .inl (X.aC 6, 40, .inr (.inr (.inr (.inr (fun _ => none)))))), (q4, .inl (X.aC 0, (10, .inl (fun _ => 0)))), (q5, .inl (X.aC 0, (6, .inl (fun _ => 0)))), (q6, .inl (X.aC 0, (6, .inl (fun _ => 0)))), (q7, .inl (X.aC 1, (3, .inr (.inl (fun _ => 0))))), (q8, .inr (5, [.int 0, .int (-1)])), (q9, .inr (5, [.int 0, .int (-1)])), (q10, .inr (2, [.ref q11, .ref q12, .int 0, .int 0, .int 0, .int 0, .int 0, .int 0, .int 0])), (q11, .inl (X.aC 0, (4, .inl (fun _ => 0)))), (q12, .inl (X.aC 2, (4, .inl (fun _ => 0))))]) 128 [(0, .ref a)] []
  subst hk
  subst hpre
  rw [zconv]
  generalize hd : (fun c => [a, q0, q1, q2, q3, q4, q5, q6, q7, q8, q9, q10, q11, q12].getD c 0) = ad
  have h0 : ad 0 = a := by rw [← hd]; rfl
  refine z_iconst (hX 13 120 (by decide) (by decide)) dX6_init_128 (v := 0) (by decide) ?_
  refine z_istore_n (hX 13 120 (by decide) (by decide)) [(0, .ref a), (1, .int 0)] dX6_init_129 rfl (by show 1 < X.nL; rw [hnl]; decide) [1, 0] rfl ?_
  rw [← nI_0]
  refine l6_1 hnl hX hAO ?_ 4 0 (by decide) [0, 1, 2, 3, 4, 5, 6, 7, 8, 9, 10, 11, 12, 13] ad h0 (by decide) (by decide) (fun c => by simp only [List.mem_cons, List.not_mem_nil, or_false]; unfold zPm; omega)
  clear hd h0 ad
  intro cs ad h0 hnd hpre hmem
  refine z_iconst (hX 21 160 (by decide) (by decide)) dX6_init_154 (v := 0) (by decide) ?_
  refine z_istore_n (hX 21 160 (by decide) (by decide)) [(0, .ref a), (1, .int 0)] dX6_init_155 rfl (by show 1 < X.nL; rw [hnl]; decide) [1, 0] rfl ?_
  rw [← nI_0]
  refine l6_2 hnl hX hAO ?_ 6 0 (by decide) cs ad h0 hnd hpre hmem
  clear hmem hpre hnd h0 ad cs
  intro cs ad h0 hnd hpre hmem
  refine z_iconst (hX 33 184 (by decide) (by decide)) dX6_init_181 (v := 0) (by decide) ?_
  refine z_istore_n (hX 33 184 (by decide) (by decide)) [(0, .ref a), (1, .int 0)] dX6_init_182 rfl (by show 1 < X.nL; rw [hnl]; decide) [1, 0] rfl ?_
  rw [← nI_0]
  refine l6_3 hnl hX hAO ?_ 24 0 (by decide) cs ad h0 hnd hpre hmem
  clear hmem hpre hnd h0 ad cs
  intro cs ad h0 hnd hpre hmem
  refine z_iconst (hX 57 448 (by decide) (by decide)) dX6_init_208 (v := 0) (by decide) ?_
  refine z_istore_n (hX 57 448 (by decide) (by decide)) [(0, .ref a), (1, .int 0)] dX6_init_209 rfl (by show 1 < X.nL; rw [hnl]; decide) [1, 0] rfl ?_
  rw [← nI_0]
  refine l6_4 hnl hX hAO ?_ 40 0 (by decide) cs ad h0 hnd hpre hmem
  clear hmem hpre hnd h0 ad cs
  intro cs ad h0 hnd hpre hmem
  refine z_iconst (hX 97 928 (by decide) (by decide)) dX6_init_235 (v := 0) (by decide) ?_
  refine z_istore_n (hX 97 928 (by decide) (by decide)) [(0, .ref a), (1, .int 0)] dX6_init_236 rfl (by show 1 < X.nL; rw [hnl]; decide) [1, 0] rfl ?_
  rw [← nI_0]
  rw [← zstR_0]
  refine l6_5 hnl hX h0 hnd hpre ?_ 10 0 (by decide)
  exact z_vretI (hX 97 928 (by decide) (by decide)) hQ ⟨ad, cs, h0, hnd, fun c => (hmem c).trans (by unfold zPm; omega), rfl⟩ dX6_init_256
end ZCY
