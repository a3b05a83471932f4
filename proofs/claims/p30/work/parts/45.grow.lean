/-! worlds of numbered cells that grow; the fresh state of the class -/
section ZGR
def zu {α : Type} (f : Nat → α) (c : Nat) (v : α) : Nat → α := fun k => if k = c then v else f k
theorem zu_self {α : Type} {f : Nat → α} {c : Nat} {v : α} : zu f c v c = v := if_pos rfl
theorem zu_ne {α : Type} {f : Nat → α} {c k : Nat} {v : α} (h : k ≠ c) : zu f c v k = f k := if_neg h
def zfw (cs : List Nat) (ad : Nat → Nat) (e : Nat → va_E) : va_W := cs.map fun c => (ad c, e c)
variable {cs cs' : List Nat} {ad ad' : Nat → Nat} {e e' : Nat → va_E} {r : va_W} {k c o p q q1 q2 : Nat} {v v1 v2 : va_E}
theorem zfw_at (h : cs[k]? = some c) : (r ++ zfw cs ad e)[r.length + k]? = some (ad c, e c) := by
  rw [List.getElem?_append_right (Nat.le_add_right _ _), Nat.add_sub_cancel_left]
  show (cs.map _)[k]? = _
  rw [List.getElem?_map, h]
  rfl
theorem zfw_congr (h : ∀ c ∈ cs, ad c = ad' c ∧ e c = e' c) : zfw cs ad e = zfw cs ad' e' := List.map_congr_left fun c hc => by rw [(h c hc).1, (h c hc).2]
theorem zfw_set0 : ∀ (cs : List Nat) (k c : Nat), cs.Nodup → cs[k]? = some c → (zfw cs ad e).set k (ad c, v) = zfw cs ad (zu e c v)
  | [], k, c, _, h => by simp at h
  | c0 :: cs, 0, c, hn, h => by
    have h2 : c0 = c := by simpa using h
    subst h2
    show (ad c0, v) :: zfw cs ad e = (ad c0, zu e c0 v c0) :: zfw cs ad (zu e c0 v)
    rw [zu_self]
    congr 1
    exact zfw_congr fun c' hc' => ⟨rfl, (zu_ne (fun hq : c' = c0 => (List.nodup_cons.mp hn).1 (hq ▸ hc'))).symm⟩
  | c0 :: cs, k + 1, c, hn, h => by
    have h2 : cs[k]? = some c := by simpa using h
    have hm : c ∈ cs := List.mem_of_getElem? h2
    have hne : c0 ≠ c := fun q => (List.nodup_cons.mp hn).1 (q ▸ hm)
    show (ad c0, e c0) :: (zfw cs ad e).set k (ad c, v) = (ad c0, zu e c v c0) :: zfw cs ad (zu e c v)
    rw [zu_ne hne, zfw_set0 cs k c (List.nodup_cons.mp hn).2 h2]
theorem zfw_set (hn : cs.Nodup) (h : cs[k]? = some c) : (r ++ zfw cs ad e).set (r.length + k) (ad c, v) = r ++ zfw cs ad (zu e c v) := by
  rw [List.set_append_right _ _ (Nat.le_add_right _ _), Nat.add_sub_cancel_left, zfw_set0 cs k c hn h]
theorem zfw_app1 (ho : o ∉ cs) : zfw cs ad e ++ [(q, v)] = zfw (cs ++ [o]) (zu ad o q) (zu e o v) := by
  have h1 : zfw (cs ++ [o]) (zu ad o q) (zu e o v) = zfw cs (zu ad o q) (zu e o v) ++ [(zu ad o q o, zu e o v o)] := List.map_append
  rw [h1, zu_self, zu_self]
  congr 1
  exact zfw_congr fun c hc => by
    have hne : c ≠ o := fun q => ho (q ▸ hc)
    exact ⟨(zu_ne hne).symm, (zu_ne hne).symm⟩
theorem zfw_app2 (ho : o ∉ cs) (hp : p ∉ cs) (hop : p ≠ o) : zfw cs ad e ++ [(q1, v1), (q2, v2)] = zfw (cs ++ [o] ++ [p]) (zu (zu ad o q1) p q2) (zu (zu e o v1) p v2) := by
  have h1 : zfw cs ad e ++ [(q1, v1), (q2, v2)] = (zfw cs ad e ++ [(q1, v1)]) ++ [(q2, v2)] := by rw [List.append_assoc]; rfl
  rw [h1, zfw_app1 ho, zfw_app1 (by
    intro h
    rcases List.mem_append.mp h with h | h
    · exact hp h
    · exact hop (List.mem_singleton.mp h))]
def zemS (aC : Nat → ClassId) (ad : Nat → Nat) (a : Nat → Int32) (b : Nat → Int64) (mc : Nat) : zShp → va_E
  | .inl x => zcel ad aC a b (.inl x)
  | .inr (t, len, 0) => zcel ad aC a b (.inr (t, len, 0))
  | .inr (t, len, 1) => zcel ad aC a b (.inr (t, len, 1))
  | .inr (t, len, r + 2) => .inl (aC t, len, .inr (.inr (.inr (.inr (fun j => if j < mc then some (ad (r + j)) else none)))))
def zem (aC : Nat → ClassId) (st : zSt) (ad : Nat → Nat) (m : Nat → Nat) (c : Nat) : va_E := zemS aC ad (st.1 c) (st.2 c) (m c) (shC c)
def zrefS (mc r : Nat) : zShp → Prop
  | .inl (_, L) => r + 2 ∈ L
  | .inr (_, _, 0) => False
  | .inr (_, _, 1) => False
  | .inr (_, _, b + 2) => ∃ j, j < mc ∧ r = b + j
theorem zsl_ad {a : Nat → Int32} {b : Nat → Int64} : ∀ (L : List Nat), (∀ r, r + 2 ∈ L → ad r = ad' r) → ∀ j, zsl ad a b j L = zsl ad' a b j L
  | [], _, _ => rfl
  | k :: t, h, j => by
    have ih := zsl_ad (a := a) (b := b) t (fun r hr => h r (List.mem_cons_of_mem _ hr)) (j + 1)
    have e : zslt ad a b j k = zslt ad' a b j k := match k, h with
      | 0, _ => rfl
      | 1, _ => rfl
      | r + 2, h => by
        show Value.ref (ad r) = Value.ref (ad' r)
        rw [h r List.mem_cons_self]
    show zslt ad a b j k :: zsl ad a b (j + 1) t = zslt ad' a b j k :: zsl ad' a b (j + 1) t
    rw [e, ih]
theorem zemS_ad {aC : Nat → ClassId} {a : Nat → Int32} {b : Nat → Int64} {mc : Nat} : ∀ (s : zShp), (∀ r, zrefS mc r s → ad r = ad' r) → zemS aC ad a b mc s = zemS aC ad' a b mc s
  | .inl (ci, L), h => by
    show Sum.inr (ci, zsl ad a b 0 L) = Sum.inr (ci, zsl ad' a b 0 L)
    rw [zsl_ad L h]
  | .inr (t, len, 0), _ => rfl
  | .inr (t, len, 1), _ => rfl
  | .inr (t, len, b0 + 2), h => by
    have e : (fun j => if j < mc then some (ad (b0 + j)) else none) = (fun j => if j < mc then some (ad' (b0 + j)) else none) := by
      funext j
      by_cases hj : j < mc
      · rw [if_pos hj, if_pos hj, h (b0 + j) ⟨j, hj, rfl⟩]
      · rw [if_neg hj, if_neg hj]
    show Sum.inl (aC t, len, Sum.inr (Sum.inr (Sum.inr (Sum.inr (fun j => if j < mc then some (ad (b0 + j)) else none))))) = Sum.inl (aC t, len, Sum.inr (Sum.inr (Sum.inr (Sum.inr (fun j => if j < mc then some (ad' (b0 + j)) else none)))))
    rw [e]
def zPm (i1 i2 i3 i4 c : Nat) : Prop := c < 14 ∨ (14 ≤ c ∧ c < 14 + i1) ∨ (18 ≤ c ∧ c < 18 + i1) ∨ (22 ≤ c ∧ c < 22 + i2) ∨ (28 ≤ c ∧ c < 28 + i2) ∨ (34 ≤ c ∧ c < 34 + i3) ∨ (58 ≤ c ∧ c < 58 + i4)
def zmf (i1 i2 i3 i4 c : Nat) : Nat := if c = 1 then i1 else if c = 2 then i2 else if c = 3 then i3 else if c = 4 then i4 else 0
theorem zclosed {i1 i2 i3 i4 c r : Nat} (h1 : i1 ≤ 4) (h2 : i2 ≤ 6) (h3 : i3 ≤ 24) (h4 : i4 ≤ 40) (hc : zPm i1 i2 i3 i4 c) (hr : zrefS (zmf i1 i2 i3 i4 c) r (shC c)) : zPm i1 i2 i3 i4 r := by
  have hz : (c = 5 ∨ c = 6 ∨ c = 7 ∨ c = 8 ∨ c = 12 ∨ c = 13) ∨ c = 0 ∨ c = 11 ∨ c = 1 ∨ c = 2 ∨ c = 3 ∨ c = 4 ∨ zkSpan c ∨ (14 ≤ c ∧ c < 14 + i1) ∨ (22 ≤ c ∧ c < 22 + i2) ∨ zkSailing c ∨ zkBooking c := by
    unfold zPm at hc
    unfold zkSpan zkSailing zkBooking
    omega
  rcases hz with (rfl | rfl | rfl | rfl | rfl | rfl) | rfl | rfl | rfl | rfl | rfl | rfl | h | h | h | h | h
  · exact hr.elim
  · exact hr.elim
  · exact hr.elim
  · exact hr.elim
  · exact hr.elim
  · exact hr.elim
  · have h5 : r + 2 ∈ [3, 4, 5, 6, 7, 8, 9, 10, 11, 12, 13, 0, 0, 0, 0, 0] := hr
    simp only [List.mem_cons, List.not_mem_nil, or_false] at h5
    unfold zPm
    omega
  · have h5 : r + 2 ∈ [14, 15, 0, 0, 0, 0, 0, 0, 0] := hr
    simp only [List.mem_cons, List.not_mem_nil, or_false] at h5
    unfold zPm
    omega
  · obtain ⟨j, hj, rfl⟩ : ∃ j, j < i1 ∧ r = 14 + j := hr
    unfold zPm
    omega
  · obtain ⟨j, hj, rfl⟩ : ∃ j, j < i2 ∧ r = 22 + j := hr
    unfold zPm
    omega
  · obtain ⟨j, hj, rfl⟩ : ∃ j, j < i3 ∧ r = 34 + j := hr
    unfold zPm
    omega
  · obtain ⟨j, hj, rfl⟩ : ∃ j, j < i4 ∧ r = 58 + j := hr
    unfold zPm
    omega
  · rw [zsh_Span h] at hr
    have h5 : r + 2 ∈ [0, 0] := hr
    simp at h5
  · rw [zsh_Ship ⟨h.1, by omega⟩] at hr
    have h5 : r + 2 ∈ [0, 0, 0, 0, 0, 0, 0, c + 4 + 2] := hr
    simp only [List.mem_cons, List.not_mem_nil, or_false] at h5
    unfold zPm
    omega
  · rw [zsh_Crew ⟨h.1, by omega⟩] at hr
    have h5 : r + 2 ∈ [0, c + 6 + 2] := hr
    simp only [List.mem_cons, List.not_mem_nil, or_false] at h5
    unfold zPm
    omega
  · rw [zsh_Sailing h] at hr
    have h5 : r + 2 ∈ [0, 0, 0, 0, 0, 0, 0, 0, 0, 0, 0] := hr
    simp at h5
  · rw [zsh_Booking h] at hr
    have h5 : r + 2 ∈ [0, 0, 0, 0, 0, 0, 0, 0, 0, 0, 0, 0] := hr
    simp at h5
theorem zturn {aC : Nat → ClassId} {st : zSt} {m m' : Nat → Nat} {ca t len b i : Nat} {e1 : Nat → va_E} (hsa : shC ca = .inr (t, len, b + 2)) (hm : m ca = i) (hm1 : m' ca = i + 1) (hm' : ∀ c, c ≠ ca → m' c = m c) (hold : ∀ c ∈ cs, ad' c = ad c) (hcl : ∀ c ∈ cs, ∀ r, zrefS (m c) r (shC c) → r ∈ cs) (hca : ca ∈ cs) (hq : ad' (b + i) = q1) (hnew : ∀ c ∈ cs', c ∉ cs → e1 c = zem aC st ad' m' c) (hold1 : ∀ c ∈ cs, e1 c = zem aC st ad m c) : zfw cs' ad' (zu e1 ca (.inl (aC t, len, .inr (.inr (.inr (.inr (va_up (fun j => if j < i then some (ad (b + j)) else none) i (some q1)))))))) = zfw cs' ad' (zem aC st ad' m') := by
  refine zfw_congr fun c hc => ⟨rfl, ?_⟩
  by_cases h : c = ca
  · subst h
    rw [zu_self]
    have e : va_up (fun j => if j < i then some (ad (b + j)) else none) i (some q1) = (fun j => if j < i + 1 then some (ad' (b + j)) else none) := by
      funext j
      unfold va_up
      by_cases h1 : j = i
      · rw [if_pos h1, if_pos (by omega), h1, hq]
      · rw [if_neg h1]
        dsimp only
        by_cases h2 : j < i
        · rw [if_pos h2, if_pos (by omega), hold (b + j) (hcl c hca (b + j) (by rw [hsa, hm]; exact ⟨j, h2, rfl⟩))]
        · rw [if_neg h2, if_neg (by omega)]
    rw [e]
    unfold zem
    rw [hsa, hm1]
    rfl
  · rw [zu_ne h]
    by_cases hc2 : c ∈ cs
    · rw [hold1 c hc2]
      unfold zem
      rw [hm' c h]
      exact zemS_ad _ (fun r hr => (hold r (hcl c hc2 r hr)).symm)
    · exact hnew c hc hc2
def zst0 : zSt := (fun c j => if ((c = 9 ∨ c = 10 ∨ (18 ≤ c ∧ c < 22) ∨ (28 ≤ c ∧ c < 34)) ∧ j = 1) ∨ ((22 ≤ c ∧ c < 28) ∧ j = 0) ∨ ((34 ≤ c ∧ c < 58) ∧ (j = 0 ∨ j = 8)) ∨ ((58 ≤ c ∧ c < 98) ∧ (j = 0 ∨ j = 4)) then -1 else 0, fun _ _ => 0)
theorem zst0_m {c j : Nat} (h : ((c = 9 ∨ c = 10 ∨ (18 ≤ c ∧ c < 22) ∨ (28 ≤ c ∧ c < 34)) ∧ j = 1) ∨ ((22 ≤ c ∧ c < 28) ∧ j = 0) ∨ ((34 ≤ c ∧ c < 58) ∧ (j = 0 ∨ j = 8)) ∨ ((58 ≤ c ∧ c < 98) ∧ (j = 0 ∨ j = 4))) : zst0.1 c j = -1 := if_pos h
theorem zst0_z {c j : Nat} (h : ¬ (((c = 9 ∨ c = 10 ∨ (18 ≤ c ∧ c < 22) ∨ (28 ≤ c ∧ c < 34)) ∧ j = 1) ∨ ((22 ≤ c ∧ c < 28) ∧ j = 0) ∨ ((34 ≤ c ∧ c < 58) ∧ (j = 0 ∨ j = 8)) ∨ ((58 ≤ c ∧ c < 98) ∧ (j = 0 ∨ j = 4)))) : zst0.1 c j = 0 := if_neg h
variable {aC : Nat → ClassId} {m : Nat → Nat}
theorem zem_ship (h : zkShip c) : zem aC zst0 ad m c = .inr (4, [.int 0, .int 0, .int 0, .int 0, .int 0, .int 0, .int 0, .ref (ad (c + 4))]) := by
  have h1 := h.1
  have h2 := h.2
  unfold zem
  rw [zsh_Ship h]
  show Sum.inr (4, [Value.int (zst0.1 c 0), Value.int (zst0.1 c 1), Value.int (zst0.1 c 2), Value.int (zst0.1 c 3), Value.int (zst0.1 c 4), Value.int (zst0.1 c 5), Value.int (zst0.1 c 6), Value.ref (ad (c + 4))]) = _
  rw [zst0_z (j := 0) (by omega), zst0_z (j := 1) (by omega), zst0_z (j := 2) (by omega), zst0_z (j := 3) (by omega), zst0_z (j := 4) (by omega), zst0_z (j := 5) (by omega), zst0_z (j := 6) (by omega)]
theorem zem_crew (h : zkCrew c) : zem aC zst0 ad m c = .inr (1, [.int (-1), .ref (ad (c + 6))]) := by
  have h1 := h.1
  have h2 := h.2
  unfold zem
  rw [zsh_Crew h]
  show Sum.inr (1, [Value.int (zst0.1 c 0), Value.ref (ad (c + 6))]) = _
  rw [zst0_m (j := 0) (by omega)]
theorem zem_span (h : zkSpan c) : zem aC zst0 ad m c = .inr (5, [.int 0, .int (-1)]) := by
  have h1 : c = 9 ∨ c = 10 ∨ (18 ≤ c ∧ c < 22) ∨ (28 ≤ c ∧ c < 34) := h
  unfold zem
  rw [zsh_Span h]
  show Sum.inr (5, [Value.int (zst0.1 c 0), Value.int (zst0.1 c 1)]) = _
  rw [zst0_z (j := 0) (by omega), zst0_m (j := 1) (by omega)]
theorem zem_sailing (h : zkSailing c) : zem aC zst0 ad m c = .inr (3, [.int (-1), .int 0, .int 0, .int 0, .int 0, .int 0, .int 0, .int 0, .int (-1), .int 0, .int 0]) := by
  have h1 := h.1
  have h2 := h.2
  unfold zem
  rw [zsh_Sailing h]
  show Sum.inr (3, [Value.int (zst0.1 c 0), Value.int (zst0.1 c 1), Value.int (zst0.1 c 2), Value.int (zst0.1 c 3), Value.int (zst0.1 c 4), Value.int (zst0.1 c 5), Value.int (zst0.1 c 6), Value.int (zst0.1 c 7), Value.int (zst0.1 c 8), Value.int (zst0.1 c 9), Value.int (zst0.1 c 10)]) = _
  rw [zst0_m (j := 0) (by omega), zst0_z (j := 1) (by omega), zst0_z (j := 2) (by omega), zst0_z (j := 3) (by omega), zst0_z (j := 4) (by omega), zst0_z (j := 5) (by omega), zst0_z (j := 6) (by omega), zst0_z (j := 7) (by omega), zst0_m (j := 8) (by omega), zst0_z (j := 9) (by omega), zst0_z (j := 10) (by omega)]
theorem zem_booking (h : zkBooking c) : zem aC zst0 ad m c = .inr (0, [.int (-1), .int 0, .int 0, .int 0, .int (-1), .int 0, .int 0, .int 0, .int 0, .int 0, .int 0, .int 0]) := by
  have h1 := h.1
  have h2 := h.2
  unfold zem
  rw [zsh_Booking h]
  show Sum.inr (0, [Value.int (zst0.1 c 0), Value.int (zst0.1 c 1), Value.int (zst0.1 c 2), Value.int (zst0.1 c 3), Value.int (zst0.1 c 4), Value.int (zst0.1 c 5), Value.int (zst0.1 c 6), Value.int (zst0.1 c 7), Value.int (zst0.1 c 8), Value.int (zst0.1 c 9), Value.int (zst0.1 c 10), Value.int (zst0.1 c 11)]) = _
  rw [zst0_m (j := 0) (by omega), zst0_z (j := 1) (by omega), zst0_z (j := 2) (by omega), zst0_z (j := 3) (by omega), zst0_m (j := 4) (by omega), zst0_z (j := 5) (by omega), zst0_z (j := 6) (by omega), zst0_z (j := 7) (by omega), zst0_z (j := 8) (by omega), zst0_z (j := 9) (by omega), zst0_z (j := 10) (by omega), zst0_z (j := 11) (by omega)]
theorem zem_0 : zem aC zst0 ad m 0 = .inr (6, [.ref (ad 1), .ref (ad 2), .ref (ad 3), .ref (ad 4), .ref (ad 5), .ref (ad 6), .ref (ad 7), .ref (ad 8), .ref (ad 9), .ref (ad 10), .ref (ad 11), .int 0, .int 0, .int 0, .int 0, .int 0]) := by
  show Sum.inr (6, [Value.ref (ad 1), .ref (ad 2), .ref (ad 3), .ref (ad 4), .ref (ad 5), .ref (ad 6), .ref (ad 7), .ref (ad 8), .ref (ad 9), .ref (ad 10), .ref (ad 11), .int (zst0.1 0 11), .int (zst0.1 0 12), .int (zst0.1 0 13), .int (zst0.1 0 14), .int (zst0.1 0 15)]) = _
  rw [zst0_z (by omega), zst0_z (by omega), zst0_z (by omega), zst0_z (by omega), zst0_z (by omega)]
theorem zem_11 : zem aC zst0 ad m 11 = .inr (2, [.ref (ad 12), .ref (ad 13), .int 0, .int 0, .int 0, .int 0, .int 0, .int 0, .int 0]) := by
  show Sum.inr (2, [Value.ref (ad 12), .ref (ad 13), .int (zst0.1 11 2), .int (zst0.1 11 3), .int (zst0.1 11 4), .int (zst0.1 11 5), .int (zst0.1 11 6), .int (zst0.1 11 7), .int (zst0.1 11 8)]) = _
  rw [zst0_z (by omega), zst0_z (by omega), zst0_z (by omega), zst0_z (by omega), zst0_z (by omega), zst0_z (by omega), zst0_z (by omega)]
theorem zst0_f {c : Nat} (h : ¬ (c = 9 ∨ c = 10 ∨ 14 ≤ c)) : zst0.1 c = fun _ => 0 := funext fun j => zst0_z (by omega)
end ZGR
