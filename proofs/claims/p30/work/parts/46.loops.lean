/-! the class's constructor -/
section ZCX
theorem znd1 {cs : List Nat} {o : Nat} (h : cs.Nodup) (ho : o ∉ cs) : (cs ++ [o]).Nodup := List.nodup_append.mpr ⟨h, by simp, fun a ha b hb => by
  rw [List.mem_singleton.mp hb]
  exact fun q => ho (q ▸ ha)⟩
theorem zpre1 {cs : List Nat} {o : Nat} (h : ∀ k, k < 14 → cs[k]? = some k) : ∀ k, k < 14 → (cs ++ [o])[k]? = some k := fun k hk => by
  rw [List.getElem?_append_left (List.getElem?_eq_some_iff.mp (h k hk)).1]
  exact h k hk
theorem zpos1 {cs : List Nat} {o : Nat} : (cs ++ [o])[cs.length]? = some o := zat_last cs o
theorem zpos2 {cs : List Nat} {o p : Nat} : (cs ++ [o] ++ [p])[cs.length]? = some o := by
  rw [List.getElem?_append_left (by simp)]
  exact zat_last cs o
variable {X : zCx} {r : va_W} {a : Nat}
set_option maxHeartbeats 4000000 in
theorem l6_1 (hnl : X.nL = 2) (hX : ∀ c n, c ≤ 97 → n ≤ 928 → zOk (zat X c n) RX6 cX6_init ({ frames := 3, cells := 97, slots := 928, locals := 52 } : Room)) (hAO : zAO X.s) (KK : ∀ (cs : List Nat) (ad : Nat → Nat), ad 0 = a → cs.Nodup → (∀ k, k < 14 → cs[k]? = some k) → (∀ c, c ∈ cs ↔ zPm 4 0 0 0 c) → zGw (zat X 21 160) (r ++ zfw cs ad (zem X.aC zst0 ad (zmf 4 0 0 0))) 154 [(0, .ref a)] []) : ∀ (d i : Nat), i + d = 4 → ∀ (cs : List Nat) (ad : Nat → Nat), ad 0 = a → cs.Nodup → (∀ k, k < 14 → cs[k]? = some k) → (∀ c, c ∈ cs ↔ zPm i 0 0 0 c) → zGw (zat X (13 + 2 * i) (120 + 10 * i)) (r ++ zfw cs ad (zem X.aC zst0 ad (zmf i 0 0 0))) 130 [(0, .ref a), (1, .int (nI i))] [] := by
  intro d
  induction d with
  | zero =>
    intro i hi cs ad h0 hnd hpre hmem
    obtain rfl : i = 4 := by omega
    refine z_iload_n (hX _ _ (by decide) (by decide)) 1 dX6_init_130 rfl rfl ?_
    refine z_iconst (hX _ _ (by decide) (by decide)) dX6_init_131 (v := nI 4) (by decide) ?_
    refine z_icmp_ge (hX _ _ (by decide) (by decide)) 154 dX6_init_132 (by decide) (fun _ => ?_) (fun h => absurd (nI_le (Nat.le_refl _) (by decide)) h)
    refine z_locals [0] [(0, .ref a)] rfl ?_
    exact KK cs ad h0 hnd hpre hmem
  | succ d ih =>
    intro i hi cs ad h0 hnd hpre hmem
    have hi4 : i < 4 := by omega
    refine z_iload_n (hX _ _ (by omega) (by omega)) 1 dX6_init_130 rfl rfl ?_
    refine z_iconst (hX _ _ (by omega) (by omega)) dX6_init_131 (v := nI 4) (by decide) ?_
    refine z_icmp_ge (hX _ _ (by omega) (by omega)) 154 dX6_init_132 (by decide) (fun h => absurd h (nI_ge hi4 (by decide))) (fun _ => ?_)
    refine z_aload_n (hX _ _ (by omega) (by omega)) 0 dX6_init_135 rfl rfl ?_
    have he0 : (r ++ zfw cs ad (zem X.aC zst0 ad (zmf i 0 0 0)))[r.length + 0]? = some (a, .inr (6, [.ref (ad 1), .ref (ad 2), .ref (ad 3), .ref (ad 4), .ref (ad 5), .ref (ad 6), .ref (ad 7), .ref (ad 8), .ref (ad 9), .ref (ad 10), .ref (ad 11), .int 0, .int 0, .int 0, .int 0, .int 0])) := by rw [zfw_at (hpre 0 (by decide)), h0, zem_0]
    refine z_getw (k := 0) (hX _ _ (by omega) (by omega)) (r.length + 0) dX6_init_136 he0 rfl zin_X6 (by decide) zm_253 (v := .ref (ad 1)) rfl ?_
    refine z_iload_n (hX _ _ (by omega) (by omega)) 1 dX6_init_139 rfl rfl ?_
    have ho : 14 + i ∉ cs := (fun h => by have h2 := (hmem _).mp h; unfold zPm at h2; omega)
    have hp : 18 + i ∉ cs := (fun h => by have h2 := (hmem _).mp h; unfold zPm at h2; omega)
    refine z_mk4 (hX _ _ (by omega) (by omega)) hAO dX6_init_140 dX6_init_143 dX6_init_144 zm_24 zm_84 ⟨by decide, by decide⟩ ⟨by show _ ≤ 97; omega, by show _ ≤ 928; omega⟩ (Nat.le_of_ble_eq_true rfl) (fun q1 q2 => ?_)
    rw [List.append_assoc, zfw_app2 ho hp (by omega)]
    have hp1 : (18 + i) ∉ cs ++ [14 + i] := fun h => (List.mem_append.mp h).elim hp (fun h => by have := List.mem_singleton.mp h; omega)
    have hnd1 : (cs ++ [14 + i] ++ [18 + i]).Nodup := znd1 (znd1 hnd ho) hp1
    have hpre1 : ∀ k, k < 14 → (cs ++ [14 + i] ++ [18 + i])[k]? = some k := zpre1 (zpre1 hpre)
    have hmem1 : ∀ c, c ∈ (cs ++ [14 + i] ++ [18 + i]) ↔ zPm (i + 1) 0 0 0 c := fun c => by
      simp only [List.mem_append, List.mem_singleton, hmem]
      unfold zPm
      omega
    have hadn : ∀ c, c ∈ cs → (zu (zu ad (14 + i) q1) (18 + i) q2) c = ad c := fun c hc => by
      have h2 := (hmem c).mp hc
      unfold zPm at h2
      rw [zu_ne (by omega), zu_ne (by omega)]
    have hca : 1 ∈ cs := (hmem 1).mpr (Or.inl (by decide))
    have ha : (r ++ zfw (cs ++ [14 + i] ++ [18 + i]) (zu (zu ad (14 + i) q1) (18 + i) q2) (zu (zu (zem X.aC zst0 ad (zmf i 0 0 0)) (14 + i) (.inr (4, [.int 0, .int 0, .int 0, .int 0, .int 0, .int 0, .int 0, .ref q2]))) (18 + i) (.inr (5, [.int 0, .int (-1)]))))[r.length + 1]? = some (ad 1, .inl (X.aC 3, 4, .inr (.inr (.inr (.inr (fun j => if j < i then some (ad (14 + j)) else none)))))) := by
      rw [zfw_at (hpre1 1 (by decide)), hadn _ hca, zu_ne (by omega), zu_ne (by omega)]
      rfl
    have hv : (r ++ zfw (cs ++ [14 + i] ++ [18 + i]) (zu (zu ad (14 + i) q1) (18 + i) q2) (zu (zu (zem X.aC zst0 ad (zmf i 0 0 0)) (14 + i) (.inr (4, [.int 0, .int 0, .int 0, .int 0, .int 0, .int 0, .int 0, .ref q2]))) (18 + i) (.inr (5, [.int 0, .int (-1)]))))[r.length + cs.length]? = some (q1, (.inr (4, [.int 0, .int 0, .int 0, .int 0, .int 0, .int 0, .int 0, .ref q2]))) := by
      rw [zfw_at (zpos2), zu_ne (by omega), zu_self, zu_ne (by omega), zu_self]
    refine z_astq (hX _ _ (by omega) (by omega)) (r.length + 1) 3 (r.length + cs.length) 4 (r := (RX4, TX4, 8)) dX6_init_147 ha rfl hv rfl (vp_in_nI hi4 (by decide)) ?_
    have hset : ∀ V, (r ++ zfw (cs ++ [14 + i] ++ [18 + i]) (zu (zu ad (14 + i) q1) (18 + i) q2) (zu (zu (zem X.aC zst0 ad (zmf i 0 0 0)) (14 + i) (.inr (4, [.int 0, .int 0, .int 0, .int 0, .int 0, .int 0, .int 0, .ref q2]))) (18 + i) (.inr (5, [.int 0, .int (-1)])))).set (r.length + 1) (ad 1, V) = r ++ zfw (cs ++ [14 + i] ++ [18 + i]) (zu (zu ad (14 + i) q1) (18 + i) q2) (zu (zu (zu (zem X.aC zst0 ad (zmf i 0 0 0)) (14 + i) (.inr (4, [.int 0, .int 0, .int 0, .int 0, .int 0, .int 0, .int 0, .ref q2]))) (18 + i) (.inr (5, [.int 0, .int (-1)]))) 1 V) := fun V => by
      rw [← hadn _ hca]
      exact zfw_set hnd1 (hpre1 1 (by decide))
    rw [nI_clamp (show i < 2 ^ 31 by omega), hset]
    rw [zturn (aC := X.aC) (i := i) (q1 := q1) (cs := cs) (ad := ad) (m := zmf i 0 0 0) (m' := zmf (i + 1) 0 0 0) shC_1 rfl rfl (fun c h => by simp [zmf, h]) hadn (fun c hc r hr => (hmem r).mpr (zclosed (by omega) (by omega) (by omega) (by omega) ((hmem c).mp hc) hr)) hca (by rw [zu_ne (by omega), zu_self]) ?_ ?_]
    · refine z_iinc (j := 1) (v := 1) (hX _ _ (by omega) (by omega)) [(0, .ref a), (1, .int (nI i + 1))] dX6_init_148 rfl (by decide) (by show 1 < X.nL; rw [hnl]; decide) [1, 0] rfl ?_
      rw [nI_1]
      refine z_goto (hX _ _ (by omega) (by omega)) 130 dX6_init_151 (by decide) ?_
      have g1 : 13 + 2 * i + 2 = 13 + 2 * (i + 1) := by omega
      have g2 : 120 + 10 * i + 10 = 120 + 10 * (i + 1) := by omega
      rw [g1, g2]
      exact ih (i + 1) (by omega) (cs ++ [14 + i] ++ [18 + i]) (zu (zu ad (14 + i) q1) (18 + i) q2) (by rw [hadn _ ((hmem 0).mpr (Or.inl (by decide)))]; exact h0) hnd1 hpre1 hmem1
    · intro c hc hn
      rcases List.mem_append.mp hc with h | h
      · rcases List.mem_append.mp h with h | h
        · exact absurd h hn
        · have h := List.mem_singleton.mp h
          subst h
          rw [zu_ne (by omega), zu_self, zem_ship ⟨by omega, by omega⟩, show 14 + i + 4 = 18 + i by omega, zu_self]
      · have h := List.mem_singleton.mp h
        subst h
        rw [zu_self, zem_span (by unfold zkSpan; omega)]
    · intro c hc
      have h2 := (hmem c).mp hc
      unfold zPm at h2
      rw [zu_ne (by omega), zu_ne (by omega)]
set_option maxHeartbeats 4000000 in
theorem l6_2 (hnl : X.nL = 2) (hX : ∀ c n, c ≤ 97 → n ≤ 928 → zOk (zat X c n) RX6 cX6_init ({ frames := 3, cells := 97, slots := 928, locals := 52 } : Room)) (hAO : zAO X.s) (KK : ∀ (cs : List Nat) (ad : Nat → Nat), ad 0 = a → cs.Nodup → (∀ k, k < 14 → cs[k]? = some k) → (∀ c, c ∈ cs ↔ zPm 4 6 0 0 c) → zGw (zat X 33 184) (r ++ zfw cs ad (zem X.aC zst0 ad (zmf 4 6 0 0))) 181 [(0, .ref a)] []) : ∀ (d i : Nat), i + d = 6 → ∀ (cs : List Nat) (ad : Nat → Nat), ad 0 = a → cs.Nodup → (∀ k, k < 14 → cs[k]? = some k) → (∀ c, c ∈ cs ↔ zPm 4 i 0 0 c) → zGw (zat X (21 + 2 * i) (160 + 4 * i)) (r ++ zfw cs ad (zem X.aC zst0 ad (zmf 4 i 0 0))) 156 [(0, .ref a), (1, .int (nI i))] [] := by
  intro d
  induction d with
  | zero =>
    intro i hi cs ad h0 hnd hpre hmem
    obtain rfl : i = 6 := by omega
    refine z_iload_n (hX _ _ (by decide) (by decide)) 1 dX6_init_156 rfl rfl ?_
    refine z_bipush (hX _ _ (by decide) (by decide)) dX6_init_157 (v := nI 6) (by decide) ?_
    refine z_icmp_ge (hX _ _ (by decide) (by decide)) 181 dX6_init_159 (by decide) (fun _ => ?_) (fun h => absurd (nI_le (Nat.le_refl _) (by decide)) h)
    refine z_locals [0] [(0, .ref a)] rfl ?_
    exact KK cs ad h0 hnd hpre hmem
  | succ d ih =>
    intro i hi cs ad h0 hnd hpre hmem
    have hi4 : i < 6 := by omega
    refine z_iload_n (hX _ _ (by omega) (by omega)) 1 dX6_init_156 rfl rfl ?_
    refine z_bipush (hX _ _ (by omega) (by omega)) dX6_init_157 (v := nI 6) (by decide) ?_
    refine z_icmp_ge (hX _ _ (by omega) (by omega)) 181 dX6_init_159 (by decide) (fun h => absurd h (nI_ge hi4 (by decide))) (fun _ => ?_)
    refine z_aload_n (hX _ _ (by omega) (by omega)) 0 dX6_init_162 rfl rfl ?_
    have he0 : (r ++ zfw cs ad (zem X.aC zst0 ad (zmf 4 i 0 0)))[r.length + 0]? = some (a, .inr (6, [.ref (ad 1), .ref (ad 2), .ref (ad 3), .ref (ad 4), .ref (ad 5), .ref (ad 6), .ref (ad 7), .ref (ad 8), .ref (ad 9), .ref (ad 10), .ref (ad 11), .int 0, .int 0, .int 0, .int 0, .int 0])) := by rw [zfw_at (hpre 0 (by decide)), h0, zem_0]
    refine z_getw (k := 1) (hX _ _ (by omega) (by omega)) (r.length + 0) dX6_init_163 he0 rfl zin_X6 (by decide) zm_254 (v := .ref (ad 2)) rfl ?_
    refine z_iload_n (hX _ _ (by omega) (by omega)) 1 dX6_init_166 rfl rfl ?_
    have ho : 22 + i ∉ cs := (fun h => by have h2 := (hmem _).mp h; unfold zPm at h2; omega)
    have hp : 28 + i ∉ cs := (fun h => by have h2 := (hmem _).mp h; unfold zPm at h2; omega)
    refine z_mk1 (hX _ _ (by omega) (by omega)) hAO dX6_init_167 dX6_init_170 dX6_init_171 zm_26 zm_127 ⟨by decide, by decide⟩ ⟨by show _ ≤ 97; omega, by show _ ≤ 928; omega⟩ (Nat.le_of_ble_eq_true rfl) (fun q1 q2 => ?_)
    rw [List.append_assoc, zfw_app2 ho hp (by omega)]
    have hp1 : (28 + i) ∉ cs ++ [22 + i] := fun h => (List.mem_append.mp h).elim hp (fun h => by have := List.mem_singleton.mp h; omega)
    have hnd1 : (cs ++ [22 + i] ++ [28 + i]).Nodup := znd1 (znd1 hnd ho) hp1
    have hpre1 : ∀ k, k < 14 → (cs ++ [22 + i] ++ [28 + i])[k]? = some k := zpre1 (zpre1 hpre)
    have hmem1 : ∀ c, c ∈ (cs ++ [22 + i] ++ [28 + i]) ↔ zPm 4 (i + 1) 0 0 c := fun c => by
      simp only [List.mem_append, List.mem_singleton, hmem]
      unfold zPm
      omega
    have hadn : ∀ c, c ∈ cs → (zu (zu ad (22 + i) q1) (28 + i) q2) c = ad c := fun c hc => by
      have h2 := (hmem c).mp hc
      unfold zPm at h2
      rw [zu_ne (by omega), zu_ne (by omega)]
    have hca : 2 ∈ cs := (hmem 2).mpr (Or.inl (by decide))
    have ha : (r ++ zfw (cs ++ [22 + i] ++ [28 + i]) (zu (zu ad (22 + i) q1) (28 + i) q2) (zu (zu (zem X.aC zst0 ad (zmf 4 i 0 0)) (22 + i) (.inr (1, [.int (-1), .ref q2]))) (28 + i) (.inr (5, [.int 0, .int (-1)]))))[r.length + 2]? = some (ad 2, .inl (X.aC 4, 6, .inr (.inr (.inr (.inr (fun j => if j < i then some (ad (22 + j)) else none)))))) := by
      rw [zfw_at (hpre1 2 (by decide)), hadn _ hca, zu_ne (by omega), zu_ne (by omega)]
      rfl
    have hv : (r ++ zfw (cs ++ [22 + i] ++ [28 + i]) (zu (zu ad (22 + i) q1) (28 + i) q2) (zu (zu (zem X.aC zst0 ad (zmf 4 i 0 0)) (22 + i) (.inr (1, [.int (-1), .ref q2]))) (28 + i) (.inr (5, [.int 0, .int (-1)]))))[r.length + cs.length]? = some (q1, (.inr (1, [.int (-1), .ref q2]))) := by
      rw [zfw_at (zpos2), zu_ne (by omega), zu_self, zu_ne (by omega), zu_self]
    refine z_astq (hX _ _ (by omega) (by omega)) (r.length + 2) 4 (r.length + cs.length) 1 (r := (RX1, TX1, 2)) dX6_init_174 ha rfl hv rfl (vp_in_nI hi4 (by decide)) ?_
    have hset : ∀ V, (r ++ zfw (cs ++ [22 + i] ++ [28 + i]) (zu (zu ad (22 + i) q1) (28 + i) q2) (zu (zu (zem X.aC zst0 ad (zmf 4 i 0 0)) (22 + i) (.inr (1, [.int (-1), .ref q2]))) (28 + i) (.inr (5, [.int 0, .int (-1)])))).set (r.length + 2) (ad 2, V) = r ++ zfw (cs ++ [22 + i] ++ [28 + i]) (zu (zu ad (22 + i) q1) (28 + i) q2) (zu (zu (zu (zem X.aC zst0 ad (zmf 4 i 0 0)) (22 + i) (.inr (1, [.int (-1), .ref q2]))) (28 + i) (.inr (5, [.int 0, .int (-1)]))) 2 V) := fun V => by
      rw [← hadn _ hca]
      exact zfw_set hnd1 (hpre1 2 (by decide))
    rw [nI_clamp (show i < 2 ^ 31 by omega), hset]
    rw [zturn (aC := X.aC) (i := i) (q1 := q1) (cs := cs) (ad := ad) (m := zmf 4 i 0 0) (m' := zmf 4 (i + 1) 0 0) shC_2 rfl rfl (fun c h => by simp [zmf, h]) hadn (fun c hc r hr => (hmem r).mpr (zclosed (by omega) (by omega) (by omega) (by omega) ((hmem c).mp hc) hr)) hca (by rw [zu_ne (by omega), zu_self]) ?_ ?_]
    · refine z_iinc (j := 1) (v := 1) (hX _ _ (by omega) (by omega)) [(0, .ref a), (1, .int (nI i + 1))] dX6_init_175 rfl (by decide) (by show 1 < X.nL; rw [hnl]; decide) [1, 0] rfl ?_
      rw [nI_1]
      refine z_goto (hX _ _ (by omega) (by omega)) 156 dX6_init_178 (by decide) ?_
      have g1 : 21 + 2 * i + 2 = 21 + 2 * (i + 1) := by omega
      have g2 : 160 + 4 * i + 4 = 160 + 4 * (i + 1) := by omega
      rw [g1, g2]
      exact ih (i + 1) (by omega) (cs ++ [22 + i] ++ [28 + i]) (zu (zu ad (22 + i) q1) (28 + i) q2) (by rw [hadn _ ((hmem 0).mpr (Or.inl (by decide)))]; exact h0) hnd1 hpre1 hmem1
    · intro c hc hn
      rcases List.mem_append.mp hc with h | h
      · rcases List.mem_append.mp h with h | h
        · exact absurd h hn
        · have h := List.mem_singleton.mp h
          subst h
          rw [zu_ne (by omega), zu_self, zem_crew ⟨by omega, by omega⟩, show 22 + i + 6 = 28 + i by omega, zu_self]
      · have h := List.mem_singleton.mp h
        subst h
        rw [zu_self, zem_span (by unfold zkSpan; omega)]
    · intro c hc
      have h2 := (hmem c).mp hc
      unfold zPm at h2
      rw [zu_ne (by omega), zu_ne (by omega)]
set_option maxHeartbeats 4000000 in
theorem l6_3 (hnl : X.nL = 2) (hX : ∀ c n, c ≤ 97 → n ≤ 928 → zOk (zat X c n) RX6 cX6_init ({ frames := 3, cells := 97, slots := 928, locals := 52 } : Room)) (hAO : zAO X.s) (KK : ∀ (cs : List Nat) (ad : Nat → Nat), ad 0 = a → cs.Nodup → (∀ k, k < 14 → cs[k]? = some k) → (∀ c, c ∈ cs ↔ zPm 4 6 24 0 c) → zGw (zat X 57 448) (r ++ zfw cs ad (zem X.aC zst0 ad (zmf 4 6 24 0))) 208 [(0, .ref a)] []) : ∀ (d i : Nat), i + d = 24 → ∀ (cs : List Nat) (ad : Nat → Nat), ad 0 = a → cs.Nodup → (∀ k, k < 14 → cs[k]? = some k) → (∀ c, c ∈ cs ↔ zPm 4 6 i 0 c) → zGw (zat X (33 + 1 * i) (184 + 11 * i)) (r ++ zfw cs ad (zem X.aC zst0 ad (zmf 4 6 i 0))) 183 [(0, .ref a), (1, .int (nI i))] [] := by
  intro d
  induction d with
  | zero =>
    intro i hi cs ad h0 hnd hpre hmem
    obtain rfl : i = 24 := by omega
    refine z_iload_n (hX _ _ (by decide) (by decide)) 1 dX6_init_183 rfl rfl ?_
    refine z_bipush (hX _ _ (by decide) (by decide)) dX6_init_184 (v := nI 24) (by decide) ?_
    refine z_icmp_ge (hX _ _ (by decide) (by decide)) 208 dX6_init_186 (by decide) (fun _ => ?_) (fun h => absurd (nI_le (Nat.le_refl _) (by decide)) h)
    refine z_locals [0] [(0, .ref a)] rfl ?_
    exact KK cs ad h0 hnd hpre hmem
  | succ d ih =>
    intro i hi cs ad h0 hnd hpre hmem
    have hi4 : i < 24 := by omega
    refine z_iload_n (hX _ _ (by omega) (by omega)) 1 dX6_init_183 rfl rfl ?_
    refine z_bipush (hX _ _ (by omega) (by omega)) dX6_init_184 (v := nI 24) (by decide) ?_
    refine z_icmp_ge (hX _ _ (by omega) (by omega)) 208 dX6_init_186 (by decide) (fun h => absurd h (nI_ge hi4 (by decide))) (fun _ => ?_)
    refine z_aload_n (hX _ _ (by omega) (by omega)) 0 dX6_init_189 rfl rfl ?_
    have he0 : (r ++ zfw cs ad (zem X.aC zst0 ad (zmf 4 6 i 0)))[r.length + 0]? = some (a, .inr (6, [.ref (ad 1), .ref (ad 2), .ref (ad 3), .ref (ad 4), .ref (ad 5), .ref (ad 6), .ref (ad 7), .ref (ad 8), .ref (ad 9), .ref (ad 10), .ref (ad 11), .int 0, .int 0, .int 0, .int 0, .int 0])) := by rw [zfw_at (hpre 0 (by decide)), h0, zem_0]
    refine z_getw (k := 2) (hX _ _ (by omega) (by omega)) (r.length + 0) dX6_init_190 he0 rfl zin_X6 (by decide) zm_255 (v := .ref (ad 3)) rfl ?_
    refine z_iload_n (hX _ _ (by omega) (by omega)) 1 dX6_init_193 rfl rfl ?_
    have ho : 34 + i ∉ cs := (fun h => by have h2 := (hmem _).mp h; unfold zPm at h2; omega)
    refine z_mk3 (hX _ _ (by omega) (by omega)) hAO dX6_init_194 dX6_init_197 dX6_init_198 zm_28 zm_143 ⟨by decide, by decide⟩ ⟨by show _ ≤ 97; omega, by show _ ≤ 928; omega⟩ (Nat.le_of_ble_eq_true rfl) (fun q1 => ?_)
    rw [List.append_assoc, zfw_app1 ho]
    have hnd1 : (cs ++ [34 + i]).Nodup := znd1 hnd ho
    have hpre1 : ∀ k, k < 14 → (cs ++ [34 + i])[k]? = some k := zpre1 hpre
    have hmem1 : ∀ c, c ∈ (cs ++ [34 + i]) ↔ zPm 4 6 (i + 1) 0 c := fun c => by
      simp only [List.mem_append, List.mem_singleton, hmem]
      unfold zPm
      omega
    have hadn : ∀ c, c ∈ cs → (zu ad (34 + i) q1) c = ad c := fun c hc => by
      have h2 := (hmem c).mp hc
      unfold zPm at h2
      rw [zu_ne (by omega)]
    have hca : 3 ∈ cs := (hmem 3).mpr (Or.inl (by decide))
    have ha : (r ++ zfw (cs ++ [34 + i]) (zu ad (34 + i) q1) (zu (zem X.aC zst0 ad (zmf 4 6 i 0)) (34 + i) (.inr (3, [.int (-1), .int 0, .int 0, .int 0, .int 0, .int 0, .int 0, .int 0, .int (-1), .int 0, .int 0]))))[r.length + 3]? = some (ad 3, .inl (X.aC 5, 24, .inr (.inr (.inr (.inr (fun j => if j < i then some (ad (34 + j)) else none)))))) := by
      rw [zfw_at (hpre1 3 (by decide)), hadn _ hca, zu_ne (by omega)]
      rfl
    have hv : (r ++ zfw (cs ++ [34 + i]) (zu ad (34 + i) q1) (zu (zem X.aC zst0 ad (zmf 4 6 i 0)) (34 + i) (.inr (3, [.int (-1), .int 0, .int 0, .int 0, .int 0, .int 0, .int 0, .int 0, .int (-1), .int 0, .int 0]))))[r.length + cs.length]? = some (q1, (.inr (3, [.int (-1), .int 0, .int 0, .int 0, .int 0, .int 0, .int 0, .int 0, .int (-1), .int 0, .int 0]))) := by
      rw [zfw_at (zpos1), zu_self, zu_self]
    refine z_astq (hX _ _ (by omega) (by omega)) (r.length + 3) 5 (r.length + cs.length) 3 (r := (RX3, TX3, 11)) dX6_init_201 ha rfl hv rfl (vp_in_nI hi4 (by decide)) ?_
    have hset : ∀ V, (r ++ zfw (cs ++ [34 + i]) (zu ad (34 + i) q1) (zu (zem X.aC zst0 ad (zmf 4 6 i 0)) (34 + i) (.inr (3, [.int (-1), .int 0, .int 0, .int 0, .int 0, .int 0, .int 0, .int 0, .int (-1), .int 0, .int 0])))).set (r.length + 3) (ad 3, V) = r ++ zfw (cs ++ [34 + i]) (zu ad (34 + i) q1) (zu (zu (zem X.aC zst0 ad (zmf 4 6 i 0)) (34 + i) (.inr (3, [.int (-1), .int 0, .int 0, .int 0, .int 0, .int 0, .int 0, .int 0, .int (-1), .int 0, .int 0]))) 3 V) := fun V => by
      rw [← hadn _ hca]
      exact zfw_set hnd1 (hpre1 3 (by decide))
    rw [nI_clamp (show i < 2 ^ 31 by omega), hset]
    rw [zturn (aC := X.aC) (i := i) (q1 := q1) (cs := cs) (ad := ad) (m := zmf 4 6 i 0) (m' := zmf 4 6 (i + 1) 0) shC_3 rfl rfl (fun c h => by simp [zmf, h]) hadn (fun c hc r hr => (hmem r).mpr (zclosed (by omega) (by omega) (by omega) (by omega) ((hmem c).mp hc) hr)) hca (by rw [zu_self]) ?_ ?_]
    · refine z_iinc (j := 1) (v := 1) (hX _ _ (by omega) (by omega)) [(0, .ref a), (1, .int (nI i + 1))] dX6_init_202 rfl (by decide) (by show 1 < X.nL; rw [hnl]; decide) [1, 0] rfl ?_
      rw [nI_1]
      refine z_goto (hX _ _ (by omega) (by omega)) 183 dX6_init_205 (by decide) ?_
      have g1 : 33 + 1 * i + 1 = 33 + 1 * (i + 1) := by omega
      have g2 : 184 + 11 * i + 11 = 184 + 11 * (i + 1) := by omega
      rw [g1, g2]
      exact ih (i + 1) (by omega) (cs ++ [34 + i]) (zu ad (34 + i) q1) (by rw [hadn _ ((hmem 0).mpr (Or.inl (by decide)))]; exact h0) hnd1 hpre1 hmem1
    · intro c hc hn
      rcases List.mem_append.mp hc with h | h
      · exact absurd h hn
      · have h := List.mem_singleton.mp h
        subst h
        rw [zu_self, zem_sailing ⟨by omega, by omega⟩]
    · intro c hc
      have h2 := (hmem c).mp hc
      unfold zPm at h2
      rw [zu_ne (by omega)]
set_option maxHeartbeats 4000000 in
theorem l6_4 (hnl : X.nL = 2) (hX : ∀ c n, c ≤ 97 → n ≤ 928 → zOk (zat X c n) RX6 cX6_init ({ frames := 3, cells := 97, slots := 928, locals := 52 } : Room)) (hAO : zAO X.s) (KK : ∀ (cs : List Nat) (ad : Nat → Nat), ad 0 = a → cs.Nodup → (∀ k, k < 14 → cs[k]? = some k) → (∀ c, c ∈ cs ↔ zPm 4 6 24 40 c) → zGw (zat X 97 928) (r ++ zfw cs ad (zem X.aC zst0 ad (zmf 4 6 24 40))) 235 [(0, .ref a)] []) : ∀ (d i : Nat), i + d = 40 → ∀ (cs : List Nat) (ad : Nat → Nat), ad 0 = a → cs.Nodup → (∀ k, k < 14 → cs[k]? = some k) → (∀ c, c ∈ cs ↔ zPm 4 6 24 i c) → zGw (zat X (57 + 1 * i) (448 + 12 * i)) (r ++ zfw cs ad (zem X.aC zst0 ad (zmf 4 6 24 i))) 210 [(0, .ref a), (1, .int (nI i))] [] := by
  intro d
  induction d with
  | zero =>
    intro i hi cs ad h0 hnd hpre hmem
    obtain rfl : i = 40 := by omega
    refine z_iload_n (hX _ _ (by decide) (by decide)) 1 dX6_init_210 rfl rfl ?_
    refine z_bipush (hX _ _ (by decide) (by decide)) dX6_init_211 (v := nI 40) (by decide) ?_
    refine z_icmp_ge (hX _ _ (by decide) (by decide)) 235 dX6_init_213 (by decide) (fun _ => ?_) (fun h => absurd (nI_le (Nat.le_refl _) (by decide)) h)
    refine z_locals [0] [(0, .ref a)] rfl ?_
    exact KK cs ad h0 hnd hpre hmem
  | succ d ih =>
    intro i hi cs ad h0 hnd hpre hmem
    have hi4 : i < 40 := by omega
    refine z_iload_n (hX _ _ (by omega) (by omega)) 1 dX6_init_210 rfl rfl ?_
    refine z_bipush (hX _ _ (by omega) (by omega)) dX6_init_211 (v := nI 40) (by decide) ?_
    refine z_icmp_ge (hX _ _ (by omega) (by omega)) 235 dX6_init_213 (by decide) (fun h => absurd h (nI_ge hi4 (by decide))) (fun _ => ?_)
    refine z_aload_n (hX _ _ (by omega) (by omega)) 0 dX6_init_216 rfl rfl ?_
    have he0 : (r ++ zfw cs ad (zem X.aC zst0 ad (zmf 4 6 24 i)))[r.length + 0]? = some (a, .inr (6, [.ref (ad 1), .ref (ad 2), .ref (ad 3), .ref (ad 4), .ref (ad 5), .ref (ad 6), .ref (ad 7), .ref (ad 8), .ref (ad 9), .ref (ad 10), .ref (ad 11), .int 0, .int 0, .int 0, .int 0, .int 0])) := by rw [zfw_at (hpre 0 (by decide)), h0, zem_0]
    refine z_getw (k := 3) (hX _ _ (by omega) (by omega)) (r.length + 0) dX6_init_217 he0 rfl zin_X6 (by decide) zm_256 (v := .ref (ad 4)) rfl ?_
    refine z_iload_n (hX _ _ (by omega) (by omega)) 1 dX6_init_220 rfl rfl ?_
    have ho : 58 + i ∉ cs := (fun h => by have h2 := (hmem _).mp h; unfold zPm at h2; omega)
    refine z_mk0 (hX _ _ (by omega) (by omega)) hAO dX6_init_221 dX6_init_224 dX6_init_225 zm_30 zm_193 ⟨by decide, by decide⟩ ⟨by show _ ≤ 97; omega, by show _ ≤ 928; omega⟩ (Nat.le_of_ble_eq_true rfl) (fun q1 => ?_)
    rw [List.append_assoc, zfw_app1 ho]
    have hnd1 : (cs ++ [58 + i]).Nodup := znd1 hnd ho
    have hpre1 : ∀ k, k < 14 → (cs ++ [58 + i])[k]? = some k := zpre1 hpre
    have hmem1 : ∀ c, c ∈ (cs ++ [58 + i]) ↔ zPm 4 6 24 (i + 1) c := fun c => by
      simp only [List.mem_append, List.mem_singleton, hmem]
      unfold zPm
      omega
    have hadn : ∀ c, c ∈ cs → (zu ad (58 + i) q1) c = ad c := fun c hc => by
      have h2 := (hmem c).mp hc
      unfold zPm at h2
      rw [zu_ne (by omega)]
    have hca : 4 ∈ cs := (hmem 4).mpr (Or.inl (by decide))
    have ha : (r ++ zfw (cs ++ [58 + i]) (zu ad (58 + i) q1) (zu (zem X.aC zst0 ad (zmf 4 6 24 i)) (58 + i) (.inr (0, [.int (-1), .int 0, .int 0, .int 0, .int (-1), .int 0, .int 0, .int 0, .int 0, .int 0, .int 0, .int 0]))))[r.length + 4]? = some (ad 4, .inl (X.aC 6, 40, .inr (.inr (.inr (.inr (fun j => if j < i then some (ad (58 + j)) else none)))))) := by
      rw [zfw_at (hpre1 4 (by decide)), hadn _ hca, zu_ne (by omega)]
      rfl
    have hv : (r ++ zfw (cs ++ [58 + i]) (zu ad (58 + i) q1) (zu (zem X.aC zst0 ad (zmf 4 6 24 i)) (58 + i) (.inr (0, [.int (-1), .int 0, .int 0, .int 0, .int (-1), .int 0, .int 0, .int 0, .int 0, .int 0, .int 0, .int 0]))))[r.length + cs.length]? = some (q1, (.inr (0, [.int (-1), .int 0, .int 0, .int 0, .int (-1), .int 0, .int 0, .int 0, .int 0, .int 0, .int 0, .int 0]))) := by
      rw [zfw_at (zpos1), zu_self, zu_self]
    refine z_astq (hX _ _ (by omega) (by omega)) (r.length + 4) 6 (r.length + cs.length) 0 (r := (RX0, TX0, 12)) dX6_init_228 ha rfl hv rfl (vp_in_nI hi4 (by decide)) ?_
    have hset : ∀ V, (r ++ zfw (cs ++ [58 + i]) (zu ad (58 + i) q1) (zu (zem X.aC zst0 ad (zmf 4 6 24 i)) (58 + i) (.inr (0, [.int (-1), .int 0, .int 0, .int 0, .int (-1), .int 0, .int 0, .int 0, .int 0, .int 0, .int 0, .int 0])))).set (r.length + 4) (ad 4, V) = r ++ zfw (cs ++ [58 + i]) (zu ad (58 + i) q1) (zu (zu (zem X.aC zst0 ad (zmf 4 6 24 i)) (58 + i) (.inr (0, [.int (-1), .int 0, .int 0, .int 0, .int (-1), .int 0, .int 0, .int 0, .int 0, .int 0, .int 0, .int 0]))) 4 V) := fun V => by
      rw [← hadn _ hca]
      exact zfw_set hnd1 (hpre1 4 (by decide))
    rw [nI_clamp (show i < 2 ^ 31 by omega), hset]
    rw [zturn (aC := X.aC) (i := i) (q1 := q1) (cs := cs) (ad := ad) (m := zmf 4 6 24 i) (m' := zmf 4 6 24 (i + 1)) shC_4 rfl rfl (fun c h => by simp [zmf, h]) hadn (fun c hc r hr => (hmem r).mpr (zclosed (by omega) (by omega) (by omega) (by omega) ((hmem c).mp hc) hr)) hca (by rw [zu_self]) ?_ ?_]
    · refine z_iinc (j := 1) (v := 1) (hX _ _ (by omega) (by omega)) [(0, .ref a), (1, .int (nI i + 1))] dX6_init_229 rfl (by decide) (by show 1 < X.nL; rw [hnl]; decide) [1, 0] rfl ?_
      rw [nI_1]
      refine z_goto (hX _ _ (by omega) (by omega)) 210 dX6_init_232 (by decide) ?_
      have g1 : 57 + 1 * i + 1 = 57 + 1 * (i + 1) := by omega
      have g2 : 448 + 12 * i + 12 = 448 + 12 * (i + 1) := by omega
      rw [g1, g2]
      exact ih (i + 1) (by omega) (cs ++ [58 + i]) (zu ad (58 + i) q1) (by rw [hadn _ ((hmem 0).mpr (Or.inl (by decide)))]; exact h0) hnd1 hpre1 hmem1
    · intro c hc hn
      rcases List.mem_append.mp hc with h | h
      · exact absurd h hn
      · have h := List.mem_singleton.mp h
        subst h
        rw [zu_self, zem_booking ⟨by omega, by omega⟩]
    · intro c hc
      have h2 := (hmem c).mp hc
      unfold zPm at h2
      rw [zu_ne (by omega)]
end ZCX
