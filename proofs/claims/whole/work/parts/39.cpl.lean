/-! the 27 couplings of the law, from the pairs -/
section ZP17
theorem zC_ship (l : Launch) (hfl : l.stackTraces = false) : zCpl_ship l zR := by
  intro stC stM a1 a2 a3 a4 a5 a6 hR
  rcases P_ship a1 a2 a3 a4 a5 a6 hR with ⟨r, c1, b, m1, h1, h2, h3, h4, h5⟩ | ⟨k, v, c1, b, m1, h0, h1, h2, h3, h5⟩
  · refine ⟨0, zwL c1 98 0 (r.toInt64), (b, m1), cw_L_ship l hfl stC a1 a2 a3 a4 a5 a6 (0, zwL c1 98 0 (r.toInt64)) ?_, h2, h3, fun _ => ?_, zR_out h5 _⟩
    · unfold f_L_ship
      rw [h1, zbs, zlet_eq, zc0]
    · rw [zrL_e, h4]
  · rcases List.mem_cons.mp h0 with e | h0
    · obtain ⟨rfl, rfl⟩ := Prod.mk.inj e
      exact ⟨1, c1, (b, m1), cwx_L_ship_1 l hfl stC a1 a2 a3 a4 a5 a6 c1 h1, h2, h3, fun q => absurd q (by decide), h5⟩
    rcases List.mem_cons.mp h0 with e | h0
    · obtain ⟨rfl, rfl⟩ := Prod.mk.inj e
      exact ⟨2, c1, (b, m1), cwx_L_ship_2 l hfl stC a1 a2 a3 a4 a5 a6 c1 h1, h2, h3, fun q => absurd q (by decide), h5⟩
    rcases List.mem_cons.mp h0 with e | h0
    · obtain ⟨rfl, rfl⟩ := Prod.mk.inj e
      exact ⟨3, c1, (b, m1), cwx_L_ship_3 l hfl stC a1 a2 a3 a4 a5 a6 c1 h1, h2, h3, fun q => absurd q (by decide), h5⟩
    exact absurd h0 (by simp)
theorem zC_fill (l : Launch) (hfl : l.stackTraces = false) : zCpl_fill l zR := by
  intro stC stM a1 a2 hR
  rcases P_fill a1 a2 hR with ⟨r, c1, b, m1, h1, h2, h3, h4, h5⟩ | ⟨k, v, c1, b, m1, h0, h1, h2, h3, h5⟩
  · refine ⟨0, zwL c1 98 0 (r.toInt64), (b, m1), cw_L_fill l hfl stC a1 a2 (0, zwL c1 98 0 (r.toInt64)) ?_, h2, h3, fun _ => ?_, zR_out h5 _⟩
    · unfold f_L_fill
      rw [h1, zbs, zlet_eq, zc0]
    · rw [zrL_e, h4]
  · rcases List.mem_cons.mp h0 with e | h0
    · obtain ⟨rfl, rfl⟩ := Prod.mk.inj e
      exact ⟨1, c1, (b, m1), cwx_L_fill_1 l hfl stC a1 a2 c1 h1, h2, h3, fun q => absurd q (by decide), h5⟩
    rcases List.mem_cons.mp h0 with e | h0
    · obtain ⟨rfl, rfl⟩ := Prod.mk.inj e
      exact ⟨2, c1, (b, m1), cwx_L_fill_2 l hfl stC a1 a2 c1 h1, h2, h3, fun q => absurd q (by decide), h5⟩
    rcases List.mem_cons.mp h0 with e | h0
    · obtain ⟨rfl, rfl⟩ := Prod.mk.inj e
      exact ⟨3, c1, (b, m1), cwx_L_fill_3 l hfl stC a1 a2 c1 h1, h2, h3, fun q => absurd q (by decide), h5⟩
    exact absurd h0 (by simp)
theorem zC_crew (l : Launch) (hfl : l.stackTraces = false) : zCpl_crew l zR := by
  intro stC stM a1 a2 a3 hR
  rcases P_crew a1 a2 a3 hR with ⟨r, c1, b, m1, h1, h2, h3, h4, h5⟩ | ⟨k, v, c1, b, m1, h0, h1, h2, h3, h5⟩
  · refine ⟨0, zwL c1 98 0 (r.toInt64), (b, m1), cw_L_crew l hfl stC a1 a2 a3 (0, zwL c1 98 0 (r.toInt64)) ?_, h2, h3, fun _ => ?_, zR_out h5 _⟩
    · unfold f_L_crew
      rw [h1, zbs, zlet_eq, zc0]
    · rw [zrL_e, h4]
  · rcases List.mem_cons.mp h0 with e | h0
    · obtain ⟨rfl, rfl⟩ := Prod.mk.inj e
      exact ⟨1, c1, (b, m1), cwx_L_crew_1 l hfl stC a1 a2 a3 c1 h1, h2, h3, fun q => absurd q (by decide), h5⟩
    rcases List.mem_cons.mp h0 with e | h0
    · obtain ⟨rfl, rfl⟩ := Prod.mk.inj e
      exact ⟨2, c1, (b, m1), cwx_L_crew_2 l hfl stC a1 a2 a3 c1 h1, h2, h3, fun q => absurd q (by decide), h5⟩
    rcases List.mem_cons.mp h0 with e | h0
    · obtain ⟨rfl, rfl⟩ := Prod.mk.inj e
      exact ⟨3, c1, (b, m1), cwx_L_crew_3 l hfl stC a1 a2 a3 c1 h1, h2, h3, fun q => absurd q (by decide), h5⟩
    exact absurd h0 (by simp)
theorem zC_hours (l : Launch) (hfl : l.stackTraces = false) : zCpl_hours l zR := by
  intro stC stM a1 a2 hR
  rcases P_hours a1 a2 hR with ⟨r, c1, b, m1, h1, h2, h3, h4, h5⟩ | ⟨k, v, c1, b, m1, h0, h1, h2, h3, h5⟩
  · refine ⟨0, zwL c1 98 0 (r.toInt64), (b, m1), cw_L_hours l hfl stC a1 a2 (0, zwL c1 98 0 (r.toInt64)) ?_, h2, h3, fun _ => ?_, zR_out h5 _⟩
    · unfold f_L_hours
      rw [h1, zbs, zlet_eq, zc0]
    · rw [zrL_e, h4]
  · rcases List.mem_cons.mp h0 with e | h0
    · obtain ⟨rfl, rfl⟩ := Prod.mk.inj e
      exact ⟨1, c1, (b, m1), cwx_L_hours_1 l hfl stC a1 a2 c1 h1, h2, h3, fun q => absurd q (by decide), h5⟩
    rcases List.mem_cons.mp h0 with e | h0
    · obtain ⟨rfl, rfl⟩ := Prod.mk.inj e
      exact ⟨2, c1, (b, m1), cwx_L_hours_2 l hfl stC a1 a2 c1 h1, h2, h3, fun q => absurd q (by decide), h5⟩
    exact absurd h0 (by simp)
theorem zC_depth (l : Launch) (hfl : l.stackTraces = false) : zCpl_depth l zR := by
  intro stC stM a1 a2 hR
  rcases P_depth a1 a2 hR with ⟨r, c1, b, m1, h1, h2, h3, h4, h5⟩ | ⟨k, v, c1, b, m1, h0, h1, h2, h3, h5⟩
  · refine ⟨0, zwL c1 98 0 (r.toInt64), (b, m1), cw_L_depth l hfl stC a1 a2 (0, zwL c1 98 0 (r.toInt64)) ?_, h2, h3, fun _ => ?_, zR_out h5 _⟩
    · unfold f_L_depth
      rw [h1, zbs, zlet_eq, zc0]
    · rw [zrL_e, h4]
  · rcases List.mem_cons.mp h0 with e | h0
    · obtain ⟨rfl, rfl⟩ := Prod.mk.inj e
      exact ⟨1, c1, (b, m1), cwx_L_depth_1 l hfl stC a1 a2 c1 h1, h2, h3, fun q => absurd q (by decide), h5⟩
    rcases List.mem_cons.mp h0 with e | h0
    · obtain ⟨rfl, rfl⟩ := Prod.mk.inj e
      exact ⟨2, c1, (b, m1), cwx_L_depth_2 l hfl stC a1 a2 c1 h1, h2, h3, fun q => absurd q (by decide), h5⟩
    exact absurd h0 (by simp)
theorem zC_hinder (l : Launch) (hfl : l.stackTraces = false) : zCpl_hinder l zR := by
  intro stC stM a1 a2 a3 a4 hR
  rcases P_hinder a1 a2 a3 a4 hR with ⟨r, c1, b, m1, h1, h2, h3, h4, h5⟩ | ⟨k, v, c1, b, m1, h0, h1, h2, h3, h5⟩
  · refine ⟨0, c1, (b, m1), cw_L_hinder l hfl stC a1 a2 a3 a4 (0, c1) ?_, h2, h3, h5⟩
    unfold f_L_hinder
    rw [h1, zbs]
  · rcases List.mem_cons.mp h0 with e | h0
    · obtain ⟨rfl, rfl⟩ := Prod.mk.inj e
      exact ⟨1, c1, (b, m1), cwx_L_hinder_1 l hfl stC a1 a2 a3 a4 c1 h1, h2, h3, h5⟩
    rcases List.mem_cons.mp h0 with e | h0
    · obtain ⟨rfl, rfl⟩ := Prod.mk.inj e
      exact ⟨2, c1, (b, m1), cwx_L_hinder_2 l hfl stC a1 a2 a3 a4 c1 h1, h2, h3, h5⟩
    exact absurd h0 (by simp)
theorem zC_bus (l : Launch) (hfl : l.stackTraces = false) : zCpl_bus l zR := by
  intro stC stM a1 a2 a3 hR
  rcases P_bus a1 a2 a3 hR with ⟨r, c1, b, m1, h1, h2, h3, h4, h5⟩ | ⟨k, v, c1, b, m1, h0, h1, h2, h3, h5⟩
  · refine ⟨0, c1, (b, m1), cw_L_bus l hfl stC a1 a2 a3 (0, c1) ?_, h2, h3, h5⟩
    unfold f_L_bus
    rw [h1, zbs]
  · rcases List.mem_cons.mp h0 with e | h0
    · obtain ⟨rfl, rfl⟩ := Prod.mk.inj e
      exact ⟨1, c1, (b, m1), cwx_L_bus_1 l hfl stC a1 a2 a3 c1 h1, h2, h3, h5⟩
    rcases List.mem_cons.mp h0 with e | h0
    · obtain ⟨rfl, rfl⟩ := Prod.mk.inj e
      exact ⟨2, c1, (b, m1), cwx_L_bus_2 l hfl stC a1 a2 a3 c1 h1, h2, h3, h5⟩
    exact absurd h0 (by simp)
theorem zC_reside (l : Launch) (hfl : l.stackTraces = false) : zCpl_reside l zR := by
  intro stC stM a1 a2 hR
  rcases P_reside a1 a2 hR with ⟨r, c1, b, m1, h1, h2, h3, h4, h5⟩ | ⟨k, v, c1, b, m1, h0, h1, h2, h3, h5⟩
  · refine ⟨0, zwL c1 98 0 (r.toInt64), (b, m1), cw_L_reside l hfl stC a1 a2 (0, zwL c1 98 0 (r.toInt64)) ?_, h2, h3, fun _ => ?_, zR_out h5 _⟩
    · unfold f_L_reside
      rw [h1, zbs, zlet_eq, zc0]
    · rw [zrL_e, h4]
  · rcases List.mem_cons.mp h0 with e | h0
    · obtain ⟨rfl, rfl⟩ := Prod.mk.inj e
      exact ⟨1, c1, (b, m1), cwx_L_reside_1 l hfl stC a1 a2 c1 h1, h2, h3, fun q => absurd q (by decide), h5⟩
    exact absurd h0 (by simp)
theorem zC_plan (l : Launch) (hfl : l.stackTraces = false) : zCpl_plan l zR := by
  intro stC stM a1 a2 a3 a4 hR
  rcases P_plan a1 a2 a3 a4 hR with ⟨r, c1, b, m1, h1, h2, h3, h4, h5⟩ | ⟨k, v, c1, b, m1, h0, h1, h2, h3, h5⟩
  · refine ⟨0, zwL c1 98 0 (r.toInt64), (b, m1), cw_L_plan l hfl stC a1 a2 a3 a4 (0, zwL c1 98 0 (r.toInt64)) ?_, h2, h3, fun _ => ?_, zR_out h5 _⟩
    · unfold f_L_plan
      rw [h1, zbs, zlet_eq, zc0]
    · rw [zrL_e, h4]
  · rcases List.mem_cons.mp h0 with e | h0
    · obtain ⟨rfl, rfl⟩ := Prod.mk.inj e
      exact ⟨1, c1, (b, m1), cwx_L_plan_1 l hfl stC a1 a2 a3 a4 c1 h1, h2, h3, fun q => absurd q (by decide), h5⟩
    rcases List.mem_cons.mp h0 with e | h0
    · obtain ⟨rfl, rfl⟩ := Prod.mk.inj e
      exact ⟨2, c1, (b, m1), cwx_L_plan_2 l hfl stC a1 a2 a3 a4 c1 h1, h2, h3, fun q => absurd q (by decide), h5⟩
    rcases List.mem_cons.mp h0 with e | h0
    · obtain ⟨rfl, rfl⟩ := Prod.mk.inj e
      exact ⟨3, c1, (b, m1), cwx_L_plan_3 l hfl stC a1 a2 a3 a4 c1 h1, h2, h3, fun q => absurd q (by decide), h5⟩
    exact absurd h0 (by simp)
theorem zC_cancel (l : Launch) (hfl : l.stackTraces = false) : zCpl_cancel l zR := by
  intro stC stM a1 hR
  rcases P_cancel a1 hR with ⟨r, c1, b, m1, h1, h2, h3, h4, h5⟩ | ⟨k, v, c1, b, m1, h0, h1, h2, h3, h5⟩
  · refine ⟨0, zwL c1 98 0 (r.toInt64), (b, m1), cw_L_cancel l hfl stC a1 (0, zwL c1 98 0 (r.toInt64)) ?_, h2, h3, fun _ => ?_, zR_out h5 _⟩
    · unfold f_L_cancel
      rw [h1, zbs, zlet_eq, zc0]
    · rw [zrL_e, h4]
  · rcases List.mem_cons.mp h0 with e | h0
    · obtain ⟨rfl, rfl⟩ := Prod.mk.inj e
      exact ⟨1, c1, (b, m1), cwx_L_cancel_1 l hfl stC a1 c1 h1, h2, h3, fun q => absurd q (by decide), h5⟩
    rcases List.mem_cons.mp h0 with e | h0
    · obtain ⟨rfl, rfl⟩ := Prod.mk.inj e
      exact ⟨2, c1, (b, m1), cwx_L_cancel_3 l hfl stC a1 c1 h1, h2, h3, fun q => absurd q (by decide), h5⟩
    exact absurd h0 (by simp)
theorem zC_replace (l : Launch) (hfl : l.stackTraces = false) : zCpl_replace l zR := by
  intro stC stM a1 a2 hR
  rcases P_replace a1 a2 hR with ⟨r, c1, b, m1, h1, h2, h3, h4, h5⟩ | ⟨k, v, c1, b, m1, h0, h1, h2, h3, h5⟩
  · refine ⟨0, zwL c1 98 0 (r.toInt64), (b, m1), cw_L_replace l hfl stC a1 a2 (0, zwL c1 98 0 (r.toInt64)) ?_, h2, h3, fun _ => ?_, zR_out h5 _⟩
    · unfold f_L_replace
      rw [h1, zbs, zlet_eq, zc0]
    · rw [zrL_e, h4]
  · rcases List.mem_cons.mp h0 with e | h0
    · obtain ⟨rfl, rfl⟩ := Prod.mk.inj e
      exact ⟨1, c1, (b, m1), cwx_L_replace_1 l hfl stC a1 a2 c1 h1, h2, h3, fun q => absurd q (by decide), h5⟩
    rcases List.mem_cons.mp h0 with e | h0
    · obtain ⟨rfl, rfl⟩ := Prod.mk.inj e
      exact ⟨2, c1, (b, m1), cwx_L_replace_3 l hfl stC a1 a2 c1 h1, h2, h3, fun q => absurd q (by decide), h5⟩
    exact absurd h0 (by simp)
theorem zC_pass (l : Launch) (hfl : l.stackTraces = false) : zCpl_pass l zR := by
  intro stC stM a1 hR
  rcases P_pass a1 hR with ⟨r, c1, b, m1, h1, h2, h3, h4, h5⟩ | ⟨k, v, c1, b, m1, h0, h1, h2, h3, h5⟩
  · refine ⟨0, zwL c1 98 0 (r.toInt64), (b, m1), cw_L_pass l hfl stC a1 (0, zwL c1 98 0 (r.toInt64)) ?_, h2, h3, fun _ => ?_, zR_out h5 _⟩
    · unfold f_L_pass
      rw [h1, zbs, zlet_eq, zc0]
    · rw [zrL_e, h4]
  · rcases List.mem_cons.mp h0 with e | h0
    · obtain ⟨rfl, rfl⟩ := Prod.mk.inj e
      exact ⟨1, c1, (b, m1), cwx_L_pass_2 l hfl stC a1 c1 h1, h2, h3, fun q => absurd q (by decide), h5⟩
    rcases List.mem_cons.mp h0 with e | h0
    · obtain ⟨rfl, rfl⟩ := Prod.mk.inj e
      exact ⟨2, c1, (b, m1), cwx_L_pass_3 l hfl stC a1 c1 h1, h2, h3, fun q => absurd q (by decide), h5⟩
    exact absurd h0 (by simp)
theorem zC_now (l : Launch) : zCpl_now l zR := fun _ _ hR => P_now hR
theorem zC_state (l : Launch) (hfl : l.stackTraces = false) : zCpl_state l zR := by
  intro stC stM a1 hR
  rcases P_state a1 hR with ⟨r, c1, b, m1, h1, h2, h3, h4, h5⟩ | ⟨k, v, c1, b, m1, h0, h1, h2, h3, h5⟩
  · refine ⟨0, zwL c1 98 0 (r.toInt64), (b, m1), cw_L_state l hfl stC a1 (0, zwL c1 98 0 (r.toInt64)) ?_, h2, h3, fun _ => ?_, zR_out h5 _⟩
    · unfold f_L_state
      rw [h1, zbs, zlet_eq, zc0]
    · rw [zrL_e, h4]
  · rcases List.mem_cons.mp h0 with e | h0
    · obtain ⟨rfl, rfl⟩ := Prod.mk.inj e
      exact ⟨1, c1, (b, m1), cwx_L_state_1 l hfl stC a1 c1 h1, h2, h3, fun q => absurd q (by decide), h5⟩
    exact absurd h0 (by simp)
theorem zC_ends (l : Launch) (hfl : l.stackTraces = false) : zCpl_ends l zR := by
  intro stC stM a1 hR
  rcases P_ends a1 hR with ⟨r, c1, b, m1, h1, h2, h3, h4, h5⟩ | ⟨k, v, c1, b, m1, h0, h1, h2, h3, h5⟩
  · refine ⟨0, zwL c1 98 0 (r.toInt64), (b, m1), cw_L_ends l hfl stC a1 (0, zwL c1 98 0 (r.toInt64)) ?_, h2, h3, fun _ => ?_, zR_out h5 _⟩
    · unfold f_L_ends
      rw [h1, zbs, zlet_eq, zc0]
    · rw [zrL_e, h4]
  · rcases List.mem_cons.mp h0 with e | h0
    · obtain ⟨rfl, rfl⟩ := Prod.mk.inj e
      exact ⟨1, c1, (b, m1), cwx_L_ends_1 l hfl stC a1 c1 h1, h2, h3, fun q => absurd q (by decide), h5⟩
    exact absurd h0 (by simp)
theorem zC_busAfter (l : Launch) (hfl : l.stackTraces = false) : zCpl_busAfter l zR := by
  intro stC stM a1 hR
  rcases P_busAfter a1 hR with ⟨r, c1, b, m1, h1, h2, h3, h4, h5⟩ | ⟨k, v, c1, b, m1, h0, h1, h2, h3, h5⟩
  · refine ⟨0, zwL c1 98 0 (r.toInt64), (b, m1), cw_L_busAfter l hfl stC a1 (0, zwL c1 98 0 (r.toInt64)) ?_, h2, h3, fun _ => ?_, zR_out h5 _⟩
    · unfold f_L_busAfter
      rw [h1, zbs, zlet_eq, zc0]
    · rw [zrL_e, h4]
  · rcases List.mem_cons.mp h0 with e | h0
    · obtain ⟨rfl, rfl⟩ := Prod.mk.inj e
      exact ⟨1, c1, (b, m1), cwx_L_busAfter_1 l hfl stC a1 c1 h1, h2, h3, fun q => absurd q (by decide), h5⟩
    exact absurd h0 (by simp)
theorem zC_place (l : Launch) (hfl : l.stackTraces = false) : zCpl_place l zR := by
  intro stC stM a1 hR
  rcases P_place a1 hR with ⟨r, c1, b, m1, h1, h2, h3, h4, h5⟩ | ⟨k, v, c1, b, m1, h0, h1, h2, h3, h5⟩
  · refine ⟨0, zwL c1 98 0 (r.toInt64), (b, m1), cw_L_place l hfl stC a1 (0, zwL c1 98 0 (r.toInt64)) ?_, h2, h3, fun _ => ?_, zR_out h5 _⟩
    · unfold f_L_place
      rw [h1, zbs, zlet_eq, zc0]
    · rw [zrL_e, h4]
  · rcases List.mem_cons.mp h0 with e | h0
    · obtain ⟨rfl, rfl⟩ := Prod.mk.inj e
      exact ⟨1, c1, (b, m1), cwx_L_place_1 l hfl stC a1 c1 h1, h2, h3, fun q => absurd q (by decide), h5⟩
    exact absurd h0 (by simp)
theorem zC_placeByLine (l : Launch) (hfl : l.stackTraces = false) : zCpl_placeByLine l zR := by
  intro stC stM a1 a2 hR
  rcases P_placeByLine a1 a2 hR with ⟨r, c1, b, m1, h1, h2, h3, h4, h5⟩ | ⟨k, v, c1, b, m1, h0, h1, h2, h3, h5⟩
  · refine ⟨0, zwL c1 98 0 (r.toInt64), (b, m1), cw_L_placeByLine l hfl stC a1 a2 (0, zwL c1 98 0 (r.toInt64)) ?_, h2, h3, fun _ => ?_, zR_out h5 _⟩
    · unfold f_L_placeByLine
      rw [h1, zbs, zlet_eq, zc0]
    · rw [zrL_e, h4]
  · rcases List.mem_cons.mp h0 with e | h0
    · obtain ⟨rfl, rfl⟩ := Prod.mk.inj e
      exact ⟨1, c1, (b, m1), cwx_L_placeByLine_1 l hfl stC a1 a2 c1 h1, h2, h3, fun q => absurd q (by decide), h5⟩
    rcases List.mem_cons.mp h0 with e | h0
    · obtain ⟨rfl, rfl⟩ := Prod.mk.inj e
      exact ⟨2, c1, (b, m1), cwx_L_placeByLine_2 l hfl stC a1 a2 c1 h1, h2, h3, fun q => absurd q (by decide), h5⟩
    exact absurd h0 (by simp)
theorem zC_fuel (l : Launch) (hfl : l.stackTraces = false) : zCpl_fuel l zR := by
  intro stC stM a1 hR
  rcases P_fuel a1 hR with ⟨r, c1, b, m1, h1, h2, h3, h4, h5⟩ | ⟨k, v, c1, b, m1, h0, h1, h2, h3, h5⟩
  · refine ⟨0, zwL c1 98 0 (r.toInt64), (b, m1), cw_L_fuel l hfl stC a1 (0, zwL c1 98 0 (r.toInt64)) ?_, h2, h3, fun _ => ?_, zR_out h5 _⟩
    · unfold f_L_fuel
      rw [h1, zbs, zlet_eq, zc0]
    · rw [zrL_e, h4]
  · rcases List.mem_cons.mp h0 with e | h0
    · obtain ⟨rfl, rfl⟩ := Prod.mk.inj e
      exact ⟨1, c1, (b, m1), cwx_L_fuel_1 l hfl stC a1 c1 h1, h2, h3, fun q => absurd q (by decide), h5⟩
    exact absurd h0 (by simp)
theorem zC_book (l : Launch) (hfl : l.stackTraces = false) : zCpl_book l zR := by
  intro stC stM a1 a2 a3 a4 a5 a6 hR hb
  rcases P_book a1 a2 a3 a4 a5 a6 hb hR with ⟨r, c1, b, m1, h1, h2, h3, h4, h5⟩ | ⟨k, v, c1, b, m1, h0, h1, h2, h3, h5⟩
  · refine ⟨0, zwL c1 98 0 (r.toInt64), (b, m1), cw_L_book l hfl stC a1 a2 a3 a4 a5 a6 (0, zwL c1 98 0 (r.toInt64)) ?_, h2, h3, fun _ => ?_, zR_out h5 _⟩
    · unfold f_L_book
      rw [h1, zbs, zlet_eq, zc0]
    · rw [zrL_e, h4]
  · rcases List.mem_cons.mp h0 with e | h0
    · obtain ⟨rfl, rfl⟩ := Prod.mk.inj e
      exact ⟨1, c1, (b, m1), cwx_L_book_1 l hfl stC a1 a2 a3 a4 a5 a6 c1 h1, h2, h3, fun q => absurd q (by decide), h5⟩
    rcases List.mem_cons.mp h0 with e | h0
    · obtain ⟨rfl, rfl⟩ := Prod.mk.inj e
      exact ⟨2, c1, (b, m1), cwx_L_book_2 l hfl stC a1 a2 a3 a4 a5 a6 c1 h1, h2, h3, fun q => absurd q (by decide), h5⟩
    rcases List.mem_cons.mp h0 with e | h0
    · obtain ⟨rfl, rfl⟩ := Prod.mk.inj e
      exact ⟨3, c1, (b, m1), cwx_L_book_3 l hfl stC a1 a2 a3 a4 a5 a6 c1 h1, h2, h3, fun q => absurd q (by decide), h5⟩
    exact absurd h0 (by simp)
theorem zC_sailingOf (l : Launch) (hfl : l.stackTraces = false) : zCpl_sailingOf l zR := by
  intro stC stM a1 hR
  rcases P_sailingOf a1 hR with ⟨r, c1, b, m1, h1, h2, h3, h4, h5⟩ | ⟨k, v, c1, b, m1, h0, h1, h2, h3, h5⟩
  · refine ⟨0, zwL c1 98 0 (r.toInt64), (b, m1), cw_L_sailingOf l hfl stC a1 (0, zwL c1 98 0 (r.toInt64)) ?_, h2, h3, fun _ => ?_, zR_out h5 _⟩
    · unfold f_L_sailingOf
      rw [h1, zbs, zlet_eq, zc0]
    · rw [zrL_e, h4]
  · rcases List.mem_cons.mp h0 with e | h0
    · obtain ⟨rfl, rfl⟩ := Prod.mk.inj e
      exact ⟨1, c1, (b, m1), cwx_L_sailingOf_1 l hfl stC a1 c1 h1, h2, h3, fun q => absurd q (by decide), h5⟩
    exact absurd h0 (by simp)
theorem zC_lane (l : Launch) (hfl : l.stackTraces = false) : zCpl_lane l zR := by
  intro stC stM a1 hR
  rcases P_lane a1 hR with ⟨r, c1, b, m1, h1, h2, h3, h4, h5⟩ | ⟨k, v, c1, b, m1, h0, h1, h2, h3, h5⟩
  · refine ⟨0, zwL c1 98 0 (r.toInt64), (b, m1), cw_L_lane l hfl stC a1 (0, zwL c1 98 0 (r.toInt64)) ?_, h2, h3, fun _ => ?_, zR_out h5 _⟩
    · unfold f_L_lane
      rw [h1, zbs, zlet_eq, zc0]
    · rw [zrL_e, h4]
  · rcases List.mem_cons.mp h0 with e | h0
    · obtain ⟨rfl, rfl⟩ := Prod.mk.inj e
      exact ⟨1, c1, (b, m1), cwx_L_lane_1 l hfl stC a1 c1 h1, h2, h3, fun q => absurd q (by decide), h5⟩
    exact absurd h0 (by simp)
theorem zC_paid (l : Launch) (hfl : l.stackTraces = false) : zCpl_paid l zR := by
  intro stC stM a1 hR
  rcases P_paid a1 hR with ⟨r, c1, b, m1, h1, h2, h3, h4, h5⟩ | ⟨k, v, c1, b, m1, h0, h1, h2, h3, h5⟩
  · refine ⟨0, zwL c1 98 0 (r.toInt64), (b, m1), cw_L_paid l hfl stC a1 (0, zwL c1 98 0 (r.toInt64)) ?_, h2, h3, fun _ => ?_, zR_out h5 _⟩
    · unfold f_L_paid
      rw [h1, zbs, zlet_eq, zc0]
    · rw [zrL_e, h4]
  · rcases List.mem_cons.mp h0 with e | h0
    · obtain ⟨rfl, rfl⟩ := Prod.mk.inj e
      exact ⟨1, c1, (b, m1), cwx_L_paid_1 l hfl stC a1 c1 h1, h2, h3, fun q => absurd q (by decide), h5⟩
    exact absurd h0 (by simp)
theorem zC_taken (l : Launch) (hfl : l.stackTraces = false) : zCpl_taken l zR := by
  intro stC stM a1 hR
  rcases P_taken a1 hR with ⟨r, c1, b, m1, h1, h2, h3, h4, h5⟩ | ⟨k, v, c1, b, m1, h0, h1, h2, h3, h5⟩
  · refine ⟨0, zwL c1 98 0 (r.toInt64), (b, m1), cw_L_taken l hfl stC a1 (0, zwL c1 98 0 (r.toInt64)) ?_, h2, h3, fun _ => ?_, zR_out h5 _⟩
    · unfold f_L_taken
      rw [h1, zbs, zlet_eq, zc0]
    · rw [zrL_e, h4]
  · rcases List.mem_cons.mp h0 with e | h0
    · obtain ⟨rfl, rfl⟩ := Prod.mk.inj e
      exact ⟨1, c1, (b, m1), cwx_L_taken_1 l hfl stC a1 c1 h1, h2, h3, fun q => absurd q (by decide), h5⟩
    exact absurd h0 (by simp)
theorem zC_list (l : Launch) (hfl : l.stackTraces = false) : zCpl_list l zR := by
  intro stC stM a1 hR
  rcases P_list a1 hR with ⟨r, c1, b, m1, h1, h2, h3, h4, h5⟩ | ⟨k, v, c1, b, m1, h0, h1, h2, h3, h5⟩
  · refine ⟨0, zwL c1 98 0 (r.toInt64), (b, m1), cw_L_list l hfl stC a1 (0, zwL c1 98 0 (r.toInt64)) ?_, h2, h3, fun _ => ?_, zR_out h5 _⟩
    · unfold f_L_list
      rw [h1, zbs, zlet_eq, zc0]
    · rw [zrL_e, h4]
  · rcases List.mem_cons.mp h0 with e | h0
    · obtain ⟨rfl, rfl⟩ := Prod.mk.inj e
      exact ⟨1, c1, (b, m1), cwx_L_list_1 l hfl stC a1 c1 h1, h2, h3, fun q => absurd q (by decide), h5⟩
    rcases List.mem_cons.mp h0 with e | h0
    · obtain ⟨rfl, rfl⟩ := Prod.mk.inj e
      exact ⟨2, c1, (b, m1), cwx_L_list_4 l hfl stC a1 c1 h1, h2, h3, fun q => absurd q (by decide), h5⟩
    exact absurd h0 (by simp)
theorem zC_account (l : Launch) (hfl : l.stackTraces = false) : zCpl_account l zR := by
  intro stC stM a1 hR
  rcases P_account a1 hR with ⟨r, c1, b, m1, h1, h2, h3, h4, h5⟩ | ⟨k, v, c1, b, m1, h0, h1, h2, h3, h5⟩
  · refine ⟨0, zwL c1 98 0 (r), (b, m1), cw_L_account l hfl stC a1 (0, zwL c1 98 0 (r)) ?_, h2, h3, fun _ => ?_, zR_out h5 _⟩
    · unfold f_L_account
      rw [h1, zbs, zlet_eq, zc0]
    · rw [zrL_e, h4]
  · rcases List.mem_cons.mp h0 with e | h0
    · obtain ⟨rfl, rfl⟩ := Prod.mk.inj e
      exact ⟨1, c1, (b, m1), cwx_L_account_2 l hfl stC a1 c1 h1, h2, h3, fun q => absurd q (by decide), h5⟩
    exact absurd h0 (by simp)
theorem zC_accountAnew (l : Launch) (hfl : l.stackTraces = false) : zCpl_accountAnew l zR := by
  intro stC stM a1 hR
  rcases P_accountAnew a1 hR with ⟨r, c1, b, m1, h1, h2, h3, h4, h5⟩ | ⟨k, v, c1, b, m1, h0, h1, h2, h3, h5⟩
  · refine ⟨0, zwL c1 98 0 (r), (b, m1), cw_L_accountAnew l hfl stC a1 (0, zwL c1 98 0 (r)) ?_, h2, h3, fun _ => ?_, zR_out h5 _⟩
    · unfold f_L_accountAnew
      rw [h1, zbs, zlet_eq, zc0]
    · rw [zrL_e, h4]
  · rcases List.mem_cons.mp h0 with e | h0
    · obtain ⟨rfl, rfl⟩ := Prod.mk.inj e
      exact ⟨1, c1, (b, m1), cwx_L_accountAnew_2 l hfl stC a1 c1 h1, h2, h3, fun q => absurd q (by decide), h5⟩
    exact absurd h0 (by simp)
end ZP17
