/-! ===== all calls, with the rows of sets ===== -/
theorem S2_water : S_water Rel2 := by
  intro σ τ a1 a2 a3 h
  obtain ⟨r, σ2, τ2, p1, p2, p3⟩ := s_water σ τ a1 a2 a3 h.1
  obtain ⟨k1, k2⟩ := F_water σ a1 a2 a3 r σ2 p1
  exact ⟨r, σ2, τ2, p1, p2, p3, by rw [k1]; exact h.2.1, by rw [k2]; exact h.2.2⟩
theorem S2_waterOf : S_waterOf Rel2 := by
  intro σ τ a1 a2 h
  obtain ⟨r, σ2, τ2, p1, p2, p3⟩ := s_waterOf σ τ a1 a2 h.1
  obtain ⟨k1, k2⟩ := F_waterOf σ a1 a2 r σ2 p1
  exact ⟨r, σ2, τ2, p1, p2, p3, by rw [k1]; exact h.2.1, by rw [k2]; exact h.2.2⟩
theorem S2_change : S_change Rel2 := by
  intro σ τ a1 a2 a3 h
  obtain ⟨r, σ2, τ2, p1, p2, p3⟩ := s_change σ τ a1 a2 a3 h.1
  obtain ⟨k1, k2⟩ := F_change σ a1 a2 a3 r σ2 p1
  exact ⟨r, σ2, τ2, p1, p2, p3, by rw [k1]; exact h.2.1, by rw [k2]; exact h.2.2⟩
theorem S2_set : S_set Rel2 := by
  intro σ τ a1 a2 h
  obtain ⟨r, σ2, τ2, p1, p2, p3⟩ := s_set σ τ a1 a2 h.1
  obtain ⟨k1, k2⟩ := F_set σ a1 a2 r σ2 p1
  exact ⟨r, σ2, τ2, p1, p2, p3, by rw [k1]; exact h.2.1, by rw [k2]; exact h.2.2⟩
theorem S2_current : S_current Rel2 := by
  intro σ τ a1 h01 h
  obtain ⟨r, σ2, τ2, p1, p2, p3⟩ := s_current σ τ a1 h01 h.1
  obtain ⟨k1, k2⟩ := F_current σ a1 r σ2 p1
  exact ⟨r, σ2, τ2, p1, p2, p3, by rw [k1]; exact h.2.1, by rw [k2]; exact h.2.2⟩
theorem S2_flap : S_flap Rel2 := by
  intro σ τ a1 h01 h
  obtain ⟨r, σ2, τ2, p1, p2, p3⟩ := s_flap σ τ a1 h01 h.1
  obtain ⟨k1, k2⟩ := F_flap σ a1 r σ2 p1
  exact ⟨r, σ2, τ2, p1, p2, p3, by rw [k1]; exact h.2.1, by rw [k2]; exact h.2.2⟩
theorem S2_minutes : S_minutes Rel2 := by
  intro σ τ a1 h
  obtain ⟨r, σ2, τ2, p1, p2, p3⟩ := s_minutes σ τ a1 h.1
  obtain ⟨k1, k2⟩ := F_minutes σ a1 r σ2 p1
  exact ⟨r, σ2, τ2, p1, p2, p3, by rw [k1]; exact h.2.1, by rw [k2]; exact h.2.2⟩
theorem S2_now : S_now Rel2 := by
  intro σ τ a1 h
  obtain ⟨r, σ2, τ2, p1, p2, p3⟩ := s_now σ τ a1 h.1
  obtain ⟨k1, k2⟩ := F_now σ a1 r σ2 p1
  exact ⟨r, σ2, τ2, p1, p2, p3, by rw [k1]; exact h.2.1, by rw [k2]; exact h.2.2⟩
theorem S2_renew : S_renew Rel2 := by
  intro σ τ h
  obtain ⟨r, σ2, τ2, p1, p2, p3⟩ := s_renew σ τ h.1
  obtain ⟨k1, k2⟩ := F_renew σ r σ2 p1
  exact ⟨r, σ2, τ2, p1, p2, p3, by rw [k1]; exact h.2.1, by rw [k2]; exact h.2.2⟩
theorem S2_start : S_start Rel2 := by
  intro σ τ a1 h
  obtain ⟨r, σ2, τ2, p1, p2, p3⟩ := s_start σ τ a1 h.1
  obtain ⟨k1, k2⟩ := F_start σ a1 r σ2 p1
  exact ⟨r, σ2, τ2, p1, p2, p3, by rw [k1]; exact h.2.1, by rw [k2]; exact h.2.2⟩
theorem S2_quickest : S_quickest Rel2 := by
  intro σ τ h
  obtain ⟨r, σ2, τ2, p1, p2, p3⟩ := s_quickest σ τ h.1
  obtain ⟨k1, k2⟩ := F_quickest σ r σ2 p1
  exact ⟨r, σ2, τ2, p1, p2, p3, by rw [k1]; exact h.2.1, by rw [k2]; exact h.2.2⟩
theorem S2_came : S_came Rel2 := by
  intro σ τ h
  obtain ⟨r, σ2, τ2, p1, p2, p3⟩ := s_came σ τ h.1
  obtain ⟨k1, k2⟩ := F_came σ r σ2 p1
  exact ⟨r, σ2, τ2, p1, p2, p3, by rw [k1]; exact h.2.1, by rw [k2]; exact h.2.2⟩
theorem S2_thing : S_thing Rel2 := by
  intro σ τ a1 a2 a3 h
  obtain ⟨r, σ2, τ2, p1, p2, p3⟩ := s_thing σ τ a1 a2 a3 h.1
  obtain ⟨k1, k2⟩ := F_thing σ a1 a2 a3 r σ2 p1
  exact ⟨r, σ2, τ2, p1, p2, p3, by rw [k1]; exact h.2.1, by rw [k2]; exact h.2.2⟩
theorem S2_thingOf : S_thingOf Rel2 := by
  intro σ τ a1 a2 h
  obtain ⟨r, σ2, τ2, p1, p2, p3⟩ := s_thingOf σ τ a1 a2 h.1
  obtain ⟨k1, k2⟩ := F_thingOf σ a1 a2 r σ2 p1
  exact ⟨r, σ2, τ2, p1, p2, p3, by rw [k1]; exact h.2.1, by rw [k2]; exact h.2.2⟩
theorem S2_lift : S_lift Rel2 := by
  intro σ τ a1 h
  obtain ⟨r, σ2, τ2, p1, p2, p3⟩ := s_lift σ τ a1 h.1
  obtain ⟨k1, k2⟩ := F_lift σ a1 r σ2 p1
  exact ⟨r, σ2, τ2, p1, p2, p3, by rw [k1]; exact h.2.1, by rw [k2]; exact h.2.2⟩
theorem S2_down : S_down Rel2 := by
  intro σ τ a1 a2 h
  obtain ⟨r, σ2, τ2, p1, p2, p3⟩ := s_down σ τ a1 a2 h.1
  obtain ⟨k1, k2⟩ := F_down σ a1 a2 r σ2 p1
  exact ⟨r, σ2, τ2, p1, p2, p3, by rw [k1]; exact h.2.1, by rw [k2]; exact h.2.2⟩
theorem S2_harm : S_harm Rel2 := by
  intro σ τ h
  obtain ⟨r, p1, p2, -⟩ := s_harm σ τ h.1
  exact ⟨r, p1, p2, h⟩
theorem S2_feed : S_feed Rel2 := by
  intro σ τ a1 a2 h
  obtain ⟨r, σ2, τ2, p1, p2, p3⟩ := s_feed σ τ a1 a2 h.1
  obtain ⟨k1, k2⟩ := F_feed σ a1 a2 r σ2 p1
  exact ⟨r, σ2, τ2, p1, p2, p3, by rw [k1]; exact h.2.1, by rw [k2]; exact h.2.2⟩
theorem S2_wipe : S_wipe Rel2 := by
  intro σ τ h
  obtain ⟨r, σ2, τ2, p1, p2, p3⟩ := s_wipe σ τ h.1
  obtain ⟨k1, k2⟩ := F_wipe σ r σ2 p1
  exact ⟨r, σ2, τ2, p1, p2, p3, by rw [k1]; exact h.2.1, by rw [k2]; exact h.2.2⟩
theorem S2_sky : S_sky Rel2 := by
  intro σ τ h
  obtain ⟨r, σ2, τ2, p1, p2, p3⟩ := s_sky σ τ h.1
  obtain ⟨k1, k2⟩ := F_sky σ r σ2 p1
  exact ⟨r, σ2, τ2, p1, p2, p3, by rw [k1]; exact h.2.1, by rw [k2]; exact h.2.2⟩
theorem S2_skyOf : S_skyOf Rel2 := by
  intro σ τ a1 a2 h
  obtain ⟨r, σ2, τ2, p1, p2, p3⟩ := s_skyOf σ τ a1 a2 h.1
  obtain ⟨k1, k2⟩ := F_skyOf σ a1 a2 r σ2 p1
  exact ⟨r, σ2, τ2, p1, p2, p3, by rw [k1]; exact h.2.1, by rw [k2]; exact h.2.2⟩
theorem S2_play : S_play Rel2 := by
  intro σ τ a1 h
  obtain ⟨r, σ2, τ2, p1, p2, p3⟩ := s_play σ τ a1 h.1
  obtain ⟨k1, k2⟩ := F_play σ a1 r σ2 p1
  exact ⟨r, σ2, τ2, p1, p2, p3, by rw [k1]; exact h.2.1, by rw [k2]; exact h.2.2⟩
theorem S2_ahead : S_ahead Rel2 := by
  intro σ τ a1 a2 h
  obtain ⟨r, σ2, τ2, p1, p2, p3⟩ := s_ahead σ τ a1 a2 h.1
  obtain ⟨k1, k2⟩ := F_ahead σ a1 a2 r σ2 p1
  exact ⟨r, σ2, τ2, p1, p2, p3, by rw [k1]; exact h.2.1, by rw [k2]; exact h.2.2⟩
theorem S2_under : S_under Rel2 := by
  intro σ τ a1 a2 h
  obtain ⟨r, σ2, τ2, p1, p2, p3⟩ := s_under σ τ a1 a2 h.1
  obtain ⟨k1, k2⟩ := F_under σ a1 a2 r σ2 p1
  exact ⟨r, σ2, τ2, p1, p2, p3, by rw [k1]; exact h.2.1, by rw [k2]; exact h.2.2⟩
theorem S2_reaches : S_reaches Rel2 := by
  intro σ τ a1 h
  obtain ⟨r, σ2, τ2, p1, p2, p3⟩ := s_reaches σ τ a1 h.1
  obtain ⟨k1, k2⟩ := F_reaches σ a1 r σ2 p1
  exact ⟨r, σ2, τ2, p1, p2, p3, by rw [k1]; exact h.2.1, by rw [k2]; exact h.2.2⟩
theorem S2_bestOn : S_bestOn Rel2 := by
  intro σ τ a1 a2 h
  obtain ⟨r, σ2, τ2, p1, p2, p3⟩ := s_bestOn σ τ a1 a2 h.1
  obtain ⟨k1, k2⟩ := F_bestOn σ a1 a2 r σ2 p1
  exact ⟨r, σ2, τ2, p1, p2, p3, by rw [k1]; exact h.2.1, by rw [k2]; exact h.2.2⟩
theorem S2_rateFor : S_rateFor Rel2 := by
  intro σ τ a1 a2 h
  obtain ⟨r, σ2, τ2, p1, p2, p3⟩ := s_rateFor σ τ a1 a2 h.1
  obtain ⟨k1, k2⟩ := F_rateFor σ a1 a2 r σ2 p1
  exact ⟨r, σ2, τ2, p1, p2, p3, by rw [k1]; exact h.2.1, by rw [k2]; exact h.2.2⟩
theorem S2_batteryFor : S_batteryFor Rel2 := by
  intro σ τ a1 a2 h
  obtain ⟨r, σ2, τ2, p1, p2, p3⟩ := s_batteryFor σ τ a1 a2 h.1
  obtain ⟨k1, k2⟩ := F_batteryFor σ a1 a2 r σ2 p1
  exact ⟨r, σ2, τ2, p1, p2, p3, by rw [k1]; exact h.2.1, by rw [k2]; exact h.2.2⟩
theorem S2_cost : S_cost Rel2 := by
  intro σ τ a1 a2 h
  obtain ⟨r, σ2, τ2, p1, p2, p3⟩ := s_cost σ τ a1 a2 h.1
  obtain ⟨k1, k2⟩ := F_cost σ a1 a2 r σ2 p1
  exact ⟨r, σ2, τ2, p1, p2, p3, by rw [k1]; exact h.2.1, by rw [k2]; exact h.2.2⟩
theorem S2_build : S_build Rel2 := by
  intro σ τ a1 h
  obtain ⟨r, σ2, τ2, p1, p2, p3⟩ := s_build σ τ a1 h.1
  obtain ⟨k1, k2⟩ := F_build σ a1 r σ2 p1
  exact ⟨r, σ2, τ2, p1, p2, p3, by rw [k1]; exact h.2.1, by rw [k2]; exact h.2.2⟩
theorem S2_worth : S_worth Rel2 := by
  intro σ τ a1 a2 a3 h
  obtain ⟨r, σ2, τ2, p1, p2, p3⟩ := s_worth σ τ a1 a2 a3 h.1
  obtain ⟨k1, k2⟩ := F_worth σ a1 a2 a3 r σ2 p1
  exact ⟨r, σ2, τ2, p1, p2, p3, by rw [k1]; exact h.2.1, by rw [k2]; exact h.2.2⟩
theorem S2_odds : S_odds Rel2 := by
  intro σ τ a1 a2 a3 h
  obtain ⟨r, σ2, τ2, p1, p2, p3⟩ := s_odds σ τ a1 a2 a3 h.1
  obtain ⟨k1, k2⟩ := F_odds σ a1 a2 a3 r σ2 p1
  exact ⟨r, σ2, τ2, p1, p2, p3, by rw [k1]; exact h.2.1, by rw [k2]; exact h.2.2⟩
theorem S2_seed : S_seed Rel2 := by
  intro σ τ a1 h
  obtain ⟨r, σ2, τ2, p1, p2, p3⟩ := s_seed σ τ a1 h.1
  obtain ⟨k1, k2⟩ := F_seed σ a1 r σ2 p1
  exact ⟨r, σ2, τ2, p1, p2, p3, by rw [k1]; exact h.2.1, by rw [k2]; exact h.2.2⟩
theorem S2_hold : S_hold Rel2 := by
  intro σ τ a1 a2 h
  obtain ⟨r, σ2, τ2, p1, p2, p3⟩ := s_hold σ τ a1 a2 h.1
  obtain ⟨k1, k2⟩ := F_hold σ a1 a2 r σ2 p1
  exact ⟨r, σ2, τ2, p1, p2, p3, by rw [k1]; exact h.2.1, by rw [k2]; exact h.2.2⟩
theorem S2_as : S_as Rel2 := by
  intro σ τ a1 a2 h
  obtain ⟨r, σ2, τ2, p1, p2, p3⟩ := s_as σ τ a1 a2 h.1
  obtain ⟨k1, k2⟩ := F_as σ a1 a2 r σ2 p1
  exact ⟨r, σ2, τ2, p1, p2, p3, by rw [k1]; exact h.2.1, by rw [k2]; exact h.2.2⟩
theorem S2_sheet : S_sheet Rel2 := by
  intro σ τ a1 a2 a3 h
  obtain ⟨r, σ2, τ2, p1, p2, p3⟩ := s_sheet σ τ a1 a2 a3 h.1
  obtain ⟨k1, k2⟩ := F_sheet σ a1 a2 a3 r σ2 p1
  exact ⟨r, σ2, τ2, p1, p2, p3, by rw [k1]; exact h.2.1, by rw [k2]; exact h.2.2⟩
theorem S2_write : S_write Rel2 := by
  intro σ τ a1 a2 a3 h
  obtain ⟨r, σ2, τ2, p1, p2, p3⟩ := s_write σ τ a1 a2 a3 h.1
  obtain ⟨k1, k2⟩ := F_write σ a1 a2 a3 r σ2 p1
  exact ⟨r, σ2, τ2, p1, p2, p3, by rw [k1]; exact h.2.1, by rw [k2]; exact h.2.2⟩
theorem S2_copy : S_copy Rel2 := by
  intro σ τ a1 a2 a3 a4 a5 h
  obtain ⟨r, σ2, τ2, p1, p2, p3⟩ := s_copy σ τ a1 a2 a3 a4 a5 h.1
  obtain ⟨k1, k2⟩ := F_copy σ a1 a2 a3 a4 a5 r σ2 p1
  exact ⟨r, σ2, τ2, p1, p2, p3, by rw [k1]; exact h.2.1, by rw [k2]; exact h.2.2⟩
theorem S2_load : S_load Rel2 := by
  intro σ τ a1 h
  obtain ⟨r, σ2, τ2, p1, p2, p3⟩ := s_load σ τ a1 h.1
  obtain ⟨k1, k2⟩ := F_load σ a1 r σ2 p1
  exact ⟨r, σ2, τ2, p1, p2, p3, by rw [k1]; exact h.2.1, by rw [k2]; exact h.2.2⟩
theorem S2_judge : S_judge Rel2 := by
  intro σ τ a1 h
  obtain ⟨r, σ2, τ2, p1, p2, p3⟩ := s_judge σ τ a1 h.1
  obtain ⟨k1, k2⟩ := F_judge σ a1 r σ2 p1
  exact ⟨r, σ2, τ2, p1, p2, p3, by rw [k1]; exact h.2.1, by rw [k2]; exact h.2.2⟩
theorem S2_image : S_image Rel2 := by
  intro σ τ h
  obtain ⟨r, σ2, τ2, p1, p2, p3⟩ := s_image σ τ h.1
  obtain ⟨k1, k2⟩ := F_image σ r σ2 p1
  exact ⟨r, σ2, τ2, p1, p2, p3, by rw [k1]; exact h.2.1, by rw [k2]; exact h.2.2⟩
theorem S2_undo : S_undo Rel2 := by
  intro σ τ h
  obtain ⟨r, σ2, τ2, p1, p2, p3⟩ := s_undo σ τ h.1
  obtain ⟨k1, k2⟩ := F_undo σ r σ2 p1
  exact ⟨r, σ2, τ2, p1, p2, p3, by rw [k1]; exact h.2.1, by rw [k2]; exact h.2.2⟩
theorem S2_tear : S_tear Rel2 := by
  intro σ τ h
  obtain ⟨r, σ2, τ2, p1, p2, p3⟩ := s_tear σ τ h.1
  obtain ⟨k1, k2⟩ := F_tear σ r σ2 p1
  exact ⟨r, σ2, τ2, p1, p2, p3, by rw [k1]; exact h.2.1, by rw [k2]; exact h.2.2⟩
theorem S2_count : S_count Rel2 := by
  intro σ τ a1 h
  obtain ⟨r, σ2, τ2, p1, p2, p3⟩ := s_count σ τ a1 h.1
  obtain ⟨k1, k2⟩ := F_count σ a1 r σ2 p1
  exact ⟨r, σ2, τ2, p1, p2, p3, by rw [k1]; exact h.2.1, by rw [k2]; exact h.2.2⟩
theorem S2_status : S_status Rel2 := by
  intro σ τ a1 h
  obtain ⟨r, σ2, τ2, p1, p2, p3⟩ := s_status σ τ a1 h.1
  obtain ⟨k1, k2⟩ := F_status σ a1 r σ2 p1
  exact ⟨r, σ2, τ2, p1, p2, p3, by rw [k1]; exact h.2.1, by rw [k2]; exact h.2.2⟩
theorem sims2 : Sims Rel2 := ⟨S2_water, S2_waterOf, S2_change, S2_set, S2_current, S2_flap, S2_minutes, S2_now, S2_renew, S2_start, S2_quickest, S2_came, S2_thing, S2_thingOf, S2_lift, S2_down, S2_harm, S2_feed, S2_wipe, S2_sky, S2_skyOf, S2_play, S2_ahead, S2_under, S2_reaches, S2_bestOn, S2_rateFor, S2_batteryFor, S2_cost, S2_build, S2_worth, s_rescue, s_shelf, S2_odds, S2_seed, S2_hold, S2_as, S2_sheet, S2_write, S2_copy, S2_load, S2_judge, S2_image, S2_undo, S2_tear, S2_count, S2_status⟩
/-! ===== new objects ===== -/
theorem Ok_new : Ok rX12 := by
  refine ⟨⟨by decide, by decide, by decide, by decide, by decide, by decide, Or.inr rfl, Or.inl rfl, Or.inl rfl, by decide, by decide, by decide, by decide, by decide⟩, fun w hw => ?_, fun k hk => ?_, fun w hw => ?_⟩
  · have : (w : Int) < 0 := hw
    omega
  · have : (k : Int) < 0 := hk
    omega
  · rcases (by omega : w = 0 ∨ w = 1 ∨ w = 2 ∨ w = 3) with rfl | rfl | rfl | rfl <;> decide
theorem H_new {σ : SS} (h : iX2 (q_sb σ 2)) : HRel σ 2 rX12 := by
  obtain ⟨z, ⟨⟨a4, a5, a6, a7, a8, a9, a10, a11⟩, ⟨c0, c1, c2, c3⟩, w0, ⟨p0, p1, p2, p3, p4, p5, p6, p7, p8, p9⟩, ⟨t0, t4, t5⟩⟩, k0, sp⟩ := h
  refine ⟨Ok_new, ⟨⟨a6, a7, a8, p0, p1, p2, p3, p4, a9, p8, p7, a10, p9, a11, p5, a5, w0, t0, a4, ?_⟩, fun i _ hi => ?_, fun w hw => ?_, ⟨fun w hw => ?_, fun w hw => ?_⟩, fun w hw => ?_⟩, ⟨k0, fun y hy => ?_⟩, fun j hj => ?_, z⟩
  · show σ 9 6 = ib 0 2
    rw [ib_0]
    exact p6
  · have : (i : Int) < 0 := hi
    omega
  · have : (w : Int) < 0 := hw
    omega
  · have : (w : Int) < 0 := hw
    omega
  · have t4 : q_sb σ (2 + 1) 8 4 = 0 := t4
    have t5 : q_sb σ (2 + 1) 8 5 = 0 := t5
    rw [t4, t5]
    exact ⟨ib_0 w, ib_0 w⟩
  · rcases (by omega : w = 0 ∨ w = 1 ∨ w = 2 ∨ w = 3) with rfl | rfl | rfl | rfl
    · exact c0
    · exact c1
    · exact c2
    · exact c3
  · have : (y : Int) < 0 := hy
    omega
  · have e : rX12 (297 + j) = -1 := by
      rcases (by omega : j = 0 ∨ j = 1 ∨ j = 2 ∨ j = 3 ∨ j = 4 ∨ j = 5 ∨ j = 6 ∨ j = 7 ∨ j = 8 ∨ j = 9) with rfl | rfl | rfl | rfl | rfl | rfl | rfl | rfl | rfl | rfl <;> rfl
    rw [e]
    exact ⟨sp j hj, by decide, by decide⟩
theorem first2 (σ τ : SS) (h : iX11 σ) (h2 : iX12 τ) : Rel2 σ τ := by
  obtain ⟨⟨k0, fo⟩, hh, tp, ⟨x0, x1, x2⟩, ⟨y0, y1, y2⟩, ⟨z0, z1, z2⟩, ⟨u0, u1, u2⟩, ⟨v0, v1⟩⟩ := h
  obtain ⟨⟨r3, r7⟩, row, r4, r8, r9, r10⟩ := h2
  refine ⟨⟨HR_row (fun j hj => row j hj) (H_new hh), ⟨by rw [r3]; exact k0, Or.inl r3⟩, fun h1 => ?_, fun i hi => by rw [r4 i]; exact fo i hi, ⟨by rw [r7]; exact tp, by rw [r7]; decide, fun i hi => ?_⟩, ⟨⟨by rw [r8 0]; exact x0, Or.inl (r8 0), by rw [r9 0]; exact x1, by rw [r9 0]; decide, fun i hi => by rw [r10]; exact x2 i hi⟩, ⟨by rw [r8 1]; exact y0, Or.inl (r8 1), by rw [r9 1]; exact y1, by rw [r9 1]; decide, fun i hi => by rw [r10]; exact y2 i hi⟩, ⟨by rw [r8 2]; exact z0, Or.inl (r8 2), by rw [r9 2]; exact z1, by rw [r9 2]; decide, fun i hi => by rw [r10]; exact z2 i hi⟩, ⟨by rw [r8 3]; exact u0, Or.inl (r8 3), by rw [r9 3]; exact u1, by rw [r9 3]; decide, fun i hi => by rw [r10]; exact u2 i hi⟩⟩⟩, v0, v1⟩
  · rw [r3] at h1
    exact absurd h1 (by decide)
  · rw [r7] at hi
    have : (i : Int) < 0 := hi
    omega
