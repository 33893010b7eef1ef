/-! ===== bytes are fed ===== -/
theorem lt_n {α β : Type} (x : α) (k : α → β) : q_lt x k = k x := congrFun (rfl : (fun k : α → β => q_lt x k) = fun k => k x) k
theorem s_feed : S_feed Rel := by
  intro σ τ a1 a2 h
  have R1 : Rel (su σ 1 1 (σ 1 1 + 1)) (su τ 4 1 (τ 4 1 + 1)) := R_tell h (by decide)
  have hT := h.2.2.2.2.1
  unfold pX11_feed pX12_feed pX8_append
  simp only [within_eq, in_eq, cr_s, lt_n, tell_0, find_0, tell_1, find_1, ci_s]
  by_cases h1 : wi a2 1 4 = 0
  · simp only [if_pos h1]
    exact ⟨_, _, _, rfl, rfl, R_tell h (by decide)⟩
  simp only [if_neg h1]
  have g1 := (wi_ok h1).1
  rw [show (1 : Int32).toInt = 1 from rfl] at g1
  obtain ⟨k, hk, rfl⟩ := num_of (a := a2) (n := 4) (by omega) (wi_ok h1).2
  rw [nI_toInt (by omega)] at g1
  obtain ⟨m, hm, em⟩ := num_of (a := τ 0 7) (n := 100) hT.2.1.1 hT.2.1.2
  rw [hT.1, em, nI_add]
  by_cases h2 : nI (m + k) ≤ 100
  · rw [if_pos h2, if_pos h2]
    have hmk : m + k ≤ 100 := (nI_leS (m := 100) (by omega) (by omega)).mp h2
    obtain ⟨s', τ', p1, p2, p3, p4, p5, p6, p7⟩ := feed_lp a1 k m q_fu (q_sb σ 40) τ hk hmk em hT (fu_lt (by omega))
    rw [show nI k - 1 = nI k + -1 from Int32.sub_eq_add_neg _ _, p1, p2, cs_s]
    have e0 : q_em σ 40 0 2 s' 40 = s' 0 := em_in 0 (by omega)
    have e1 : q_em σ 40 0 2 s' 41 = s' 1 := em_in 1 (by omega)
    rw [e0, p3]
    refine ⟨_, _, _, rfl, rfl, ?_⟩
    exact R_tp h (fun x hx => em_out (by omega)) p6 p7 (by rw [e0, e1]; exact p4)
  · rw [if_neg h2, if_neg h2]
    exact ⟨_, _, _, rfl, rfl, R1⟩
