def lvT (σ1 : SS) (a1 : Int32) : Option (Int32 × SS) := (if (σ1 0 7) = (0 : Int32) then some (a1, σ1) else q_cr (pX4_hasPower σ1) (fun (r4 : Int32) => (if r4 = (0 : Int32) then q_zz (0 : Int32) (q_lt (su σ1 0 7 (0 : Int32)) (fun (σ19 : SS) => some (a1, σ19))) else q_lt (fun (σ6 : SS) => q_lt (fun (y8 : Int32) => q_lt (if y8 < a1 then y8 else a1) (fun x3_10 => q_lt (su σ6 0 9 ((σ6 0 9) + x3_10)) (fun (σ11 : SS) => q_lt (fun (y12 : Int32) => q_zz y12 (q_lt (su σ11 0 7 y12) (fun (σ14 : SS) => some ((a1 - x3_10), σ14)))) (fun j13 => (if (a1 - x3_10) ≤ (σ11 0 1) then j13 (0 : Int32) else j13 (1 : Int32)))))) (fun j9 => (if (σ6 0 6) = (0 : Int32) then j9 (σ6 0 2) else j9 ((2 : Int32) * (σ6 0 2))))) (fun j7 => (if (σ1 0 5) = (0 : Int32) then q_lt (su σ1 0 4 ((σ1 0 4) - (1 : Int32))) (fun (σ18 : SS) => j7 σ18) else j7 σ1)))))
theorem leaves_u (p : SS) (a1 a2 : Int32) : pX4_leaves p a1 a2 = (if p 0 7 = 0 then (if a1 < p 0 0 then lvT p a1 else q_cr (pX4_hasPower p) (fun r => if r = 0 then lvT p a1 else q_cr (pX4_isDead p) (fun r => if r = 0 then q_cs (pX4_begin p a2) (fun τ => τ) (fun σ => lvT σ a1) else lvT p a1))) else lvT p a1) := rfl
theorem pwr_1 {t : Nat → Int32} (ho : PO t) : (if t 14 = 0 then (if t 7 ≤ 0 then (0 : Int32) else 1) else 1) = (if t 14 = 1 then 1 else if t 7 ≤ 0 then 0 else 1) := by
  rcases ho.2.2.1 with h | h <;> rw [h] <;> rfl
theorem start_eq {p : SS} {t : Nat → Int32} (h : PR p t) (ho : PO t) : ∃ q, PR q (mStart t) ∧ PO (mStart t) ∧ pX4_leaves p (t 2) (t 8) = lvT q (t 2) := by
  obtain ⟨⟨a0, a1, a2, a3, a4, a5, a6, a7, a8, a9⟩, hl⟩ := id h
  rw [leaves_u, a7, a0, hasPower_eq, isDead_eq, cr_s, cr_s, a5, a4, a8, a3, pwr_1 ho]
  unfold mStart
  by_cases h10 : t 10 = 0
  · rw [if_pos h10, if_pos h10]
    by_cases hdp : t 2 < t 3
    · rw [if_pos hdp, if_pos hdp]
      refine ⟨p, ?_, ?_, rfl⟩
      · split
        · exact h
        · exact h
      · split
        · exact ho
        · exact ho
    · rw [if_neg hdp, if_neg hdp]
      by_cases hd : t 9 ≤ t 6
      · rw [if_pos hd, if_pos hd]
        obtain ⟨q, hq1, hq2, hq3⟩ := begin_eq h ho hd
        by_cases hc : t 14 = 1
        · rw [if_pos hc, if_pos hc, if_neg (by decide), if_pos rfl, hq1, cs_s]
          exact ⟨q, hq2, hq3, rfl⟩
        · rw [if_neg hc, if_neg hc]
          by_cases hb : t 7 ≤ 0
          · rw [if_pos hb, if_pos hb, if_pos rfl]
            exact ⟨p, h, ho, rfl⟩
          · rw [if_neg hb, if_neg hb, if_neg (by decide), if_pos rfl, hq1, cs_s]
            exact ⟨q, hq2, hq3, rfl⟩
      · rw [if_neg hd, if_neg hd, if_neg (show ¬ (1 : Int32) = 0 by decide)]
        exact ⟨p, h, ho, ite_self _⟩
  · rw [if_neg h10, if_neg h10]
    exact ⟨p, h, ho, rfl⟩
theorem min_if (r d : Int32) : (if r < d then r else d) = if d ≤ r then d else r := by
  by_cases h : r < d
  · rw [if_pos h, if_neg (by rw [i_le]; rw [i_lt] at h; omega)]
  · rw [if_neg h, if_pos (by rw [i_le]; rw [i_lt] at h; omega)]
theorem draw_row (t : Nat → Int32) {j : Nat} (h2 : j ≠ 2) (h7 : j ≠ 7) (h10 : j ≠ 10) (h12 : j ≠ 12) : mDraw t j = t j := by
  unfold mDraw
  rw [upd_ne h10, upd_ne h12, upd_ne h2, upd_ne h7]
theorem run_eq {p : SS} {t : Nat → Int32} (h : PR p t) (ho : PO t) : ∃ q, lvT p (t 2) = some (mRun t 2, q) ∧ PR q (mRun t) ∧ PO (mRun t) := by
  obtain ⟨⟨a0, a1, a2, a3, a4, a5, a6, a7, a8, a9⟩, hl⟩ := id h
  obtain ⟨o1, o2, o3, o4⟩ := id ho
  unfold lvT
  rw [hasPower_eq, cr_s, a7, a5, a4, pwr_1 ho]
  unfold mRun
  by_cases h10 : t 10 = 0
  · rw [if_pos h10, if_pos h10]
    exact ⟨p, rfl, h, ho⟩
  rw [if_neg h10, if_neg h10]
  -- what is drawn
  have fin : ∀ σ6 : SS, σ6 1 = p 1 → (∀ k, k ≠ 4 → σ6 0 k = p 0 k) → σ6 0 4 = t 7 - (if t 14 = 1 then 0 else 1) → ∃ q, q_lt (fun (y8 : Int32) => q_lt (if y8 < t 2 then y8 else t 2) (fun x3_10 => q_lt (su σ6 0 9 ((σ6 0 9) + x3_10)) (fun (σ11 : SS) => q_lt (fun (y12 : Int32) => q_zz y12 (q_lt (su σ11 0 7 y12) (fun (σ14 : SS) => some ((t 2 - x3_10), σ14)))) (fun j13 => (if (t 2 - x3_10) ≤ (σ11 0 1) then j13 (0 : Int32) else j13 (1 : Int32)))))) (fun j9 => (if (σ6 0 6) = (0 : Int32) then j9 (σ6 0 2) else j9 ((2 : Int32) * (σ6 0 2)))) = some (mDraw t 2, q) ∧ PR q (mDraw t) ∧ PO (mDraw t) := by
    intro σ6 g1 g2 g4
    have hPO : PO (mDraw t) := by
      refine ⟨?_, ?_, ?_, ?_⟩
      · rw [draw_row t (by decide) (by decide) (by decide) (by decide)]; exact o1
      · rw [draw_row t (by decide) (by decide) (by decide) (by decide)]; exact o2
      · rw [draw_row t (by decide) (by decide) (by decide) (by decide)]; exact o3
      · show (if t 4 < t 2 - mDrawn t then (1 : Int32) else 0) = 0 ∨ (if t 4 < t 2 - mDrawn t then (1 : Int32) else 0) = 1
        split
        · exact Or.inr rfl
        · exact Or.inl rfl
    simp only [lt_v]
    have hr : (if σ6 0 6 = (0 : Int32) then σ6 0 2 else 2 * σ6 0 2) = (if ib (t 19) 2 = 0 then t 5 else 2 * t 5) := by rw [g2 6 (by decide), g2 2 (by decide), a6, a2]
    have hdrawn : ∀ r : Int32, r = (if ib (t 19) 2 = 0 then t 5 else 2 * t 5) → (if r < t 2 then r else t 2) = mDrawn t := fun r hr => by rw [min_if, hr]; rfl
    have key : ∀ y : Int32, y = (if t 4 < t 2 - mDrawn t then 1 else 0) → PR (su (su σ6 0 9 (σ6 0 9 + mDrawn t)) 0 7 y) (mDraw t) := by
      intro y hy
      refine ⟨⟨?_, ?_, ?_, ?_, ?_, ?_, ?_, ?_, ?_, ?_⟩, fun i hi hi2 => ?_⟩
      · show σ6 0 0 = _; rw [g2 0 (by decide), a0, draw_row t (by decide) (by decide) (by decide) (by decide)]
      · show σ6 0 1 = _; rw [g2 1 (by decide), a1, draw_row t (by decide) (by decide) (by decide) (by decide)]
      · show σ6 0 2 = _; rw [g2 2 (by decide), a2, draw_row t (by decide) (by decide) (by decide) (by decide)]
      · show σ6 0 3 = _; rw [g2 3 (by decide), a3, draw_row t (by decide) (by decide) (by decide) (by decide)]
      · exact g4
      · show σ6 0 5 = _; rw [g2 5 (by decide), a5, draw_row t (by decide) (by decide) (by decide) (by decide)]
      · show σ6 0 6 = _; rw [g2 6 (by decide), a6, draw_row t (by decide) (by decide) (by decide) (by decide)]
      · exact hy
      · show σ6 0 8 = _; rw [g2 8 (by decide), a8, draw_row t (by decide) (by decide) (by decide) (by decide)]
      · show σ6 0 9 + mDrawn t = t 12 + mDrawn t; rw [g2 9 (by decide), a9]
      · show σ6 1 i = _
        rw [draw_row t (by decide) (by decide) (by decide) (by decide)] at hi2
        rw [g1, draw_row t (by omega) (by omega) (by omega) (by omega)]
        exact hl i hi hi2
    have arm : ∀ r : Int32, r = (if ib (t 19) 2 = 0 then t 5 else 2 * t 5) → ∃ q, (if t 2 - (if r < t 2 then r else t 2) ≤ su σ6 0 9 (σ6 0 9 + (if r < t 2 then r else t 2)) 0 1 then q_zz 0 (some (t 2 - (if r < t 2 then r else t 2), su (su σ6 0 9 (σ6 0 9 + (if r < t 2 then r else t 2))) 0 7 0)) else q_zz 1 (some (t 2 - (if r < t 2 then r else t 2), su (su σ6 0 9 (σ6 0 9 + (if r < t 2 then r else t 2))) 0 7 1))) = some (mDraw t 2, q) ∧ PR q (mDraw t) ∧ PO (mDraw t) := by
      intro r hr
      rw [hdrawn r hr]
      have e1 : su σ6 0 9 (σ6 0 9 + mDrawn t) 0 1 = t 4 := by show σ6 0 1 = _; rw [g2 1 (by decide), a1]
      rw [e1]
      by_cases hc : t 4 < t 2 - mDrawn t
      · rw [if_neg (by rw [i_le]; rw [i_lt] at hc; omega)]
        exact ⟨_, rfl, key 1 (by rw [if_pos hc]), hPO⟩
      · rw [if_pos (by rw [i_le]; rw [i_lt] at hc; omega)]
        exact ⟨_, rfl, key 0 (by rw [if_neg hc]), hPO⟩
    by_cases h6 : σ6 0 6 = (0 : Int32)
    · rw [if_pos h6]
      rw [if_pos h6] at hr
      exact arm _ hr
    · rw [if_neg h6]
      rw [if_neg h6] at hr
      exact arm _ hr
  by_cases hc : t 14 = 1
  · rw [if_pos hc, if_pos hc, if_neg (by decide), lt_v, if_neg (by rw [hc]; decide)]
    refine fin p rfl (fun _ _ => rfl) ?_
    rw [if_pos hc, a4]
    exact (Int32.sub_zero _).symm
  · rw [if_neg hc, if_neg hc]
    by_cases hb : t 7 ≤ 0
    · rw [if_pos hb, if_pos hb, if_pos rfl]
      refine ⟨_, rfl, ⟨⟨a0, a1, a2, a3, a4, a5, a6, rfl, a8, a9⟩, fun i hi hi2 => ?_⟩, o1, o2, o3, Or.inl rfl⟩
      show p 1 i = upd t 10 0 (25 + i)
      rw [upd_ne (by omega)]
      exact hl i hi hi2
    · rw [if_neg hb, if_neg hb, if_neg (by decide), lt_v, if_pos (by rcases o3 with h | h; exact h; exact absurd h hc), lt_v]
      refine fin (su p 0 4 (t 7 - 1)) rfl (fun k hk => ?_) ?_
      · show upd (p 0) 4 _ k = p 0 k
        exact upd_ne hk
      · show t 7 - 1 = _
        rw [if_neg hc]
theorem mLog_2 (t : Nat → Int32) (h9 : 0 ≤ (t 9).toInt) : mStart t 2 = t 2 := by
  unfold mStart mBeg
  split
  · split
    · split
      · rfl
      · split
        · rw [upd_ne (by decide), upd_ne (by decide), log_at t (by omega) h9]
        · split
          · rfl
          · rw [upd_ne (by decide), upd_ne (by decide), log_at t (by omega) h9]
    · rfl
  · rfl
/-- the class's pump does what the row's does -/
theorem leaves_eq {p : SS} {t : Nat → Int32} (h : PR p t) (ho : PO t) : ∃ q, pX4_leaves p (t 2) (t 8) = some (mPumps t 2, q) ∧ PR q (mPumps t) ∧ PO (mPumps t) := by
  obtain ⟨q, h1, h2, h3⟩ := start_eq h ho
  rw [h3, ← mLog_2 t ho.1.1]
  exact run_eq h1 h2
