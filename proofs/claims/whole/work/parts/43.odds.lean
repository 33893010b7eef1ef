/-! ===== odds ===== -/
theorem odds_t {R : Type} (τ : SS) (t : Nat → Int32) {rain y : Int32} (hy : y = 0 ∨ y = 1) (K : SS → Option R) : q_lt (fun (y27 : Int32) => q_wr (rs τ (upd t 0 rain) 0) 1 307 14 y27 K) (fun (j28 : Int32 → Option R) => if y = 0 then q_rd (rs τ (upd t 0 rain) 0 1) 307 14 (fun v37 => j28 v37) else j28 0) = K (rs τ (mOd t rain y) 0) := by
  rw [lt_v, Q1_14]
  dsimp only
  rw [W1_14, W1_14, rs_W, rs_W, rs_1]
  unfold mOd
  rcases hy with rfl | rfl
  · rw [if_pos rfl, if_pos rfl, upd_ne (by decide)]
  · rw [if_neg (by decide), if_neg (by decide)]
set_option maxHeartbeats 4000000 in
theorem s_odds : S_odds Rel := by
  intro σ τ a1 a2 a3 h
  have R0 : Rel (su σ 1 0 (σ 1 0 + 1)) (su τ 4 0 (τ 4 0 + 1)) := R_tell h (by decide)
  unfold pX11_odds pX12_odds
  rw [within_eq, in_eq, cr_s, cr_s, lt_v, lt_v, tell_0, find_0, ci_s, ci_s]
  by_cases h1 : wi a1 1 20 = 0
  · rw [if_pos h1, if_pos h1]
    exact ⟨_, _, _, rfl, rfl, R0⟩
  rw [if_neg h1, if_neg h1, within_eq, in_eq, cr_s, cr_s]
  by_cases h2 : wi a2 1 200 = 0
  · rw [if_pos h2, if_pos h2]
    exact ⟨_, _, _, rfl, rfl, R0⟩
  rw [if_neg h2, if_neg h2, within_eq, in_eq, cr_s, cr_s]
  by_cases h3 : wi a3 0 9999 = 0
  · rw [if_pos h3, if_pos h3]
    exact ⟨_, _, _, rfl, rfl, R0⟩
  rw [if_neg h3, if_neg h3]
  have g1 := (wi_ok h1).1
  have g2 := (wi_ok h2).1
  rw [show (1 : Int32).toInt = 1 from rfl] at g1 g2
  obtain ⟨N, hN, rfl⟩ := num_of (a := a1) (n := 20) (by omega) (wi_ok h1).2
  obtain ⟨n, hn, rfl⟩ := num_of (a := a2) (n := 200) (by omega) (wi_ok h2).2
  have ha : 0 ≤ a3.toInt := (wi_ok h3).1
  refine q_for2 (S1 := SS × Int32) (S2 := SS × Int32) (R1 := Int32 × SS) (R2 := Int32 × SS) (fun (f : SS → Int32 → Int32 → Option (Int32 × SS)) s i => f s.1 s.2 i) (fun (f : SS → Int32 → Int32 → Option (Int32 × SS)) s i => f s.1 s.2 i) (m := 0) (n := N) (by omega) (by omega) (fun j s1 s2 => Rel s1.1 s2.1 ∧ s1.2 = s2.2) (fun o1 o2 => ∃ r σ2 τ2, o1 = some (r, σ2) ∧ o2 = some (r, τ2) ∧ Rel σ2 τ2) ?_ ?_ (σ, 0) (τ, 0) ⟨h, rfl⟩
  · rintro f g j ⟨σ1, x1⟩ ⟨τ1, x2⟩ hj1 hj2 ⟨hR, hx⟩ ih
    try dsimp only at hR hx ⊢
    subst hx
    have ez : σ1 2 3 = τ1 1 20 := hR.1.2.2.2.2
    rw [if_neg (by rw [nI_leS (by omega) (by omega)]; omega), if_neg (by rw [nI_leS (by omega) (by omega)]; omega), draw_c, draw_t, lt_v, lt_v, draw_c, draw_t, ez]
    have hR1 := R_z hR (dz (τ1 1 20))
    obtain ⟨m, hm, em⟩ := dr_rest (dz (τ1 1 20)) (d := 40) (by decide) (by decide)
    rw [show (40 : Int32) = nI 40 from rfl, em]
    generalize dz (τ1 1 20) = z1 at hR1
    rw [show su σ1 2 3 z1 2 3 = z1 from rfl, show su τ1 1 20 z1 1 20 = z1 from rfl]
    have hR2 := R_z hR1 (dz z1)
    generalize su (su σ1 2 3 z1) 2 3 (dz z1) = σ2 at hR2
    generalize su (su τ1 1 20 z1) 1 20 (dz z1) = τ2 at hR2
    rw [lt_if, lt_if]
    have hy : (if dr (dz z1) - dr (dz z1) / 4 * 4 = 0 then (1 : Int32) else 0) = 0 ∨ (if dr (dz z1) - dr (dz z1) / 4 * 4 = 0 then (1 : Int32) else 0) = 1 := by
      split
      · exact Or.inr rfl
      · exact Or.inl rfl
    generalize (if dr (dz z1) - dr (dz z1) / 4 * 4 = 0 then (1 : Int32) else 0) = y at hy
    have hr : 0 ≤ (nI m).toInt ∧ (nI m).toInt ≤ 99 := by rw [nI_toInt (by omega)]; omega
    have hO := hR2.1.1
    have hO2 := Ok_od hO y hr
    obtain ⟨s', p1, p2⟩ := rises3 (s := q_ap 1 (q_sb σ2 52) (q_ap 13 (q_sb σ2 3) (q_sb σ2 53))) hO (CR_n3 hR2.1.2.1) hr hy ha hn
    have RN : ∀ q g, Rel (q_em (q_em (q_em σ2 52 0 1 s') 3 1 13 s') 53 14 14 s') (rs (nb τ2) (nbk τ2 q) g) := fun q g => R_night hR2 (em3 σ2 (q_sb σ2 53) s' p2) q g
    have fin : ∀ X : SS, X = rs (nb τ2) (mOd (τ2 1) (nI m) y) 0 → ∃ r σ3 τ3, f (q_em (q_em (q_em σ2 52 0 1 s') 3 1 13 s') 53 14 14 s') (if (if mTop 0 (mOd (τ2 1) (nI m) y) n ≤ a3 then (0 : Int32) else 1) = 0 then x1 else x1 + 1) (nI j + 1) = some (r, σ3) ∧ q_cs (pX12_goesOn X (nI n)) (fun τ => τ) (fun σ30 => q_lt (fun y31 => q_lt (x1 + y31) (fun x4_33 => q_cs (pX12_layBack σ30) (fun τ => τ) (fun σ34 => g σ34 x4_33 (nI j + 1)))) (fun j32 => if σ30 0 5 ≤ a3 then j32 0 else j32 1)) = some (r, τ3) ∧ Rel σ3 τ3 := by
      intro X hX
      rw [hX, goesOn_rs (nb τ2) 0 hO2 (by omega), cs_s, lt_if, lt_v, rs_g, back_rs, cs_s, nI_s]
      by_cases hc : mTop 0 (mOd (τ2 1) (nI m) y) n ≤ a3
      · rw [if_pos hc, if_pos rfl, Int32.add_zero]
        exact ih (_, x1) (_, x1) ⟨RN _ _, rfl⟩
      · rw [if_neg hc, if_neg (by decide)]
        exact ih (_, x1 + 1) (_, x1 + 1) ⟨RN _ _, rfl⟩
    rw [p1, ci_s, lt_i2, begin_rs, cs_s, lt_v, rs_top, W1_0, rs_W, rs_1, odds_t _ _ hy]
    exact fin _ rfl
  · rintro f g ⟨σ1, x1⟩ ⟨τ1, x2⟩ ⟨hR, hx⟩
    try dsimp only at hR hx ⊢
    subst hx
    rw [if_pos (by rw [nI_leS (by omega) (by omega)]; omega), if_pos (by rw [nI_leS (by omega) (by omega)]; omega)]
    exact ⟨_, _, _, rfl, rfl, hR⟩
