/-! ===== waters ===== -/
theorem HR_wat {σ σ' : SS} {b : Nat} {t t' : Nat → Int32} (h : HRel σ b t) (hhi : ∀ j, 97 ≤ j → t' j = t j) (hlo : ∀ j, j < 65 → j ≠ 16 → t' j = t j) (h16 : (t 16).toInt ≤ (t' 16).toInt) (h8 : (t' 16).toInt ≤ 8) (hc : ∀ i, (i < 2 ∨ 7 ≤ i) → σ' (b + i) = σ (b + i)) (e16 : σ' (b + 2) 0 = t' 16) (o2 : OkW t') (c3 : ∀ w : Nat, (w : Int) < (t' 16).toInt → σ' (b + 3) w = t' (65 + 4 * w) ∧ σ' (b + 4) w = t' (66 + 4 * w) ∧ σ' (b + 5) w = t' (67 + 4 * w) ∧ σ' (b + 6) w = t' (68 + 4 * w)) : HRel σ' b t' := by
  obtain ⟨⟨o1, -, o3, o4⟩, ⟨c1, c2, -, c4, c5⟩, k, p, z⟩ := h
  have f : ∀ i, (i = 0 ∨ 6 ≤ i) → i < 13 → q_sb σ' (b + 1) i = q_sb σ (b + 1) i := fun i hi _ => by
    have := hc (1 + i) (by omega)
    unfold q_sb
    rw [Nat.add_assoc]
    exact this
  have f2 : ∀ i, i < 4 → q_sb σ' (b + 14) i = q_sb σ (b + 14) i := fun i hi => by
    have := hc (14 + i) (by omega)
    unfold q_sb
    rw [Nat.add_assoc]
    exact this
  have h17 := hlo 17 (by omega) (by omega)
  have h18 := hlo 18 (by omega) (by omega)
  refine ⟨⟨?_, o2, fun w hw => ?_, fun w hw => ?_⟩, ⟨?_, fun i hi hi2 => ?_, fun w hw => ?_, ⟨fun w hw => ?_, fun w hw => ?_⟩, fun w hw => ?_⟩, KR_congr f2 h18 (fun j hj => hhi j (by omega)) k, fun j hj => ?_, ?_⟩
  · unfold OkS
    rw [h17, h18, hlo 9 (by omega) (by omega), hlo 6 (by omega) (by omega), hlo 19 (by omega) (by omega), hlo 14 (by omega) (by omega), hlo 15 (by omega) (by omega), hlo 10 (by omega) (by omega), hlo 4 (by omega) (by omega), hlo 0 (by omega) (by omega), hlo 1 (by omega) (by omega), hlo 2 (by omega) (by omega), hlo 5 (by omega) (by omega)]
    exact ⟨⟨by have := o1.1.1; omega, h8⟩, o1.2⟩
  · rw [h17] at hw
    rw [hhi _ (by omega), hhi _ (by omega), hhi _ (by omega), hhi _ (by omega)]
    exact o3 w hw
  · rw [hlo _ (by omega) (by omega)]
    exact o4 w hw
  · unfold CRs at c1 ⊢
    rw [show q_sb σ' (b + 1) 1 0 = t' 16 from e16, f 0 (by omega) (by omega), f 6 (by omega) (by omega), f 8 (by omega) (by omega), hlo 0 (by omega) (by omega), hlo 1 (by omega) (by omega), hlo 2 (by omega) (by omega), hlo 3 (by omega) (by omega), hlo 4 (by omega) (by omega), hlo 5 (by omega) (by omega), hlo 6 (by omega) (by omega), hlo 7 (by omega) (by omega), hlo 8 (by omega) (by omega), hlo 9 (by omega) (by omega), hlo 10 (by omega) (by omega), hlo 11 (by omega) (by omega), hlo 12 (by omega) (by omega), hlo 13 (by omega) (by omega), hlo 14 (by omega) (by omega), hlo 15 (by omega) (by omega), h17, hlo 19 (by omega) (by omega)]
    obtain ⟨e0, e1, e2, e3, e4, e5, e6, e7, e8, e9, e10, e11, e12, e13, e14, e15, -, e17, e19, e66⟩ := c1
    exact ⟨e0, e1, e2, e3, e4, e5, e6, e7, e8, e9, e10, e11, e12, e13, e14, e15, rfl, e17, e19, e66⟩
  · rw [hlo 9 (by omega) (by omega)] at hi2
    rw [f 7 (by omega) (by omega), hlo _ (by omega) (by omega)]
    exact c2 i hi hi2
  · exact c3 w hw
  · rw [h17] at hw
    rw [f 8 (by omega) (by omega), f 9 (by omega) (by omega), f 10 (by omega) (by omega), f 11 (by omega) (by omega), hhi _ (by omega), hhi _ (by omega), hhi _ (by omega), hhi _ (by omega), hhi _ (by omega)]
    exact c4.1 w hw
  · rw [h17] at hw
    rw [f 8 (by omega) (by omega)]
    exact c4.2 w hw
  · rw [f 12 (by omega) (by omega), hlo _ (by omega) (by omega)]
    exact c5 w hw
  · have := hc 18 (by omega)
    rw [this, hhi _ (by omega)]
    obtain ⟨p1, p2, p3⟩ := p j hj
    exact ⟨p1, p2, by omega⟩
  · have := hc 0 (by omega)
    rw [Nat.add_zero] at this
    rw [this, hlo 20 (by omega) (by omega)]
    exact z
/-- a water that is there -/
theorem wat_of {σ τ : SS} (h : Rel σ τ) {a1 : Int32} (h1 : ¬ wi a1 0 (τ 1 16 - 1) = 0) : ∃ w : Nat, a1 = nI w ∧ (w : Int) < (τ 1 16).toInt ∧ w < 8 := by
  have o1 := h.1.1.1.1
  obtain ⟨g1, g2⟩ := wi_ok h1
  rw [show (0 : Int32).toInt = 0 from rfl] at g1
  rw [sub1_toInt o1.1] at g2
  have hcl := cl_toInt g1
  exact ⟨a1.toNatClampNeg, (nI_self g1).symm, by omega, by omega⟩
theorem ix_w (w j : Nat) : (65 : Int32) + 4 * nI w + nI j = nI (65 + 4 * w + j) := by
  rw [show (65 : Int32) = nI 65 from rfl, show (4 : Int32) = nI 4 from rfl, pk_mul, nI_add, nI_add]
theorem chg {σ τ : SS} (h : Rel σ τ) {w : Nat} (hw : (w : Int) < (τ 1 16).toInt) (a3 : Int32) {c k : Nat} (hck : (c = 6 ∧ k = 1) ∨ (c = 7 ∧ k = 2)) (hb : 0 ≤ a3.toInt ∧ a3.toInt ≤ (if k = 1 then 99 else 999)) : Rel (su σ c w a3) (su τ 1 (65 + 4 * w + k) a3) := by
  obtain ⟨hH, hk, hkk, hF, hT, hS⟩ := id h
  have o1 := hH.1.1.1
  refine R_house h (HR_wat (σ' := su σ c w a3) (t' := upd (τ 1) (65 + 4 * w + k) a3) hH (fun j hj => upd_ne (by omega)) (fun j hj _ => upd_ne (by omega)) ?_ ?_ (fun i hi => if_neg (by omega)) ?_ (fun v hv => ?_) (fun v hv => ?_)) (fun x hx => if_neg (by omega)) rfl rfl (fun x hx => if_neg (by omega))
  · rw [upd_ne (by omega)]; omega
  · rw [upd_ne (by omega)]; omega
  · rw [upd_ne (by omega), show su σ c w a3 (2 + 2) = σ 4 from if_neg (by omega)]
    exact hH.2.1.1.2.2.2.2.2.2.2.2.2.2.2.2.2.2.2.2.1
  · rw [upd_ne (by omega)] at hv
    obtain ⟨w1, w2, w3⟩ := hH.1.2.1 v hv
    rw [upd_ne (show 65 + 4 * v ≠ 65 + 4 * w + k by omega)]
    refine ⟨w1, ?_, ?_⟩
    · by_cases e : 66 + 4 * v = 65 + 4 * w + k
      · rw [e, upd_at]
        rw [if_pos (by omega)] at hb
        exact hb
      · rw [upd_ne e]; exact w2
    · by_cases e : 67 + 4 * v = 65 + 4 * w + k
      · rw [e, upd_at]
        rw [if_neg (by omega)] at hb
        exact hb
      · rw [upd_ne e]; exact w3
  · rw [upd_ne (by omega)] at hv
    obtain ⟨r1, r2, r3, r4⟩ := hH.2.1.2.2.1 v hv
    have r1 : σ 5 v = _ := r1
    have r2 : σ 6 v = _ := r2
    have r3 : σ 7 v = _ := r3
    have r4 : σ 8 v = _ := r4
    rw [show su σ c w a3 (2 + 3) = σ 5 from if_neg (by omega), show su σ c w a3 (2 + 6) = σ 8 from if_neg (by omega), r1, r4, upd_ne (show 65 + 4 * v ≠ 65 + 4 * w + k by omega), upd_ne (show 68 + 4 * v ≠ 65 + 4 * w + k by omega)]
    refine ⟨rfl, ?_, ?_, rfl⟩
    · rcases hck with ⟨rfl, rfl⟩ | ⟨rfl, rfl⟩
      · show upd (σ 6) w a3 v = _
        by_cases hvw : v = w
        · subst hvw; rw [upd_at, show 66 + 4 * v = 65 + 4 * v + 1 by omega, upd_at]
        · rw [upd_ne hvw, upd_ne (by omega), r2]
      · show σ 6 v = _
        rw [upd_ne (by omega), r2]
    · rcases hck with ⟨rfl, rfl⟩ | ⟨rfl, rfl⟩
      · show σ 7 v = _
        rw [upd_ne (by omega), r3]
      · show upd (σ 7) w a3 v = _
        by_cases hvw : v = w
        · subst hvw; rw [upd_at, show 67 + 4 * v = 65 + 4 * v + 2 by omega, upd_at]
        · rw [upd_ne hvw, upd_ne (by omega), r3]
theorem s_change : S_change Rel := by
  intro σ τ a1 a2 a3 h
  have R0 : Rel (su σ 1 0 (σ 1 0 + 1)) (su τ 4 0 (τ 4 0 + 1)) := R_tell h (by decide)
  obtain ⟨i1, i2⟩ := isWater_eq h a1
  simp only [pX11_change, pX12_change, i1, i2, within_eq, in_eq, cr_s, lt_v, tell_0, find_0, ci_s]
  by_cases h1 : wi a1 0 (τ 1 16 - 1) = 0
  · simp only [if_pos h1]
    exact ⟨_, _, _, rfl, rfl, R0⟩
  obtain ⟨w, rfl, hw, hw8⟩ := wat_of h h1
  by_cases h2 : wi a2 1 2 = 0
  · simp only [if_neg h1, if_pos h2]
    exact ⟨_, _, _, rfl, rfl, R0⟩
  simp only [if_neg h1, if_neg h2]
  obtain ⟨r1, r2, r3, r4⟩ := h.1.2.1.2.2.1 w hw
  have r2 : σ 6 w = _ := r2
  have r3 : σ 7 w = _ := r3
  obtain ⟨g1, g2⟩ := wi_ok h2
  rw [show (1 : Int32).toInt = 1 from rfl] at g1
  obtain ⟨k, hk, rfl⟩ := num_of (a := a2) (n := 2) (by omega) g2
  rw [nI_toInt (by omega)] at g1
  rw [ix_w]
  rcases (by omega : k = 1 ∨ k = 2) with rfl | rfl
  · show ∃ r σ2 τ2, (if wi a3 1 99 = 0 then _ else _) = _ ∧ (if wi a3 1 99 = 0 then _ else _) = _ ∧ _
    by_cases h3 : wi a3 1 99 = 0
    · rw [if_pos h3]
      simp only [if_pos h3]
      exact ⟨_, _, _, rfl, rfl, R0⟩
    · simp only [if_neg h3]
      refine ⟨σ 6 w, su σ 6 w a3, su τ 1 (65 + 4 * w + 1) a3, ?_, ?_, chg h hw a3 (Or.inl ⟨rfl, rfl⟩) (by obtain ⟨b1, b2⟩ := wi_ok h3; rw [show (1 : Int32).toInt = 1 from rfl] at b1; rw [show (99 : Int32).toInt = 99 from rfl] at b2; rw [if_pos rfl]; omega)⟩
      · rw [if_neg (show ¬ (1 : Int32) = 0 by decide)]
        rw [rd_n _ _ hw8, wr_n _ _ _ _ hw8]
      · rw [rd_n _ _ (by omega), wr_n _ _ _ _ (by omega), r2, show 66 + 4 * w = 65 + 4 * w + 1 by omega]
  · show ∃ r σ2 τ2, (if wi a3 0 999 = 0 then _ else _) = _ ∧ (if wi a3 0 999 = 0 then _ else _) = _ ∧ _
    by_cases h3 : wi a3 0 999 = 0
    · simp only [if_pos h3]
      exact ⟨_, _, _, rfl, rfl, R0⟩
    · simp only [if_neg h3]
      refine ⟨σ 7 w, su σ 7 w a3, su τ 1 (65 + 4 * w + 2) a3, ?_, ?_, chg h hw a3 (Or.inr ⟨rfl, rfl⟩) (by obtain ⟨b1, b2⟩ := wi_ok h3; rw [show (0 : Int32).toInt = 0 from rfl] at b1; rw [show (999 : Int32).toInt = 999 from rfl] at b2; rw [if_neg (by decide)]; omega)⟩
      · rw [if_pos (by trivial)]
        rw [rd_n _ _ hw8, wr_n _ _ _ _ hw8]
      · rw [rd_n _ _ (by omega), wr_n _ _ _ _ (by omega), r3, show 67 + 4 * w = 65 + 4 * w + 2 by omega]
theorem s_waterOf : S_waterOf Rel := by
  intro σ τ a1 a2 h
  have R0 : Rel (su σ 1 0 (σ 1 0 + 1)) (su τ 4 0 (τ 4 0 + 1)) := R_tell h (by decide)
  obtain ⟨i1, i2⟩ := isWater_eq h a1
  simp only [pX11_waterOf, pX12_waterOf, i1, i2, within_eq, in_eq, cr_s, lt_v, tell_0, find_0, ci_s]
  by_cases h1 : wi a1 0 (τ 1 16 - 1) = 0
  · simp only [if_pos h1]
    exact ⟨_, _, _, rfl, rfl, R0⟩
  obtain ⟨w, rfl, hw, hw8⟩ := wat_of h h1
  by_cases h2 : wi a2 0 4 = 0
  · simp only [if_neg h1, if_pos h2]
    exact ⟨_, _, _, rfl, rfl, R0⟩
  simp only [if_neg h1, if_neg h2]
  obtain ⟨r1, r2, r3, r4⟩ := h.1.2.1.2.2.1 w hw
  have r1 : σ 5 w = _ := r1
  have r2 : σ 6 w = _ := r2
  have r3 : σ 7 w = _ := r3
  have r4 : σ 8 w = _ := r4
  obtain ⟨g1, g2⟩ := wi_ok h2
  obtain ⟨k, hk, rfl⟩ := num_of (a := a2) (n := 4) g1 g2
  obtain ⟨e0, e1, e2, e3, e4, e5, e6, e7, e8, e9, e10, e11, e12, e13, e14, e15, e16, e17, e19, e66⟩ := R_sc h
  rcases (by omega : k = 0 ∨ k = 1 ∨ k = 2 ∨ k = 3 ∨ k = 4) with rfl | rfl | rfl | rfl | rfl
  · refine ⟨τ 1 (65 + 4 * w), σ, τ, ?_, ?_, h⟩
    · rw [if_pos (show nI 0 = (0 : Int32) from rfl)]
      rw [rd_n _ _ hw8, r1]
    · show q_cr (pX12_its τ (nI w) (nI 0)) _ = _
      rw [its_eq τ hw8 (by decide), cr_s]
      rfl
  · refine ⟨τ 1 (66 + 4 * w), σ, τ, ?_, ?_, h⟩
    · rw [if_neg (show ¬ nI 1 = (0 : Int32) by decide), if_pos (show nI 1 = (1 : Int32) from rfl)]
      rw [rd_n _ _ hw8, r2]
    · show q_cr (pX12_its τ (nI w) (nI 1)) _ = _
      rw [its_eq τ hw8 (by decide), cr_s, show 66 + 4 * w = 65 + 4 * w + 1 by omega]
  · refine ⟨τ 1 (67 + 4 * w), σ, τ, ?_, ?_, h⟩
    · rw [if_neg (show ¬ nI 2 = (0 : Int32) by decide), if_neg (show ¬ nI 2 = (1 : Int32) by decide), if_pos (show nI 2 = (2 : Int32) from rfl)]
      rw [rd_n _ _ hw8, r3]
    · show q_cr (pX12_its τ (nI w) (nI 2)) _ = _
      rw [its_eq τ hw8 (by decide), cr_s, show 67 + 4 * w = 65 + 4 * w + 2 by omega]
  · refine ⟨mComes (τ 1) w, σ, τ, ?_, ?_, h⟩
    · show q_cr (pX0_comesOf (q_sb σ 3) (nI w)) _ = _
      rw [comes0 (c := q_sb σ 3) (t := τ 1) h.1.1.1.2.2.2.2.2.2.2.1 e0 e1 e8 e15 e19 hw8 r1 r2 r3, cr_s]
    · show q_cr (pX12_comes τ (nI w)) _ = _
      rw [comes12 τ hw8, cr_s]
  · refine ⟨τ 1 (68 + 4 * w), σ, τ, ?_, ?_, h⟩
    · rw [if_neg (show ¬ nI 4 = (0 : Int32) by decide), if_neg (show ¬ nI 4 = (1 : Int32) by decide), if_neg (show ¬ nI 4 = (2 : Int32) by decide), if_neg (show ¬ nI 4 = (3 : Int32) by decide)]
      rw [rd_n _ _ hw8, r4]
    · show q_cr (pX12_its τ (nI w) (nI 3)) _ = _
      rw [its_eq τ hw8 (by decide), cr_s, show 68 + 4 * w = 65 + 4 * w + 3 by omega]
