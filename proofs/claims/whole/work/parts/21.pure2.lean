/-! ===== calls that touch scalars ===== -/
def SC (σ : SS) (t : Nat → Int32) : Prop := σ 3 6 = t 0 ∧ σ 3 7 = t 1 ∧ σ 3 8 = t 2 ∧ σ 9 0 = t 3 ∧ σ 9 1 = t 4 ∧ σ 9 2 = t 5 ∧ σ 9 3 = t 6 ∧ σ 9 4 = t 7 ∧ σ 3 9 = t 8 ∧ σ 9 8 = t 9 ∧ σ 9 7 = t 10 ∧ σ 3 10 = t 11 ∧ σ 9 9 = t 12 ∧ σ 3 11 = t 13 ∧ σ 9 5 = t 14 ∧ σ 3 5 = t 15 ∧ σ 4 0 = t 16 ∧ σ 11 0 = t 17 ∧ σ 3 4 = t 19 ∧ σ 9 6 = ib (t 19) 2
theorem R_sc {σ τ : SS} (h : Rel σ τ) : SC σ (τ 1) := h.1.2.1.1
theorem bit_eq {x : Int32} (h : x = 0 ∨ x = 1) : pX11_bit x = some x := by
  rcases h with rfl | rfl <;> rfl
theorem isWater_eq {σ τ : SS} (h : Rel σ τ) (a : Int32) : pX11_isWater σ a = some (wi a 0 (τ 1 16 - 1)) ∧ pX12_isWater τ a = some (wi a 0 (τ 1 16 - 1)) := by
  have e : σ 4 0 = τ 1 16 := (R_sc h).2.2.2.2.2.2.2.2.2.2.2.2.2.2.2.2.1
  constructor
  · unfold pX11_isWater
    rw [within_eq, cr_s, zz_b (wi_01 _ _ _), e]
  · show q_cr (pX12_in a 0 (τ 1 16 - 1)) _ = _
    rw [in_eq, cr_s, zz_b (wi_01 _ _ _)]
theorem sub1_toInt {x : Int32} (h0 : 0 ≤ x.toInt) : (x - 1).toInt = x.toInt - 1 := by
  have h1 := x.toInt_lt
  have e := nI_self h0
  have : (nI x.toNatClampNeg - nI 1).toInt = (x.toNatClampNeg : Int) - (1 : Nat) := by
    rcases Nat.eq_zero_or_pos x.toNatClampNeg with h | h
    · rw [h]; rfl
    · rw [pk_sub h, nI_toInt (by have := cl_toInt h0; omega)]
      omega
  rw [e] at this
  have h2 := cl_toInt h0
  rw [h2] at this
  exact this
theorem z_ge : (0 : Int) ≤ (0 : Int32).toInt := by decide
theorem z_le (n : Nat) : (0 : Int32).toInt ≤ (n : Int) := by rw [show (0 : Int32).toInt = 0 from rfl]; omega
theorem s_current : S_current Rel := by
  intro σ τ a1 h01 h
  obtain ⟨hH, hk, hkk, hF, hT, hS⟩ := id h
  obtain ⟨e0, e1, e2, e3, e4, e5, e6, e7, e8, e9, e10, e11, e12, e13, e14, e15, e16, e17, e19, e66⟩ := R_sc h
  obtain ⟨o1, o2, o3, o4, o5, o6, o7, o8, o9, o10⟩ := hH.1.1
  refine ⟨τ 1 14, su σ 9 5 a1, su τ 1 14 a1, ?_, ?_, HR_mk hH (fun j hj => upd_ne (by omega)) rfl rfl rfl (Int.le_refl _) (fun i hi => if_neg (by omega)) ⟨o1, o2, o3, o4, o5, o6, h01, o8, o9, o10⟩ ⟨e0, e1, e2, e3, e4, e5, e6, e7, e8, e9, e10, e11, e12, e13, rfl, e15, e16, e17, e19, e66⟩ hH.2.2.2.2, hk, hkk, hF, hT, hS⟩
  · unfold pX11_current
    rw [bit_eq (by rw [e14]; exact o7), cr_s, zz_b h01, e14]
    rfl
  · rcases h01 with rfl | rfl <;> rfl
theorem s_renew : S_renew Rel := by
  intro σ τ h
  obtain ⟨hH, hk, hkk, hF, hT, hS⟩ := id h
  obtain ⟨e0, e1, e2, e3, e4, e5, e6, e7, e8, e9, e10, e11, e12, e13, e14, e15, e16, e17, e19, e66⟩ := R_sc h
  obtain ⟨o1, o2, o3, o4, o5, o6, o7, o8, o9, o10⟩ := hH.1.1
  refine ⟨τ 1 9, su (su σ 9 8 0) 9 7 0, su (su τ 1 9 0) 1 10 0, ?_, rfl, HR_mk hH (fun j hj => (upd_ne (by omega)).trans (upd_ne (by omega))) rfl rfl rfl ?_ (fun i hi => (if_neg (by omega)).trans (if_neg (by omega))) ⟨o1, o2, o3, ⟨z_ge, z_le 1000⟩, o5, o6, o7, o8, Or.inl rfl, o10⟩ ⟨e0, e1, e2, e3, e4, e5, e6, e7, e8, rfl, rfl, e11, e12, e13, e14, e15, e16, e17, e19, e66⟩ hH.2.2.2.2, hk, hkk, hF, hT, hS⟩
  · show some (σ 9 8, _) = _
    rw [e9]
  · show (0 : Int32).toInt ≤ _
    exact o4.1
theorem s_seed : S_seed Rel := by
  intro σ τ a1 h
  obtain ⟨hH, hk, hkk, hF, hT, hS⟩ := id h
  obtain ⟨e0, e1, e2, e3, e4, e5, e6, e7, e8, e9, e10, e11, e12, e13, e14, e15, e16, e17, e19, e66⟩ := R_sc h
  refine ⟨τ 1 20, su σ 2 3 a1, su τ 1 20 a1, ?_, rfl, HR_mk hH (fun j hj => upd_ne (by omega)) rfl rfl rfl (Int.le_refl _) (fun i hi => if_neg (by omega)) hH.1.1 ⟨e0, e1, e2, e3, e4, e5, e6, e7, e8, e9, e10, e11, e12, e13, e14, e15, e16, e17, e19, e66⟩ rfl, hk, hkk, hF, hT, hS⟩
  have : σ 2 3 = τ 1 20 := hH.2.2.2.2
  show some (σ 2 3, _) = _
  rw [this]
theorem s_wipe : S_wipe Rel := by
  intro σ τ h
  obtain ⟨hH, hk, hkk, hF, hT, hS⟩ := id h
  refine ⟨τ 0 7, su σ 40 1 0, su τ 0 7 0, ?_, rfl, hH, hk, hkk, hF, ⟨rfl, ⟨z_ge, z_le 100⟩, fun i hi => ?_⟩, hS⟩
  · show some (σ 40 1, _) = _
    rw [hT.1]
  · have : (i : Int) < (0 : Int32).toInt := hi
    rw [show (0 : Int32).toInt = 0 from rfl] at this
    omega
theorem s_tear : S_tear Rel := by
  intro σ τ h
  obtain ⟨hH, hk, hkk, hF, hT, hS⟩ := id h
  refine ⟨τ 0 3, su σ 0 3 0, su τ 0 3 0, ?_, ?_, hH, ⟨rfl, Or.inl rfl⟩, fun h0 => ?_, hF, hT, hS⟩
  · unfold pX11_tear
    rw [bit_eq (by rw [hk.1]; exact hk.2), hk.1]
    rfl
  · unfold pX12_tear
    simp only [lt_v]
    rcases hk.2 with h0 | h0
    · rw [if_pos h0, h0]; rfl
    · rw [if_neg (by rw [h0]; decide), h0]; rfl
  · exact absurd (show (0 : Int32) = 1 from h0) (by decide)
theorem toNat_lit {a : Int32} {n : Nat} (h0 : 0 ≤ a.toInt) (h : a.toInt < n) : a.toNatClampNeg < n := by
  have := cl_toInt h0
  omega
/-- a place that is told as a sum -/
theorem at_sum {k : Nat} {a : Int32} (h0 : 0 ≤ a.toInt) (h : a.toInt < 1000) (hk : k < 1000) : nI k + a = nI (k + a.toNatClampNeg) := by
  conv => lhs; rw [← nI_self h0]
  exact nI_add _ _
/-- costs have changed, and nothing else -/
theorem HR_cost {σ σ' : SS} {b : Nat} {t t' : Nat → Int32} (h : HRel σ b t) (hhi : ∀ j, 25 ≤ j → t' j = t j) (hlo : ∀ j, j < 21 → t' j = t j) (hc : ∀ i, i ≠ 13 → σ' (b + i) = σ (b + i)) (o4 : OkC t') (c5 : ∀ w, w < 4 → σ' (b + 13) w = t' (21 + w)) : HRel σ' b t' := by
  obtain ⟨⟨o1, o2, o3, -⟩, ⟨c1, c2, c3, c4, -⟩, k, p, z⟩ := h
  have f : ∀ i, i ≠ 12 → i < 13 → q_sb σ' (b + 1) i = q_sb σ (b + 1) i := fun i hi _ => by
    have := hc (1 + i) (by omega)
    unfold q_sb
    rw [Nat.add_assoc]
    exact this
  have f2 : ∀ i, i ≤ 3 → q_sb σ' (b + 14) i = q_sb σ (b + 14) i := fun i hi => by
    have := hc (14 + i) (by omega)
    unfold q_sb
    rw [Nat.add_assoc]
    exact this
  have h16 := hlo 16 (by omega)
  have h17 := hlo 17 (by omega)
  have h18 := hlo 18 (by omega)
  refine ⟨⟨?_, fun w hw => ?_, fun w hw => ?_, o4⟩, ⟨?_, fun i hi hi2 => ?_, fun w hw => ?_, ⟨fun w hw => ?_, fun w hw => ?_⟩, fun w hw => ?_⟩, ⟨?_, fun y hy => ?_⟩, fun j hj => ?_, ?_⟩
  · unfold OkS
    rw [h16, h17, h18, hlo 9 (by omega), hlo 6 (by omega), hlo 19 (by omega), hlo 14 (by omega), hlo 15 (by omega), hlo 10 (by omega), hlo 4 (by omega), hlo 0 (by omega), hlo 1 (by omega), hlo 2 (by omega), hlo 5 (by omega)]
    exact o1
  · rw [h16] at hw
    rw [hhi (65 + 4 * w) (by omega), hhi (66 + 4 * w) (by omega), hhi (67 + 4 * w) (by omega)]
    exact o2 w hw
  · rw [h17] at hw
    rw [hhi _ (by omega), hhi _ (by omega), hhi _ (by omega), hhi _ (by omega)]
    exact o3 w hw
  · unfold CRs
    rw [f 0 (by omega) (by omega), f 6 (by omega) (by omega), f 1 (by omega) (by omega), f 8 (by omega) (by omega), hlo 0 (by omega), hlo 1 (by omega), hlo 2 (by omega), hlo 3 (by omega), hlo 4 (by omega), hlo 5 (by omega), hlo 6 (by omega), hlo 7 (by omega), hlo 8 (by omega), hlo 9 (by omega), hlo 10 (by omega), hlo 11 (by omega), hlo 12 (by omega), hlo 13 (by omega), hlo 14 (by omega), hlo 15 (by omega), h16, h17, hlo 19 (by omega)]
    exact c1
  · rw [hlo 9 (by omega)] at hi2
    rw [f 7 (by omega) (by omega), hhi _ (by omega)]
    exact c2 i hi hi2
  · rw [h16] at hw
    rw [f 2 (by omega) (by omega), f 3 (by omega) (by omega), f 4 (by omega) (by omega), f 5 (by omega) (by omega), hhi _ (by omega), hhi _ (by omega), hhi _ (by omega), hhi _ (by omega)]
    exact c3 w hw
  · rw [h17] at hw
    rw [f 8 (by omega) (by omega), f 9 (by omega) (by omega), f 10 (by omega) (by omega), f 11 (by omega) (by omega), hhi _ (by omega), hhi _ (by omega), hhi _ (by omega), hhi _ (by omega), hhi _ (by omega)]
    exact c4.1 w hw
  · rw [h17] at hw
    rw [f 8 (by omega) (by omega)]
    exact c4.2 w hw
  · exact c5 w hw
  · rw [f2 0 (by omega), h18]
    exact k.1
  · rw [h18] at hy
    obtain ⟨k1, k2, k3⟩ := k.2 y hy
    rw [f2 1 (by omega), f2 2 (by omega), f2 3 (by omega), hhi _ (by omega)]
    refine ⟨k1, k2, fun i hi => ?_⟩
    rw [hhi _ (by omega), hhi _ (by omega)]
    exact k3 i hi
  · have := hc 18 (by omega)
    rw [this, hhi _ (by omega), h16]
    exact p j hj
  · have := hc 0 (by omega)
    rw [Nat.add_zero] at this
    rw [this, hlo 20 (by omega)]
    exact z
theorem s_cost : S_cost Rel := by
  intro σ τ a1 a2 h
  obtain ⟨hH, hk, hkk, hF, hT, hS⟩ := id h
  simp only [pX11_cost, pX12_cost, within_eq, in_eq, cr_s, lt_v, tell_0, find_0, ci_s]
  by_cases h1 : wi a1 0 3 = 0
  · simp only [if_pos h1]
    exact ⟨_, _, _, rfl, rfl, R_tell h (by decide)⟩
  by_cases h2 : wi a2 0 999 = 0
  · simp only [if_neg h1, if_pos h2]
    exact ⟨_, _, _, rfl, rfl, R_tell h (by decide)⟩
  simp only [if_neg h1, if_neg h2]
  obtain ⟨g1, g2⟩ := wi_ok h1
  obtain ⟨g3, g4⟩ := wi_ok h2
  rw [show (0 : Int32).toInt = 0 from rfl] at g1 g3
  rw [show (3 : Int32).toInt = 3 from rfl] at g2
  rw [show (999 : Int32).toInt = 999 from rfl] at g4
  have hn := toNat_lit (n := 4) g1 (by omega)
  have ea : (21 : Int32) + a1 = nI (21 + a1.toNatClampNeg) := at_sum (k := 21) g1 (by omega) (by decide)
  rw [ea, rd_n _ _ (by omega), wr_n _ _ _ _ (by omega), rd_i _ _ g1 (by omega), wr_i _ _ _ _ g1 (by omega)]
  have hc := hH.2.1.2.2.2.2
  refine ⟨_, _, su τ 1 (21 + a1.toNatClampNeg) a2, rfl, ?_, ?_⟩
  · rw [show σ 15 a1.toNatClampNeg = τ 1 (21 + a1.toNatClampNeg) from hc _ hn]
  · obtain ⟨⟨o1, o2, o3, o4⟩, ⟨c1, c2, c3, c4, c5⟩, k, p, z⟩ := hH
    have u : ∀ j, 25 ≤ j → upd (τ 1) (21 + a1.toNatClampNeg) a2 j = τ 1 j := fun j hj => upd_ne (by omega)
    have v : ∀ j, j < 21 → upd (τ 1) (21 + a1.toNatClampNeg) a2 j = τ 1 j := fun j hj => upd_ne (by omega)
    refine ⟨?_, hk, hkk, hF, hT, hS⟩
    refine HR_cost ⟨⟨o1, o2, o3, o4⟩, ⟨c1, c2, c3, c4, c5⟩, k, p, z⟩ u v (fun i hi => if_neg (by omega)) (fun w hw => ?_) (fun w hw => ?_)
    · show 0 ≤ (upd (τ 1) (21 + a1.toNatClampNeg) a2 (21 + w)).toInt ∧ (upd (τ 1) (21 + a1.toNatClampNeg) a2 (21 + w)).toInt ≤ 999
      by_cases hwa : w = a1.toNatClampNeg
      · subst hwa; rw [upd_at]; omega
      · rw [upd_ne (by omega)]; exact o4 w hw
    · show upd (σ 15) a1.toNatClampNeg a2 w = upd (τ 1) (21 + a1.toNatClampNeg) a2 (21 + w)
      by_cases hwa : w = a1.toNatClampNeg
      · subst hwa; rw [upd_at, upd_at]
      · rw [upd_ne hwa, upd_ne (by omega)]; exact c5 w hw
