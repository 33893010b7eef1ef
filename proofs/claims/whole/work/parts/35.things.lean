/-! ===== things ===== -/
theorem HR_th {σ σ' : SS} {b : Nat} {t t' : Nat → Int32} (h : HRel σ b t) (hhi : ∀ j, 147 ≤ j → t' j = t j) (hlo : ∀ j, j < 97 → j ≠ 17 → t' j = t j) (h17 : 0 ≤ (t' 17).toInt ∧ (t' 17).toInt ≤ 10) (hc : ∀ i, (i < 9 ∨ 13 ≤ i) → σ' (b + i) = σ (b + i)) (e17 : σ' (b + 9) 0 = t' 17) (o3 : OkT t') (c4 : CRt (q_sb σ' (b + 1)) t') : HRel σ' b t' := by
  obtain ⟨⟨o1, o2, -, o4⟩, ⟨c1, c2, c3, -, c5⟩, k, p, z⟩ := h
  have f : ∀ i, (i < 8 ∨ i = 12) → q_sb σ' (b + 1) i = q_sb σ (b + 1) i := fun i hi => by
    have := hc (1 + i) (by omega)
    unfold q_sb
    rw [Nat.add_assoc]
    exact this
  have f2 : ∀ i, i < 4 → q_sb σ' (b + 14) i = q_sb σ (b + 14) i := fun i hi => by
    have := hc (14 + i) (by omega)
    unfold q_sb
    rw [Nat.add_assoc]
    exact this
  have h16 := hlo 16 (by omega) (by omega)
  have h18 := hlo 18 (by omega) (by omega)
  have q16 := o1.1
  refine ⟨⟨?_, fun w hw => ?_, o3, fun w hw => ?_⟩, ⟨?_, fun i hi hi2 => ?_, fun w hw => ?_, c4, fun w hw => ?_⟩, KR_congr f2 h18 (fun j hj => hhi j hj) k, fun j hj => ?_, ?_⟩
  · unfold OkS
    rw [h16, h18, hlo 9 (by omega) (by omega), hlo 6 (by omega) (by omega), hlo 19 (by omega) (by omega), hlo 14 (by omega) (by omega), hlo 15 (by omega) (by omega), hlo 10 (by omega) (by omega), hlo 4 (by omega) (by omega), hlo 0 (by omega) (by omega), hlo 1 (by omega) (by omega), hlo 2 (by omega) (by omega), hlo 5 (by omega) (by omega)]
    exact ⟨o1.1, h17, o1.2.2⟩
  · rw [h16] at hw
    rw [hlo (65 + 4 * w) (by omega) (by omega), hlo (66 + 4 * w) (by omega) (by omega), hlo (67 + 4 * w) (by omega) (by omega)]
    exact o2 w hw
  · rw [hlo _ (by omega) (by omega)]
    exact o4 w hw
  · unfold CRs at c1 ⊢
    rw [show q_sb σ' (b + 1) 8 0 = t' 17 from e17, f 0 (by omega), f 6 (by omega), f 1 (by omega), hlo 0 (by omega) (by omega), hlo 1 (by omega) (by omega), hlo 2 (by omega) (by omega), hlo 3 (by omega) (by omega), hlo 4 (by omega) (by omega), hlo 5 (by omega) (by omega), hlo 6 (by omega) (by omega), hlo 7 (by omega) (by omega), hlo 8 (by omega) (by omega), hlo 9 (by omega) (by omega), hlo 10 (by omega) (by omega), hlo 11 (by omega) (by omega), hlo 12 (by omega) (by omega), hlo 13 (by omega) (by omega), hlo 14 (by omega) (by omega), hlo 15 (by omega) (by omega), h16, hlo 19 (by omega) (by omega)]
    obtain ⟨e0, e1, e2, e3, e4, e5, e6, e7, e8, e9, e10, e11, e12, e13, e14, e15, e16, -, e19, e66⟩ := c1
    exact ⟨e0, e1, e2, e3, e4, e5, e6, e7, e8, e9, e10, e11, e12, e13, e14, e15, e16, rfl, e19, e66⟩
  · rw [hlo 9 (by omega) (by omega)] at hi2
    rw [f 7 (by omega), hlo _ (by omega) (by omega)]
    exact c2 i hi hi2
  · rw [h16] at hw
    rw [f 2 (by omega), f 3 (by omega), f 4 (by omega), f 5 (by omega), hlo _ (by omega) (by omega), hlo (66 + 4 * w) (by omega) (by omega), hlo (67 + 4 * w) (by omega) (by omega), hlo (68 + 4 * w) (by omega) (by omega)]
    exact c3 w hw
  · rw [f 12 (by omega), hlo _ (by omega) (by omega)]
    exact c5 w hw
  · have := hc 18 (by omega)
    rw [this, hhi _ (by omega), h16]
    exact p j hj
  · have := hc 0 (by omega)
    rw [Nat.add_zero] at this
    rw [this, hlo 20 (by omega) (by omega)]
    exact z
/-- a thing stands elsewhere, is lifted or put down -/
theorem th_put {σ σ' : SS} {b : Nat} {t t' : Nat → Int32} (h : HRel σ b t) {k : Nat} (hk : (k : Int) < (t 17).toInt) (hc : ∀ i, i ≠ 9 → i ≠ 12 → σ' (b + i) = σ (b + i)) (c0 : ∀ j, j ≠ 4 → σ' (b + 9) j = σ (b + 9) j) (c12 : ∀ j, j ≠ k → σ' (b + 12) j = σ (b + 12) j) (l : Int32) (hl : l = 0 ∨ l = 1) (hx : ∀ j, ib (σ' (b + 9) 4) j = if j = k then l else ib (σ (b + 9) 4) j) (hh : σ' (b + 12) k = t' (99 + 5 * k)) (ht : ∀ j, j ≠ 99 + 5 * k → j ≠ 100 + 5 * k → t' j = t j) (hl2 : t' (100 + 5 * k) = l) : HRel σ' b t' := by
  have o17 := h.1.1.2.1
  have t17 : t' 17 = t 17 := ht 17 (by omega) (by omega)
  obtain ⟨e0, e1, e2, e3, e4, e5, e6, e7, e8, e9, e10, e11, e12, e13, e14, e15, e16, e17, e19, e66⟩ := h.2.1.1
  have e17 : σ (b + 9) 0 = t 17 := e17
  obtain ⟨d1, d2⟩ := h.2.1.2.2.2.1
  refine HR_th h (fun j hj => ht j (by omega) (by omega)) (fun j hj _ => ht j (by omega) (by omega)) (by rw [t17]; exact o17) (fun i hi => hc i (by omega) (by omega)) (by rw [c0 0 (by decide), t17]; exact e17) (fun w hw => ?_) ⟨fun w hw => ?_, fun w hw => ?_⟩
  · rw [t17] at hw
    obtain ⟨r1, r2, r3, r4⟩ := h.1.2.2.1 w hw
    rw [ht (97 + 5 * w) (by omega) (by omega), ht (98 + 5 * w) (by omega) (by omega), ht (101 + 5 * w) (by omega) (by omega)]
    refine ⟨r1, r2, ?_, r4⟩
    by_cases hwk : w = k
    · subst hwk; rw [hl2]; exact hl
    · rw [ht (100 + 5 * w) (by omega) (by omega)]; exact r3
  · rw [t17] at hw
    obtain ⟨r1, r2, r3, r4, r5⟩ := d1 w hw
    have r1 : σ (b + 10) w = _ := r1
    have r2 : σ (b + 11) w = _ := r2
    have r3 : σ (b + 12) w = _ := r3
    have r4 : ib (σ (b + 9) 4) w = _ := r4
    have r5 : ib (σ (b + 9) 5) w = _ := r5
    show σ' (b + 10) w = _ ∧ σ' (b + 11) w = _ ∧ σ' (b + 12) w = _ ∧ ib (σ' (b + 9) 4) w = _ ∧ ib (σ' (b + 9) 5) w = _
    rw [hc 10 (by omega) (by omega), hc 11 (by omega) (by omega), c0 5 (by omega), r1, r2, r5, ht (97 + 5 * w) (by omega) (by omega), ht (98 + 5 * w) (by omega) (by omega), ht (101 + 5 * w) (by omega) (by omega), hx]
    refine ⟨rfl, rfl, ?_, ?_, rfl⟩
    · by_cases hwk : w = k
      · subst hwk; exact hh
      · rw [c12 w hwk, ht (99 + 5 * w) (by omega) (by omega)]; exact r3
    · by_cases hwk : w = k
      · subst hwk; rw [if_pos rfl, hl2]
      · rw [if_neg hwk, ht (100 + 5 * w) (by omega) (by omega)]; exact r4
  · rw [t17] at hw
    obtain ⟨r1, r2⟩ := d2 w hw
    have r1 : ib (σ (b + 9) 4) w = _ := r1
    have r2 : ib (σ (b + 9) 5) w = _ := r2
    show ib (σ' (b + 9) 4) w = _ ∧ ib (σ' (b + 9) 5) w = _
    rw [hx, if_neg (by omega), c0 5 (by omega)]
    exact ⟨r1, r2⟩
theorem isThing_eq {σ τ : SS} (h : Rel σ τ) (a : Int32) : pX11_isThing σ a = some (wi a 0 (τ 1 17 - 1)) ∧ pX12_isThing τ a = some (wi a 0 (τ 1 17 - 1)) := by
  have e : σ 11 0 = τ 1 17 := (R_sc h).2.2.2.2.2.2.2.2.2.2.2.2.2.2.2.2.2.1
  constructor
  · unfold pX11_isThing
    rw [within_eq, cr_s, zz_b (wi_01 _ _ _), e]
  · show q_cr (pX12_in a 0 (τ 1 17 - 1)) _ = _
    rw [in_eq, cr_s, zz_b (wi_01 _ _ _)]
theorem thg_of {σ τ : SS} (h : Rel σ τ) {a1 : Int32} (h1 : ¬ wi a1 0 (τ 1 17 - 1) = 0) : ∃ w : Nat, a1 = nI w ∧ (w : Int) < (τ 1 17).toInt ∧ w < 10 := by
  have o1 := h.1.1.1.2.1
  obtain ⟨g1, g2⟩ := wi_ok h1
  rw [show (0 : Int32).toInt = 0 from rfl] at g1
  rw [sub1_toInt o1.1] at g2
  have hcl := cl_toInt g1
  exact ⟨a1.toNatClampNeg, (nI_self g1).symm, by omega, by omega⟩
theorem ix_t (w j : Nat) : (97 : Int32) + 5 * nI w + nI j = nI (97 + 5 * w + j) := by
  rw [show (97 : Int32) = nI 97 from rfl, show (5 : Int32) = nI 5 from rfl, pk_mul, nI_add, nI_add]
theorem add_th {σ τ : SS} (h : Rel σ τ) {m : Nat} (hm : τ 1 17 = nI m) (h10 : m < 10) {a1 a2 : Int32} (a3 : Int32) (g : 1 ≤ a1.toInt ∧ a1.toInt ≤ 99) (g2 : 1 ≤ a2.toInt ∧ a2.toInt ≤ 60) : Rel (su (su (su (su σ 12 m a1) 13 m a2) 14 m a3) 11 0 (nI (m + 1))) (su (su (su (su (su (su τ 1 (97 + 5 * m + 0) a1) 1 (97 + 5 * m + 1) a2) 1 (97 + 5 * m + 2) a3) 1 (97 + 5 * m + 3) 0) 1 (97 + 5 * m + 4) 0) 1 17 (nI (m + 1))) := by
  obtain ⟨hH, hk, hkk, hF, hT, hS⟩ := id h
  have hm' : (τ 1 17).toInt = m := by rw [hm, nI_toInt (by omega)]
  have hm1 : (nI (m + 1)).toInt = m + 1 := by rw [nI_toInt (by omega)]; omega
  generalize hT' : upd (upd (upd (upd (upd (upd (τ 1) (97 + 5 * m + 0) a1) (97 + 5 * m + 1) a2) (97 + 5 * m + 2) a3) (97 + 5 * m + 3) 0) (97 + 5 * m + 4) 0) 17 (nI (m + 1)) = t'
  have eT : su (su (su (su (su (su τ 1 (97 + 5 * m + 0) a1) 1 (97 + 5 * m + 1) a2) 1 (97 + 5 * m + 2) a3) 1 (97 + 5 * m + 3) 0) 1 (97 + 5 * m + 4) 0) 1 17 (nI (m + 1)) 1 = t' := hT'
  have n0 : ∀ j, j ≠ 17 → (j < 97 + 5 * m ∨ 102 + 5 * m ≤ j) → t' j = τ 1 j := fun j g1 g2 => by
    rw [← hT', upd_ne g1, upd_ne (by omega), upd_ne (by omega), upd_ne (by omega), upd_ne (by omega), upd_ne (by omega)]
  have n17 : t' 17 = nI (m + 1) := by rw [← hT']; exact upd_at
  have p0 : t' (97 + 5 * m) = a1 := by rw [← hT', upd_ne (by omega), upd_ne (by omega), upd_ne (by omega), upd_ne (by omega), upd_ne (by omega)]; exact upd_at
  have p1 : t' (98 + 5 * m) = a2 := by rw [← hT', upd_ne (by omega), upd_ne (by omega), upd_ne (by omega), upd_ne (by omega), show 98 + 5 * m = 97 + 5 * m + 1 by omega]; exact upd_at
  have p2 : t' (99 + 5 * m) = a3 := by rw [← hT', upd_ne (by omega), upd_ne (by omega), upd_ne (by omega), show 99 + 5 * m = 97 + 5 * m + 2 by omega]; exact upd_at
  have p3 : t' (100 + 5 * m) = 0 := by rw [← hT', upd_ne (by omega), upd_ne (by omega), show 100 + 5 * m = 97 + 5 * m + 3 by omega]; exact upd_at
  have p4 : t' (101 + 5 * m) = 0 := by rw [← hT', upd_ne (by omega), show 101 + 5 * m = 97 + 5 * m + 4 by omega]; exact upd_at
  obtain ⟨d1, d2⟩ := hH.2.1.2.2.2.1
  refine R_house h ?_ (fun x hx => by rw [ud_ne _ _ _ (by omega), ud_ne _ _ _ (by omega), ud_ne _ _ _ (by omega), ud_ne _ _ _ (by omega)]) rfl rfl (fun x hx => by rw [ud_ne _ _ _ (by omega), ud_ne _ _ _ (by omega), ud_ne _ _ _ (by omega), ud_ne _ _ _ (by omega), ud_ne _ _ _ (by omega), ud_ne _ _ _ (by omega)])
  rw [eT]
  refine HR_th hH (fun j hj => n0 j (by omega) (by omega)) (fun j hj hj2 => n0 j hj2 (by omega)) (by rw [n17]; omega) (fun i hi => by rw [ud_ne _ _ _ (by omega), ud_ne _ _ _ (by omega), ud_ne _ _ _ (by omega), ud_ne _ _ _ (by omega)]) n17.symm (fun v hv => ?_) ⟨fun v hv => ?_, fun v hv => ?_⟩
  · rw [n17] at hv
    by_cases hvm : v = m
    · subst hvm; rw [p0, p1, p3, p4]; exact ⟨g, g2, Or.inl rfl, Or.inl rfl⟩
    · rw [n0 _ (by omega) (by omega), n0 (98 + 5 * v) (by omega) (by omega), n0 (100 + 5 * v) (by omega) (by omega), n0 (101 + 5 * v) (by omega) (by omega)]; exact hH.1.2.2.1 v (by omega)
  · rw [n17] at hv
    show upd (σ 12) m a1 v = _ ∧ upd (σ 13) m a2 v = _ ∧ upd (σ 14) m a3 v = _ ∧ ib (σ 11 4) v = _ ∧ ib (σ 11 5) v = _
    by_cases hvm : v = m
    · subst hvm
      obtain ⟨r1, r2⟩ := d2 v (by omega)
      rw [p0, p1, p2, p3, p4]; exact ⟨upd_at, upd_at, upd_at, r1, r2⟩
    · rw [n0 _ (by omega) (by omega), n0 (98 + 5 * v) (by omega) (by omega), n0 (99 + 5 * v) (by omega) (by omega), n0 (100 + 5 * v) (by omega) (by omega), n0 (101 + 5 * v) (by omega) (by omega), upd_ne hvm, upd_ne hvm, upd_ne hvm]
      exact d1 v (by omega)
  · rw [n17] at hv
    exact d2 v (by omega)
theorem s_thing : S_thing Rel := by
  intro σ τ a1 a2 a3 h
  have R0 : Rel (su σ 1 0 (σ 1 0 + 1)) (su τ 4 0 (τ 4 0 + 1)) := R_tell h (by decide)
  have R1 : Rel (su σ 1 1 (σ 1 1 + 1)) (su τ 4 1 (τ 4 1 + 1)) := R_tell h (by decide)
  have e17 : σ 11 0 = τ 1 17 := (R_sc h).2.2.2.2.2.2.2.2.2.2.2.2.2.2.2.2.2.1
  have o1 := h.1.1.1.2.1
  simp only [pX11_thing, pX12_thing, within_eq, in_eq, cr_s, lt_v, tell_0, find_0, tell_1, find_1, ci_s]
  by_cases h1 : wi a1 1 99 = 0
  · simp only [if_pos h1]
    exact ⟨_, _, _, rfl, rfl, R0⟩
  by_cases h2 : wi a2 1 60 = 0
  · simp only [if_neg h1, if_pos h2]
    exact ⟨_, _, _, rfl, rfl, R0⟩
  by_cases h3 : wi a3 0 999 = 0
  · simp only [if_neg h1, if_neg h2, if_pos h3]
    exact ⟨_, _, _, rfl, rfl, R0⟩
  simp only [if_neg h1, if_neg h2, if_neg h3, Q1_17]
  obtain ⟨m, hm, em⟩ := num_of (a := τ 1 17) (n := 10) o1.1 o1.2
  rw [e17]
  by_cases h8 : m = 10
  · subst h8
    rw [em, if_neg (show ¬ nI 10 < 10 by decide), if_pos (show nI 10 = 10 from rfl)]
    exact ⟨_, _, _, rfl, rfl, R1⟩
  · have hlt : nI m < (10 : Int32) := by rw [i_lt, nI_toInt (by omega)]; show (m : Int) < 10; omega
    have hne : ¬ nI m = (10 : Int32) := fun e => by rw [e] at hlt; exact absurd hlt (by decide)
    have q4 : q_sb σ 11 0 0 = nI m := by show σ 11 0 = _; rw [e17, em]
    have A : pX9_add (q_sb σ 11) a1 a2 a3 = some (nI m + 1 - 1, su (su (su (su (q_sb σ 11) 1 m a1) 2 m a2) 3 m a3) 0 0 (nI m + 1)) := by
      unfold pX9_add
      simp only [lt_v]
      rw [q4, wr_n _ _ _ _ (by omega), show su (q_sb σ 11) 1 m a1 0 0 = nI m from q4, wr_n _ _ _ _ (by omega), show su (su (q_sb σ 11) 1 m a1) 2 m a2 0 0 = nI m from q4, wr_n _ _ _ _ (by omega), show su (su (su (q_sb σ 11) 1 m a1) 2 m a2) 3 m a3 0 0 = nI m from q4]
      rw [ud_at, upd_at]
    rw [em, if_pos hlt, if_neg hne, A, ci_s, em_su _ _ _ _ (by decide), em_su _ _ _ _ (by decide), em_su _ _ _ _ (by decide), em_su _ _ _ _ (by decide), em_self, show nI m + 1 = nI (m + 1) from nI_add m 1]
    refine ⟨_, _, _, rfl, ?_, add_th h em (by omega) a3 (wi_ok h1) (wi_ok h2)⟩
    rw [show (97 : Int32) + 5 * nI m + 0 = nI (97 + 5 * m + 0) from ix_t m 0, show (97 : Int32) + 5 * nI m + 1 = nI (97 + 5 * m + 1) from ix_t m 1, show (97 : Int32) + 5 * nI m + 2 = nI (97 + 5 * m + 2) from ix_t m 2, show (97 : Int32) + 5 * nI m + 3 = nI (97 + 5 * m + 3) from ix_t m 3, show (97 : Int32) + 5 * nI m + 4 = nI (97 + 5 * m + 4) from ix_t m 4]
    rw [wr_n _ _ _ _ (by omega), wr_n _ _ _ _ (by omega), wr_n _ _ _ _ (by omega), wr_n _ _ _ _ (by omega), wr_n _ _ _ _ (by omega)]
    have r16 : su (su (su (su (su τ 1 (97 + 5 * m + 0) a1) 1 (97 + 5 * m + 1) a2) 1 (97 + 5 * m + 2) a3) 1 (97 + 5 * m + 3) 0) 1 (97 + 5 * m + 4) 0 1 17 = nI m := by
      show upd (upd (upd (upd (upd (τ 1) _ _) _ _) _ _) _ _) _ _ 17 = _
      rw [upd_ne (by omega), upd_ne (by omega), upd_ne (by omega), upd_ne (by omega), upd_ne (by omega), em]
    rw [r16, show nI m + 1 = nI (m + 1) from nI_add m 1, show (17 : Int32) = nI 17 from rfl, wr_n _ _ _ _ (by omega), ud_at, upd_at]
theorem s_thingOf : S_thingOf Rel := by
  intro σ τ a1 a2 h
  have R0 : Rel (su σ 1 0 (σ 1 0 + 1)) (su τ 4 0 (τ 4 0 + 1)) := R_tell h (by decide)
  obtain ⟨i1, i2⟩ := isThing_eq h a1
  simp only [pX11_thingOf, pX12_thingOf, i1, i2, within_eq, in_eq, cr_s, lt_v, tell_0, find_0, ci_s]
  by_cases h1 : wi a1 0 (τ 1 17 - 1) = 0
  · simp only [if_pos h1]
    exact ⟨_, _, _, rfl, rfl, R0⟩
  obtain ⟨w, rfl, hw, hw8⟩ := thg_of h h1
  by_cases h2 : wi a2 0 4 = 0
  · simp only [if_neg h1, if_pos h2]
    exact ⟨_, _, _, rfl, rfl, R0⟩
  simp only [if_neg h1, if_neg h2]
  obtain ⟨r1, r2, r3, r4, r5⟩ := h.1.2.1.2.2.2.1.1 w hw
  have r1 : σ 12 w = _ := r1
  have r2 : σ 13 w = _ := r2
  have r3 : σ 14 w = _ := r3
  have r4 : ib (σ 11 4) w = _ := r4
  have r5 : ib (σ 11 5) w = _ := r5
  obtain ⟨g1, g2⟩ := wi_ok h2
  obtain ⟨k, hk, rfl⟩ := num_of (a := a2) (n := 4) g1 g2
  rw [thingIts_eq τ hw8 (show k < 5 by omega), cr_s]
  refine ⟨τ 1 (97 + 5 * w + k), σ, τ, ?_, rfl, h⟩
  rcases (by omega : k = 0 ∨ k = 1 ∨ k = 2 ∨ k = 3 ∨ k = 4) with rfl | rfl | rfl | rfl | rfl
  · rw [if_pos (show nI 0 = (0 : Int32) from rfl), rd_n _ _ hw8, r1]
    rfl
  · rw [if_neg (show ¬ nI 1 = (0 : Int32) by decide), if_pos (show nI 1 = (1 : Int32) from rfl), rd_n _ _ hw8, r2, show 98 + 5 * w = 97 + 5 * w + 1 by omega]
  · rw [if_neg (show ¬ nI 2 = (0 : Int32) by decide), if_neg (show ¬ nI 2 = (1 : Int32) by decide), if_pos (show nI 2 = (2 : Int32) from rfl), rd_n _ _ hw8, r3, show 99 + 5 * w = 97 + 5 * w + 2 by omega]
  · rw [if_neg (show ¬ nI 3 = (0 : Int32) by decide), if_neg (show ¬ nI 3 = (1 : Int32) by decide), if_neg (show ¬ nI 3 = (2 : Int32) by decide), if_pos (show nI 3 = (3 : Int32) from rfl), lifted_eq _ (by omega), cr_s, bit_eq (ib_01 _ _), cr_s, show 97 + 5 * w + 3 = 100 + 5 * w by omega, ← r4]
    rfl
  · rw [if_neg (show ¬ nI 4 = (0 : Int32) by decide), if_neg (show ¬ nI 4 = (1 : Int32) by decide), if_neg (show ¬ nI 4 = (2 : Int32) by decide), if_neg (show ¬ nI 4 = (3 : Int32) by decide), harmed_eq _ (by omega), cr_s, bit_eq (ib_01 _ _), cr_s, show 97 + 5 * w + 4 = 101 + 5 * w by omega, ← r5]
    rfl
theorem s_down : S_down Rel := by
  intro σ τ a1 a2 h
  have R0 : Rel (su σ 1 0 (σ 1 0 + 1)) (su τ 4 0 (τ 4 0 + 1)) := R_tell h (by decide)
  obtain ⟨i1, i2⟩ := isThing_eq h a1
  simp only [pX11_down, pX12_down, i1, i2, within_eq, in_eq, cr_s, lt_v, tell_0, find_0, ci_s]
  by_cases h1 : wi a1 0 (τ 1 17 - 1) = 0
  · simp only [if_pos h1]
    exact ⟨_, _, _, rfl, rfl, R0⟩
  obtain ⟨w, rfl, hw, hw8⟩ := thg_of h h1
  by_cases h2 : wi a2 0 999 = 0
  · simp only [if_neg h1, if_pos h2]
    exact ⟨_, _, _, rfl, rfl, R0⟩
  simp only [if_neg h1, if_neg h2]
  obtain ⟨r1, r2, r3, r4, r5⟩ := h.1.2.1.2.2.2.1.1 w hw
  have r4 : ib (σ 11 4) w = _ := r4
  rw [lifted_eq _ (by omega), ti_3 τ hw8, cr_s, cr_s, bit_eq (ib_01 _ _), cr_s, wr_n _ _ _ _ hw8, show (97 : Int32) + 5 * nI w + 3 = nI (97 + 5 * w + 3) from ix_t w 3, show (97 : Int32) + 5 * nI w + 2 = nI (97 + 5 * w + 2) from ix_t w 2, wr_n _ _ _ _ (by omega), wr_n _ _ _ _ (by omega)]
  rw [show ib (q_sb σ 11 0 4) w = τ 1 (100 + 5 * w) from r4]
  refine ⟨_, _, _, rfl, rfl, ?_⟩
  · refine R_house h (th_put (k := w) h.1 hw (fun i hi1 hi2 => ?_) (fun j hj => ?_) (fun j hj => ?_) 0 (Or.inl rfl) (fun j => ?_) ?_ (fun j hj1 hj2 => ?_) ?_) (fun x hx => ?_) rfl rfl (fun x hx => ?_)
    · rw [ud_ne _ _ _ (by omega), ud_ne _ _ _ (by omega)]
    · show upd (σ 11) 4 _ j = σ 11 j
      exact upd_ne hj
    · show upd (σ 14) w a2 j = σ 14 j
      exact upd_ne hj
    · exact clr_bit (σ 11 4) (by omega) j
    · show upd (σ 14) w a2 w = upd (upd (τ 1) (97 + 5 * w + 3) 0) (97 + 5 * w + 2) a2 (99 + 5 * w)
      rw [show 99 + 5 * w = 97 + 5 * w + 2 by omega, upd_at, upd_at]
    · show upd (upd (τ 1) (97 + 5 * w + 3) 0) (97 + 5 * w + 2) a2 j = τ 1 j
      rw [upd_ne (by omega), upd_ne (by omega)]
    · show upd (upd (τ 1) (97 + 5 * w + 3) 0) (97 + 5 * w + 2) a2 (100 + 5 * w) = 0
      rw [upd_ne (by omega), show 100 + 5 * w = 97 + 5 * w + 3 by omega, upd_at]
    · rw [ud_ne _ _ _ (by omega), ud_ne _ _ _ (by omega)]
    · rw [ud_ne _ _ _ (by omega), ud_ne _ _ _ (by omega)]
theorem s_lift : S_lift Rel := by
  intro σ τ a1 h
  have R0 : Rel (su σ 1 0 (σ 1 0 + 1)) (su τ 4 0 (τ 4 0 + 1)) := R_tell h (by decide)
  have R4 : Rel (su σ 1 4 (σ 1 4 + 1)) (su τ 4 4 (τ 4 4 + 1)) := R_tell h (by decide)
  obtain ⟨i1, i2⟩ := isThing_eq h a1
  simp only [pX11_lift, pX12_lift, i1, i2, cr_s, lt_v, tell_0, find_0, tell_4, find_4, ci_s]
  by_cases h1 : wi a1 0 (τ 1 17 - 1) = 0
  · simp only [if_pos h1]
    exact ⟨_, _, _, rfl, rfl, R0⟩
  obtain ⟨w, rfl, hw, hw8⟩ := thg_of h h1
  simp only [if_neg h1]
  obtain ⟨r1, r2, r3, r4, r5⟩ := h.1.2.1.2.2.2.1.1 w hw
  have r2 : σ 13 w = _ := r2
  have r4 : ib (q_sb σ 11 0 4) w = _ := r4
  have r5 : ib (q_sb σ 11 0 5) w = _ := r5
  obtain ⟨-, b2, b3, b4⟩ := h.1.1.2.2.1 w hw
  rw [lifted_eq _ (by omega), harmed_eq _ (by omega), ti_3 τ hw8, ti_4 τ hw8, ti_1 τ hw8, cr_s, cr_s, cr_s, cr_s, cr_s, r4, r5]
  by_cases h3 : τ 1 (100 + 5 * w) = 0
  · by_cases h4 : τ 1 (101 + 5 * w) = 0
    · rw [if_pos h3, if_pos h4, if_pos (by rw [h3, h4]; decide), rd_n _ _ hw8, r2]
      have e1 := nI_self (x := τ 1 (98 + 5 * w)) (by omega)
      have hcl := cl_toInt (x := τ 1 (98 + 5 * w)) (by omega)
      obtain ⟨c', k1, k2, k3⟩ := iter0 (c := q_sb σ 3) h.1.1 h.1.2.1 (n := (τ 1 (98 + 5 * w)).toNatClampNeg) (by omega)
      have k4 := iter12 τ h.1.1 (n := (τ 1 (98 + 5 * w)).toNatClampNeg) (by omega)
      rw [e1] at k1 k4
      generalize (τ 1 (98 + 5 * w)).toNatClampNeg = n at k1 k2 k3 k4
      rw [k1, k4, cs_s, cs_s, show (97 : Int32) + 5 * nI w + 3 = nI (97 + 5 * w + 3) from ix_t w 3, wr_n _ _ _ _ (by omega), Q1_2]
      have hI := HR_iter (σ := σ) (b := 2) n h.1 k2
      have v1 : su (q_em σ 3 0 13 c') 11 4 (q_em σ 3 0 13 c' 11 4 ||| (1 : Int32) <<< (nI w &&& 31)) 3 8 = mIter (τ 1) n 2 := k2.1.2.2.1
      have v2 : su (mGo τ n) 1 (97 + 5 * w + 3) 1 1 2 = mIter (τ 1) n 2 := by
        show upd (mIter (τ 1) n) (97 + 5 * w + 3) 1 2 = _
        rw [upd_ne (by omega)]
      rw [v1, v2]
      refine ⟨_, _, _, rfl, rfl, ?_⟩
      refine R_house h (th_put (k := w) hI ?_ (fun i hi1 hi2 => ?_) (fun j hj => ?_) (fun j hj => ?_) 1 (Or.inr rfl) (fun j => ?_) ?_ (fun j hj1 hj2 => ?_) ?_) (fun x hx => ?_) rfl rfl (fun x hx => ?_)
      · rw [iter_no h.1.1 (by omega) (by omega) (by omega) (by omega) n]; exact hw
      · rw [ud_ne _ _ _ (by omega)]
      · show upd (c' 8) 4 _ j = c' 8 j
        exact upd_ne hj
      · rfl
      · exact or_bit (c' 8 4) (by omega) j
      · show c' 11 w = upd (mIter (τ 1) n) (97 + 5 * w + 3) 1 (99 + 5 * w)
        rw [upd_ne (by omega)]
        exact (k2.2.2.2.1.1 w (by rw [iter_no h.1.1 (by omega) (by omega) (by omega) (by omega) n]; exact hw)).2.2.1
      · show upd (mIter (τ 1) n) (97 + 5 * w + 3) 1 j = mIter (τ 1) n j
        exact upd_ne (by omega)
      · show upd (mIter (τ 1) n) (97 + 5 * w + 3) 1 (100 + 5 * w) = 1
        rw [show 100 + 5 * w = 97 + 5 * w + 3 by omega, upd_at]
      · rw [ud_ne _ _ _ (by omega)]
        exact if_neg (by omega)
      · rw [ud_ne _ _ _ (by omega)]
        exact (if_neg (by omega)).trans (if_neg (by omega))
    · rw [if_pos h3, if_neg h4, h3, if_neg (by rcases b4 with hb | hb; exact absurd hb h4; rw [hb]; decide)]
      exact ⟨_, _, _, rfl, rfl, R4⟩
  · rw [if_neg h3, if_neg (by rcases b3 with hb | hb; exact absurd hb h3; rcases b4 with hb2 | hb2; rw [hb, hb2]; decide; rw [hb, hb2]; decide)]
    exact ⟨_, _, _, rfl, rfl, R4⟩
/-! ===== harm ===== -/
theorem sb_sb (σ : SS) (a b : Nat) : q_sb (q_sb σ a) b = q_sb σ (a + b) := by
  funext c
  show σ (a + (b + c)) = σ (a + b + c)
  rw [Nat.add_assoc]
def mHw (t : Nat → Int32) : Nat → Int32
  | 0 => 0
  | k + 1 => if t (101 + 5 * k) = 0 then mHw t k else mHw t k + t (97 + 5 * k)
theorem mHw_b {t : Nat → Int32} (ho : Ok t) : ∀ n : Nat, (n : Int) ≤ (t 17).toInt → 0 ≤ (mHw t n).toInt ∧ (mHw t n).toInt ≤ 99 * n
  | 0, _ => by
    show 0 ≤ (0 : Int32).toInt ∧ (0 : Int32).toInt ≤ 99 * (0 : Int)
    decide
  | n + 1, h => by
    have h17 := ho.1.2.1
    obtain ⟨q1, q2⟩ := mHw_b ho n (by omega)
    obtain ⟨b1, -⟩ := ho.2.2.1 n (by omega)
    unfold mHw
    split
    · omega
    · have ea := nI_self (x := mHw t n) q1
      have eb := nI_self (x := t (97 + 5 * n)) (by omega)
      have ca := cl_toInt (x := mHw t n) q1
      have cb := cl_toInt (x := t (97 + 5 * n)) (by omega)
      rw [← ea, ← eb, nI_add, nI_toInt (by omega)]
      omega
theorem harm9 {th : SS} {t : Nat → Int32} {n : Nat} (hn : n ≤ 10) (e : th 0 0 = nI n) (hw : ∀ k, k < n → th 1 k = t (97 + 5 * k) ∧ ib (th 0 5) k = t (101 + 5 * k)) : pX9_harmedWorth th = some (mHw t n) := by
  unfold pX9_harmedWorth
  refine q_for (S := Int32) (R := Int32) (fun (f : Int32 → Int32 → Option Int32) s i => f s i) (m := 0) (n := n) (by omega) (by omega) (fun j s => s = mHw t j) (fun r => r = some (mHw t n)) ?_ ?_ 0 rfl
  · intro f j s hj1 hj2 hs ih
    subst hs
    try dsimp only
    obtain ⟨w1, w2⟩ := hw j hj2
    rw [e, if_neg (by rw [nI_leS (by omega) (by omega)]; omega), harmed_eq _ (by omega), cr_s, lt_v, w2, rd_n _ _ (by omega), lt_v, w1, nI_s]
    split
    · rename_i hc; exact ih _ (by rw [show mHw t (j + 1) = if t (101 + 5 * j) = 0 then mHw t j else mHw t j + t (97 + 5 * j) from rfl, if_pos hc])
    · rename_i hc; exact ih _ (by rw [show mHw t (j + 1) = if t (101 + 5 * j) = 0 then mHw t j else mHw t j + t (97 + 5 * j) from rfl, if_neg hc])
  · intro f s hs
    subst hs
    try dsimp only
    rw [e, if_pos (by rw [nI_leS (by omega) (by omega)]; omega)]
theorem harm12 (τ : SS) {n : Nat} (hn : n ≤ 10) (e : τ 1 17 = nI n) (hb : ∀ k, k < n → τ 1 (101 + 5 * k) = 0 ∨ τ 1 (101 + 5 * k) = 1) : pX12_harm τ = some (mHw (τ 1) n) := by
  unfold pX12_harm
  refine q_for (S := Int32) (R := Int32) (fun (f : Int32 → Int32 → Option Int32) s i => f s i) (m := 0) (n := n) (by omega) (by omega) (fun j s => s = mHw (τ 1) j) (fun r => r = some (mHw (τ 1) n)) ?_ ?_ 0 rfl
  · intro f j s hj1 hj2 hs ih
    subst hs
    try dsimp only
    rw [Q1_17, e, if_neg (by rw [nI_leS (by omega) (by omega)]; omega), ti_4 τ (by omega), cr_s, ti_0 τ (by omega)]
    simp only [lt_v, cr_s, nI_s]
    have es : mHw (τ 1) (j + 1) = if τ 1 (101 + 5 * j) = 0 then mHw (τ 1) j else mHw (τ 1) j + τ 1 (97 + 5 * j) := rfl
    rcases hb j hj2 with h0 | h0
    · rw [if_neg (by rw [h0]; decide)]
      exact ih _ (by rw [es, if_pos h0, Int32.add_zero])
    · rw [if_pos h0]
      exact ih _ (by rw [es, if_neg (by rw [h0]; decide)])
  · intro f s hs
    subst hs
    try dsimp only
    rw [Q1_17, e, if_pos (by rw [nI_leS (by omega) (by omega)]; omega)]
/-- harm of a cellar and of the row -/
theorem harm_c {c : SS} {t : Nat → Int32} (hO : Ok t) (hc : CRel c t) : pX9_harmedWorth (q_sb c 8) = some (mHw t (t 17).toNatClampNeg) := by
  have h17 := hO.1.2.1
  have hcl := cl_toInt h17.1
  refine harm9 (t := t) (n := (t 17).toNatClampNeg) (by omega) ?_ (fun k hk => ?_)
  · rw [nI_self h17.1]
    exact hc.1.2.2.2.2.2.2.2.2.2.2.2.2.2.2.2.2.2.1
  · obtain ⟨r1, r2, r3, r4, r5⟩ := hc.2.2.2.1.1 k (by omega)
    exact ⟨r1, r5⟩
theorem harm_t (τ : SS) (hO : Ok (τ 1)) : pX12_harm τ = some (mHw (τ 1) (τ 1 17).toNatClampNeg) := by
  have h17 := hO.1.2.1
  have hcl := cl_toInt h17.1
  exact harm12 τ (by omega) (nI_self h17.1).symm (fun k hk => (hO.2.2.1 k (by omega)).2.2.2)
theorem s_harm : S_harm Rel := by
  intro σ τ h
  refine ⟨mHw (τ 1) (τ 1 17).toNatClampNeg, ?_, harm_t τ h.1.1, h⟩
  unfold pX11_harm
  rw [← sb_sb σ 3 8, harm_c h.1.1 h.1.2.1, cr_s]
