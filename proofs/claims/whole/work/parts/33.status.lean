/-! ===== a water is added; what was found ===== -/
theorem Q1_0 {R : Type} (f : Nat → Int32) (k : Int32 → Option R) : q_rd f 307 0 k = k (f 0) := rd_n f (n := 307) (m := 0) k (by decide)
theorem Q1_1 {R : Type} (f : Nat → Int32) (k : Int32 → Option R) : q_rd f 307 1 k = k (f 1) := rd_n f (n := 307) (m := 1) k (by decide)
theorem Q1_2 {R : Type} (f : Nat → Int32) (k : Int32 → Option R) : q_rd f 307 2 k = k (f 2) := rd_n f (n := 307) (m := 2) k (by decide)
theorem Q1_3 {R : Type} (f : Nat → Int32) (k : Int32 → Option R) : q_rd f 307 3 k = k (f 3) := rd_n f (n := 307) (m := 3) k (by decide)
theorem Q1_4 {R : Type} (f : Nat → Int32) (k : Int32 → Option R) : q_rd f 307 4 k = k (f 4) := rd_n f (n := 307) (m := 4) k (by decide)
theorem Q1_5 {R : Type} (f : Nat → Int32) (k : Int32 → Option R) : q_rd f 307 5 k = k (f 5) := rd_n f (n := 307) (m := 5) k (by decide)
theorem Q1_6 {R : Type} (f : Nat → Int32) (k : Int32 → Option R) : q_rd f 307 6 k = k (f 6) := rd_n f (n := 307) (m := 6) k (by decide)
theorem Q1_7 {R : Type} (f : Nat → Int32) (k : Int32 → Option R) : q_rd f 307 7 k = k (f 7) := rd_n f (n := 307) (m := 7) k (by decide)
theorem Q1_8 {R : Type} (f : Nat → Int32) (k : Int32 → Option R) : q_rd f 307 8 k = k (f 8) := rd_n f (n := 307) (m := 8) k (by decide)
theorem Q1_9 {R : Type} (f : Nat → Int32) (k : Int32 → Option R) : q_rd f 307 9 k = k (f 9) := rd_n f (n := 307) (m := 9) k (by decide)
theorem Q1_10 {R : Type} (f : Nat → Int32) (k : Int32 → Option R) : q_rd f 307 10 k = k (f 10) := rd_n f (n := 307) (m := 10) k (by decide)
theorem Q1_11 {R : Type} (f : Nat → Int32) (k : Int32 → Option R) : q_rd f 307 11 k = k (f 11) := rd_n f (n := 307) (m := 11) k (by decide)
theorem Q1_12 {R : Type} (f : Nat → Int32) (k : Int32 → Option R) : q_rd f 307 12 k = k (f 12) := rd_n f (n := 307) (m := 12) k (by decide)
theorem Q1_13 {R : Type} (f : Nat → Int32) (k : Int32 → Option R) : q_rd f 307 13 k = k (f 13) := rd_n f (n := 307) (m := 13) k (by decide)
theorem Q1_14 {R : Type} (f : Nat → Int32) (k : Int32 → Option R) : q_rd f 307 14 k = k (f 14) := rd_n f (n := 307) (m := 14) k (by decide)
theorem Q1_15 {R : Type} (f : Nat → Int32) (k : Int32 → Option R) : q_rd f 307 15 k = k (f 15) := rd_n f (n := 307) (m := 15) k (by decide)
theorem Q1_16 {R : Type} (f : Nat → Int32) (k : Int32 → Option R) : q_rd f 307 16 k = k (f 16) := rd_n f (n := 307) (m := 16) k (by decide)
theorem Q1_17 {R : Type} (f : Nat → Int32) (k : Int32 → Option R) : q_rd f 307 17 k = k (f 17) := rd_n f (n := 307) (m := 17) k (by decide)
theorem Q1_18 {R : Type} (f : Nat → Int32) (k : Int32 → Option R) : q_rd f 307 18 k = k (f 18) := rd_n f (n := 307) (m := 18) k (by decide)
theorem Q1_19 {R : Type} (f : Nat → Int32) (k : Int32 → Option R) : q_rd f 307 19 k = k (f 19) := rd_n f (n := 307) (m := 19) k (by decide)
theorem Q1_20 {R : Type} (f : Nat → Int32) (k : Int32 → Option R) : q_rd f 307 20 k = k (f 20) := rd_n f (n := 307) (m := 20) k (by decide)
theorem ud_ne (σ : SS) {c c' : Nat} (k : Nat) (v : Int32) (h : c' ≠ c) : su σ c k v c' = σ c' := if_neg h
theorem ud_at (σ : SS) (c k : Nat) (v : Int32) : su σ c k v c = upd (σ c) k v := if_pos rfl
theorem add_wat {σ τ : SS} (h : Rel σ τ) {m : Nat} (hm : τ 1 16 = nI m) (h8 : m < 8) {a1 a2 a3 : Int32} (g : 0 ≤ a1.toInt ∧ a1.toInt ≤ 6) (gf : 0 ≤ a2.toInt ∧ a2.toInt ≤ 99) (gm : 0 ≤ a3.toInt ∧ a3.toInt ≤ 999) : Rel (su (su (su (su (su σ 5 m a1) 6 m a2) 7 m a3) 8 m 0) 4 0 (nI (m + 1))) (su (su (su (su (su τ 1 (65 + 4 * m + 0) a1) 1 (65 + 4 * m + 1) a2) 1 (65 + 4 * m + 2) a3) 1 (65 + 4 * m + 3) 0) 1 16 (nI (m + 1))) := by
  obtain ⟨hH, hk, hkk, hF, hT, hS⟩ := id h
  have hm' : (τ 1 16).toInt = m := by rw [hm, nI_toInt (by omega)]
  have hm1 : (nI (m + 1)).toInt = m + 1 := by rw [nI_toInt (by omega)]; omega
  generalize hT' : upd (upd (upd (upd (upd (τ 1) (65 + 4 * m + 0) a1) (65 + 4 * m + 1) a2) (65 + 4 * m + 2) a3) (65 + 4 * m + 3) 0) 16 (nI (m + 1)) = t'
  have eT : su (su (su (su (su τ 1 (65 + 4 * m + 0) a1) 1 (65 + 4 * m + 1) a2) 1 (65 + 4 * m + 2) a3) 1 (65 + 4 * m + 3) 0) 1 16 (nI (m + 1)) 1 = t' := hT'
  have n0 : ∀ j, j ≠ 16 → (j < 65 + 4 * m ∨ 69 + 4 * m ≤ j) → t' j = τ 1 j := fun j g1 g2 => by
    rw [← hT', upd_ne g1, upd_ne (by omega), upd_ne (by omega), upd_ne (by omega), upd_ne (by omega)]
  have n16 : t' 16 = nI (m + 1) := by rw [← hT']; exact upd_at
  have p0 : t' (65 + 4 * m) = a1 := by rw [← hT', upd_ne (by omega), upd_ne (by omega), upd_ne (by omega), upd_ne (by omega)]; exact upd_at
  have p1 : t' (66 + 4 * m) = a2 := by rw [← hT', upd_ne (by omega), upd_ne (by omega), upd_ne (by omega), show 66 + 4 * m = 65 + 4 * m + 1 by omega]; exact upd_at
  have p2 : t' (67 + 4 * m) = a3 := by rw [← hT', upd_ne (by omega), upd_ne (by omega), show 67 + 4 * m = 65 + 4 * m + 2 by omega]; exact upd_at
  have p3 : t' (68 + 4 * m) = 0 := by rw [← hT', upd_ne (by omega), show 68 + 4 * m = 65 + 4 * m + 3 by omega]; exact upd_at
  refine R_house h ?_ (fun x hx => by rw [ud_ne _ _ _ (by omega), ud_ne _ _ _ (by omega), ud_ne _ _ _ (by omega), ud_ne _ _ _ (by omega), ud_ne _ _ _ (by omega)]) rfl rfl (fun x hx => by rw [ud_ne _ _ _ (by omega), ud_ne _ _ _ (by omega), ud_ne _ _ _ (by omega), ud_ne _ _ _ (by omega), ud_ne _ _ _ (by omega)])
  rw [eT]
  refine HR_wat hH (fun j hj => n0 j (by omega) (by omega)) (fun j hj hj2 => n0 j hj2 (by omega)) (by rw [n16]; omega) (by rw [n16]; omega) (fun i hi => by rw [ud_ne _ _ _ (by omega), ud_ne _ _ _ (by omega), ud_ne _ _ _ (by omega), ud_ne _ _ _ (by omega), ud_ne _ _ _ (by omega)]) n16.symm (fun v hv => ?_) (fun v hv => ?_)
  · rw [n16] at hv
    by_cases hvm : v = m
    · subst hvm; rw [p0, p1, p2]; exact ⟨g, gf, gm⟩
    · rw [n0 (65 + 4 * v) (by omega) (by omega), n0 (66 + 4 * v) (by omega) (by omega), n0 (67 + 4 * v) (by omega) (by omega)]; exact hH.1.2.1 v (by omega)
  · rw [n16] at hv
    show upd (σ 5) m a1 v = _ ∧ upd (σ 6) m a2 v = _ ∧ upd (σ 7) m a3 v = _ ∧ upd (σ 8) m 0 v = _
    by_cases hvm : v = m
    · subst hvm; rw [p0, p1, p2, p3]; exact ⟨upd_at, upd_at, upd_at, upd_at⟩
    · rw [n0 _ (by omega) (by omega), n0 (66 + 4 * v) (by omega) (by omega), n0 (67 + 4 * v) (by omega) (by omega), n0 (68 + 4 * v) (by omega) (by omega), upd_ne hvm, upd_ne hvm, upd_ne hvm, upd_ne hvm]
      exact hH.2.1.2.2.1 v (by omega)
theorem s_water : S_water Rel := by
  intro σ τ a1 a2 a3 h
  have R0 : Rel (su σ 1 0 (σ 1 0 + 1)) (su τ 4 0 (τ 4 0 + 1)) := R_tell h (by decide)
  have R1 : Rel (su σ 1 1 (σ 1 1 + 1)) (su τ 4 1 (τ 4 1 + 1)) := R_tell h (by decide)
  have e16 : σ 4 0 = τ 1 16 := (R_sc h).2.2.2.2.2.2.2.2.2.2.2.2.2.2.2.2.1
  have o1 := h.1.1.1.1
  simp only [pX11_water, pX12_water, within_eq, in_eq, cr_s, lt_v, tell_0, find_0, tell_1, find_1, ci_s]
  by_cases h1 : wi a1 0 6 = 0
  · simp only [if_pos h1]
    exact ⟨_, _, _, rfl, rfl, R0⟩
  by_cases h2 : wi a2 1 99 = 0
  · simp only [if_neg h1, if_pos h2]
    exact ⟨_, _, _, rfl, rfl, R0⟩
  by_cases h3 : wi a3 0 999 = 0
  · simp only [if_neg h1, if_neg h2, if_pos h3]
    exact ⟨_, _, _, rfl, rfl, R0⟩
  simp only [if_neg h1, if_neg h2, if_neg h3, Q1_16]
  obtain ⟨m, hm, em⟩ := num_of (a := τ 1 16) (n := 8) o1.1 o1.2
  rw [e16]
  by_cases h8 : m = 8
  · subst h8
    rw [em, if_neg (show ¬ nI 8 < 8 by decide), if_pos (show nI 8 = 8 from rfl)]
    exact ⟨_, _, _, rfl, rfl, R1⟩
  · have hlt : nI m < (8 : Int32) := by rw [i_lt, nI_toInt (by omega)]; show (m : Int) < 8; omega
    have hne : ¬ nI m = (8 : Int32) := fun e => by rw [e] at hlt; exact absurd hlt (by decide)
    have q4 : q_sb σ 4 0 0 = nI m := by show σ 4 0 = _; rw [e16, em]
    have A : pX10_add (q_sb σ 4) a1 a2 a3 = some (nI m + 1 - 1, su (su (su (su (su (q_sb σ 4) 1 m a1) 2 m a2) 3 m a3) 4 m 0) 0 0 (nI m + 1)) := by
      unfold pX10_add
      simp only [lt_v]
      rw [q4, wr_n _ _ _ _ (by omega), show su (q_sb σ 4) 1 m a1 0 0 = nI m from q4, wr_n _ _ _ _ (by omega), show su (su (q_sb σ 4) 1 m a1) 2 m a2 0 0 = nI m from q4, wr_n _ _ _ _ (by omega), show su (su (su (q_sb σ 4) 1 m a1) 2 m a2) 3 m a3 0 0 = nI m from q4, wr_n _ _ _ _ (by omega), show su (su (su (su (q_sb σ 4) 1 m a1) 2 m a2) 3 m a3) 4 m 0 0 0 = nI m from q4]
      rw [ud_at, upd_at]
    rw [em, if_pos hlt, if_neg hne, A, ci_s, em_su _ _ _ _ (by decide), em_su _ _ _ _ (by decide), em_su _ _ _ _ (by decide), em_su _ _ _ _ (by decide), em_su _ _ _ _ (by decide), em_self, show nI m + 1 = nI (m + 1) from nI_add m 1]
    refine ⟨_, _, _, rfl, ?_, add_wat h em (by omega) (wi_ok h1) (by obtain ⟨b1, b2⟩ := wi_ok h2; rw [show (1 : Int32).toInt = 1 from rfl] at b1; exact ⟨by omega, b2⟩) (wi_ok h3)⟩
    rw [show (65 : Int32) + 4 * nI m + 0 = nI (65 + 4 * m + 0) from ix_w m 0, show (65 : Int32) + 4 * nI m + 1 = nI (65 + 4 * m + 1) from ix_w m 1, show (65 : Int32) + 4 * nI m + 2 = nI (65 + 4 * m + 2) from ix_w m 2, show (65 : Int32) + 4 * nI m + 3 = nI (65 + 4 * m + 3) from ix_w m 3]
    rw [wr_n _ _ _ _ (by omega), wr_n _ _ _ _ (by omega), wr_n _ _ _ _ (by omega), wr_n _ _ _ _ (by omega)]
    have r16 : su (su (su (su τ 1 (65 + 4 * m + 0) a1) 1 (65 + 4 * m + 1) a2) 1 (65 + 4 * m + 2) a3) 1 (65 + 4 * m + 3) 0 1 16 = nI m := by
      show upd (upd (upd (upd (τ 1) _ _) _ _) _ _) _ _ 16 = _
      rw [upd_ne (by omega), upd_ne (by omega), upd_ne (by omega), upd_ne (by omega), em]
    rw [r16, show nI m + 1 = nI (m + 1) from nI_add m 1, show (16 : Int32) = nI 16 from rfl, wr_n _ _ _ _ (by omega), ud_at, upd_at]
theorem s_status : S_status Rel := by
  intro σ τ a1 h
  have hF := h.2.2.2.1
  by_cases h1 : wi a1 (-1) 6 = 0
  · simp only [pX11_status, pX12_status, within_eq, in_eq, cr_s, tell_0, find_0, ci_s, if_pos h1]
    exact ⟨_, _, _, rfl, rfl, R_tell h (by decide)⟩
  obtain ⟨g1, g2⟩ := wi_ok h1
  rw [show (-1 : Int32).toInt = -1 from rfl] at g1
  rw [show (6 : Int32).toInt = 6 from rfl] at g2
  by_cases hm : a1.toInt = -1
  · have e : a1 = -1 := i_eq.mpr hm
    subst e
    refine ⟨0 + τ 4 0 + τ 4 1 + τ 4 2 + τ 4 3 + τ 4 4 + τ 4 5 + τ 4 6, σ, τ, ?_, rfl, h⟩
    show some (0 + σ 1 0 + σ 1 1 + σ 1 2 + σ 1 3 + σ 1 4 + σ 1 5 + σ 1 6, σ) = _
    rw [hF 0 (by decide), hF 1 (by decide), hF 2 (by decide), hF 3 (by decide), hF 4 (by decide), hF 5 (by decide), hF 6 (by decide)]
  · obtain ⟨n, hn, rfl⟩ := num_of (a := a1) (n := 6) (by omega) (by omega)
    rcases (by omega : n = 0 ∨ n = 1 ∨ n = 2 ∨ n = 3 ∨ n = 4 ∨ n = 5 ∨ n = 6) with rfl | rfl | rfl | rfl | rfl | rfl | rfl
    · refine ⟨σ 1 0, σ, τ, rfl, ?_, h⟩
      rw [hF 0 (by decide)]
      show some (0 + τ 4 0 + 0 + 0 + 0 + 0 + 0 + 0, τ) = _
      simp only [Int32.zero_add, Int32.add_zero]
    · refine ⟨σ 1 1, σ, τ, rfl, ?_, h⟩
      rw [hF 1 (by decide)]
      show some (0 + 0 + τ 4 1 + 0 + 0 + 0 + 0 + 0, τ) = _
      simp only [Int32.zero_add, Int32.add_zero]
    · refine ⟨σ 1 2, σ, τ, rfl, ?_, h⟩
      rw [hF 2 (by decide)]
      show some (0 + 0 + 0 + τ 4 2 + 0 + 0 + 0 + 0, τ) = _
      simp only [Int32.zero_add, Int32.add_zero]
    · refine ⟨σ 1 3, σ, τ, rfl, ?_, h⟩
      rw [hF 3 (by decide)]
      show some (0 + 0 + 0 + 0 + τ 4 3 + 0 + 0 + 0, τ) = _
      simp only [Int32.zero_add, Int32.add_zero]
    · refine ⟨σ 1 4, σ, τ, rfl, ?_, h⟩
      rw [hF 4 (by decide)]
      show some (0 + 0 + 0 + 0 + 0 + τ 4 4 + 0 + 0, τ) = _
      simp only [Int32.zero_add, Int32.add_zero]
    · refine ⟨σ 1 5, σ, τ, rfl, ?_, h⟩
      rw [hF 5 (by decide)]
      show some (0 + 0 + 0 + 0 + 0 + 0 + τ 4 5 + 0, τ) = _
      simp only [Int32.zero_add, Int32.add_zero]
    · refine ⟨σ 1 6, σ, τ, rfl, ?_, h⟩
      rw [hF 6 (by decide)]
      show some (0 + 0 + 0 + 0 + 0 + 0 + 0 + τ 4 6, τ) = _
      simp only [Int32.zero_add, Int32.add_zero]
