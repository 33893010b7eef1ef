/-! ===== reading and setting ===== -/
theorem em_su (σ τ : SS) {b n x : Nat} (y : Nat) (v : Int32) (hx : x < n) : q_em σ b 0 n (su τ x y v) = su (q_em σ b 0 n τ) (b + x) y v := by
  have e1 : ∀ c, q_em σ b 0 n (su τ x y v) c = if b ≤ c ∧ c < b + n then (if 0 + (c - b) = x then upd (τ x) y v else τ (0 + (c - b))) else σ c := fun c => rfl
  have e2 : ∀ c, su (q_em σ b 0 n τ) (b + x) y v c = if c = b + x then upd (q_em σ b 0 n τ (b + x)) y v else q_em σ b 0 n τ c := fun c => rfl
  have e3 : ∀ c, q_em σ b 0 n τ c = if b ≤ c ∧ c < b + n then τ (0 + (c - b)) else σ c := fun c => rfl
  funext c
  rw [e1, e2, e3, e3]
  by_cases h : b ≤ c ∧ c < b + n
  · rw [if_pos h]
    by_cases hc : c = b + x
    · subst hc
      rw [if_pos (by omega), if_pos rfl, if_pos (by omega), show 0 + (b + x - b) = x by omega]
    · rw [if_neg (by omega), if_neg hc, if_pos h]
  · rw [if_neg h, if_neg (by omega), if_neg h]
theorem em_self (σ : SS) (b n : Nat) : q_em σ b 0 n (q_sb σ b) = σ := by
  funext c
  unfold q_em q_sb
  by_cases h : b ≤ c ∧ c < b + n
  · rw [if_pos h, show b + (0 + (c - b)) = c by omega]
  · rw [if_neg h]
theorem num_of {a : Int32} {n : Nat} (h0 : 0 ≤ a.toInt) (h : a.toInt ≤ n) : ∃ k : Nat, k ≤ n ∧ a = nI k := ⟨a.toNatClampNeg, by have := cl_toInt h0; omega, (nI_self h0).symm⟩
theorem dead4 (p : SS) : pX4_isDead p = some (if p 0 8 ≤ p 0 3 then 0 else 1) := by
  unfold pX4_isDead
  simp only [lt_v]
  split <;> rfl
theorem s_flap : S_flap Rel := by
  intro σ τ a1 h01 h
  obtain ⟨hH, hk, hkk, hF, hT, hS⟩ := id h
  obtain ⟨e0, e1, e2, e3, e4, e5, e6, e7, e8, e9, e10, e11, e12, e13, e14, e15, e16, e17, e19, e66⟩ := R_sc h
  obtain ⟨o1, o2, o3, o4, o5, o6, o7, o8, o9, o10⟩ := hH.1.1
  have fin : Rel (su σ 3 5 a1) (su τ 1 15 a1) := ⟨HR_mk hH (fun j hj => upd_ne (by omega)) rfl rfl rfl (Int.le_refl _) (fun i hi => if_neg (by omega)) ⟨o1, o2, o3, o4, o5, o6, o7, h01, o9, o10⟩ ⟨e0, e1, e2, e3, e4, e5, e6, e7, e8, e9, e10, e11, e12, e13, e14, rfl, e16, e17, e19, e66⟩ hH.2.2.2.2, hk, hkk, hF, hT, hS⟩
  have g1 : pX0_has (q_sb σ 3) 1 = some (ib (τ 1 19) 1) := by rw [← e19]; exact has0 (q_sb σ 3) (k := 1) (by decide)
  have g2 : pX12_has τ 1 = some (ib (τ 1 19) 1) := has12 τ (k := 1) (by decide)
  have hb : pX11_bit (σ 3 5) = some (τ 1 15) := by rw [e15]; exact bit_eq o8
  simp only [pX11_flap, pX12_flap, lt_v, g1, g2, hb, zz_b h01, cr_s, tell_4, find_4, ci_s]
  have r2 : ∀ v : Int32, q_rd (τ 1) 307 15 (fun v2 => q_wr τ 1 307 15 v (fun σ5 => some (v2, σ5))) = some (τ 1 15, su τ 1 15 v) := fun v => rfl
  by_cases ha : a1 = 0
  · rw [if_pos ha, if_pos ha]
    subst ha
    exact ⟨_, _, _, rfl, r2 0, fin⟩
  · rw [if_neg ha, if_neg ha]
    have ha1 : a1 = 1 := by rcases h01 with h | h; exact absurd h ha; exact h
    by_cases hb : ib (τ 1 19) 1 = 0
    · rw [if_pos hb, if_pos hb]
      subst ha1
      exact ⟨_, _, _, rfl, r2 1, fin⟩
    · rw [if_neg hb, if_neg hb]
      exact ⟨_, _, _, rfl, rfl, R_tell h (by decide)⟩
theorem s_now : S_now Rel := by
  intro σ τ a1 h
  obtain ⟨e0, e1, e2, e3, e4, e5, e6, e7, e8, e9, e10, e11, e12, e13, e14, e15, e16, e17, e19, e66⟩ := R_sc h
  obtain ⟨o1, o2, o3, o4, o5, o6, o7, o8, o9, o10⟩ := h.1.1.1
  by_cases h1 : wi a1 0 16 = 0
  · have hn := wi_no h1
    rw [show (0 : Int32).toInt = 0 from rfl, show (16 : Int32).toInt = 16 from rfl] at hn
    have ne : ∀ n : Nat, 11 ≤ n → n ≤ 16 → ¬ a1 = nI n := fun n g1 g2 g => by
      rw [g, nI_toInt (by omega)] at hn
      omega
    have h2 : wi a1 0 10 = 0 := (wi_iff _ _ _).mpr (by rw [show (0 : Int32).toInt = 0 from rfl, show (10 : Int32).toInt = 10 from rfl]; omega)
    simp only [pX11_now, pX12_now, within_eq, in_eq, cr_s, lt_v, tell_0, find_0, ci_s]
    rw [if_pos h1, if_neg (show ¬ a1 = (11 : Int32) from ne 11 (by omega) (by omega)), if_neg (show ¬ a1 = (12 : Int32) from ne 12 (by omega) (by omega)), if_neg (show ¬ a1 = (13 : Int32) from ne 13 (by omega) (by omega)), if_neg (show ¬ a1 = (14 : Int32) from ne 14 (by omega) (by omega)), if_neg (show ¬ a1 = (15 : Int32) from ne 15 (by omega) (by omega)), if_neg (show ¬ a1 = (16 : Int32) from ne 16 (by omega) (by omega)), if_pos h2]
    exact ⟨_, _, _, rfl, rfl, R_tell h (by decide)⟩
  · obtain ⟨g1, g2⟩ := wi_ok h1
    obtain ⟨n, hn, rfl⟩ := num_of (a := a1) (n := 16) g1 g2
    rcases (by omega : n = 0 ∨ n = 1 ∨ n = 2 ∨ n = 3 ∨ n = 4 ∨ n = 5 ∨ n = 6 ∨ n = 7 ∨ n = 8 ∨ n = 9 ∨ n = 10 ∨ n = 11 ∨ n = 12 ∨ n = 13 ∨ n = 14 ∨ n = 15 ∨ n = 16) with rfl | rfl | rfl | rfl | rfl | rfl | rfl | rfl | rfl | rfl | rfl | rfl | rfl | rfl | rfl | rfl | rfl
    · refine ⟨τ 1 0, σ, τ, ?_, rfl, h⟩
      show some (σ 3 6, σ) = _
      rw [e0]
    · refine ⟨τ 1 1, σ, τ, ?_, rfl, h⟩
      show some (σ 3 7, σ) = _
      rw [e1]
    · refine ⟨τ 1 2, σ, τ, ?_, rfl, h⟩
      show some (σ 3 8, σ) = _
      rw [e2]
    · refine ⟨τ 1 3, σ, τ, ?_, rfl, h⟩
      show some (σ 9 0, σ) = _
      rw [e3]
    · refine ⟨τ 1 4, σ, τ, ?_, rfl, h⟩
      show some (σ 9 1, σ) = _
      rw [e4]
    · refine ⟨τ 1 5, σ, τ, ?_, rfl, h⟩
      show some (σ 9 2, σ) = _
      rw [e5]
    · refine ⟨τ 1 6, σ, τ, ?_, rfl, h⟩
      show some (σ 9 3, σ) = _
      rw [e6]
    · refine ⟨τ 1 7, σ, τ, ?_, rfl, h⟩
      show some (σ 9 4, σ) = _
      rw [e7]
    · refine ⟨τ 1 8, σ, τ, ?_, rfl, h⟩
      show some (σ 3 9, σ) = _
      rw [e8]
    · refine ⟨τ 1 9, σ, τ, ?_, rfl, h⟩
      show some (σ 9 8, σ) = _
      rw [e9]
    · refine ⟨τ 1 10, σ, τ, ?_, rfl, h⟩
      show q_cr (pX11_bit (σ 9 7)) (fun r => some (r, σ)) = _
      rw [e10, bit_eq o9, cr_s]
    · refine ⟨if τ 1 9 ≤ τ 1 6 then 0 else 1, σ, τ, ?_, ?_, h⟩
      · show q_cr (pX4_isDead (q_sb σ 9)) (fun r8 => q_cr (pX11_bit r8) (fun r9 => some (r9, σ))) = _
        rw [dead4, cr_s, show q_sb σ 9 0 8 = τ 1 9 from e9, show q_sb σ 9 0 3 = τ 1 6 from e6]
        split <;> rfl
      · show q_cr (pX12_isDead τ) _ = _
        rw [dead12, cr_s]
        split <;> rfl
    · refine ⟨τ 1 11, σ, τ, ?_, rfl, h⟩
      show some (σ 3 10, σ) = _
      rw [e11]
    · refine ⟨τ 1 12, σ, τ, ?_, rfl, h⟩
      show some (σ 9 9, σ) = _
      rw [e12]
    · refine ⟨τ 1 13, σ, τ, ?_, rfl, h⟩
      show some (σ 3 11, σ) = _
      rw [e13]
    · refine ⟨τ 1 14, σ, τ, ?_, rfl, h⟩
      show q_cr (pX11_bit (σ 9 5)) (fun r => some (r, σ)) = _
      rw [e14, bit_eq o7, cr_s]
    · refine ⟨τ 1 15, σ, τ, ?_, rfl, h⟩
      show q_cr (pX11_bit (σ 3 5)) (fun r => some (r, σ)) = _
      rw [e15, bit_eq o8, cr_s]
theorem put_0 {σ τ : SS} (h : Rel σ τ) {a2 : Int32} (hw : ¬ wi a2 0 99 = 0) : Rel (su σ 3 6 a2) (su τ 1 0 a2) := by
  obtain ⟨hH, hk, hkk, hF, hT, hS⟩ := id h
  obtain ⟨e0, e1, e2, e3, e4, e5, e6, e7, e8, e9, e10, e11, e12, e13, e14, e15, e16, e17, e19, e66⟩ := R_sc h
  obtain ⟨o1, o2, o3, o4, o5, o6, o7, o8, o9, o10⟩ := hH.1.1
  obtain ⟨g1, g2⟩ := wi_ok hw
  exact ⟨HR_mk hH (fun j hj => upd_ne (by omega)) rfl rfl rfl (Int.le_refl _) (fun i hi => if_neg (by omega)) ⟨o1, o2, o3, o4, o5, o6, o7, o8, o9, ⟨o10.1, ⟨g1, g2⟩, o10.2.2⟩⟩ ⟨rfl, e1, e2, e3, e4, e5, e6, e7, e8, e9, e10, e11, e12, e13, e14, e15, e16, e17, e19, e66⟩ hH.2.2.2.2, hk, hkk, hF, hT, hS⟩
theorem set_0 {σ τ : SS} (h : Rel σ τ) (a2 : Int32) : ∃ (r : Int32) (σ2 : SS) (τ2 : SS), pX11_set σ (nI 0) a2 = some (r, σ2) ∧ pX12_set τ (nI 0) a2 = some (r, τ2) ∧ Rel σ2 τ2 := by
  obtain ⟨e0, e1, e2, e3, e4, e5, e6, e7, e8, e9, e10, e11, e12, e13, e14, e15, e16, e17, e19, e66⟩ := R_sc h
  have R0 : Rel (su σ 1 0 (σ 1 0 + 1)) (su τ 4 0 (τ 4 0 + 1)) := R_tell h (by decide)
  have E1 : pX11_set σ (nI 0) a2 = q_cr (pX11_within a2 0 99) (fun r8 => if r8 = 0 then some (-1000001, su σ 1 0 (σ 1 0 + 1)) else q_cr (pX4_marksFit (q_sb σ 9) (nI 0) a2) (fun r10 => if r10 = 0 then some (-1000001, su σ 1 0 (σ 1 0 + 1)) else some (σ 3 6, q_em σ 3 0 13 (su (q_sb σ 3) 0 6 a2)))) := rfl
  have E2 : pX12_set τ (nI 0) a2 = q_cr (pX12_in a2 0 99) (fun r22 => if r22 = 0 then some (-1000001, su τ 4 0 (τ 4 0 + 1)) else some (τ 1 0, su τ 1 0 a2)) := by
    unfold pX12_set
    simp only [lt_v]
    rw [in_eq (nI 0) 0 7, cr_s, if_neg (show ¬ wi (nI 0) 0 7 = 0 by decide)]
    rw [show pX12_leastOf (nI 0) = some 0 from rfl, cr_s, show pX12_mostOf (nI 0) = some 99 from rfl, cr_s, in_eq a2 0 99, cr_s, cr_s]
    by_cases hw : wi a2 0 99 = 0
    · rw [if_pos hw, if_pos hw]; rfl
    · rw [if_neg hw, if_neg hw]; rfl
  rw [E1, E2, within_eq, in_eq, cr_s, cr_s, em_su _ _ _ _ (by decide), em_self]
  by_cases hw : wi a2 0 99 = 0
  · rw [if_pos hw, if_pos hw]; exact ⟨_, _, _, rfl, rfl, R0⟩
  · rw [if_neg hw, if_neg hw]
    have R1 := put_0 h hw
    rw [show pX4_marksFit (q_sb σ 9) (nI 0) a2 = some 1 from rfl, cr_s, if_neg (by decide), e0]
    exact ⟨_, _, _, rfl, rfl, R1⟩
theorem put_1 {σ τ : SS} (h : Rel σ τ) {a2 : Int32} (hw : ¬ wi a2 0 999 = 0) : Rel (su σ 3 7 a2) (su τ 1 1 a2) := by
  obtain ⟨hH, hk, hkk, hF, hT, hS⟩ := id h
  obtain ⟨e0, e1, e2, e3, e4, e5, e6, e7, e8, e9, e10, e11, e12, e13, e14, e15, e16, e17, e19, e66⟩ := R_sc h
  obtain ⟨o1, o2, o3, o4, o5, o6, o7, o8, o9, o10⟩ := hH.1.1
  obtain ⟨g1, g2⟩ := wi_ok hw
  exact ⟨HR_mk hH (fun j hj => upd_ne (by omega)) rfl rfl rfl (Int.le_refl _) (fun i hi => if_neg (by omega)) ⟨o1, o2, o3, o4, o5, o6, o7, o8, o9, ⟨o10.1, o10.2.1, ⟨g1, g2⟩, o10.2.2.2⟩⟩ ⟨e0, rfl, e2, e3, e4, e5, e6, e7, e8, e9, e10, e11, e12, e13, e14, e15, e16, e17, e19, e66⟩ hH.2.2.2.2, hk, hkk, hF, hT, hS⟩
theorem set_1 {σ τ : SS} (h : Rel σ τ) (a2 : Int32) : ∃ (r : Int32) (σ2 : SS) (τ2 : SS), pX11_set σ (nI 1) a2 = some (r, σ2) ∧ pX12_set τ (nI 1) a2 = some (r, τ2) ∧ Rel σ2 τ2 := by
  obtain ⟨e0, e1, e2, e3, e4, e5, e6, e7, e8, e9, e10, e11, e12, e13, e14, e15, e16, e17, e19, e66⟩ := R_sc h
  have R0 : Rel (su σ 1 0 (σ 1 0 + 1)) (su τ 4 0 (τ 4 0 + 1)) := R_tell h (by decide)
  have E1 : pX11_set σ (nI 1) a2 = q_cr (pX11_within a2 0 999) (fun r8 => if r8 = 0 then some (-1000001, su σ 1 0 (σ 1 0 + 1)) else q_cr (pX4_marksFit (q_sb σ 9) (nI 1) a2) (fun r10 => if r10 = 0 then some (-1000001, su σ 1 0 (σ 1 0 + 1)) else some (σ 3 7, q_em σ 3 0 13 (su (q_sb σ 3) 0 7 a2)))) := rfl
  have E2 : pX12_set τ (nI 1) a2 = q_cr (pX12_in a2 0 999) (fun r22 => if r22 = 0 then some (-1000001, su τ 4 0 (τ 4 0 + 1)) else some (τ 1 1, su τ 1 1 a2)) := by
    unfold pX12_set
    simp only [lt_v]
    rw [in_eq (nI 1) 0 7, cr_s, if_neg (show ¬ wi (nI 1) 0 7 = 0 by decide)]
    rw [show pX12_leastOf (nI 1) = some 0 from rfl, cr_s, show pX12_mostOf (nI 1) = some 999 from rfl, cr_s, in_eq a2 0 999, cr_s, cr_s]
    by_cases hw : wi a2 0 999 = 0
    · rw [if_pos hw, if_pos hw]; rfl
    · rw [if_neg hw, if_neg hw]; rfl
  rw [E1, E2, within_eq, in_eq, cr_s, cr_s, em_su _ _ _ _ (by decide), em_self]
  by_cases hw : wi a2 0 999 = 0
  · rw [if_pos hw, if_pos hw]; exact ⟨_, _, _, rfl, rfl, R0⟩
  · rw [if_neg hw, if_neg hw]
    have R1 := put_1 h hw
    rw [show pX4_marksFit (q_sb σ 9) (nI 1) a2 = some 1 from rfl, cr_s, if_neg (by decide), e1]
    exact ⟨_, _, _, rfl, rfl, R1⟩
theorem put_2 {σ τ : SS} (h : Rel σ τ) {a2 : Int32} (hw : ¬ wi a2 0 9999 = 0) : Rel (su σ 3 8 a2) (su τ 1 2 a2) := by
  obtain ⟨hH, hk, hkk, hF, hT, hS⟩ := id h
  obtain ⟨e0, e1, e2, e3, e4, e5, e6, e7, e8, e9, e10, e11, e12, e13, e14, e15, e16, e17, e19, e66⟩ := R_sc h
  obtain ⟨o1, o2, o3, o4, o5, o6, o7, o8, o9, o10⟩ := hH.1.1
  obtain ⟨g1, g2⟩ := wi_ok hw
  exact ⟨HR_mk hH (fun j hj => upd_ne (by omega)) rfl rfl rfl (Int.le_refl _) (fun i hi => if_neg (by omega)) ⟨o1, o2, o3, o4, o5, o6, o7, o8, o9, ⟨o10.1, o10.2.1, o10.2.2.1, ⟨g1, g2⟩, o10.2.2.2.2⟩⟩ ⟨e0, e1, rfl, e3, e4, e5, e6, e7, e8, e9, e10, e11, e12, e13, e14, e15, e16, e17, e19, e66⟩ hH.2.2.2.2, hk, hkk, hF, hT, hS⟩
theorem set_2 {σ τ : SS} (h : Rel σ τ) (a2 : Int32) : ∃ (r : Int32) (σ2 : SS) (τ2 : SS), pX11_set σ (nI 2) a2 = some (r, σ2) ∧ pX12_set τ (nI 2) a2 = some (r, τ2) ∧ Rel σ2 τ2 := by
  obtain ⟨e0, e1, e2, e3, e4, e5, e6, e7, e8, e9, e10, e11, e12, e13, e14, e15, e16, e17, e19, e66⟩ := R_sc h
  have R0 : Rel (su σ 1 0 (σ 1 0 + 1)) (su τ 4 0 (τ 4 0 + 1)) := R_tell h (by decide)
  have E1 : pX11_set σ (nI 2) a2 = q_cr (pX11_within a2 0 9999) (fun r8 => if r8 = 0 then some (-1000001, su σ 1 0 (σ 1 0 + 1)) else q_cr (pX4_marksFit (q_sb σ 9) (nI 2) a2) (fun r10 => if r10 = 0 then some (-1000001, su σ 1 0 (σ 1 0 + 1)) else some (σ 3 8, q_em σ 3 0 13 (su (q_sb σ 3) 0 8 a2)))) := rfl
  have E2 : pX12_set τ (nI 2) a2 = q_cr (pX12_in a2 0 9999) (fun r22 => if r22 = 0 then some (-1000001, su τ 4 0 (τ 4 0 + 1)) else some (τ 1 2, su τ 1 2 a2)) := by
    unfold pX12_set
    simp only [lt_v]
    rw [in_eq (nI 2) 0 7, cr_s, if_neg (show ¬ wi (nI 2) 0 7 = 0 by decide)]
    rw [show pX12_leastOf (nI 2) = some 0 from rfl, cr_s, show pX12_mostOf (nI 2) = some 9999 from rfl, cr_s, in_eq a2 0 9999, cr_s, cr_s]
    by_cases hw : wi a2 0 9999 = 0
    · rw [if_pos hw, if_pos hw]; rfl
    · rw [if_neg hw, if_neg hw]; rfl
  rw [E1, E2, within_eq, in_eq, cr_s, cr_s, em_su _ _ _ _ (by decide), em_self]
  by_cases hw : wi a2 0 9999 = 0
  · rw [if_pos hw, if_pos hw]; exact ⟨_, _, _, rfl, rfl, R0⟩
  · rw [if_neg hw, if_neg hw]
    have R1 := put_2 h hw
    rw [show pX4_marksFit (q_sb σ 9) (nI 2) a2 = some 1 from rfl, cr_s, if_neg (by decide), e2]
    exact ⟨_, _, _, rfl, rfl, R1⟩
theorem put_3 {σ τ : SS} (h : Rel σ τ) {a2 : Int32} (hw : ¬ wi a2 1 999 = 0) : Rel (su σ 9 0 a2) (su τ 1 3 a2) := by
  obtain ⟨hH, hk, hkk, hF, hT, hS⟩ := id h
  obtain ⟨e0, e1, e2, e3, e4, e5, e6, e7, e8, e9, e10, e11, e12, e13, e14, e15, e16, e17, e19, e66⟩ := R_sc h
  obtain ⟨o1, o2, o3, o4, o5, o6, o7, o8, o9, o10⟩ := hH.1.1
  obtain ⟨g1, g2⟩ := wi_ok hw
  exact ⟨HR_mk hH (fun j hj => upd_ne (by omega)) rfl rfl rfl (Int.le_refl _) (fun i hi => if_neg (by omega)) ⟨o1, o2, o3, o4, o5, o6, o7, o8, o9, o10⟩ ⟨e0, e1, e2, rfl, e4, e5, e6, e7, e8, e9, e10, e11, e12, e13, e14, e15, e16, e17, e19, e66⟩ hH.2.2.2.2, hk, hkk, hF, hT, hS⟩
theorem set_3 {σ τ : SS} (h : Rel σ τ) (a2 : Int32) : ∃ (r : Int32) (σ2 : SS) (τ2 : SS), pX11_set σ (nI 3) a2 = some (r, σ2) ∧ pX12_set τ (nI 3) a2 = some (r, τ2) ∧ Rel σ2 τ2 := by
  obtain ⟨e0, e1, e2, e3, e4, e5, e6, e7, e8, e9, e10, e11, e12, e13, e14, e15, e16, e17, e19, e66⟩ := R_sc h
  have R0 : Rel (su σ 1 0 (σ 1 0 + 1)) (su τ 4 0 (τ 4 0 + 1)) := R_tell h (by decide)
  have E1 : pX11_set σ (nI 3) a2 = q_cr (pX11_within a2 1 999) (fun r8 => if r8 = 0 then some (-1000001, su σ 1 0 (σ 1 0 + 1)) else q_cr (pX4_marksFit (q_sb σ 9) (nI 3) a2) (fun r10 => if r10 = 0 then some (-1000001, su σ 1 0 (σ 1 0 + 1)) else some (σ 9 0, q_em σ 3 0 13 (su (q_sb σ 3) 6 0 a2)))) := rfl
  have E2 : pX12_set τ (nI 3) a2 = q_cr (pX12_in a2 1 999) (fun r22 => if r22 = 0 then some (-1000001, su τ 4 0 (τ 4 0 + 1)) else if a2 ≤ τ 1 4 then some (-1000001, su τ 4 0 (τ 4 0 + 1)) else some (τ 1 3, su τ 1 3 a2)) := by
    unfold pX12_set
    simp only [lt_v]
    rw [in_eq (nI 3) 0 7, cr_s, if_neg (show ¬ wi (nI 3) 0 7 = 0 by decide)]
    rw [show pX12_leastOf (nI 3) = some 1 from rfl, cr_s, show pX12_mostOf (nI 3) = some 999 from rfl, cr_s, in_eq a2 1 999, cr_s, cr_s]
    by_cases hw : wi a2 1 999 = 0
    · rw [if_pos hw, if_pos hw]; rfl
    · rw [if_neg hw, if_neg hw]; rfl
  rw [E1, E2, within_eq, in_eq, cr_s, cr_s, em_su _ _ _ _ (by decide), em_self]
  by_cases hw : wi a2 1 999 = 0
  · rw [if_pos hw, if_pos hw]; exact ⟨_, _, _, rfl, rfl, R0⟩
  · rw [if_neg hw, if_neg hw]
    have R1 := put_3 h hw
    by_cases hm : a2 ≤ τ 1 4
    · have m : pX4_marksFit (q_sb σ 9) (nI 3) a2 = some 0 := if_pos (show a2 ≤ σ 9 1 by rw [e4]; exact hm)
      rw [m, if_pos hm]; exact ⟨_, _, _, rfl, rfl, R0⟩
    · have m : pX4_marksFit (q_sb σ 9) (nI 3) a2 = some 1 := if_neg (show ¬ a2 ≤ σ 9 1 by rw [e4]; exact hm)
      rw [m, if_neg hm, cr_s, if_neg (by decide), e3]; exact ⟨_, _, _, rfl, rfl, R1⟩
theorem put_4 {σ τ : SS} (h : Rel σ τ) {a2 : Int32} (hw : ¬ wi a2 0 998 = 0) : Rel (su σ 9 1 a2) (su τ 1 4 a2) := by
  obtain ⟨hH, hk, hkk, hF, hT, hS⟩ := id h
  obtain ⟨e0, e1, e2, e3, e4, e5, e6, e7, e8, e9, e10, e11, e12, e13, e14, e15, e16, e17, e19, e66⟩ := R_sc h
  obtain ⟨o1, o2, o3, o4, o5, o6, o7, o8, o9, o10⟩ := hH.1.1
  obtain ⟨g1, g2⟩ := wi_ok hw
  exact ⟨HR_mk hH (fun j hj => upd_ne (by omega)) rfl rfl rfl (Int.le_refl _) (fun i hi => if_neg (by omega)) ⟨o1, o2, o3, o4, o5, o6, o7, o8, o9, ⟨g1, g2⟩, o10.2⟩ ⟨e0, e1, e2, e3, rfl, e5, e6, e7, e8, e9, e10, e11, e12, e13, e14, e15, e16, e17, e19, e66⟩ hH.2.2.2.2, hk, hkk, hF, hT, hS⟩
theorem set_4 {σ τ : SS} (h : Rel σ τ) (a2 : Int32) : ∃ (r : Int32) (σ2 : SS) (τ2 : SS), pX11_set σ (nI 4) a2 = some (r, σ2) ∧ pX12_set τ (nI 4) a2 = some (r, τ2) ∧ Rel σ2 τ2 := by
  obtain ⟨e0, e1, e2, e3, e4, e5, e6, e7, e8, e9, e10, e11, e12, e13, e14, e15, e16, e17, e19, e66⟩ := R_sc h
  have R0 : Rel (su σ 1 0 (σ 1 0 + 1)) (su τ 4 0 (τ 4 0 + 1)) := R_tell h (by decide)
  have E1 : pX11_set σ (nI 4) a2 = q_cr (pX11_within a2 0 998) (fun r8 => if r8 = 0 then some (-1000001, su σ 1 0 (σ 1 0 + 1)) else q_cr (pX4_marksFit (q_sb σ 9) (nI 4) a2) (fun r10 => if r10 = 0 then some (-1000001, su σ 1 0 (σ 1 0 + 1)) else some (σ 9 1, q_em σ 3 0 13 (su (q_sb σ 3) 6 1 a2)))) := rfl
  have E2 : pX12_set τ (nI 4) a2 = q_cr (pX12_in a2 0 998) (fun r22 => if r22 = 0 then some (-1000001, su τ 4 0 (τ 4 0 + 1)) else if a2 < τ 1 3 then some (τ 1 4, su τ 1 4 a2) else some (-1000001, su τ 4 0 (τ 4 0 + 1))) := by
    unfold pX12_set
    simp only [lt_v]
    rw [in_eq (nI 4) 0 7, cr_s, if_neg (show ¬ wi (nI 4) 0 7 = 0 by decide)]
    rw [show pX12_leastOf (nI 4) = some 0 from rfl, cr_s, show pX12_mostOf (nI 4) = some 998 from rfl, cr_s, in_eq a2 0 998, cr_s, cr_s]
    by_cases hw : wi a2 0 998 = 0
    · rw [if_pos hw, if_pos hw]; rfl
    · rw [if_neg hw, if_neg hw]; rfl
  rw [E1, E2, within_eq, in_eq, cr_s, cr_s, em_su _ _ _ _ (by decide), em_self]
  by_cases hw : wi a2 0 998 = 0
  · rw [if_pos hw, if_pos hw]; exact ⟨_, _, _, rfl, rfl, R0⟩
  · rw [if_neg hw, if_neg hw]
    have R1 := put_4 h hw
    by_cases hm : a2 < τ 1 3
    · have m : pX4_marksFit (q_sb σ 9) (nI 4) a2 = some 1 := if_neg (show ¬ σ 9 0 ≤ a2 by rw [e3, i_le]; rw [i_lt] at hm; omega)
      rw [m, if_pos hm, cr_s, if_neg (by decide), e4]; exact ⟨_, _, _, rfl, rfl, R1⟩
    · have m : pX4_marksFit (q_sb σ 9) (nI 4) a2 = some 0 := if_pos (show σ 9 0 ≤ a2 by rw [e3, i_le]; rw [i_lt] at hm; omega)
      rw [m, if_neg hm]; exact ⟨_, _, _, rfl, rfl, R0⟩
theorem put_5 {σ τ : SS} (h : Rel σ τ) {a2 : Int32} (hw : ¬ wi a2 1 99 = 0) : Rel (su σ 9 2 a2) (su τ 1 5 a2) := by
  obtain ⟨hH, hk, hkk, hF, hT, hS⟩ := id h
  obtain ⟨e0, e1, e2, e3, e4, e5, e6, e7, e8, e9, e10, e11, e12, e13, e14, e15, e16, e17, e19, e66⟩ := R_sc h
  obtain ⟨o1, o2, o3, o4, o5, o6, o7, o8, o9, o10⟩ := hH.1.1
  obtain ⟨g1, g2⟩ := wi_ok hw
  exact ⟨HR_mk hH (fun j hj => upd_ne (by omega)) rfl rfl rfl (Int.le_refl _) (fun i hi => if_neg (by omega)) ⟨o1, o2, o3, o4, o5, o6, o7, o8, o9, ⟨o10.1, o10.2.1, o10.2.2.1, o10.2.2.2.1, ⟨by have := g1; rw [show (1 : Int32).toInt = 1 from rfl] at this; show 0 ≤ a2.toInt; omega, g2⟩⟩⟩ ⟨e0, e1, e2, e3, e4, rfl, e6, e7, e8, e9, e10, e11, e12, e13, e14, e15, e16, e17, e19, e66⟩ hH.2.2.2.2, hk, hkk, hF, hT, hS⟩
theorem set_5 {σ τ : SS} (h : Rel σ τ) (a2 : Int32) : ∃ (r : Int32) (σ2 : SS) (τ2 : SS), pX11_set σ (nI 5) a2 = some (r, σ2) ∧ pX12_set τ (nI 5) a2 = some (r, τ2) ∧ Rel σ2 τ2 := by
  obtain ⟨e0, e1, e2, e3, e4, e5, e6, e7, e8, e9, e10, e11, e12, e13, e14, e15, e16, e17, e19, e66⟩ := R_sc h
  have R0 : Rel (su σ 1 0 (σ 1 0 + 1)) (su τ 4 0 (τ 4 0 + 1)) := R_tell h (by decide)
  have E1 : pX11_set σ (nI 5) a2 = q_cr (pX11_within a2 1 99) (fun r8 => if r8 = 0 then some (-1000001, su σ 1 0 (σ 1 0 + 1)) else q_cr (pX4_marksFit (q_sb σ 9) (nI 5) a2) (fun r10 => if r10 = 0 then some (-1000001, su σ 1 0 (σ 1 0 + 1)) else some (σ 9 2, q_em σ 3 0 13 (su (q_sb σ 3) 6 2 a2)))) := rfl
  have E2 : pX12_set τ (nI 5) a2 = q_cr (pX12_in a2 1 99) (fun r22 => if r22 = 0 then some (-1000001, su τ 4 0 (τ 4 0 + 1)) else some (τ 1 5, su τ 1 5 a2)) := by
    unfold pX12_set
    simp only [lt_v]
    rw [in_eq (nI 5) 0 7, cr_s, if_neg (show ¬ wi (nI 5) 0 7 = 0 by decide)]
    rw [show pX12_leastOf (nI 5) = some 1 from rfl, cr_s, show pX12_mostOf (nI 5) = some 99 from rfl, cr_s, in_eq a2 1 99, cr_s, cr_s]
    by_cases hw : wi a2 1 99 = 0
    · rw [if_pos hw, if_pos hw]; rfl
    · rw [if_neg hw, if_neg hw]; rfl
  rw [E1, E2, within_eq, in_eq, cr_s, cr_s, em_su _ _ _ _ (by decide), em_self]
  by_cases hw : wi a2 1 99 = 0
  · rw [if_pos hw, if_pos hw]; exact ⟨_, _, _, rfl, rfl, R0⟩
  · rw [if_neg hw, if_neg hw]
    have R1 := put_5 h hw
    rw [show pX4_marksFit (q_sb σ 9) (nI 5) a2 = some 1 from rfl, cr_s, if_neg (by decide), e5]
    exact ⟨_, _, _, rfl, rfl, R1⟩
theorem put_6 {σ τ : SS} (h : Rel σ τ) {a2 : Int32} (hw : ¬ wi a2 1 999 = 0) : Rel (su σ 9 3 a2) (su τ 1 6 a2) := by
  obtain ⟨hH, hk, hkk, hF, hT, hS⟩ := id h
  obtain ⟨e0, e1, e2, e3, e4, e5, e6, e7, e8, e9, e10, e11, e12, e13, e14, e15, e16, e17, e19, e66⟩ := R_sc h
  obtain ⟨o1, o2, o3, o4, o5, o6, o7, o8, o9, o10⟩ := hH.1.1
  obtain ⟨g1, g2⟩ := wi_ok hw
  exact ⟨HR_mk hH (fun j hj => upd_ne (by omega)) rfl rfl rfl (Int.le_refl _) (fun i hi => if_neg (by omega)) ⟨o1, o2, o3, o4, g2, o6, o7, o8, o9, o10⟩ ⟨e0, e1, e2, e3, e4, e5, rfl, e7, e8, e9, e10, e11, e12, e13, e14, e15, e16, e17, e19, e66⟩ hH.2.2.2.2, hk, hkk, hF, hT, hS⟩
theorem set_6 {σ τ : SS} (h : Rel σ τ) (a2 : Int32) : ∃ (r : Int32) (σ2 : SS) (τ2 : SS), pX11_set σ (nI 6) a2 = some (r, σ2) ∧ pX12_set τ (nI 6) a2 = some (r, τ2) ∧ Rel σ2 τ2 := by
  obtain ⟨e0, e1, e2, e3, e4, e5, e6, e7, e8, e9, e10, e11, e12, e13, e14, e15, e16, e17, e19, e66⟩ := R_sc h
  have R0 : Rel (su σ 1 0 (σ 1 0 + 1)) (su τ 4 0 (τ 4 0 + 1)) := R_tell h (by decide)
  have E1 : pX11_set σ (nI 6) a2 = q_cr (pX11_within a2 1 999) (fun r8 => if r8 = 0 then some (-1000001, su σ 1 0 (σ 1 0 + 1)) else q_cr (pX4_marksFit (q_sb σ 9) (nI 6) a2) (fun r10 => if r10 = 0 then some (-1000001, su σ 1 0 (σ 1 0 + 1)) else some (σ 9 3, q_em σ 3 0 13 (su (q_sb σ 3) 6 3 a2)))) := rfl
  have E2 : pX12_set τ (nI 6) a2 = q_cr (pX12_in a2 1 999) (fun r22 => if r22 = 0 then some (-1000001, su τ 4 0 (τ 4 0 + 1)) else some (τ 1 6, su τ 1 6 a2)) := by
    unfold pX12_set
    simp only [lt_v]
    rw [in_eq (nI 6) 0 7, cr_s, if_neg (show ¬ wi (nI 6) 0 7 = 0 by decide)]
    rw [show pX12_leastOf (nI 6) = some 1 from rfl, cr_s, show pX12_mostOf (nI 6) = some 999 from rfl, cr_s, in_eq a2 1 999, cr_s, cr_s]
    by_cases hw : wi a2 1 999 = 0
    · rw [if_pos hw, if_pos hw]; rfl
    · rw [if_neg hw, if_neg hw]; rfl
  rw [E1, E2, within_eq, in_eq, cr_s, cr_s, em_su _ _ _ _ (by decide), em_self]
  by_cases hw : wi a2 1 999 = 0
  · rw [if_pos hw, if_pos hw]; exact ⟨_, _, _, rfl, rfl, R0⟩
  · rw [if_neg hw, if_neg hw]
    have R1 := put_6 h hw
    rw [show pX4_marksFit (q_sb σ 9) (nI 6) a2 = some 1 from rfl, cr_s, if_neg (by decide), e6]
    exact ⟨_, _, _, rfl, rfl, R1⟩
theorem put_7 {σ τ : SS} (h : Rel σ τ) {a2 : Int32} (hw : ¬ wi a2 0 999 = 0) : Rel (su σ 9 4 a2) (su τ 1 7 a2) := by
  obtain ⟨hH, hk, hkk, hF, hT, hS⟩ := id h
  obtain ⟨e0, e1, e2, e3, e4, e5, e6, e7, e8, e9, e10, e11, e12, e13, e14, e15, e16, e17, e19, e66⟩ := R_sc h
  obtain ⟨o1, o2, o3, o4, o5, o6, o7, o8, o9, o10⟩ := hH.1.1
  obtain ⟨g1, g2⟩ := wi_ok hw
  exact ⟨HR_mk hH (fun j hj => upd_ne (by omega)) rfl rfl rfl (Int.le_refl _) (fun i hi => if_neg (by omega)) ⟨o1, o2, o3, o4, o5, o6, o7, o8, o9, o10⟩ ⟨e0, e1, e2, e3, e4, e5, e6, rfl, e8, e9, e10, e11, e12, e13, e14, e15, e16, e17, e19, e66⟩ hH.2.2.2.2, hk, hkk, hF, hT, hS⟩
theorem set_7 {σ τ : SS} (h : Rel σ τ) (a2 : Int32) : ∃ (r : Int32) (σ2 : SS) (τ2 : SS), pX11_set σ (nI 7) a2 = some (r, σ2) ∧ pX12_set τ (nI 7) a2 = some (r, τ2) ∧ Rel σ2 τ2 := by
  obtain ⟨e0, e1, e2, e3, e4, e5, e6, e7, e8, e9, e10, e11, e12, e13, e14, e15, e16, e17, e19, e66⟩ := R_sc h
  have R0 : Rel (su σ 1 0 (σ 1 0 + 1)) (su τ 4 0 (τ 4 0 + 1)) := R_tell h (by decide)
  have E1 : pX11_set σ (nI 7) a2 = q_cr (pX11_within a2 0 999) (fun r8 => if r8 = 0 then some (-1000001, su σ 1 0 (σ 1 0 + 1)) else q_cr (pX4_marksFit (q_sb σ 9) (nI 7) a2) (fun r10 => if r10 = 0 then some (-1000001, su σ 1 0 (σ 1 0 + 1)) else some (σ 9 4, q_em σ 3 0 13 (su (q_sb σ 3) 6 4 a2)))) := rfl
  have E2 : pX12_set τ (nI 7) a2 = q_cr (pX12_in a2 0 999) (fun r22 => if r22 = 0 then some (-1000001, su τ 4 0 (τ 4 0 + 1)) else some (τ 1 7, su τ 1 7 a2)) := by
    unfold pX12_set
    simp only [lt_v]
    rw [in_eq (nI 7) 0 7, cr_s, if_neg (show ¬ wi (nI 7) 0 7 = 0 by decide)]
    rw [show pX12_leastOf (nI 7) = some 0 from rfl, cr_s, show pX12_mostOf (nI 7) = some 999 from rfl, cr_s, in_eq a2 0 999, cr_s, cr_s]
    by_cases hw : wi a2 0 999 = 0
    · rw [if_pos hw, if_pos hw]; rfl
    · rw [if_neg hw, if_neg hw]; rfl
  rw [E1, E2, within_eq, in_eq, cr_s, cr_s, em_su _ _ _ _ (by decide), em_self]
  by_cases hw : wi a2 0 999 = 0
  · rw [if_pos hw, if_pos hw]; exact ⟨_, _, _, rfl, rfl, R0⟩
  · rw [if_neg hw, if_neg hw]
    have R1 := put_7 h hw
    rw [show pX4_marksFit (q_sb σ 9) (nI 7) a2 = some 1 from rfl, cr_s, if_neg (by decide), e7]
    exact ⟨_, _, _, rfl, rfl, R1⟩
theorem s_set : S_set Rel := by
  intro σ τ a1 a2 h
  by_cases h1 : wi a1 0 7 = 0
  · simp only [pX11_set, pX12_set, within_eq, in_eq, cr_s, lt_v, tell_0, find_0, ci_s, if_pos h1]
    exact ⟨_, _, _, rfl, rfl, R_tell h (by decide)⟩
  · obtain ⟨g1, g2⟩ := wi_ok h1
    obtain ⟨n, hn, rfl⟩ := num_of (a := a1) (n := 7) g1 g2
    rcases (by omega : n = 0 ∨ n = 1 ∨ n = 2 ∨ n = 3 ∨ n = 4 ∨ n = 5 ∨ n = 6 ∨ n = 7) with rfl | rfl | rfl | rfl | rfl | rfl | rfl | rfl
    · exact set_0 h a2
    · exact set_1 h a2
    · exact set_2 h a2
    · exact set_3 h a2
    · exact set_4 h a2
    · exact set_5 h a2
    · exact set_6 h a2
    · exact set_7 h a2
