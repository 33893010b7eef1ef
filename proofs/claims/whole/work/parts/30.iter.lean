/-! ===== many minutes ===== -/
theorem CR_congr {c c' : SS} {t : Nat → Int32} (h : ∀ x, x < 13 → c x = c' x) (hc : CRel c' t) : CRel c t := by
  unfold CRel CRs CRl CRw CRt CRc at *
  simp only [h 0 (by decide), h 1 (by decide), h 2 (by decide), h 3 (by decide), h 4 (by decide), h 5 (by decide), h 6 (by decide), h 7 (by decide), h 8 (by decide), h 9 (by decide), h 10 (by decide), h 11 (by decide), h 12 (by decide)]
  exact hc
theorem KR_congr {k k' : SS} {t t' : Nat → Int32} (hk : ∀ x, x < 4 → k' x = k x) (h18 : t' 18 = t 18) (hhi : ∀ j, 147 ≤ j → t' j = t j) (h : KRel k t) : KRel k' t' := by
  refine ⟨by rw [hk 0 (by decide), h18]; exact h.1, fun y hy => ?_⟩
  rw [h18] at hy
  obtain ⟨k1, k2, k3⟩ := h.2 y hy
  rw [hk 1 (by decide), hk 2 (by decide), hk 3 (by decide), hhi _ (by omega)]
  refine ⟨k1, k2, fun i hi => ?_⟩
  rw [hhi _ (by omega), hhi _ (by omega)]
  exact k3 i hi
theorem PR_congr {s : Nat → Int32} {t t' : Nat → Int32} (h16 : t' 16 = t 16) (hhi : ∀ j, 147 ≤ j → t' j = t j) (h : PRel s t) : PRel s t' := by
  intro j hj
  rw [hhi _ (by omega), h16]
  exact h j hj
theorem HR_far {σ σ' : SS} {b : Nat} {t : Nat → Int32} (h : HRel σ b t) (ex : ∀ i, i < 19 → σ' (b + i) = σ (b + i)) : HRel σ' b t := by
  obtain ⟨o, c, k, p, z⟩ := h
  refine ⟨o, CR_congr (fun x hx => ?_) c, KR_congr (fun x hx => ?_) rfl (fun _ _ => rfl) k, ?_, ?_⟩
  · have := ex (1 + x) (by omega)
    unfold q_sb
    rw [Nat.add_assoc]
    exact this
  · have := ex (14 + x) (by omega)
    unfold q_sb
    rw [Nat.add_assoc]
    exact this
  · rw [ex 18 (by decide)]; exact p
  · have := ex 0 (by decide)
    rw [Nat.add_zero] at this
    rw [this]; exact z
theorem HR_cell {σ : SS} {b : Nat} {t t' : Nat → Int32} {c' : SS} (h : HRel σ b t) (ok : Ok t') (hc : CRel c' t') (hhi : ∀ j, 147 ≤ j → t' j = t j) (h16 : t' 16 = t 16) (h18 : t' 18 = t 18) (h20 : t' 20 = t 20) : HRel (q_em σ (b + 1) 0 13 c') b t' := by
  obtain ⟨-, -, k, p, z⟩ := h
  refine ⟨ok, CR_congr (fun x hx => ?_) hc, KR_congr (fun x hx => ?_) h18 hhi k, ?_, ?_⟩
  · unfold q_sb q_em
    rw [if_pos (by omega), show 0 + (b + 1 + x - (b + 1)) = x by omega]
  · unfold q_sb q_em
    rw [if_neg (by omega)]
  · have : q_em σ (b + 1) 0 13 c' (b + 18) = σ (b + 18) := if_neg (by omega)
    rw [this]; exact PR_congr h16 hhi p
  · have : q_em σ (b + 1) 0 13 c' b = σ b := if_neg (by omega)
    rw [this, h20]; exact z
theorem R_house {σ σ' τ τ' : SS} (h : Rel σ τ) (hH : HRel σ' 2 (τ' 1)) (ex : ∀ x, (x < 2 ∨ (21 ≤ x ∧ x < 42) ∨ (44 ≤ x ∧ x < 52)) → σ' x = σ x) (e3 : τ' 0 3 = τ 0 3) (e7 : τ' 0 7 = τ 0 7) (et : ∀ x, (x = 2 ∨ x = 4 ∨ x = 5 ∨ (8 ≤ x ∧ x ≤ 10)) → τ' x = τ x) : Rel σ' τ' := by
  obtain ⟨-, h2, h3, h4, h5, h6⟩ := h
  refine ⟨hH, ?_, ?_, ?_, ?_, ?_⟩
  · rw [ex 0 (by omega), e3]; exact h2
  · rw [e3, et 2 (by omega)]
    exact fun h0 => HR_far (h3 h0) (fun i hi => ex _ (by omega))
  · intro i hi
    rw [ex 1 (by omega), et 4 (by omega)]
    exact h4 i hi
  · unfold TRel
    rw [ex 40 (by omega), ex 41 (by omega), e7, et 5 (by omega)]
    exact h5
  · unfold SRel shRel
    rw [ex 44 (by omega), ex 45 (by omega), ex 46 (by omega), ex 47 (by omega), ex 48 (by omega), ex 49 (by omega), ex 50 (by omega), ex 51 (by omega), et 8 (by omega), et 9 (by omega), et 10 (by omega)]
    exact h6
def mIter (t : Nat → Int32) : Nat → Nat → Int32
  | 0 => t
  | n + 1 => mGoes (mIter t n)
def mTop (g : Int32) (t : Nat → Int32) : Nat → Int32
  | 0 => g
  | n + 1 => if mTop g t n < mIter t (n + 1) 2 then mIter t (n + 1) 2 else mTop g t n
theorem Ok_iter {t : Nat → Int32} (h : Ok t) : ∀ n, Ok (mIter t n)
  | 0 => h
  | n + 1 => Ok_goes (Ok_iter h n)
theorem iter_no {t : Nat → Int32} (h : Ok t) {j : Nat} (h1 : j ≠ 1 ∧ j ≠ 2 ∧ j ≠ 7 ∧ j ≠ 8 ∧ j ≠ 9 ∧ j ≠ 10 ∧ j ≠ 11 ∧ j ≠ 12 ∧ j ≠ 13) (h3 : j < 25 ∨ 65 ≤ j) (h4 : j < 68 ∨ 97 ≤ j ∨ (j - 68) % 4 ≠ 0) (h5 : j < 101 ∨ 147 ≤ j ∨ (j - 101) % 5 ≠ 0) : ∀ n, mIter t n j = t j
  | 0 => rfl
  | n + 1 => (goes_no (Ok_iter h n).1 h1 h3 h4 h5).trans (iter_no h h1 h3 h4 h5 n)
theorem nI_leS {n m : Nat} (hn : n < 5000) (hm : m < 5000) : nI n ≤ nI m ↔ n ≤ m := by
  rw [i_le, nI_toInt (by omega), nI_toInt (by omega)]
  omega
theorem iter0 {c : SS} {t : Nat → Int32} (hO : Ok t) (hc : CRel c t) {n : Nat} (hn : n < 5000) : ∃ c', pX0_passMinutes c (nI n) = some c' ∧ CRel c' (mIter t n) ∧ c' 0 12 = mTop (c 0 12) t n := by
  refine q_lp_rel (S := SS × Int32) (R := SS) (fun (f : SS → Int32 → Option SS) s => f s.1 s.2) (fun k s => ∃ j : Nat, j + k = n ∧ s.2 = nI j ∧ CRel s.1 (mIter t j) ∧ s.1 0 12 = mTop (c 0 12) t j) (fun r => ∃ c', r = some c' ∧ CRel c' (mIter t n) ∧ c' 0 12 = mTop (c 0 12) t n) ?_ q_fu n (c, 0) ⟨0, by omega, rfl, hc, rfl⟩ (fu_lt hn)
  rintro f k ⟨s1, s2⟩ ⟨j, hj, h2, h3, h4⟩ ih
  dsimp only at h2 h3 h4 ⊢
  subst h2
  by_cases hjn : nI n ≤ nI j
  · rw [if_pos hjn]
    have : j = n := by
      rw [nI_leS hn (by omega)] at hjn
      omega
    subst this
    exact ⟨s1, rfl, h3, h4⟩
  · rw [if_neg hjn]
    rw [nI_leS hn (by omega)] at hjn
    obtain ⟨c', g1, g2, g3⟩ := minute0 (Ok_iter hO j) h3
    rw [g1, cs_s]
    have e1 : nI j + 1 = nI (j + 1) := nI_add j 1
    rw [e1]
    refine ih (c', nI (j + 1)) (k - 1) (by omega) ⟨j + 1, by omega, rfl, g2, ?_⟩
    dsimp only
    rw [g3, h4]
    rfl
def mGo (τ : SS) (n : Nat) : SS := q_sc (q_sc τ 1 (mIter (τ 1) n)) 0 (upd (τ 0) 5 (mTop (τ 0 5) (τ 1) n))
theorem iter12 (τ : SS) (hO : Ok (τ 1)) {n : Nat} (hn : n < 5000) : pX12_goesOn τ (nI n) = some (mGo τ n) := by
  have g0 : mGo τ 0 = τ := by
    funext x
    show (if x = 0 then upd (τ 0) 5 (τ 0 5) else if x = 1 then τ 1 else τ x) = τ x
    split
    · rename_i h; subst h
      funext y
      unfold upd
      split
      · rename_i h; rw [h]
      · rfl
    · split
      · rename_i h; rw [h]
      · rfl
  refine q_lp_rel (S := SS × Int32) (R := SS) (fun (f : SS → Int32 → Option SS) s => f s.1 s.2) (fun k s => ∃ j : Nat, j + k = n ∧ s = (mGo τ j, nI j)) (fun r => r = some (mGo τ n)) ?_ q_fu n (τ, 0) ⟨0, by omega, by rw [g0]; rfl⟩ (fu_lt hn)
  rintro f k s ⟨j, hj, rfl⟩ ih
  dsimp only
  by_cases hjn : nI n ≤ nI j
  · rw [if_pos hjn]
    have : j = n := by
      rw [nI_leS hn (by omega)] at hjn
      omega
    rw [this]
  · rw [if_neg hjn]
    rw [nI_leS hn (by omega)] at hjn
    have hok := Ok_iter hO j
    have e1 : mGo τ j 1 = mIter (τ 1) j := rfl
    have hg := goes12 (mGo τ j) (by rw [e1]; exact hok.1.1) (by rw [e1]; exact PO_rises hok.1) (by rw [e1, min_17 hok.1]; exact hok.1.2.1)
    rw [hg, cs_s, R1_2]
    simp only [lt_v]
    rw [R1_2, sc_at, e1]
    have key : ∀ y, y = mTop (τ 0 5) (τ 1) (j + 1) → su (q_sc (mGo τ j) 1 (mGoes (mIter (τ 1) j))) 0 5 y = mGo τ (j + 1) := fun y hy => by
      subst hy
      funext x
      show (if x = 0 then upd (upd (τ 0) 5 (mTop (τ 0 5) (τ 1) j)) 5 (mTop (τ 0 5) (τ 1) (j + 1)) else if x = 1 then mGoes (mIter (τ 1) j) else if x = 0 then _ else if x = 1 then _ else τ x) = (if x = 0 then upd (τ 0) 5 (mTop (τ 0 5) (τ 1) (j + 1)) else if x = 1 then mGoes (mIter (τ 1) j) else τ x)
      split
      · funext y
        unfold upd
        split <;> rfl
      · rename_i h0
        split
        · rfl
        · rename_i h1
          rfl
    have e5 : q_sc (mGo τ j) 1 (mGoes (mIter (τ 1) j)) 0 5 = mTop (τ 0 5) (τ 1) j := rfl
    have en : nI j + 1 = nI (j + 1) := nI_add j 1
    rw [e5, en]
    have et : mTop (τ 0 5) (τ 1) (j + 1) = if mTop (τ 0 5) (τ 1) j < mGoes (mIter (τ 1) j) 2 then mGoes (mIter (τ 1) j) 2 else mTop (τ 0 5) (τ 1) j := rfl
    by_cases hle : mGoes (mIter (τ 1) j) 2 ≤ mTop (τ 0 5) (τ 1) j
    · rw [if_pos hle, key _ (by rw [et, if_neg (by rw [i_lt]; rw [i_le] at hle; omega)])]
      exact ih (mGo τ (j + 1), nI (j + 1)) (k - 1) (by omega) ⟨j + 1, by omega, rfl⟩
    · rw [if_neg hle, key _ (by rw [et, if_pos (by rw [i_lt]; rw [i_le] at hle; omega)])]
      exact ih (mGo τ (j + 1), nI (j + 1)) (k - 1) (by omega) ⟨j + 1, by omega, rfl⟩
theorem HR_iter {σ : SS} {b : Nat} {t : Nat → Int32} {c' : SS} (n : Nat) (h : HRel σ b t) (hc : CRel c' (mIter t n)) : HRel (q_em σ (b + 1) 0 13 c') b (mIter t n) :=
  HR_cell h (Ok_iter h.1 n) hc (fun j hj => iter_no h.1 (by omega) (by omega) (by omega) (by omega) n) (iter_no h.1 (by omega) (by omega) (by omega) (by omega) n) (iter_no h.1 (by omega) (by omega) (by omega) (by omega) n) (iter_no h.1 (by omega) (by omega) (by omega) (by omega) n)
theorem s_minutes : S_minutes Rel := by
  intro σ τ a1 h
  simp only [pX11_minutes, pX12_minutes, within_eq, in_eq, cr_s, tell_0, find_0, ci_s]
  by_cases h1 : wi a1 1 200 = 0
  · simp only [if_pos h1]
    exact ⟨_, _, _, rfl, rfl, R_tell h (by decide)⟩
  simp only [if_neg h1]
  obtain ⟨g1, g2⟩ := wi_ok h1
  rw [show (1 : Int32).toInt = 1 from rfl] at g1
  rw [show (200 : Int32).toInt = 200 from rfl] at g2
  have e1 := nI_self (x := a1) (by omega)
  have hcl := cl_toInt (x := a1) (by omega)
  obtain ⟨c', k1, k2, k3⟩ := iter0 (c := q_sb σ 3) h.1.1 h.1.2.1 (n := a1.toNatClampNeg) (by omega)
  have k4 := iter12 τ h.1.1 (n := a1.toNatClampNeg) (by omega)
  rw [e1] at k1 k4
  rw [k1, k4, cs_s, cs_s, R1_2]
  refine ⟨_, _, mGo τ a1.toNatClampNeg, rfl, ?_, R_house h (HR_iter (σ := σ) (b := 2) a1.toNatClampNeg h.1 k2) (fun x hx => if_neg (by omega)) rfl rfl (fun x hx => (if_neg (by omega)).trans (if_neg (by omega)))⟩
  have : c' 0 8 = mIter (τ 1) a1.toNatClampNeg 2 := k2.1.2.2.1
  show some (mIter (τ 1) a1.toNatClampNeg 2, _) = some (c' 0 8, _)
  rw [this]
