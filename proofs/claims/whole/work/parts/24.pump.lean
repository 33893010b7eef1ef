/-! ===== the pump's part of a minute ===== -/
def pw (t : Nat → Int32) : Prop := t 14 = 1 ∨ (0 : Int32) < t 7
def stt (t : Nat → Int32) : Prop := t 10 = 0 ∧ t 9 ≤ t 6 ∧ ¬ t 2 < t 3 ∧ (t 14 = 1 ∨ (0 : Int32) < t 7)
def mLog (t : Nat → Int32) : Nat → Int32 := if (40 : Int32) ≤ t 9 then t else upd t (25 + (t 9).toNatClampNeg) (t 8)
def mBeg (t : Nat → Int32) : Nat → Int32 := upd (upd (mLog t) 9 (t 9 + 1)) 10 (if t 9 + 1 ≤ t 6 then 1 else 0)
def mStart (t : Nat → Int32) : Nat → Int32 := if t 10 = 0 then (if t 9 ≤ t 6 then (if t 2 < t 3 then t else (if t 14 = 1 then mBeg t else if t 7 ≤ 0 then t else mBeg t)) else t) else t
def mDrawn (t : Nat → Int32) : Int32 := if t 2 ≤ (if ib (t 19) 2 = 0 then t 5 else 2 * t 5) then t 2 else (if ib (t 19) 2 = 0 then t 5 else 2 * t 5)
def mDraw (t : Nat → Int32) : Nat → Int32 := upd (upd (upd (upd t 7 (t 7 - (if t 14 = 1 then 0 else 1))) 2 (t 2 - mDrawn t)) 12 (t 12 + mDrawn t)) 10 (if t 4 < t 2 - mDrawn t then 1 else 0)
def mRun (t : Nat → Int32) : Nat → Int32 := if t 10 = 0 then t else (if t 14 = 1 then mDraw t else if t 7 ≤ 0 then upd t 10 0 else mDraw t)
def mPumps (t : Nat → Int32) : Nat → Int32 := mRun (mStart t)
theorem sc_su (τ : SS) (c : Nat) (r : Nat → Int32) (k : Nat) (v : Int32) : su (q_sc τ c r) c k v = q_sc τ c (upd r k v) := by
  funext x
  unfold su q_sc
  by_cases h : x = c
  · rw [if_pos h, if_pos h, if_pos rfl]
  · rw [if_neg h, if_neg h, if_neg h]
theorem sc_self (τ : SS) (c : Nat) : q_sc τ c (τ c) = τ := by
  funext x
  unfold q_sc
  by_cases h : x = c
  · rw [if_pos h, h]
  · rw [if_neg h]
theorem su_sc (τ : SS) (c k : Nat) (v : Int32) : su τ c k v = q_sc τ c (upd (τ c) k v) := by
  conv => lhs; rw [← sc_self τ c]
  rw [sc_su]
theorem sc_sc (τ : SS) (c : Nat) (r r2 : Nat → Int32) : q_sc (q_sc τ c r) c r2 = q_sc τ c r2 := by
  funext x
  unfold q_sc
  by_cases h : x = c
  · rw [if_pos h, if_pos h]
  · rw [if_neg h, if_neg h, if_neg h]
theorem sc_at (τ : SS) (c : Nat) (r : Nat → Int32) : q_sc τ c r c = r := if_pos rfl
theorem hasPower_eq (p : SS) : pX4_hasPower p = some (if p 0 5 = 0 then (if p 0 4 ≤ 0 then 0 else 1) else 1) := by
  unfold pX4_hasPower
  simp only [lt_v]
  split
  · split <;> rfl
  · rfl
theorem isDead_eq (p : SS) : pX4_isDead p = some (if p 0 8 ≤ p 0 3 then 0 else 1) := by
  unfold pX4_isDead
  simp only [lt_v]
  split <;> rfl
def PR (p : SS) (t : Nat → Int32) : Prop := (p 0 0 = t 3 ∧ p 0 1 = t 4 ∧ p 0 2 = t 5 ∧ p 0 3 = t 6 ∧ p 0 4 = t 7 ∧ p 0 5 = t 14 ∧ p 0 6 = ib (t 19) 2 ∧ p 0 7 = t 10 ∧ p 0 8 = t 9 ∧ p 0 9 = t 12) ∧ ∀ i : Nat, i < 40 → (i : Int) < (t 9).toInt → p 1 i = t (25 + i)
def PO (t : Nat → Int32) : Prop := (0 ≤ (t 9).toInt ∧ (t 9).toInt ≤ 1000) ∧ (t 6).toInt ≤ 999 ∧ (t 14 = 0 ∨ t 14 = 1) ∧ (t 10 = 0 ∨ t 10 = 1)
theorem add1_toInt {x : Int32} (h0 : 0 ≤ x.toInt) (h : x.toInt < 1000000) : (x + 1).toInt = x.toInt + 1 := by
  have e : x + 1 = nI (x.toNatClampNeg + 1) := by
    conv => lhs; rw [← nI_self h0]
    exact nI_1 _
  have h2 := cl_toInt h0
  rw [e, nI_toInt (by omega)]
  omega
theorem log_at (t : Nat → Int32) {j : Nat} (hj : j < 25 ∨ 65 ≤ j) (h9 : 0 ≤ (t 9).toInt) : mLog t j = t j := by
  unfold mLog
  split
  · rfl
  · rename_i h
    have h2 := cl_toInt h9
    rw [i_le] at h
    rw [show (40 : Int32).toInt = 40 from rfl] at h
    exact upd_ne (by omega)
/-- the class's start -/
theorem begin_eq {p : SS} {t : Nat → Int32} (h : PR p t) (ho : PO t) (hd : t 9 ≤ t 6) : ∃ p', pX4_begin p (t 8) = some p' ∧ PR p' (mBeg t) ∧ PO (mBeg t) := by
  obtain ⟨⟨a0, a1, a2, a3, a4, a5, a6, a7, a8, a9⟩, hl⟩ := h
  obtain ⟨o1, o2, o3, o4⟩ := ho
  have h9 := o1.1
  have hd2 : (t 9).toInt ≤ 999 := by rw [i_le] at hd; omega
  have ha := add1_toInt h9 (by omega)
  have hcl := cl_toInt h9
  have hPO : PO (mBeg t) := by
    refine ⟨?_, ?_, ?_, ?_⟩
    · show 0 ≤ (t 9 + 1).toInt ∧ (t 9 + 1).toInt ≤ 1000
      rw [ha]; omega
    · show (mLog t 6).toInt ≤ 999
      rw [log_at t (by omega) h9]; exact o2
    · show mLog t 14 = 0 ∨ mLog t 14 = 1
      rw [log_at t (by omega) h9]; exact o3
    · show (if t 9 + 1 ≤ t 6 then (1 : Int32) else 0) = 0 ∨ (if t 9 + 1 ≤ t 6 then (1 : Int32) else 0) = 1
      split
      · exact Or.inr rfl
      · exact Or.inl rfl
  have hrow : ∀ j, (j < 9 ∨ j = 11 ∨ j = 12 ∨ j = 14 ∨ j = 19) → mBeg t j = t j := fun j hj => by
    unfold mBeg
    rw [upd_ne (by omega), upd_ne (by omega), log_at t (by omega) h9]
  have fin : ∀ q : SS, q 0 = p 0 → (∀ i : Nat, i < 40 → (i : Int) < (t 9).toInt + 1 → q 1 i = mLog t (25 + i)) → ∃ p', q_lt (su q 0 8 (q 0 8 + 1)) (fun σ3 => q_cr (pX4_isDead σ3) (fun r4 => q_lt (fun (y5 : Int32) => q_zz y5 (q_lt (su σ3 0 7 y5) (fun σ7 => some σ7))) (fun j6 => (if r4 = (0 : Int32) then j6 1 else j6 0)))) = some p' ∧ PR p' (mBeg t) ∧ PO (mBeg t) := by
    intro q hq0 hq1
    have hlog : ∀ i : Nat, i < 40 → (i : Int) < (t 9 + 1).toInt → q 1 i = mBeg t (25 + i) := fun i hi hi2 => by
      rw [ha] at hi2
      rw [hq1 i hi (by omega)]
      unfold mBeg
      rw [upd_ne (by omega), upd_ne (by omega)]
    simp only [lt_v, isDead_eq, cr_s]
    have e8 : su q 0 8 (q 0 8 + 1) 0 8 = t 9 + 1 := by show q 0 8 + 1 = _; rw [hq0, a8]
    have e3 : su q 0 8 (q 0 8 + 1) 0 3 = t 6 := by show q 0 3 = _; rw [hq0, a3]
    rw [e8, e3]
    have key : ∀ y : Int32, y = (if t 9 + 1 ≤ t 6 then 1 else 0) → PR (su (su q 0 8 (q 0 8 + 1)) 0 7 y) (mBeg t) := by
      intro y hy
      refine ⟨⟨?_, ?_, ?_, ?_, ?_, ?_, ?_, ?_, ?_, ?_⟩, hlog⟩
      · show q 0 0 = _; rw [hq0, a0, hrow 3 (by omega)]
      · show q 0 1 = _; rw [hq0, a1, hrow 4 (by omega)]
      · show q 0 2 = _; rw [hq0, a2, hrow 5 (by omega)]
      · show q 0 3 = _; rw [hq0, a3, hrow 6 (by omega)]
      · show q 0 4 = _; rw [hq0, a4, hrow 7 (by omega)]
      · show q 0 5 = _; rw [hq0, a5, hrow 14 (by omega)]
      · show q 0 6 = _; rw [hq0, a6, hrow 19 (by omega)]
      · exact hy
      · show q 0 8 + 1 = t 9 + 1; rw [hq0, a8]
      · show q 0 9 = _; rw [hq0, a9, hrow 12 (by omega)]
    by_cases hc : t 9 + 1 ≤ t 6
    · simp only [if_pos hc, if_pos]
      exact ⟨_, rfl, key 1 (by rw [if_pos hc]), hPO⟩
    · simp only [if_neg hc]
      rw [if_neg (by decide)]
      exact ⟨_, rfl, key 0 (by rw [if_neg hc]), hPO⟩
  unfold pX4_begin
  rw [lt_v, a8]
  by_cases h40 : (40 : Int32) ≤ t 9
  · rw [if_pos h40]
    refine fin p rfl (fun i hi hi2 => ?_)
    rw [i_le] at h40
    rw [show (40 : Int32).toInt = 40 from rfl] at h40
    rw [hl i hi (by omega)]
    unfold mLog
    rw [if_pos (by rw [i_le, show (40 : Int32).toInt = 40 from rfl]; exact h40)]
  · rw [if_neg h40]
    have h40' := h40
    rw [i_le, show (40 : Int32).toInt = 40 from rfl] at h40'
    rw [wr_i _ _ _ _ h9 (by omega)]
    refine fin (su p 1 (t 9).toNatClampNeg (t 8)) rfl (fun i hi hi2 => ?_)
    show upd (p 1) (t 9).toNatClampNeg (t 8) i = _
    unfold mLog
    rw [if_neg h40]
    by_cases hi3 : i = (t 9).toNatClampNeg
    · subst hi3; rw [upd_at, upd_at]
    · rw [upd_ne hi3, upd_ne (by omega)]
      exact hl i hi (by omega)
