/-! ===== the row's pump ===== -/
theorem R1_0 {R : Type} (f : Nat → Int32) (k : Int32 → Option R) : q_rd f 307 0 k = k (f 0) := rfl
theorem W1_0 {R : Type} (σ : SS) (v : Int32) (k : SS → Option R) : q_wr σ 1 307 0 v k = k (q_sc σ 1 (upd (σ 1) 0 v)) := by rw [← su_sc]; rfl
theorem R1_1 {R : Type} (f : Nat → Int32) (k : Int32 → Option R) : q_rd f 307 1 k = k (f 1) := rfl
theorem W1_1 {R : Type} (σ : SS) (v : Int32) (k : SS → Option R) : q_wr σ 1 307 1 v k = k (q_sc σ 1 (upd (σ 1) 1 v)) := by rw [← su_sc]; rfl
theorem R1_2 {R : Type} (f : Nat → Int32) (k : Int32 → Option R) : q_rd f 307 2 k = k (f 2) := rfl
theorem W1_2 {R : Type} (σ : SS) (v : Int32) (k : SS → Option R) : q_wr σ 1 307 2 v k = k (q_sc σ 1 (upd (σ 1) 2 v)) := by rw [← su_sc]; rfl
theorem R1_3 {R : Type} (f : Nat → Int32) (k : Int32 → Option R) : q_rd f 307 3 k = k (f 3) := rfl
theorem W1_3 {R : Type} (σ : SS) (v : Int32) (k : SS → Option R) : q_wr σ 1 307 3 v k = k (q_sc σ 1 (upd (σ 1) 3 v)) := by rw [← su_sc]; rfl
theorem R1_4 {R : Type} (f : Nat → Int32) (k : Int32 → Option R) : q_rd f 307 4 k = k (f 4) := rfl
theorem W1_4 {R : Type} (σ : SS) (v : Int32) (k : SS → Option R) : q_wr σ 1 307 4 v k = k (q_sc σ 1 (upd (σ 1) 4 v)) := by rw [← su_sc]; rfl
theorem R1_5 {R : Type} (f : Nat → Int32) (k : Int32 → Option R) : q_rd f 307 5 k = k (f 5) := rfl
theorem W1_5 {R : Type} (σ : SS) (v : Int32) (k : SS → Option R) : q_wr σ 1 307 5 v k = k (q_sc σ 1 (upd (σ 1) 5 v)) := by rw [← su_sc]; rfl
theorem R1_6 {R : Type} (f : Nat → Int32) (k : Int32 → Option R) : q_rd f 307 6 k = k (f 6) := rfl
theorem W1_6 {R : Type} (σ : SS) (v : Int32) (k : SS → Option R) : q_wr σ 1 307 6 v k = k (q_sc σ 1 (upd (σ 1) 6 v)) := by rw [← su_sc]; rfl
theorem R1_7 {R : Type} (f : Nat → Int32) (k : Int32 → Option R) : q_rd f 307 7 k = k (f 7) := rfl
theorem W1_7 {R : Type} (σ : SS) (v : Int32) (k : SS → Option R) : q_wr σ 1 307 7 v k = k (q_sc σ 1 (upd (σ 1) 7 v)) := by rw [← su_sc]; rfl
theorem R1_8 {R : Type} (f : Nat → Int32) (k : Int32 → Option R) : q_rd f 307 8 k = k (f 8) := rfl
theorem W1_8 {R : Type} (σ : SS) (v : Int32) (k : SS → Option R) : q_wr σ 1 307 8 v k = k (q_sc σ 1 (upd (σ 1) 8 v)) := by rw [← su_sc]; rfl
theorem R1_9 {R : Type} (f : Nat → Int32) (k : Int32 → Option R) : q_rd f 307 9 k = k (f 9) := rfl
theorem W1_9 {R : Type} (σ : SS) (v : Int32) (k : SS → Option R) : q_wr σ 1 307 9 v k = k (q_sc σ 1 (upd (σ 1) 9 v)) := by rw [← su_sc]; rfl
theorem R1_10 {R : Type} (f : Nat → Int32) (k : Int32 → Option R) : q_rd f 307 10 k = k (f 10) := rfl
theorem W1_10 {R : Type} (σ : SS) (v : Int32) (k : SS → Option R) : q_wr σ 1 307 10 v k = k (q_sc σ 1 (upd (σ 1) 10 v)) := by rw [← su_sc]; rfl
theorem R1_11 {R : Type} (f : Nat → Int32) (k : Int32 → Option R) : q_rd f 307 11 k = k (f 11) := rfl
theorem W1_11 {R : Type} (σ : SS) (v : Int32) (k : SS → Option R) : q_wr σ 1 307 11 v k = k (q_sc σ 1 (upd (σ 1) 11 v)) := by rw [← su_sc]; rfl
theorem R1_12 {R : Type} (f : Nat → Int32) (k : Int32 → Option R) : q_rd f 307 12 k = k (f 12) := rfl
theorem W1_12 {R : Type} (σ : SS) (v : Int32) (k : SS → Option R) : q_wr σ 1 307 12 v k = k (q_sc σ 1 (upd (σ 1) 12 v)) := by rw [← su_sc]; rfl
theorem R1_13 {R : Type} (f : Nat → Int32) (k : Int32 → Option R) : q_rd f 307 13 k = k (f 13) := rfl
theorem W1_13 {R : Type} (σ : SS) (v : Int32) (k : SS → Option R) : q_wr σ 1 307 13 v k = k (q_sc σ 1 (upd (σ 1) 13 v)) := by rw [← su_sc]; rfl
theorem R1_14 {R : Type} (f : Nat → Int32) (k : Int32 → Option R) : q_rd f 307 14 k = k (f 14) := rfl
theorem W1_14 {R : Type} (σ : SS) (v : Int32) (k : SS → Option R) : q_wr σ 1 307 14 v k = k (q_sc σ 1 (upd (σ 1) 14 v)) := by rw [← su_sc]; rfl
theorem R1_15 {R : Type} (f : Nat → Int32) (k : Int32 → Option R) : q_rd f 307 15 k = k (f 15) := rfl
theorem W1_15 {R : Type} (σ : SS) (v : Int32) (k : SS → Option R) : q_wr σ 1 307 15 v k = k (q_sc σ 1 (upd (σ 1) 15 v)) := by rw [← su_sc]; rfl
theorem R1_16 {R : Type} (f : Nat → Int32) (k : Int32 → Option R) : q_rd f 307 16 k = k (f 16) := rfl
theorem W1_16 {R : Type} (σ : SS) (v : Int32) (k : SS → Option R) : q_wr σ 1 307 16 v k = k (q_sc σ 1 (upd (σ 1) 16 v)) := by rw [← su_sc]; rfl
theorem R1_17 {R : Type} (f : Nat → Int32) (k : Int32 → Option R) : q_rd f 307 17 k = k (f 17) := rfl
theorem W1_17 {R : Type} (σ : SS) (v : Int32) (k : SS → Option R) : q_wr σ 1 307 17 v k = k (q_sc σ 1 (upd (σ 1) 17 v)) := by rw [← su_sc]; rfl
theorem R1_18 {R : Type} (f : Nat → Int32) (k : Int32 → Option R) : q_rd f 307 18 k = k (f 18) := rfl
theorem W1_18 {R : Type} (σ : SS) (v : Int32) (k : SS → Option R) : q_wr σ 1 307 18 v k = k (q_sc σ 1 (upd (σ 1) 18 v)) := by rw [← su_sc]; rfl
theorem R1_19 {R : Type} (f : Nat → Int32) (k : Int32 → Option R) : q_rd f 307 19 k = k (f 19) := rfl
theorem W1_19 {R : Type} (σ : SS) (v : Int32) (k : SS → Option R) : q_wr σ 1 307 19 v k = k (q_sc σ 1 (upd (σ 1) 19 v)) := by rw [← su_sc]; rfl
theorem R1_20 {R : Type} (f : Nat → Int32) (k : Int32 → Option R) : q_rd f 307 20 k = k (f 20) := rfl
theorem W1_20 {R : Type} (σ : SS) (v : Int32) (k : SS → Option R) : q_wr σ 1 307 20 v k = k (q_sc σ 1 (upd (σ 1) 20 v)) := by rw [← su_sc]; rfl
def rpT (σ5 : SS) (y2 : Int32) : Option SS := q_rd (σ5 1) 307 (10 : Int32) (fun (v7 : Int32) => (if v7 = (0 : Int32) then some σ5 else (if y2 = (0 : Int32) then q_wr σ5 1 307 (10 : Int32) (0 : Int32) (fun (σ37 : SS) => some σ37) else q_rd (σ5 1) 307 (7 : Int32) (fun (v10 : Int32) => q_rd (σ5 1) 307 (14 : Int32) (fun (v11 : Int32) => q_lt (fun (y12 : Int32) => q_wr σ5 1 307 (7 : Int32) (v10 - y12) (fun (σ14 : SS) => q_cr (pX12_has σ14 (2 : Int32)) (fun (r15 : Int32) => q_lt (fun (y16 : Int32) => q_rd (σ14 1) 307 (2 : Int32) (fun (v18 : Int32) => q_lt (fun (y19 : Int32) => q_rd (σ14 1) 307 (2 : Int32) (fun (v21 : Int32) => q_wr σ14 1 307 (2 : Int32) (v21 - y19) (fun (σ22 : SS) => q_rd (σ22 1) 307 (12 : Int32) (fun (v23 : Int32) => q_wr σ22 1 307 (12 : Int32) (v23 + y19) (fun (σ24 : SS) => q_rd (σ24 1) 307 (2 : Int32) (fun (v25 : Int32) => q_rd (σ24 1) 307 (4 : Int32) (fun (v26 : Int32) => q_lt (fun (y27 : Int32) => q_wr σ24 1 307 (10 : Int32) y27 (fun (σ29 : SS) => some σ29)) (fun j28 => (if v26 < v25 then j28 (1 : Int32) else j28 (0 : Int32)))))))))) (fun j20 => (if v18 ≤ y16 then q_rd (σ14 1) 307 (2 : Int32) (fun (v32 : Int32) => j20 v32) else j20 y16)))) (fun j17 => (if r15 = (0 : Int32) then q_rd (σ14 1) 307 (5 : Int32) (fun (v34 : Int32) => j17 v34) else q_rd (σ14 1) 307 (5 : Int32) (fun (v35 : Int32) => j17 ((2 : Int32) * v35))))))) (fun j13 => (if v11 = (1 : Int32) then j13 (0 : Int32) else j13 (1 : Int32))))))))
def rpB (j6 : SS → Option SS) (σ : SS) : Option SS := q_rd (σ 1) 307 (9 : Int32) (fun (v45 : Int32) => q_lt (fun (σ46 : SS) => q_rd (σ46 1) 307 (9 : Int32) (fun (v48 : Int32) => q_wr σ46 1 307 (9 : Int32) (v48 + (1 : Int32)) (fun (σ49 : SS) => q_cr (pX12_isDead σ49) (fun (r50 : Int32) => q_lt (fun (y51 : Int32) => q_wr σ49 1 307 (10 : Int32) y51 (fun (σ53 : SS) => j6 σ53)) (fun j52 => (if r50 = (0 : Int32) then j52 (1 : Int32) else j52 (0 : Int32))))))) (fun j47 => (if (40 : Int32) ≤ v45 then j47 σ else q_rd (σ 1) 307 (9 : Int32) (fun (v56 : Int32) => q_rd (σ 1) 307 (8 : Int32) (fun (v57 : Int32) => q_wr σ 1 307 ((25 : Int32) + v56) v57 (fun (σ58 : SS) => j47 σ58))))))
def rpS (σ : SS) (y2 : Int32) : Option SS := if σ 1 10 = 0 then q_cr (pX12_isDead σ) (fun r39 => (if r39 = 0 then (if σ 1 2 < σ 1 3 then rpT σ y2 else (if y2 = 0 then rpT σ y2 else rpB (fun z => rpT z y2) σ)) else rpT σ y2)) else rpT σ y2
theorem pumps_u (σ : SS) : pX12_pumps σ = if σ 1 14 = 1 then rpS σ 1 else if σ 1 7 ≤ 0 then rpS σ 0 else rpS σ 1 := rfl
theorem dead12 (τ : SS) : pX12_isDead τ = some (if τ 1 9 ≤ τ 1 6 then 0 else 1) := by
  unfold pX12_isDead
  simp only [R1_9, R1_6, lt_v]
  split <;> rfl
theorem begB (j6 : SS → Option SS) (τ : SS) (h9 : 0 ≤ (τ 1 9).toInt) : rpB j6 τ = j6 (q_sc τ 1 (mBeg (τ 1))) := by
  have fin : ∀ r : Nat → Int32, r = mLog (τ 1) → q_rd (q_sc τ 1 r 1) 307 (9 : Int32) (fun (v48 : Int32) => q_wr (q_sc τ 1 r) 1 307 (9 : Int32) (v48 + (1 : Int32)) (fun (σ49 : SS) => q_cr (pX12_isDead σ49) (fun (r50 : Int32) => q_lt (fun (y51 : Int32) => q_wr σ49 1 307 (10 : Int32) y51 (fun (σ53 : SS) => j6 σ53)) (fun j52 => (if r50 = (0 : Int32) then j52 (1 : Int32) else j52 (0 : Int32)))))) = j6 (q_sc τ 1 (mBeg (τ 1))) := by
    intro r hr
    simp only [R1_9, W1_9, W1_10, sc_at, sc_sc, dead12, cr_s, lt_v]
    have e9 : r 9 = τ 1 9 := by rw [hr]; exact log_at _ (by omega) h9
    have e6 : r 6 = τ 1 6 := by rw [hr]; exact log_at _ (by omega) h9
    have u9 : upd r 9 (r 9 + 1) 9 = τ 1 9 + 1 := by rw [upd_at, e9]
    have u6 : upd r 9 (r 9 + 1) 6 = τ 1 6 := by rw [upd_ne (by decide), e6]
    rw [u9, u6]
    unfold mBeg
    rw [e9, hr]
    by_cases hc : τ 1 9 + 1 ≤ τ 1 6
    · rw [if_pos hc, if_pos rfl, if_pos hc]
    · rw [if_neg hc, if_neg (by decide), if_neg hc]
  unfold rpB
  rw [R1_9, lt_v]
  by_cases h40 : (40 : Int32) ≤ τ 1 9
  · rw [if_pos h40]
    have := fin (τ 1) (by unfold mLog; rw [if_pos h40])
    rw [sc_self] at this
    exact this
  · rw [if_neg h40, R1_9, R1_8]
    have h40' := h40
    rw [i_le, show (40 : Int32).toInt = 40 from rfl] at h40'
    have hcl := cl_toInt h9
    have e : (25 : Int32) + τ 1 9 = nI (25 + (τ 1 9).toNatClampNeg) := at_sum (k := 25) h9 (by omega) (by decide)
    rw [e, wr_n _ _ _ _ (by omega), su_sc]
    exact fin _ (by unfold mLog; rw [if_neg h40])
theorem runT (τ : SS) (ho : PO (τ 1)) (y : Int32) (hy : y = if τ 1 14 = 1 then 1 else if τ 1 7 ≤ 0 then 0 else 1) : rpT τ y = some (q_sc τ 1 (mRun (τ 1))) := by
  have hh : ∀ σ : SS, pX12_has σ 2 = some (ib (σ 1 19) 2) := fun σ => has12 σ (k := 2) (by decide)
  unfold rpT
  simp only [R1_10, R1_7, R1_14, R1_2, R1_12, R1_4, R1_5, W1_10, W1_7, W1_2, W1_12, sc_at, sc_sc, hh, cr_s, lt_v]
  unfold mRun
  by_cases h10 : τ 1 10 = 0
  · rw [if_pos h10, if_pos h10, sc_self]
  rw [if_neg h10, if_neg h10]
  have k1 : ∀ v, upd (τ 1) 7 v 19 = τ 1 19 := fun _ => rfl
  have k2 : ∀ v, upd (τ 1) 7 v 2 = τ 1 2 := fun _ => rfl
  have k5 : ∀ v, upd (τ 1) 7 v 5 = τ 1 5 := fun _ => rfl
  have k12 : ∀ v w, upd (upd (τ 1) 7 v) 2 w 12 = τ 1 12 := fun _ _ => rfl
  have k4 : ∀ v w z, upd (upd (upd (τ 1) 7 v) 2 w) 12 z 4 = τ 1 4 := fun _ _ _ => rfl
  have k22 : ∀ v w z, upd (upd (upd (τ 1) 7 v) 2 w) 12 z 2 = w := fun _ _ _ => rfl
  simp only [k1, k2, k5, k12, k4, k22]
  have arm : ∀ b : Int32, b = (if τ 1 14 = 1 then 0 else 1) → (if ib (τ 1 19) 2 = 0 then (if τ 1 2 ≤ τ 1 5 then (if τ 1 4 < τ 1 2 - τ 1 2 then some (q_sc τ 1 (upd (upd (upd (upd (τ 1) 7 (τ 1 7 - b)) 2 (τ 1 2 - τ 1 2)) 12 (τ 1 12 + τ 1 2)) 10 1)) else some (q_sc τ 1 (upd (upd (upd (upd (τ 1) 7 (τ 1 7 - b)) 2 (τ 1 2 - τ 1 2)) 12 (τ 1 12 + τ 1 2)) 10 0))) else (if τ 1 4 < τ 1 2 - τ 1 5 then some (q_sc τ 1 (upd (upd (upd (upd (τ 1) 7 (τ 1 7 - b)) 2 (τ 1 2 - τ 1 5)) 12 (τ 1 12 + τ 1 5)) 10 1)) else some (q_sc τ 1 (upd (upd (upd (upd (τ 1) 7 (τ 1 7 - b)) 2 (τ 1 2 - τ 1 5)) 12 (τ 1 12 + τ 1 5)) 10 0)))) else (if τ 1 2 ≤ 2 * τ 1 5 then (if τ 1 4 < τ 1 2 - τ 1 2 then some (q_sc τ 1 (upd (upd (upd (upd (τ 1) 7 (τ 1 7 - b)) 2 (τ 1 2 - τ 1 2)) 12 (τ 1 12 + τ 1 2)) 10 1)) else some (q_sc τ 1 (upd (upd (upd (upd (τ 1) 7 (τ 1 7 - b)) 2 (τ 1 2 - τ 1 2)) 12 (τ 1 12 + τ 1 2)) 10 0))) else (if τ 1 4 < τ 1 2 - 2 * τ 1 5 then some (q_sc τ 1 (upd (upd (upd (upd (τ 1) 7 (τ 1 7 - b)) 2 (τ 1 2 - 2 * τ 1 5)) 12 (τ 1 12 + 2 * τ 1 5)) 10 1)) else some (q_sc τ 1 (upd (upd (upd (upd (τ 1) 7 (τ 1 7 - b)) 2 (τ 1 2 - 2 * τ 1 5)) 12 (τ 1 12 + 2 * τ 1 5)) 10 0))))) = some (q_sc τ 1 (mDraw (τ 1))) := by
    intro b hb
    unfold mDraw mDrawn
    rw [← hb]
    by_cases h6 : ib (τ 1 19) 2 = 0
    · simp only [if_pos h6]
      by_cases h7 : τ 1 2 ≤ τ 1 5
      · simp only [if_pos h7]
        by_cases h8 : τ 1 4 < τ 1 2 - τ 1 2
        · simp only [if_pos h8]
        · simp only [if_neg h8]
      · simp only [if_neg h7]
        by_cases h8 : τ 1 4 < τ 1 2 - τ 1 5
        · simp only [if_pos h8]
        · simp only [if_neg h8]
    · simp only [if_neg h6]
      by_cases h7 : τ 1 2 ≤ 2 * τ 1 5
      · simp only [if_pos h7]
        by_cases h8 : τ 1 4 < τ 1 2 - τ 1 2
        · simp only [if_pos h8]
        · simp only [if_neg h8]
      · simp only [if_neg h7]
        by_cases h8 : τ 1 4 < τ 1 2 - 2 * τ 1 5
        · simp only [if_pos h8]
        · simp only [if_neg h8]
  by_cases hc : τ 1 14 = 1
  · rw [if_pos hc] at hy
    rw [if_neg (by rw [hy]; decide), if_pos hc, if_pos hc]
    exact arm 0 (by rw [if_pos hc])
  · rw [if_neg hc] at hy
    rw [if_neg hc, if_neg hc]
    by_cases hb : τ 1 7 ≤ 0
    · rw [if_pos hb] at hy
      rw [if_pos hy, if_pos hb]
    · rw [if_neg hb] at hy
      rw [if_neg (by rw [hy]; decide), if_neg hb]
      exact arm 1 (by rw [if_neg hc])
theorem start_PO {t : Nat → Int32} (ho : PO t) : PO (mStart t) := (start_eq (p := fun c j => if c = 0 then (if j = 0 then t 3 else if j = 1 then t 4 else if j = 2 then t 5 else if j = 3 then t 6 else if j = 4 then t 7 else if j = 5 then t 14 else if j = 6 then ib (t 19) 2 else if j = 7 then t 10 else if j = 8 then t 9 else t 12) else t (25 + j)) ⟨⟨rfl, rfl, rfl, rfl, rfl, rfl, rfl, rfl, rfl, rfl⟩, fun _ _ _ => rfl⟩ ho).choose_spec.2.1
theorem start_lo (t : Nat → Int32) {j : Nat} (h9 : 0 ≤ (t 9).toInt) (hj : j ≠ 9 ∧ j ≠ 10 ∧ (j < 25 ∨ 65 ≤ j)) : mStart t j = t j := by
  unfold mStart mBeg
  have e : upd (upd (mLog t) 9 (t 9 + 1)) 10 (if t 9 + 1 ≤ t 6 then 1 else 0) j = t j := by rw [upd_ne hj.2.1, upd_ne hj.1, log_at t hj.2.2 h9]
  rw [show (if t 10 = 0 then (if t 9 ≤ t 6 then (if t 2 < t 3 then t else (if t 14 = 1 then upd (upd (mLog t) 9 (t 9 + 1)) 10 (if t 9 + 1 ≤ t 6 then 1 else 0) else if t 7 ≤ 0 then t else upd (upd (mLog t) 9 (t 9 + 1)) 10 (if t 9 + 1 ≤ t 6 then 1 else 0))) else t) else t) j = t j from by
    split
    · split
      · split
        · rfl
        · split
          · exact e
          · split
            · rfl
            · exact e
      · rfl
    · rfl]
theorem pumps12 (τ : SS) (ho : PO (τ 1)) : pX12_pumps τ = some (q_sc τ 1 (mPumps (τ 1))) := by
  have h9 := ho.1.1
  have key : ∀ y : Int32, y = (if τ 1 14 = 1 then 1 else if τ 1 7 ≤ 0 then 0 else 1) → rpS τ y = some (q_sc τ 1 (mPumps (τ 1))) := by
    intro y hy
    have r0 : rpT τ y = some (q_sc τ 1 (mRun (τ 1))) := runT τ ho y hy
    have hB : mStart (τ 1) = mBeg (τ 1) → rpB (fun z => rpT z y) τ = some (q_sc τ 1 (mPumps (τ 1))) := by
      intro hB
      rw [begB _ τ h9]
      have h1 := runT (q_sc τ 1 (mBeg (τ 1))) (by rw [sc_at, ← hB]; exact start_PO ho) y (by
        rw [sc_at, ← hB, start_lo _ h9 (by omega), start_lo _ h9 (by omega)]; exact hy)
      rw [sc_at, sc_sc] at h1
      show rpT (q_sc τ 1 (mBeg (τ 1))) y = _
      rw [h1]
      unfold mPumps
      rw [hB]
    unfold rpS
    rw [dead12, cr_s]
    by_cases h10 : τ 1 10 = 0
    · rw [if_pos h10]
      by_cases hd : τ 1 9 ≤ τ 1 6
      · rw [if_pos hd, if_pos rfl]
        by_cases hdp : τ 1 2 < τ 1 3
        · rw [if_pos hdp, r0]
          unfold mPumps mStart
          rw [if_pos h10, if_pos hd, if_pos hdp]
        · rw [if_neg hdp]
          by_cases hc : τ 1 14 = 1
          · rw [if_pos hc] at hy
            rw [if_neg (by rw [hy]; decide)]
            exact hB (by unfold mStart; rw [if_pos h10, if_pos hd, if_neg hdp, if_pos hc])
          · rw [if_neg hc] at hy
            by_cases hb : τ 1 7 ≤ 0
            · rw [if_pos hb] at hy
              rw [if_pos hy, r0]
              unfold mPumps mStart
              rw [if_pos h10, if_pos hd, if_neg hdp, if_neg hc, if_pos hb]
            · rw [if_neg hb] at hy
              rw [if_neg (by rw [hy]; decide)]
              exact hB (by unfold mStart; rw [if_pos h10, if_pos hd, if_neg hdp, if_neg hc, if_neg hb])
      · rw [if_neg hd, if_neg (by decide), r0]
        unfold mPumps mStart
        rw [if_pos h10, if_neg hd]
    · rw [if_neg h10, r0]
      unfold mPumps mStart
      rw [if_neg h10]
  rw [pumps_u]
  by_cases hc : τ 1 14 = 1
  · rw [if_pos hc]
    exact key 1 (by rw [if_pos hc])
  · rw [if_neg hc]
    by_cases hb : τ 1 7 ≤ 0
    · rw [if_pos hb]
      exact key 0 (by rw [if_neg hc, if_pos hb])
    · rw [if_neg hb]
      exact key 1 (by rw [if_neg hc, if_neg hb])
