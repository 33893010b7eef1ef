/-! ===== what comes ===== -/
def vCo (kind flow mark rain ground flap minute ditch : Int32) : Int32 :=
  if kind = 1 then (if ditch = 0 then flow * ground / 100 else flow * ground / 100 / 2)
  else if kind = 2 then (if rain - mark ≤ 0 then 0 else flow * (rain - mark))
  else if kind = 3 then (if flap = 1 then (if rain - mark ≤ 0 then 0 else flow * (rain - mark)) else 0)
  else if kind = 4 then (if ditch = 0 then flow * ground / 100 / 2 else flow * ground / 100 / 2 / 2)
  else if kind = 5 then (if minute < mark then 0 else flow)
  else if kind = 6 then (if ditch = 0 then flow * ground / 100 / 2 else flow * ground / 100 / 2 / 2) + (if ditch = 0 then 0 else flow)
  else flow
def mComes (t : Nat → Int32) (w : Nat) : Int32 := vCo (t (65 + 4 * w)) (t (66 + 4 * w)) (t (67 + 4 * w)) (t 0) (t 1) (t 15) (t 8) (ib (t 19) 0)
theorem its_eq (τ : SS) {w j : Nat} (hw : w < 8) (hj : j < 4) : pX12_its τ (nI w) (nI j) = some (τ 1 (65 + 4 * w + j)) := by
  unfold pX12_its
  rw [show (65 : Int32) = nI 65 from rfl, show (4 : Int32) = nI 4 from rfl, pk_mul, nI_add, nI_add, rd_n _ _ (by omega)]
theorem halfBy_eq (τ : SS) (v : Int32) : pX12_halfBy τ v = some (if ib (τ 1 19) 0 = 0 then v else v / 2) := by
  have hh : pX12_has τ 0 = some (ib (τ 1 19) 0) := has12 τ (k := 0) (by decide)
  unfold pX12_halfBy
  rw [hh, cr_s]
  simp only [lt_v]
  split <;> rfl
set_option maxRecDepth 20000 in
theorem comes12 (τ : SS) {w : Nat} (hw : w < 8) : pX12_comes τ (nI w) = some (mComes (τ 1) w) := by
  have i0 : pX12_its τ (nI w) 0 = some (τ 1 (65 + 4 * w)) := its_eq τ hw (by decide)
  have i1 : pX12_its τ (nI w) 1 = some (τ 1 (66 + 4 * w)) := by rw [show 66 + 4 * w = 65 + 4 * w + 1 by omega]; exact its_eq τ hw (by decide)
  have i2 : pX12_its τ (nI w) 2 = some (τ 1 (67 + 4 * w)) := by rw [show 67 + 4 * w = 65 + 4 * w + 2 by omega]; exact its_eq τ hw (by decide)
  have hh : pX12_has τ 0 = some (ib (τ 1 19) 0) := has12 τ (k := 0) (by decide)
  have r0 : ∀ {R : Type} (k : Int32 → Option R), q_rd (τ 1) 307 0 k = k (τ 1 0) := fun k => rfl
  have r1 : ∀ {R : Type} (k : Int32 → Option R), q_rd (τ 1) 307 1 k = k (τ 1 1) := fun k => rfl
  have r8 : ∀ {R : Type} (k : Int32 → Option R), q_rd (τ 1) 307 8 k = k (τ 1 8) := fun k => rfl
  have r15 : ∀ {R : Type} (k : Int32 → Option R), q_rd (τ 1) 307 15 k = k (τ 1 15) := fun k => rfl
  unfold pX12_comes
  simp only [i0, i1, i2, hh, cr_s, r0, r1, r8, r15, lt_v, halfBy_eq]
  unfold mComes vCo
  split
  · rename_i h0
    split
    · rfl
    split
    · rfl
    split
    · split <;> rfl
    split
    · rfl
    split
    · split <;> rfl
    split
    · split <;> rfl
    · rfl
  · rename_i h0
    split
    · rfl
    split
    · rfl
    split
    · split <;> rfl
    split
    · rfl
    split
    · split <;> rfl
    split
    · split <;> rfl
    · rfl
theorem mul_pos_if (f x : Int32) : f * (if (0 : Int32) < x then x else 0) = if x ≤ 0 then 0 else f * x := by
  by_cases h : (0 : Int32) < x
  · rw [if_pos h, if_neg (by rw [i_le]; rw [i_lt] at h; omega)]
  · rw [if_neg h, if_pos (by rw [i_le]; rw [i_lt] at h; omega), Int32.mul_zero]
theorem rd_w {R : Type} (f : Nat → Int32) {w : Nat} (k : Int32 → Option R) (hw : w < 8) : q_rd f 8 (nI w) k = k (f w) := rd_n f k hw
set_option maxRecDepth 20000 in
theorem comes0 {c : SS} {t : Nat → Int32} (hf : t 15 = 0 ∨ t 15 = 1) (e0 : c 0 6 = t 0) (e1 : c 0 7 = t 1) (e8 : c 0 9 = t 8) (e15 : c 0 5 = t 15) (e19 : c 0 4 = t 19) {w : Nat} (h8 : w < 8) (w1 : c 2 w = t (65 + 4 * w)) (w2 : c 3 w = t (66 + 4 * w)) (w3 : c 4 w = t (67 + 4 * w)) : pX0_comesOf c (nI w) = some (mComes t w) := by
  have hh : pX0_has c 0 = some (ib (t 19) 0) := by rw [← e19]; exact has0 c (k := 0) (by decide)
  unfold pX0_comesOf
  rw [rd_w _ _ h8, rd_w _ _ h8, hh, cr_s]
  simp only [lt_v, rd_w _ _ h8, mul_pos_if]
  rw [w1, w2, w3, e0, e1, e8, e15]
  unfold mComes vCo
  have ff : (if t 15 = 0 then some (0 : Int32) else some (if t 0 - t (67 + 4 * w) ≤ 0 then 0 else t (66 + 4 * w) * (t 0 - t (67 + 4 * w)))) = some (if t 15 = 1 then (if t 0 - t (67 + 4 * w) ≤ 0 then 0 else t (66 + 4 * w) * (t 0 - t (67 + 4 * w))) else 0) := by
    rcases hf with h | h
    · rw [h]; rfl
    · rw [h]; rfl
  rw [ff]
  by_cases hd : ib (t 19) 0 = 0
  · simp only [if_pos hd]
    split
    · rfl
    split
    · rfl
    split
    · rfl
    split
    · rfl
    split
    · split <;> rfl
    split
    · rfl
    · rfl
  · simp only [if_neg hd]
    split
    · rfl
    split
    · rfl
    split
    · rfl
    split
    · rfl
    split
    · split <;> rfl
    split
    · rfl
    · rfl
