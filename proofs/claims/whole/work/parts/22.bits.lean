/-! ===== Int32 by its bits: bt x i ===== -/
def bt (x : Int32) (i : Nat) : Bool := x.toBitVec.getLsbD i
theorem b_ext {x y : Int32} (h : ∀ i, i < 32 → bt x i = bt y i) : x = y := Int32.toBitVec_inj.mp (BitVec.eq_of_getLsbD_eq (fun i hi => h i hi))
theorem b_or (x y : Int32) (i : Nat) : bt (x ||| y) i = (bt x i || bt y i) := by unfold bt; rw [Int32.toBitVec_or, BitVec.getLsbD_or]
theorem b_and (x y : Int32) (i : Nat) : bt (x &&& y) i = (bt x i && bt y i) := by unfold bt; rw [Int32.toBitVec_and, BitVec.getLsbD_and]
theorem b_xor (x y : Int32) (i : Nat) : bt (x ^^^ y) i = (bt x i ^^ bt y i) := by unfold bt; rw [Int32.toBitVec_xor, BitVec.getLsbD_xor]
theorem b_big {x : Int32} {i : Nat} (h : 32 ≤ i) : bt x i = false := BitVec.getLsbD_of_ge _ _ h
theorem b_255 (i : Nat) : bt 255 i = decide (i < 8) := by
  rcases Nat.lt_or_ge i 32 with h | h
  · exact (by decide +kernel : ∀ i, i < 32 → bt 255 i = decide (i < 8)) i h
  · rw [b_big h, decide_eq_false (by omega)]
theorem b_65535 (i : Nat) : bt 65535 i = decide (i < 16) := by
  rcases Nat.lt_or_ge i 32 with h | h
  · exact (by decide +kernel : ∀ i, i < 32 → bt 65535 i = decide (i < 16)) i h
  · rw [b_big h, decide_eq_false (by omega)]
theorem b_m1 : ∀ i, i < 32 → bt (-1) i = true := by decide +kernel
theorem b_0 (i : Nat) : bt 0 i = false := BitVec.getLsbD_zero
theorem s_l : ∀ n, n < 32 → ((nI n &&& 31).toBitVec.smod 32).toNat = n := by decide +kernel
theorem s_u : ∀ n, n < 32 → (((nI n).toUInt32 &&& Int32.toUInt32 31).toBitVec % 32).toNat = n := by decide +kernel
theorem b_shl (n : Nat) (hn : n < 32) (x : Int32) {i : Nat} (hi : i < 32) : bt (x <<< (nI n &&& 31)) i = (decide (n ≤ i) && bt x (i - n)) := by
  unfold bt
  rw [Int32.toBitVec_shiftLeft]
  show (x.toBitVec <<< ((nI n &&& 31).toBitVec.smod 32).toNat).getLsbD i = _
  rw [s_l n hn, BitVec.getLsbD_shiftLeft]
  rcases Nat.lt_or_ge i n with h | h
  · simp [h, Nat.not_le.mpr h]
  · simp [hi, h, Nat.not_lt.mpr h]
theorem b_ushr (n : Nat) (hn : n < 32) (x : Int32) (i : Nat) : bt ((x.toUInt32 >>> ((nI n).toUInt32 &&& Int32.toUInt32 31)).toInt32) i = bt x (n + i) := by
  show (x.toUInt32 >>> ((nI n).toUInt32 &&& Int32.toUInt32 31)).toBitVec.getLsbD i = x.toUInt32.toBitVec.getLsbD (n + i)
  rw [UInt32.toBitVec_shiftRight]
  show (x.toUInt32.toBitVec >>> (((nI n).toUInt32 &&& Int32.toUInt32 31).toBitVec % 32).toNat).getLsbD i = _
  rw [s_u n hn, BitVec.getLsbD_ushiftRight]
theorem b_sshr (n : Nat) (hn : n < 32) (x : Int32) {i : Nat} (hi : i < 32) : bt (x >>> (nI n &&& 31)) i = if n + i < 32 then bt x (n + i) else bt x 31 := by
  unfold bt
  rw [Int32.toBitVec_shiftRight]
  show (x.toBitVec.sshiftRight ((nI n &&& 31).toBitVec.smod 32).toNat).getLsbD i = _
  rw [s_l n hn, BitVec.getLsbD_sshiftRight, BitVec.msb_eq_getLsbD_last]
  simp [hi]
theorem b_shl8 (x : Int32) {i : Nat} (hi : i < 32) : bt (x <<< ((8 : Int32) &&& 31)) i = (decide (8 ≤ i) && bt x (i - 8)) := b_shl 8 (by omega) x hi
theorem b_shl16 (x : Int32) {i : Nat} (hi : i < 32) : bt (x <<< ((16 : Int32) &&& 31)) i = (decide (16 ≤ i) && bt x (i - 16)) := b_shl 16 (by omega) x hi
theorem b_shl24 (x : Int32) {i : Nat} (hi : i < 32) : bt (x <<< ((24 : Int32) &&& 31)) i = (decide (24 ≤ i) && bt x (i - 24)) := b_shl 24 (by omega) x hi
theorem b_sshr8 (x : Int32) {i : Nat} (hi : i < 32) : bt (x >>> ((8 : Int32) &&& 31)) i = if 8 + i < 32 then bt x (8 + i) else bt x 31 := b_sshr 8 (by omega) x hi
/-! ===== one bit ===== -/
theorem ib_bt (x : Int32) (k : Nat) : ib x k = if bt x k then 1 else 0 := rfl
theorem ib_01 (x : Int32) (k : Nat) : ib x k = 0 ∨ ib x k = 1 := by
  rw [ib_bt]
  split
  · exact Or.inr rfl
  · exact Or.inl rfl
theorem ib_0 (k : Nat) : ib 0 k = 0 := by rw [ib_bt, b_0]; rfl
theorem bt_1 : ∀ i, i < 32 → bt 1 i = decide (i = 0) := by decide +kernel
theorem bt_sh (k : Nat) (hk : k < 32) (i : Nat) (hi : i < 32) : bt ((1 : Int32) <<< (nI k &&& 31)) i = decide (i = k) := by
  rw [b_shl k hk 1 hi]
  by_cases h : k ≤ i
  · rw [bt_1 (i - k) (by omega), decide_eq_true h, Bool.true_and]
    by_cases h2 : i = k
    · rw [decide_eq_true h2, decide_eq_true (by omega)]
    · rw [decide_eq_false h2, decide_eq_false (by omega)]
  · rw [decide_eq_false h, Bool.false_and, decide_eq_false (by omega)]
theorem and_bit (x : Int32) {k : Nat} (hk : k < 32) : (x &&& ((1 : Int32) <<< (nI k &&& 31)) = 0) ↔ ib x k = 0 := by
  constructor
  · intro h
    have h1 : bt (x &&& ((1 : Int32) <<< (nI k &&& 31))) k = bt 0 k := by rw [h]
    rw [b_and, bt_sh k hk k hk, b_0, decide_eq_true rfl, Bool.and_true] at h1
    rw [ib_bt, h1]
    rfl
  · intro h
    apply b_ext
    intro i hi
    rw [b_and, bt_sh k hk i hi, b_0]
    by_cases h2 : i = k
    · subst h2
      rw [ib_bt] at h
      cases hb : bt x i with
      | false => rfl
      | true => rw [hb] at h; exact absurd h (by decide)
    · rw [decide_eq_false h2, Bool.and_false]
theorem or_bit (x : Int32) {k : Nat} (hk : k < 32) (j : Nat) : ib (x ||| ((1 : Int32) <<< (nI k &&& 31))) j = if j = k then 1 else ib x j := by
  rcases Nat.lt_or_ge j 32 with hj | hj
  · rw [ib_bt, b_or, bt_sh k hk j hj]
    by_cases h : j = k
    · rw [decide_eq_true h, Bool.or_true, if_pos h]; rfl
    · rw [decide_eq_false h, Bool.or_false, if_neg h]; rfl
  · rw [if_neg (by omega), ib_bt, ib_bt, b_big hj, b_big hj]
theorem clr_bit (x : Int32) {k : Nat} (hk : k < 32) (j : Nat) : ib (x &&& (((1 : Int32) <<< (nI k &&& 31)) ^^^ (-1))) j = if j = k then 0 else ib x j := by
  rcases Nat.lt_or_ge j 32 with hj | hj
  · rw [ib_bt, b_and, b_xor, bt_sh k hk j hj, b_m1 j hj]
    by_cases h : j = k
    · rw [decide_eq_true h, if_pos h]; simp
    · rw [decide_eq_false h, if_neg h]; simp [ib_bt]
  · rw [if_neg (by omega), ib_bt, ib_bt, b_big hj, b_big hj]
theorem shr_bit (x : Int32) {k : Nat} (hk : k < 32) : (x >>> (nI k &&& 31)) &&& 1 = ib x k := by
  apply b_ext
  intro i hi
  rw [b_and, b_sshr k hk x hi, bt_1 i hi, ib_bt]
  by_cases h : i = 0
  · subst h
    rw [decide_eq_true rfl, Bool.and_true, if_pos (by omega), Nat.add_zero]
    cases bt x k <;> rfl
  · rw [decide_eq_false h, Bool.and_false]
    cases bt x k
    · exact (b_0 i).symm
    · show _ = bt 1 i
      rw [bt_1 i hi, decide_eq_false h]
theorem ib_z {x : Int32} {k : Nat} : ib x k ≠ 1 ↔ ib x k = 0 := by
  rcases ib_01 x k with h | h <;> rw [h] <;> decide
theorem has0 (c : SS) {k : Nat} (hk : k < 32) : pX0_has c (nI k) = some (ib (c 0 4) k) := by
  unfold pX0_has
  simp only [lt_v]
  by_cases h : (c 0 4 &&& ((1 : Int32) <<< (nI k &&& 31))) = 0
  · rw [if_pos h, (and_bit _ hk).mp h]; rfl
  · rw [if_neg h]
    rcases ib_01 (c 0 4) k with h1 | h1
    · exact absurd ((and_bit _ hk).mpr h1) h
    · rw [h1]; rfl
theorem has12 (τ : SS) {k : Nat} (hk : k < 32) : pX12_has τ (nI k) = some (ib (τ 1 19) k) := by
  show (if τ 1 19 >>> (nI k &&& 31) &&& 1 = 1 then q_zz 1 (some 1) else q_zz 0 (some 0)) = _
  rw [shr_bit _ hk]
  rcases ib_01 (τ 1 19) k with h1 | h1
  · rw [h1]; rfl
  · rw [h1]; rfl
theorem lifted_eq (c : SS) {k : Nat} (hk : k < 32) : pX9_isLifted c (nI k) = some (ib (c 0 4) k) := has0 c hk
theorem harmed_eq (c : SS) {k : Nat} (hk : k < 32) : pX9_isHarmed c (nI k) = some (ib (c 0 5) k) := by
  unfold pX9_isHarmed
  simp only [lt_v]
  by_cases h : (c 0 5 &&& ((1 : Int32) <<< (nI k &&& 31))) = 0
  · rw [if_pos h, (and_bit _ hk).mp h]; rfl
  · rw [if_neg h]
    rcases ib_01 (c 0 5) k with h1 | h1
    · exact absurd ((and_bit _ hk).mpr h1) h
    · rw [h1]; rfl
