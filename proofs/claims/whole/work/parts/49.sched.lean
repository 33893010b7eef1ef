/-! ===== what is lifted in time ===== -/
theorem an_l {a b : Bool} (h : (a && b) = true) : a = true := by
  cases a
  · exact h
  · rfl
theorem an_r {a b : Bool} (h : (a && b) = true) : b = true := by
  cases a
  · have h2 : false = true := h
    exact absurd h2 (by decide)
  · exact h
def rmS (S i : Nat) : Nat := S &&& (1023 - 2 ^ i)
theorem mk_bit : ∀ i, i < 10 → ∀ k, k < 10 → (1023 - 2 ^ i).testBit k = decide (k ≠ i) := by decide +kernel
theorem rm_eq : ∀ S, S < 1024 → ∀ i, i < 10 → S.testBit i = true → S - 2 ^ i = rmS S i := by decide +kernel
theorem rm_bit (S : Nat) {i k : Nat} (hi : i < 10) (hk : k < 10) : (rmS S i).testBit k = (S.testBit k && decide (k ≠ i)) := by
  unfold rmS
  rw [Nat.testBit_and, mk_bit i hi k hk]
theorem rm_le (S i : Nat) : rmS S i ≤ S := Nat.and_le_left
theorem rm_lt {S i : Nat} (hS : S < 1024) (hi : i < 10) (h : S.testBit i = true) : rmS S i < S := by
  rw [← rm_eq S hS i hi h]
  have h1 : 0 < 2 ^ i := Nat.pow_pos (by omega)
  have h2 : S ≠ 0 := fun e => by
    rw [e, Nat.zero_testBit] at h
    exact absurd h (by decide)
  omega
def Us (f d : Nat → Nat) (S b : Nat) : Nat := us f (fun k => S.testBit k && decide (d k ≤ b)) 10
def Cn (f d : Nat → Nat) (S w : Nat) : Prop := ∀ i, i < 10 → S.testBit i = true → w + Us f d S (d i) ≤ d i
theorem Us_le (f d : Nat → Nat) (S b : Nat) : Us f d S b ≤ Ws f S := us_le 10 (fun k _ h => an_l h)
theorem Us_m {f d : Nat → Nat} {S i b : Nat} (hi : i < 10) (h : S.testBit i = true) (hb : d i ≤ b) : f i ≤ Us f d S b := us_m (p := fun k => S.testBit k && decide (d k ≤ b)) hi (by
  show (S.testBit i && decide (d i ≤ b)) = true
  rw [h, decide_eq_true hb]
  rfl)
theorem Us_rm {f d : Nat → Nat} {S i b : Nat} (hi : i < 10) (h : S.testBit i = true) (hb : d i ≤ b) : Us f d S b = Us f d (rmS S i) b + f i := by
  unfold Us
  rw [us_i (i := i) 10 hi (by rw [h, decide_eq_true hb]; rfl)]
  congr 1
  refine us_c 10 (fun k hk => ?_)
  rw [rm_bit S hi hk]
  cases S.testBit k <;> cases decide (k ≠ i) <;> cases decide (d k ≤ b) <;> rfl
theorem Us_rm0 {f d : Nat → Nat} {S i b : Nat} (hi : i < 10) (hb : ¬ d i ≤ b) : Us f d S b = Us f d (rmS S i) b := by
  unfold Us
  refine us_c 10 (fun k hk => ?_)
  rw [rm_bit S hi hk]
  by_cases hki : k = i
  · subst hki
    rw [decide_eq_false hb, Bool.and_false, Bool.and_false]
  · rw [decide_eq_true (show k ≠ i from hki), Bool.and_true]
theorem Ws_rm {f : Nat → Nat} {S i : Nat} (hi : i < 10) (h : S.testBit i = true) : Ws f S = Ws f (rmS S i) + f i := by
  unfold Ws
  rw [us_i (i := i) 10 hi h]
  congr 1
  exact us_c 10 (fun k hk => (rm_bit S hi hk).symm)
/-- those due first, first -/
theorem Cn_min {f d : Nat → Nat} {S w i : Nat} (hi : i < 10) (h : S.testBit i = true) (hm : ∀ k, k < 10 → S.testBit k = true → d i ≤ d k) : Cn f d S w ↔ (w + f i ≤ d i ∧ Cn f d (rmS S i) (w + f i)) := by
  constructor
  · intro hC
    refine ⟨?_, fun k hk hb => ?_⟩
    · have h1 := hC i hi h
      have h2 := Us_m (f := f) hi h (Nat.le_refl (d i))
      omega
    · rw [rm_bit S hi hk] at hb
      have hb1 : S.testBit k = true := an_l hb
      have h1 := hC k hk hb1
      rw [Us_rm hi h (hm k hk hb1)] at h1
      omega
  · rintro ⟨h1, hC⟩ k hk hb
    by_cases hki : k = i
    · subst hki
      rw [Us_rm hk h (Nat.le_refl _)]
      by_cases he : ∃ j, j < 10 ∧ (rmS S k).testBit j = true ∧ d j ≤ d k
      · obtain ⟨j, hj, hj2, hj3⟩ := he
        have hjS : S.testBit j = true := by
          rw [rm_bit S hk hj] at hj2
          exact an_l hj2
        have e : d j = d k := Nat.le_antisymm hj3 (hm j hj hjS)
        have h2 := hC j hj hj2
        rw [e] at h2
        omega
      · have z : Us f d (rmS S k) (d k) = 0 := by
          have : Us f d (rmS S k) (d k) ≤ us f (fun _ => false) 10 := us_le 10 (fun j hj hh => by
            exfalso
            exact he ⟨j, hj, an_l hh, of_decide_eq_true (an_r hh)⟩)
          have h2 : us f (fun _ => false) 10 = 0 := rfl
          omega
        rw [z]
        omega
    · have hb2 : (rmS S i).testBit k = true := by rw [rm_bit S hi hk, hb, decide_eq_true (show k ≠ i from hki)]; rfl
      have h2 := hC k hk hb2
      rw [Us_rm hi h (hm k hk hb)]
      omega
theorem ex_max {p : Nat → Bool} {d : Nat → Nat} : ∀ n, (∃ k, k < n ∧ p k = true) → ∃ i, i < n ∧ p i = true ∧ ∀ k, k < n → p k = true → d k ≤ d i
  | 0, h => by
    obtain ⟨k, hk, -⟩ := h
    omega
  | n + 1, h => by
    by_cases hn : ∃ k, k < n ∧ p k = true
    · obtain ⟨i, h1, h2, h3⟩ := ex_max (d := d) n hn
      by_cases hp : p n = true ∧ d i < d n
      · refine ⟨n, by omega, hp.1, fun k hk hpk => ?_⟩
        by_cases hkn : k = n
        · rw [hkn]
          exact Nat.le_refl _
        · have := h3 k (by omega) hpk
          omega
      · refine ⟨i, by omega, h2, fun k hk hpk => ?_⟩
        by_cases hkn : k = n
        · subst hkn
          rcases Nat.lt_or_ge (d i) (d k) with h4 | h4
          · exact absurd ⟨hpk, h4⟩ hp
          · exact h4
        · exact h3 k (by omega) hpk
    · obtain ⟨k, hk, hpk⟩ := h
      have hkn : k = n := by
        rcases Nat.lt_or_ge k n with h4 | h4
        · exact absurd ⟨k, h4, hpk⟩ hn
        · omega
      subst hkn
      refine ⟨k, by omega, hpk, fun j hj hpj => ?_⟩
      rcases Nat.lt_or_ge j k with h4 | h4
      · exact absurd ⟨j, h4, hpj⟩ hn
      · have : j = k := by omega
        rw [this]
        exact Nat.le_refl _
theorem ne_bit {S : Nat} (hS : S < 1024) (h : S ≠ 0) : ∃ k, k < 10 ∧ S.testBit k = true := by
  obtain ⟨k, hk⟩ := Nat.exists_testBit_of_ne_zero h
  exact ⟨k, bit_lt (n := 10) hS hk, hk⟩
/-- one of it can be the last -/
theorem Cn_last {f d : Nat → Nat} {S : Nat} (hS : S < 1024) (h0 : S ≠ 0) : (∃ i, i < 10 ∧ S.testBit i = true ∧ Ws f S ≤ d i ∧ Cn f d (rmS S i) 0) ↔ Cn f d S 0 := by
  constructor
  · rintro ⟨i, hi, hb, hw, hC⟩ k hk hkb
    by_cases hle : d i ≤ d k
    · have := Us_le f d S (d k)
      omega
    · have hki : k ≠ i := fun e => hle (by rw [e]; exact Nat.le_refl _)
      rw [Us_rm0 hi hle]
      exact hC k hk (by rw [rm_bit S hi hk, hkb, decide_eq_true hki]; rfl)
  · intro hC
    obtain ⟨i, hi, hb, hm⟩ := ex_max (p := fun k => S.testBit k) (d := d) 10 (ne_bit hS h0)
    refine ⟨i, hi, hb, ?_, fun k hk hkb => ?_⟩
    · have h1 := hC i hi hb
      have h2 : Us f d S (d i) = Ws f S := us_c 10 (fun k hk => by
        cases hh : S.testBit k
        · rfl
        · rw [decide_eq_true (hm k hk hh)]
          rfl)
      omega
    · rw [rm_bit S hi hk] at hkb
      have hb1 : S.testBit k = true := an_l hkb
      have h1 := hC k hk hb1
      by_cases hle : d i ≤ d k
      · rw [Us_rm hi hb hle] at h1
        omega
      · rw [Us_rm0 hi hle] at h1
        exact h1
/-- limits that are cut at more than all take together -/
theorem Cn_cut {f d l : Nat → Nat} {S w : Nat} (hl : ∀ k, k < 10 → S.testBit k = true → l k = min (d k) 601) (hw : w + Ws f S ≤ 600) : Cn f d S w ↔ Cn f l S w := by
  have key : ∀ i, i < 10 → S.testBit i = true → (w + Us f d S (d i) ≤ d i ↔ w + Us f l S (l i) ≤ l i) := fun i hi hb => by
    have e := hl i hi hb
    rcases Nat.lt_or_ge (d i) 601 with h1 | h1
    · have e2 : l i = d i := by omega
      have e3 : Us f d S (d i) = Us f l S (d i) := us_c 10 (fun k hk => by
        cases hh : S.testBit k
        · rfl
        · have e4 := hl k hk hh
          by_cases hd : d k ≤ d i
          · rw [decide_eq_true hd, decide_eq_true (by omega)]
          · rw [decide_eq_false hd, decide_eq_false (by omega)])
      rw [e2, e3]
    · have a := Us_le f d S (d i)
      have b := Us_le f l S (l i)
      constructor
      · intro _
        omega
      · intro _
        omega
  constructor
  · intro h i hi hb
    exact (key i hi hb).mp (h i hi hb)
  · intro h i hi hb
    exact (key i hi hb).mpr (h i hi hb)
theorem Cn_pos {f l : Nat → Nat} {S w i : Nat} (h : Cn f l S w) (hi : i < 10) (hb : S.testBit i = true) : w + f i ≤ l i := by
  have h1 := h i hi hb
  have h2 := Us_m (f := f) (d := l) hi hb (Nat.le_refl (l i))
  omega
theorem rm_32 : ∀ S, S < 1024 → ∀ i, i < 10 → nI S &&& (((1 : Int32) <<< (nI i &&& 31)) ^^^ (-1)) = nI (rmS S i) := by decide +kernel
/-- least of minutes -/
def mn (t : Nat → Int32) (k init : Nat) : Nat → Nat
  | 0 => init
  | j + 1 => if mIter t (j + 1) 2 ≤ t (99 + 5 * k) then mn t k init j else min (mn t k init j) j
theorem mn_le (t : Nat → Int32) (k init : Nat) : ∀ j, mn t k init j ≤ init
  | 0 => Nat.le_refl _
  | j + 1 => by
    have := mn_le t k init j
    unfold mn
    split
    · exact this
    · omega
theorem mn_cut (t : Nat → Int32) (k : Nat) : ∀ j, mn t k 601 j = min (mn t k 9999 j) 601
  | 0 => rfl
  | j + 1 => by
    have := mn_cut t k j
    unfold mn
    split
    · exact this
    · rw [this]
      omega
