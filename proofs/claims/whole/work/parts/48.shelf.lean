/-! ===== sets of things ===== -/
def us (f : Nat → Nat) (p : Nat → Bool) : Nat → Nat
  | 0 => 0
  | k + 1 => us f p k + (if p k = true then f k else 0)
theorem us_s (f : Nat → Nat) (p : Nat → Bool) (k : Nat) : us f p (k + 1) = us f p k + (if p k = true then f k else 0) := rfl
theorem us_b {f : Nat → Nat} {c : Nat} (h : ∀ k, f k ≤ c) (p : Nat → Bool) : ∀ n, us f p n ≤ c * n
  | 0 => Nat.le_refl _
  | n + 1 => by
    have h1 := us_b h p n
    have h2 := h n
    rw [us_s, Nat.mul_add]
    split <;> omega
theorem us_c {f : Nat → Nat} {p q : Nat → Bool} : ∀ n, (∀ k, k < n → p k = q k) → us f p n = us f q n
  | 0, _ => rfl
  | n + 1, h => by rw [us_s, us_s, us_c n (fun k hk => h k (by omega)), h n (by omega)]
theorem us_le {f : Nat → Nat} {p q : Nat → Bool} : ∀ n, (∀ k, k < n → p k = true → q k = true) → us f p n ≤ us f q n
  | 0, _ => Nat.le_refl _
  | n + 1, h => by
    have h1 := us_le (f := f) n (fun k hk => h k (by omega))
    have h2 := h n (by omega)
    rw [us_s, us_s]
    by_cases hp : p n = true
    · rw [if_pos hp, if_pos (h2 hp)]
      omega
    · rw [if_neg hp]
      omega
/-- one is taken out -/
theorem us_i {f : Nat → Nat} {p : Nat → Bool} {i : Nat} : ∀ n, i < n → p i = true → us f p n = us f (fun k => p k && decide (k ≠ i)) n + f i
  | 0, h, _ => by omega
  | n + 1, h, hp => by
    rw [us_s, us_s]
    by_cases hi : i = n
    · subst hi
      have e : us f (fun k => p k && decide (k ≠ i)) i = us f p i := us_c i (fun k hk => by rw [decide_eq_true (show k ≠ i by omega), Bool.and_true])
      rw [e, if_pos hp, if_neg (by rw [decide_eq_false (by omega), Bool.and_false]; decide), Nat.add_zero]
    · rw [us_i n (by omega) hp, decide_eq_true (show n ≠ i by omega), Bool.and_true]
      omega
theorem us_m {f : Nat → Nat} {p : Nat → Bool} {i n : Nat} (h : i < n) (hp : p i = true) : f i ≤ us f p n := by
  rw [us_i n h hp]
  omega
def Ws (f : Nat → Nat) (S : Nat) : Nat := us f (fun k => S.testBit k) 10
theorem pw_bits : ∀ i, i < 10 → ∀ R, R < 2 ^ i → ∀ k, k < 10 → (2 ^ i + R).testBit k = (decide (k = i) || R.testBit k) := by decide +kernel
theorem Ws_add (f : Nat → Nat) {i R : Nat} (hi : i < 10) (hR : R < 2 ^ i) : Ws f (2 ^ i + R) = Ws f R + f i := by
  unfold Ws
  rw [us_i (i := i) 10 hi (by rw [pw_bits i hi R hR i hi, decide_eq_true rfl, Bool.true_or])]
  congr 1
  refine us_c 10 (fun k hk => ?_)
  rw [pw_bits i hi R hR k hk]
  by_cases hki : k = i
  · subst hki
    rw [Nat.testBit_lt_two_pow hR, decide_eq_true rfl, decide_eq_false (by omega), Bool.and_false]
  · rw [decide_eq_false hki, decide_eq_true hki, Bool.false_or, Bool.and_true]
theorem sh_pow : ∀ k, k < 11 → (1 : Int32) <<< (nI k &&& 31) = nI (2 ^ k) := by decide +kernel
theorem pw_le : ∀ k, k < 11 → 2 ^ k ≤ 1024 := by decide
theorem bt_n {S k : Nat} (hk : k < 32) : bt (nI S) k = S.testBit k := by
  show (BitVec.ofNat 32 S).getLsbD k = _
  rw [BitVec.getLsbD_ofNat, decide_eq_true hk, Bool.true_and]
theorem ib_n {S k : Nat} (hk : k < 32) : ib (nI S) k = if S.testBit k = true then 1 else 0 := by
  rw [ib_bt, bt_n hk]
theorem ib_n0 {S k : Nat} (hk : k < 32) : ib (nI S) k = 0 ↔ S.testBit k = false := by
  rw [ib_n hk]
  cases S.testBit k
  · exact ⟨fun _ => rfl, fun _ => rfl⟩
  · exact ⟨fun h => absurd h (by decide), fun h => absurd h (by decide)⟩
theorem ib_n1 {S k : Nat} (hk : k < 32) : ib (nI S) k = 1 ↔ S.testBit k = true := by
  rw [ib_n hk]
  cases S.testBit k
  · exact ⟨fun h => absurd h (by decide), fun h => absurd h (by decide)⟩
  · exact ⟨fun _ => rfl, fun _ => rfl⟩
/-- weights and worths of a row -/
def fW (t : Nat → Int32) (k : Nat) : Nat := if (k : Int) < (t 17).toInt then (t (98 + 5 * k)).toNatClampNeg else 0
def gW (t : Nat → Int32) (k : Nat) : Nat := if (k : Int) < (t 17).toInt then (t (97 + 5 * k)).toNatClampNeg else 0
theorem fW_b {t : Nat → Int32} (hO : Ok t) (k : Nat) : fW t k ≤ 60 := by
  unfold fW
  split
  · rename_i h
    obtain ⟨-, h2, -⟩ := hO.2.2.1 k h
    have := cl_toInt (x := t (98 + 5 * k)) (by omega)
    omega
  · omega
theorem gW_b {t : Nat → Int32} (hO : Ok t) (k : Nat) : gW t k ≤ 99 := by
  unfold gW
  split
  · rename_i h
    obtain ⟨h1, -⟩ := hO.2.2.1 k h
    have := cl_toInt (x := t (97 + 5 * k)) (by omega)
    omega
  · omega
theorem fW_at {t : Nat → Int32} (hO : Ok t) {k : Nat} (h : (k : Int) < (t 17).toInt) : t (98 + 5 * k) = nI (fW t k) := by
  unfold fW
  rw [if_pos h]
  exact (nI_self (by have := (hO.2.2.1 k h).2.1; omega)).symm
theorem gW_at {t : Nat → Int32} (hO : Ok t) {k : Nat} (h : (k : Int) < (t 17).toInt) : t (97 + 5 * k) = nI (gW t k) := by
  unfold gW
  rw [if_pos h]
  exact (nI_self (by have := (hO.2.2.1 k h).1; omega)).symm
theorem fW_1 {t : Nat → Int32} (hO : Ok t) {k : Nat} (h : (k : Int) < (t 17).toInt) : 1 ≤ fW t k := by
  unfold fW
  rw [if_pos h]
  obtain ⟨-, h2, -⟩ := hO.2.2.1 k h
  have := cl_toInt (x := t (98 + 5 * k)) (by omega)
  omega
theorem Wf_b {t : Nat → Int32} (hO : Ok t) (S : Nat) : Ws (fW t) S ≤ 600 := us_b (fW_b hO) _ 10
theorem Wg_b {t : Nat → Int32} (hO : Ok t) (S : Nat) : Ws (gW t) S ≤ 990 := us_b (gW_b hO) _ 10
theorem bit_lt {S n k : Nat} (hS : S < 2 ^ n) (h : S.testBit k = true) : k < n := by
  rcases Nat.lt_or_ge k n with h1 | h1
  · exact h1
  · have : S.testBit k = false := Nat.testBit_lt_two_pow (Nat.lt_of_lt_of_le hS (Nat.pow_le_pow_right (by omega) h1))
    rw [this] at h
    exact absurd h (by decide)
theorem wt12 (τ : SS) (hO : Ok (τ 1)) {n S : Nat} (hn : n ≤ 10) (en : τ 1 17 = nI n) (hS : S < 2 ^ n) : pX12_weightOf τ (nI S) = some (nI (Ws (fW (τ 1)) S)) := by
  have n17 : (τ 1 17).toInt = n := by rw [en, nI_toInt (by omega)]
  unfold pX12_weightOf
  refine q_for (S := Int32) (R := Int32) (fun (f : Int32 → Int32 → Option Int32) s i => f s i) (m := 0) (n := 10) (by omega) (by omega) (fun j s => s = nI (us (fW (τ 1)) (fun k => S.testBit k) j)) (fun r => r = some (nI (Ws (fW (τ 1)) S))) ?_ ?_ 0 rfl
  · intro f j s hj1 hj2 hs ih
    subst hs
    try dsimp only
    rw [if_neg (fun hh => by have := (nI_leS (n := 10) (by omega) (by omega)).mp hh; omega)]
    simp only [lt_n]
    rw [ti_1 τ (by omega), cr_s, nI_s, shr_bit _ (by omega)]
    by_cases hb : S.testBit j = true
    · have hjn := bit_lt hS hb
      rw [if_pos ((ib_n1 (by omega)).mpr hb), fW_at hO (by omega), nI_add]
      exact ih _ (by rw [us_s, if_pos hb])
    · rw [if_neg (fun hh => hb ((ib_n1 (by omega)).mp hh)), Int32.add_zero]
      exact ih _ (by rw [us_s, if_neg hb, Nat.add_zero])
  · intro f s hs
    subst hs
    try dsimp only
    rw [if_pos (show (10 : Int32) ≤ nI 10 by decide)]
    rfl
theorem wo12 (τ : SS) (hO : Ok (τ 1)) {n S : Nat} (hn : n ≤ 10) (en : τ 1 17 = nI n) (hS : S < 2 ^ n) : pX12_worthOf τ (nI S) = some (nI (Ws (gW (τ 1)) S)) := by
  have n17 : (τ 1 17).toInt = n := by rw [en, nI_toInt (by omega)]
  unfold pX12_worthOf
  refine q_for (S := Int32) (R := Int32) (fun (f : Int32 → Int32 → Option Int32) s i => f s i) (m := 0) (n := 10) (by omega) (by omega) (fun j s => s = nI (us (gW (τ 1)) (fun k => S.testBit k) j)) (fun r => r = some (nI (Ws (gW (τ 1)) S))) ?_ ?_ 0 rfl
  · intro f j s hj1 hj2 hs ih
    subst hs
    try dsimp only
    rw [if_neg (fun hh => by have := (nI_leS (n := 10) (by omega) (by omega)).mp hh; omega)]
    simp only [lt_n]
    rw [ti_0 τ (by omega), cr_s, nI_s, shr_bit _ (by omega)]
    by_cases hb : S.testBit j = true
    · have hjn := bit_lt hS hb
      rw [if_pos ((ib_n1 (by omega)).mpr hb), gW_at hO (by omega), nI_add]
      exact ih _ (by rw [us_s, if_pos hb])
    · rw [if_neg (fun hh => hb ((ib_n1 (by omega)).mp hh)), Int32.add_zero]
      exact ih _ (by rw [us_s, if_neg hb, Nat.add_zero])
  · intro f s hs
    subst hs
    try dsimp only
    rw [if_pos (show (10 : Int32) ≤ nI 10 by decide)]
    rfl
/-- the class's rows of all sets -/
def CW (s : SS) (f g : Nat → Nat) (N : Nat) : Prop := ∀ S, S < N → s 6 S = nI (Ws f S) ∧ s 7 S = nI (Ws g S)
set_option maxHeartbeats 4000000 in
theorem addUp1 {s : SS} {n : Nat} {f g : Nat → Nat} (hn : n ≤ 10) (en : s 2 0 = nI n) (hf : ∀ k, k < n → s 4 k = nI (f k)) (hg : ∀ k, k < n → s 3 k = nI (g k)) (h6 : s 6 0 = 0) (h7 : s 7 0 = 0) : ∃ s', pX1_addUp s = some s' ∧ CW s' f g (2 ^ n) ∧ ∀ x, x ≠ 6 → x ≠ 7 → s' x = s x := by
  unfold pX1_addUp
  refine q_for (S := SS) (R := SS) (fun (f : SS → Int32 → Option SS) s i => f s i) (m := 0) (n := n) (by omega) (by omega) (fun j b => CW b f g (2 ^ j) ∧ ∀ x, x ≠ 6 → x ≠ 7 → b x = s x) (fun o => ∃ s', o = some s' ∧ CW s' f g (2 ^ n) ∧ ∀ x, x ≠ 6 → x ≠ 7 → s' x = s x) ?_ ?_ s ⟨fun S hS => ?_, fun _ _ _ => rfl⟩
  · rintro F i b hi1 hi2 ⟨hb1, hb2⟩ ih
    try dsimp only
    have hp := pw_le (i + 1) (by omega)
    have hpp : 2 ^ (i + 1) = 2 * 2 ^ i := by rw [Nat.pow_succ, Nat.mul_comm]
    rw [hb2 2 (by omega) (by omega), en, if_neg (by rw [nI_leS (by omega) (by omega)]; omega), lt_v, sh_pow i (by omega)]
    refine q_for (S := SS) (R := SS) (fun (f : SS → Int32 → Option SS) s i => f s i) (m := 2 ^ i) (n := 2 ^ (i + 1)) (by omega) (by omega) (fun c b => CW b f g c ∧ ∀ x, x ≠ 6 → x ≠ 7 → b x = s x) (fun o => ∃ s', o = some s' ∧ CW s' f g (2 ^ n) ∧ ∀ x, x ≠ 6 → x ≠ 7 → s' x = s x) ?_ ?_ b ⟨hb1, hb2⟩
    · rintro F2 c b2 hc1 hc2 ⟨h1, h2⟩ ih2
      try dsimp only
      obtain ⟨R, rfl⟩ : ∃ R, c = 2 ^ i + R := ⟨c - 2 ^ i, by omega⟩
      obtain ⟨a6, a7⟩ := h1 R (by omega)
      have pos : 0 < 2 ^ i := Nat.pow_pos (by omega)
      rw [show (2 : Int32) * nI (2 ^ i) = nI (2 * 2 ^ i) from pk_mul 2 (2 ^ i), if_neg (by rw [nI_leS (by omega) (by omega)]; omega), pk_sub (by omega), show 2 ^ i + R - 2 ^ i = R by omega, rd_n _ _ (by omega), rd_n _ _ (by omega), wr_n _ _ _ _ (by omega), rd_n _ _ (by omega), rd_n _ _ (by omega), wr_n _ _ _ _ (by omega), nI_s]
      rw [show su b2 6 (2 ^ i + R) (b2 6 R + b2 4 i) 7 = b2 7 from rfl, show su b2 6 (2 ^ i + R) (b2 6 R + b2 4 i) 3 = b2 3 from rfl, a6, a7, h2 4 (by omega) (by omega), h2 3 (by omega) (by omega), hf i hi2, hg i hi2, nI_add, nI_add]
      refine ih2 _ ⟨fun S hS => ?_, fun x hx6 hx7 => ?_⟩
      · show upd (b2 6) (2 ^ i + R) _ S = _ ∧ upd (b2 7) (2 ^ i + R) _ S = _
        by_cases hSc : S = 2 ^ i + R
        · subst hSc
          rw [upd_at, upd_at, Ws_add f (by omega) (by omega), Ws_add g (by omega) (by omega)]
          exact ⟨rfl, rfl⟩
        · rw [upd_ne hSc, upd_ne hSc]
          exact h1 S (by omega)
      · rw [ud_ne _ _ _ hx7, ud_ne _ _ _ hx6, h2 x hx6 hx7]
    · rintro F2 b2 ⟨h1, h2⟩
      try dsimp only
      rw [show (2 : Int32) * nI (2 ^ i) = nI (2 * 2 ^ i) from pk_mul 2 (2 ^ i), if_pos (by rw [nI_leS (by omega) (by omega)]; omega), nI_s]
      exact ih b2 ⟨h1, h2⟩
  · rintro F b ⟨hb1, hb2⟩
    try dsimp only
    rw [hb2 2 (by omega) (by omega), en, if_pos (by rw [nI_leS (by omega) (by omega)]; omega)]
    exact ⟨b, rfl, hb1, hb2⟩
  · have : S = 0 := by
      have : (2 : Nat) ^ 0 = 1 := rfl
      omega
    subst this
    have z : ∀ f : Nat → Nat, Ws f 0 = 0 := fun f => by
      unfold Ws
      have : us f (fun k => Nat.testBit 0 k) 10 ≤ us f (fun _ => false) 10 := us_le 10 (fun k _ h => by rw [Nat.zero_testBit] at h; exact h)
      have h2 : us f (fun _ => false) 10 = 0 := rfl
      omega
    rw [z, z, h6, h7]
    exact ⟨rfl, rfl⟩
def bst (P : Nat → Bool) (w : Nat → Nat) : Nat → Nat
  | 0 => 0
  | k + 1 => if P (k + 1) = true ∧ w (bst P w k) < w (k + 1) then k + 1 else bst P w k
theorem bst_le (P : Nat → Bool) (w : Nat → Nat) : ∀ k, bst P w k ≤ k
  | 0 => Nat.le_refl _
  | k + 1 => by
    have := bst_le P w k
    unfold bst
    split <;> omega
theorem bst_s (P : Nat → Bool) (w : Nat → Nat) {j : Nat} (hj : 1 ≤ j) : bst P w (j + 1 - 1) = if P j = true ∧ w (bst P w (j - 1)) < w j then j else bst P w (j - 1) := by
  obtain ⟨i, rfl⟩ : ∃ i, j = i + 1 := ⟨j - 1, by omega⟩
  rfl
theorem bst_c {P Q : Nat → Bool} {w : Nat → Nat} : ∀ k, (∀ j, 1 ≤ j → j ≤ k → P j = Q j) → bst P w k = bst Q w k
  | 0, _ => rfl
  | k + 1, h => by
    unfold bst
    rw [bst_c k (fun j h1 h2 => h j h1 (by omega)), h (k + 1) (by omega) (by omega)]
theorem shel1 {s : SS} {n : Nat} {f g : Nat → Nat} (hn : n ≤ 10) (en : s 2 0 = nI n) (hf : ∀ k, k < n → s 4 k = nI (f k)) (hg : ∀ k, k < n → s 3 k = nI (g k)) (h6 : s 6 0 = 0) (h7 : s 7 0 = 0) (bf : ∀ S, Ws f S ≤ 2000) (bg : ∀ S, Ws g S ≤ 2000) {room : Nat} (hr : room ≤ 600) (w : Int32) : ∃ s', pX1_shelved s (nI room) w = some (if w = 0 then nI (bst (fun S => decide (Ws f S ≤ room)) (Ws g) (2 ^ n - 1)) else nI (Ws g (bst (fun S => decide (Ws f S ≤ room)) (Ws g) (2 ^ n - 1))), s') ∧ CW s' f g (2 ^ n) ∧ ∀ x, x ≠ 6 → x ≠ 7 → s' x = s x := by
  obtain ⟨s1, a1, a2, a3⟩ := addUp1 hn en hf hg h6 h7
  have hp := pw_le n (by omega)
  have pos : 0 < 2 ^ n := Nat.pow_pos (by omega)
  unfold pX1_shelved
  rw [a1, cs_s]
  refine ⟨s1, ?_, a2, a3⟩
  refine q_for (S := Int32) (R := Int32 × SS) (fun (f : Int32 → Int32 → Option (Int32 × SS)) s i => f s i) (m := 1) (n := 2 ^ n) (by omega) (by omega) (fun j b => b = nI (bst (fun S => decide (Ws f S ≤ room)) (Ws g) (j - 1))) (fun o => o = some (if w = 0 then nI (bst (fun S => decide (Ws f S ≤ room)) (Ws g) (2 ^ n - 1)) else nI (Ws g (bst (fun S => decide (Ws f S ≤ room)) (Ws g) (2 ^ n - 1))), s1)) ?_ ?_ 0 rfl
  · intro F j b hj1 hj2 hb ih
    subst hb
    try dsimp only
    have hl := bst_le (fun S => decide (Ws f S ≤ room)) (Ws g) (j - 1)
    have es := bst_s (fun S => decide (Ws f S ≤ room)) (Ws g) hj1
    try dsimp only at es
    generalize bst (fun S => decide (Ws f S ≤ room)) (Ws g) (j - 1) = B at hl es
    rw [a3 2 (by omega) (by omega), en, sh_pow n (by omega), if_neg (by rw [nI_leS (by omega) (by omega)]; omega), rd_n _ _ (by omega), (a2 j hj2).1]
    simp only [lt_n]
    have b1 := bf j
    have b2 := bg j
    have b3 := bg B
    rw [rd_n _ _ (by omega), rd_n _ _ (by omega), (a2 j hj2).2, (a2 B (by omega)).2, nI_s]
    by_cases c1 : room < Ws f j
    · rw [if_pos ((nI_ltS (by omega) (by omega)).mpr c1)]
      exact ih _ (by rw [es, if_neg (fun hh => by have := of_decide_eq_true hh.1; omega)])
    · rw [if_neg (fun hh => c1 ((nI_ltS (by omega) (by omega)).mp hh))]
      by_cases c2 : Ws g j ≤ Ws g B
      · rw [if_pos ((nI_leS (by omega) (by omega)).mpr c2)]
        exact ih _ (by rw [es, if_neg (fun hh => by have := hh.2; omega)])
      · rw [if_neg (fun hh => c2 ((nI_leS (by omega) (by omega)).mp hh))]
        exact ih _ (by rw [es, if_pos ⟨decide_eq_true (by omega), by omega⟩])
  · intro F b hb
    subst hb
    try dsimp only
    have hl := bst_le (fun S => decide (Ws f S ≤ room)) (Ws g) (2 ^ n - 1)
    rw [a3 2 (by omega) (by omega), en, sh_pow n (by omega), if_pos (by rw [nI_leS (by omega) (by omega)]; omega)]
    simp only [lt_n]
    rw [rd_n _ _ (by omega), (a2 _ (by omega)).2]
    split <;> rfl
/-! ===== the relation, with the rows of sets ===== -/
def Rel2 (σ τ : SS) : Prop := Rel σ τ ∧ σ 69 0 = 0 ∧ σ 70 0 = 0
theorem R2_tell {σ τ : SS} (h : Rel2 σ τ) {k : Nat} (hk : k < 7) : Rel2 (su σ 1 k (σ 1 k + 1)) (su τ 4 k (τ 4 k + 1)) := ⟨R_tell h.1 hk, h.2⟩
theorem em5 (σ s' : SS) (h : ∀ x, x < 6 → s' x = q_ap 2 (q_sb σ 67) (q_ap 4 (q_sb σ 11) (q_sb σ 69)) x) : (∀ x, x < 67 → q_em (q_em (q_em σ 67 0 2 s') 11 2 4 s') 69 6 3 s' x = σ x) ∧ q_em (q_em (q_em σ 67 0 2 s') 11 2 4 s') 69 6 3 s' 69 = s' 6 ∧ q_em (q_em (q_em σ 67 0 2 s') 11 2 4 s') 69 6 3 s' 70 = s' 7 := by
  refine ⟨fun x hx => ?_, em_in 0 (by omega), em_in 1 (by omega)⟩
  rw [em_out (by omega)]
  by_cases h3 : 11 ≤ x ∧ x < 15
  · obtain ⟨i, rfl⟩ : ∃ i, x = 11 + i := ⟨x - 11, by omega⟩
    rw [em_in i (by omega), h _ (by omega), ap_hi, ap_lo (by omega)]
    rfl
  · rw [em_out (by omega), em_out (by omega)]
theorem ch_cells (σ : SS) : (∀ i, i < 2 → q_ap 2 (q_sb σ 67) (q_ap 4 (q_sb σ 11) (q_sb σ 69)) i = σ (67 + i)) ∧ (∀ i, i < 4 → q_ap 2 (q_sb σ 67) (q_ap 4 (q_sb σ 11) (q_sb σ 69)) (2 + i) = σ (11 + i)) ∧ ∀ i, q_ap 2 (q_sb σ 67) (q_ap 4 (q_sb σ 11) (q_sb σ 69)) (6 + i) = σ (69 + i) := by
  refine ⟨fun i hi => ap_lo hi, fun i hi => ?_, fun i => ?_⟩
  · rw [ap_hi, ap_lo hi]
    rfl
  · rw [show 6 + i = 2 + (4 + i) by omega, ap_hi, ap_hi]
    rfl
theorem s_shelf : S_shelf Rel2 := by
  intro σ τ a1 a2 h2
  have h := h2.1
  have R0 : Rel2 (su σ 1 0 (σ 1 0 + 1)) (su τ 4 0 (τ 4 0 + 1)) := R2_tell h2 (by decide)
  unfold pX11_shelf pX12_shelf
  rw [within_eq, in_eq, cr_s, cr_s, lt_v, lt_v, tell_0, find_0, ci_s, ci_s]
  by_cases h1 : wi a1 0 600 = 0
  · rw [if_pos h1, if_pos h1]
    exact ⟨_, _, _, rfl, rfl, R0⟩
  rw [if_neg h1, if_neg h1, within_eq, in_eq, cr_s, cr_s]
  by_cases h3 : wi a2 0 1 = 0
  · rw [if_pos h3, if_pos h3]
    exact ⟨_, _, _, rfl, rfl, R0⟩
  rw [if_neg h3, if_neg h3]
  obtain ⟨room, hr, rfl⟩ := num_of (a := a1) (n := 600) (wi_ok h1).1 (wi_ok h1).2
  have hO := h.1.1
  have o2 := hO.1.2.1
  obtain ⟨n, hn, en⟩ := num_of (a := τ 1 17) (n := 10) o2.1 o2.2
  have n17 : (τ 1 17).toInt = n := by rw [en, nI_toInt (by omega)]
  obtain ⟨d1, d2⟩ := h.1.2.1.2.2.2.1
  obtain ⟨u1, u2, u3⟩ := ch_cells σ
  have e17 : σ 11 0 = τ 1 17 := (R_sc h).2.2.2.2.2.2.2.2.2.2.2.2.2.2.2.2.2.1
  obtain ⟨s', p1, p2, p3⟩ := shel1 (s := q_ap 2 (q_sb σ 67) (q_ap 4 (q_sb σ 11) (q_sb σ 69))) (n := n) (f := fW (τ 1)) (g := gW (τ 1)) hn (by rw [show q_ap 2 (q_sb σ 67) (q_ap 4 (q_sb σ 11) (q_sb σ 69)) 2 = σ 11 from u2 0 (by omega), e17, en]) (fun k hk => by
    rw [show q_ap 2 (q_sb σ 67) (q_ap 4 (q_sb σ 11) (q_sb σ 69)) 4 = σ 13 from u2 2 (by omega), ← fW_at hO (by omega)]
    exact (d1 k (by omega)).2.1) (fun k hk => by
    rw [show q_ap 2 (q_sb σ 67) (q_ap 4 (q_sb σ 11) (q_sb σ 69)) 3 = σ 12 from u2 1 (by omega), ← gW_at hO (by omega)]
    exact (d1 k (by omega)).1) (by rw [show q_ap 2 (q_sb σ 67) (q_ap 4 (q_sb σ 11) (q_sb σ 69)) 6 = σ 69 from u3 0]; exact h2.2.1) (by rw [show q_ap 2 (q_sb σ 67) (q_ap 4 (q_sb σ 11) (q_sb σ 69)) 7 = σ 70 from u3 1]; exact h2.2.2) (fun S => by have := Wf_b hO S; omega) (fun S => by have := Wg_b hO S; omega) hr a2
  obtain ⟨m1, m2, m3⟩ := em5 σ s' (fun x hx => p3 x (by omega) (by omega))
  have pos : 0 < 2 ^ n := Nat.pow_pos (by omega)
  have hp := pw_le n (by omega)
  have z0 : ∀ f : Nat → Nat, nI (Ws f 0) = 0 := fun f => by
    have : Ws f 0 = 0 := by
      unfold Ws
      have : us f (fun k => Nat.testBit 0 k) 10 ≤ us f (fun _ => false) 10 := us_le 10 (fun k _ h => by rw [Nat.zero_testBit] at h; exact h)
      have h2 : us f (fun _ => false) 10 = 0 := rfl
      omega
    rw [this]
    rfl
  rw [p1, ci_s]
  refine ⟨_, _, τ, rfl, ?_, R_same h (fun x hx => m1 x (by omega)) (fun _ _ => rfl) rfl rfl (fun _ _ => rfl), by rw [m2, (p2 0 pos).1]; exact z0 _, by rw [m3, (p2 0 pos).2]; exact z0 _⟩
  refine q_for (S := Int32) (R := Int32 × SS) (fun (f : Int32 → Int32 → Option (Int32 × SS)) s i => f s i) (m := 1) (n := 2 ^ n) (by omega) (by omega) (fun j b => b = nI (bst (fun S => decide (Ws (fW (τ 1)) S ≤ room)) (Ws (gW (τ 1))) (j - 1))) (fun o => o = some (if a2 = 0 then nI (bst (fun S => decide (Ws (fW (τ 1)) S ≤ room)) (Ws (gW (τ 1))) (2 ^ n - 1)) else nI (Ws (gW (τ 1)) (bst (fun S => decide (Ws (fW (τ 1)) S ≤ room)) (Ws (gW (τ 1))) (2 ^ n - 1))), τ)) ?_ ?_ 0 rfl
  · intro F j b hj1 hj2 hb ih
    subst hb
    try dsimp only
    have hl := bst_le (fun S => decide (Ws (fW (τ 1)) S ≤ room)) (Ws (gW (τ 1))) (j - 1)
    have es := bst_s (fun S => decide (Ws (fW (τ 1)) S ≤ room)) (Ws (gW (τ 1))) hj1
    try dsimp only at es
    generalize bst (fun S => decide (Ws (fW (τ 1)) S ≤ room)) (Ws (gW (τ 1))) (j - 1) = B at hl es
    rw [Q1_17, en, sh_pow n (by omega), if_neg (by rw [nI_leS (by omega) (by omega)]; omega), wt12 τ hO hn en hj2, cr_s]
    simp only [lt_n]
    have b1 := Wf_b hO j
    have b2 := Wg_b hO j
    have b3 := Wg_b hO B
    rw [wo12 τ hO hn en hj2, wo12 τ hO hn en (show B < 2 ^ n by omega), cr_s, cr_s, nI_s]
    by_cases c1 : room < Ws (fW (τ 1)) j
    · rw [if_pos ((nI_ltS (by omega) (by omega)).mpr c1)]
      exact ih _ (by rw [es, if_neg (fun hh => by have := of_decide_eq_true hh.1; omega)])
    · rw [if_neg (fun hh => c1 ((nI_ltS (by omega) (by omega)).mp hh))]
      by_cases c2 : Ws (gW (τ 1)) j ≤ Ws (gW (τ 1)) B
      · rw [if_pos ((nI_leS (by omega) (by omega)).mpr c2)]
        exact ih _ (by rw [es, if_neg (fun hh => by have := hh.2; omega)])
      · rw [if_neg (fun hh => c2 ((nI_leS (by omega) (by omega)).mp hh))]
        exact ih _ (by rw [es, if_pos ⟨decide_eq_true (by omega), by omega⟩])
  · intro F b hb
    subst hb
    try dsimp only
    have hl := bst_le (fun S => decide (Ws (fW (τ 1)) S ≤ room)) (Ws (gW (τ 1))) (2 ^ n - 1)
    rw [Q1_17, en, sh_pow n (by omega), if_pos (by rw [nI_leS (by omega) (by omega)]; omega)]
    simp only [lt_n]
    rw [wo12 τ hO hn en (by omega), cr_s]
    split <;> rfl
