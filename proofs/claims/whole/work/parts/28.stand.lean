/-! ===== things in a minute ===== -/
def mStand (r : Nat → Int32) (n : Nat) : Nat → Int32 := fun k => if 101 ≤ k ∧ k < 101 + 5 * n ∧ (k - 101) % 5 = 0 ∧ r (k - 1) = 0 ∧ r (k - 2) < r 2 then 1 else r k
def mMin (t : Nat → Int32) : Nat → Int32 := upd (mPumps (mRises t)) 8 (mPumps (mRises t) 8 + 1)
def mGoes (t : Nat → Int32) : Nat → Int32 := mStand (mMin t) (mMin t 17).toNatClampNeg
theorem stand_0 (r : Nat → Int32) : mStand r 0 = r := by
  funext k
  exact if_neg (by omega)
theorem stand_no (r : Nat → Int32) {n k : Nat} (h : k < 101 ∨ 101 + 5 * n ≤ k ∨ (k - 101) % 5 ≠ 0) : mStand r n k = r k := if_neg (by omega)
theorem stand_at (r : Nat → Int32) {n j : Nat} (h : j < n) : mStand r n (101 + 5 * j) = if r (100 + 5 * j) = 0 ∧ r (99 + 5 * j) < r 2 then 1 else r (101 + 5 * j) := by
  unfold mStand
  rw [show 101 + 5 * j - 1 = 100 + 5 * j by omega, show 101 + 5 * j - 2 = 99 + 5 * j by omega]
  by_cases hc : r (100 + 5 * j) = 0 ∧ r (99 + 5 * j) < r 2
  · rw [if_pos hc, if_pos ⟨by omega, by omega, by omega, hc.1, hc.2⟩]
  · rw [if_neg hc, if_neg (fun h => hc ⟨h.2.2.2.1, h.2.2.2.2⟩)]
theorem stand_y (r : Nat → Int32) (n : Nat) (h0 : r (100 + 5 * n) = 0) (h1 : r (99 + 5 * n) < r 2) : upd (mStand r n) (101 + 5 * n) 1 = mStand r (n + 1) := by
  funext k
  by_cases h : k = 101 + 5 * n
  · subst h
    rw [upd_at, stand_at r (by omega), if_pos ⟨h0, h1⟩]
  · rw [upd_ne h]
    by_cases h2 : k < 101 ∨ 101 + 5 * n ≤ k ∨ (k - 101) % 5 ≠ 0
    · rw [stand_no r h2, stand_no r (by omega)]
    · obtain ⟨j, rfl⟩ : ∃ j, k = 101 + 5 * j := ⟨(k - 101) / 5, by omega⟩
      rw [stand_at r (by omega), stand_at r (by omega)]
theorem stand_n (r : Nat → Int32) (n : Nat) (h : ¬ (r (100 + 5 * n) = 0 ∧ r (99 + 5 * n) < r 2)) : mStand r n = mStand r (n + 1) := by
  funext k
  by_cases h1 : k = 101 + 5 * n
  · subst h1
    rw [stand_no r (n := n) (by omega), stand_at r (n := n + 1) (by omega), if_neg h]
  · by_cases h2 : k < 101 ∨ 101 + 5 * n ≤ k ∨ (k - 101) % 5 ≠ 0
    · rw [stand_no r h2, stand_no r (by omega)]
    · obtain ⟨j, rfl⟩ : ∃ j, k = 101 + 5 * j := ⟨(k - 101) / 5, by omega⟩
      rw [stand_at r (by omega), stand_at r (by omega)]
theorem thingIts_eq (τ : SS) {k j : Nat} (hk : k < 10) (hj : j < 5) : pX12_thingIts τ (nI k) (nI j) = some (τ 1 (97 + 5 * k + j)) := by
  unfold pX12_thingIts
  rw [show (97 : Int32) = nI 97 from rfl, show (5 : Int32) = nI 5 from rfl, pk_mul, nI_add, nI_add, rd_n _ _ (by omega)]
theorem ti_3 (τ : SS) {k : Nat} (hk : k < 10) : pX12_thingIts τ (nI k) 3 = some (τ 1 (100 + 5 * k)) := by
  rw [show 100 + 5 * k = 97 + 5 * k + 3 by omega]; exact thingIts_eq τ hk (by decide)
theorem ti_2 (τ : SS) {k : Nat} (hk : k < 10) : pX12_thingIts τ (nI k) 2 = some (τ 1 (99 + 5 * k)) := by
  rw [show 99 + 5 * k = 97 + 5 * k + 2 by omega]; exact thingIts_eq τ hk (by decide)
theorem ti_4 (τ : SS) {k : Nat} (hk : k < 10) : pX12_thingIts τ (nI k) 4 = some (τ 1 (101 + 5 * k)) := by
  rw [show 101 + 5 * k = 97 + 5 * k + 4 by omega]; exact thingIts_eq τ hk (by decide)
theorem ti_1 (τ : SS) {k : Nat} (hk : k < 10) : pX12_thingIts τ (nI k) 1 = some (τ 1 (98 + 5 * k)) := by
  rw [show 98 + 5 * k = 97 + 5 * k + 1 by omega]; exact thingIts_eq τ hk (by decide)
theorem ti_0 (τ : SS) {k : Nat} (hk : k < 10) : pX12_thingIts τ (nI k) 0 = some (τ 1 (97 + 5 * k)) := thingIts_eq τ hk (j := 0) (by decide)
/-- the row's minute -/
theorem goes12 (τ : SS) (h16 : 0 ≤ (τ 1 16).toInt ∧ (τ 1 16).toInt ≤ 8) (hpo : PO (mRises (τ 1))) (h17 : 0 ≤ (mMin (τ 1) 17).toInt ∧ (mMin (τ 1) 17).toInt ≤ 10) : pX12_goes τ = some (q_sc τ 1 (mGoes (τ 1))) := by
  have hn := cl_toInt h17.1
  have hself := nI_self h17.1
  unfold pX12_goes
  rw [rises12 τ h16, cs_s]
  have hp := pumps12 (q_sc τ 1 (mRises (τ 1))) (by rw [sc_at]; exact hpo)
  rw [sc_at, sc_sc] at hp
  rw [hp, cs_s, R1_8, W1_8, sc_at, sc_sc]
  refine q_lp_rel (S := SS × Int32) (R := SS) (fun (f : SS → Int32 → Option SS) s => f s.1 s.2) (fun k s => ∃ j : Nat, j + k = (mMin (τ 1) 17).toNatClampNeg ∧ s = (q_sc τ 1 (mStand (mMin (τ 1)) j), nI j)) (fun r => r = some (q_sc τ 1 (mGoes (τ 1)))) ?_ q_fu (mMin (τ 1) 17).toNatClampNeg (q_sc τ 1 (mMin (τ 1)), 0) ⟨0, by omega, by rw [stand_0]; rfl⟩ (fu_lt (by omega))
  rintro f k s ⟨j, hj, rfl⟩ ih
  dsimp only
  rw [sc_at, R1_17]
  have e17 : mStand (mMin (τ 1)) j 17 = nI (mMin (τ 1) 17).toNatClampNeg := by rw [stand_no _ (by omega)]; exact hself.symm
  rw [e17]
  by_cases hk : k = 0
  · have hjn : j = (mMin (τ 1) 17).toNatClampNeg := by omega
    rw [if_pos (by rw [hjn]; exact Int32.le_refl _), hjn]
    rfl
  · rw [if_neg (by rw [nI_leI (by omega) (by omega)]; omega)]
    have hj10 : j < 10 := by omega
    have step : ∀ σ' : SS, σ' = q_sc τ 1 (mStand (mMin (τ 1)) (j + 1)) → f σ' (nI j + 1) = some (q_sc τ 1 (mGoes (τ 1))) := fun σ' hσ => by
      rw [hσ, nI_1]
      exact ih (q_sc τ 1 (mStand (mMin (τ 1)) (j + 1)), nI (j + 1)) (k - 1) (by omega) ⟨j + 1, by omega, rfl⟩
    have ei : (((97 : Int32) + ((5 : Int32) * nI j)) + (4 : Int32)) = nI (101 + 5 * j) := by
      rw [show (97 : Int32) = nI 97 from rfl, show (5 : Int32) = nI 5 from rfl, show (4 : Int32) = nI 4 from rfl, pk_mul, nI_add, nI_add]
      congr 1
      omega
    rw [ti_3 _ hj10, ti_2 _ hj10]
    simp only [lt_v, cr_s, sc_at, R1_2]
    rw [ei, stand_no _ (show 100 + 5 * j < 101 ∨ 101 + 5 * j ≤ 100 + 5 * j ∨ (100 + 5 * j - 101) % 5 ≠ 0 by omega), stand_no _ (show 99 + 5 * j < 101 ∨ 101 + 5 * j ≤ 99 + 5 * j ∨ (99 + 5 * j - 101) % 5 ≠ 0 by omega), stand_no _ (show 2 < 101 ∨ 101 + 5 * j ≤ 2 ∨ (2 - 101) % 5 ≠ 0 by omega)]
    by_cases h0 : mMin (τ 1) (100 + 5 * j) = 0
    · rw [if_pos h0]
      by_cases h1 : mMin (τ 1) 2 ≤ mMin (τ 1) (99 + 5 * j)
      · rw [if_pos h1]
        exact step _ (by rw [stand_n _ _ (fun h => by rw [i_le] at h1; have := i_lt.mp h.2; omega)])
      · rw [if_neg h1, wr_n _ _ _ _ (by omega), sc_su]
        exact step _ (by rw [stand_y _ _ h0 (by rw [i_lt]; rw [i_le] at h1; omega)])
    · rw [if_neg h0]
      exact step _ (by rw [stand_n _ _ (fun h => h0 h.1)])
theorem standIn0 (th : SS) (d : Int32) {n : Nat} (hn : n ≤ 10) (h0 : th 0 0 = nI n) : ∃ th2, pX9_standIn th d = some th2 ∧ (∀ x, x ≠ 0 → th2 x = th x) ∧ (∀ k, k ≠ 5 → th2 0 k = th 0 k) ∧ ∀ k, ib (th2 0 5) k = if k < n ∧ ib (th 0 4) k = 0 ∧ th 3 k < d then 1 else ib (th 0 5) k := by
  unfold pX9_standIn
  refine q_lp_rel (S := SS × Int32) (R := SS) (fun (f : SS → Int32 → Option SS) s => f s.1 s.2) (fun k s => ∃ j : Nat, j + k = n ∧ s.2 = nI j ∧ (∀ x, x ≠ 0 → s.1 x = th x) ∧ (∀ k, k ≠ 5 → s.1 0 k = th 0 k) ∧ ∀ k, ib (s.1 0 5) k = if k < j ∧ ib (th 0 4) k = 0 ∧ th 3 k < d then 1 else ib (th 0 5) k) (fun r => ∃ th2 : SS, r = some th2 ∧ (∀ x, x ≠ 0 → th2 x = th x) ∧ (∀ k, k ≠ 5 → th2 0 k = th 0 k) ∧ ∀ k, ib (th2 0 5) k = if k < n ∧ ib (th 0 4) k = 0 ∧ th 3 k < d then 1 else ib (th 0 5) k) ?_ q_fu n (th, 0) ⟨0, by omega, rfl, fun _ _ => rfl, fun _ _ => rfl, fun k => by rw [if_neg (by omega)]⟩ (fu_lt (by omega))
  rintro f k ⟨σ2, x2⟩ ⟨j, hj, rfl, hx, hk0, hb⟩ ih
  dsimp only at hx hk0 hb ⊢
  have e00 : σ2 0 0 = nI n := (hk0 0 (by decide)).trans h0
  by_cases hk : k = 0
  · have hjn : j = n := by omega
    rw [if_pos (show σ2 0 0 ≤ nI j by rw [e00, hjn]; exact Int32.le_refl _)]
    exact ⟨σ2, rfl, hx, hk0, by rw [hjn] at hb; exact hb⟩
  · rw [if_neg (show ¬ σ2 0 0 ≤ nI j by rw [e00, nI_leI (by omega) (by omega)]; omega), rd_n _ _ (by omega), lt_v, nI_1]
    have e3 : σ2 3 j = th 3 j := by rw [hx 3 (by decide)]
    have e4 : σ2 0 4 = th 0 4 := hk0 4 (by decide)
    simp only [e3, e4]
    by_cases h1 : d ≤ th 3 j
    · rw [if_pos h1]
      refine ih (σ2, nI (j + 1)) (k - 1) (by omega) ⟨j + 1, by omega, rfl, hx, hk0, fun q => ?_⟩
      dsimp only
      rw [hb q]
      by_cases hq : q = j
      · subst hq
        rw [if_neg (by omega), if_neg (fun h => by rw [i_le] at h1; have := i_lt.mp h.2.2; omega)]
      · by_cases hc : q < j ∧ ib (th 0 4) q = 0 ∧ th 3 q < d
        · rw [if_pos hc, if_pos ⟨by omega, hc.2⟩]
        · rw [if_neg hc, if_neg (fun h => hc ⟨by omega, h.2⟩)]
    · rw [if_neg h1]
      by_cases h2 : (th 0 4 &&& ((1 : Int32) <<< (nI j &&& 31))) = 0
      · rw [if_pos h2, lt_v]
        refine ih (su σ2 0 5 (σ2 0 5 ||| ((1 : Int32) <<< (nI j &&& 31))), nI (j + 1)) (k - 1) (by omega) ⟨j + 1, by omega, rfl, fun x hx0 => (if_neg hx0).trans (hx x hx0), fun q hq => ?_, fun q => ?_⟩
        · show upd (σ2 0) 5 _ q = _
          rw [upd_ne hq]
          exact hk0 q hq
        · show ib (σ2 0 5 ||| ((1 : Int32) <<< (nI j &&& 31))) q = _
          rw [or_bit _ (by omega), hb q]
          by_cases hq : q = j
          · subst hq
            rw [if_pos rfl, if_pos ⟨by omega, (and_bit _ (by omega)).mp h2, by rw [i_lt]; rw [i_le] at h1; omega⟩]
          · rw [if_neg hq]
            by_cases hc : q < j ∧ ib (th 0 4) q = 0 ∧ th 3 q < d
            · rw [if_pos hc, if_pos ⟨by omega, hc.2⟩]
            · rw [if_neg hc, if_neg (fun h => hc ⟨by omega, h.2⟩)]
      · rw [if_neg h2]
        refine ih (σ2, nI (j + 1)) (k - 1) (by omega) ⟨j + 1, by omega, rfl, hx, hk0, fun q => ?_⟩
        dsimp only
        rw [hb q]
        by_cases hq : q = j
        · subst hq
          rw [if_neg (by omega), if_neg (fun h => h2 ((and_bit _ (by omega)).mpr h.2.1))]
        · by_cases hc : q < j ∧ ib (th 0 4) q = 0 ∧ th 3 q < d
          · rw [if_pos hc, if_pos ⟨by omega, hc.2⟩]
          · rw [if_neg hc, if_neg (fun h => hc ⟨by omega, h.2⟩)]
