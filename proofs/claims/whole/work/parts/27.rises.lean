/-! ===== what comes in a minute ===== -/
def mGr (t : Nat → Int32) : Int32 := if (t 1 + t 0) - (t 1 + t 0) / 50 ≤ 999 then (t 1 + t 0) - (t 1 + t 0) / 50 else 999
def mSoak (t : Nat → Int32) : Nat → Int32 := upd t 1 (mGr t)
def mSum (t : Nat → Int32) : Nat → Int32
  | 0 => 0
  | n + 1 => mSum t n + mComes t n
def mW (t : Nat → Int32) (n : Nat) : Nat → Int32 := fun k => if 68 ≤ k ∧ k < 68 + 4 * n ∧ (k - 68) % 4 = 0 then t k + mComes t ((k - 68) / 4) else t k
def mIn (t : Nat → Int32) (n : Nat) : Nat → Int32 := upd (upd (mW t n) 11 (t 11 + mSum t n)) 2 (t 2 + mSum t n)
def mOver (r : Nat → Int32) : Nat → Int32 := if r 2 ≤ 9999 then r else upd (upd r 13 (r 13 + (r 2 - 9999))) 2 9999
def mRises (t : Nat → Int32) : Nat → Int32 := mOver (mIn (mSoak t) (t 16).toNatClampNeg)
theorem mW_0 (t : Nat → Int32) : mW t 0 = t := by
  funext k
  unfold mW
  exact if_neg (by omega)
theorem mW_no (t : Nat → Int32) {n k : Nat} (h : k < 68 ∨ 68 + 4 * n ≤ k ∨ (k - 68) % 4 ≠ 0) : mW t n k = t k := if_neg (by omega)
theorem mW_at (t : Nat → Int32) {n w : Nat} (h : w < n) : mW t n (68 + 4 * w) = t (68 + 4 * w) + mComes t w := by
  unfold mW
  rw [if_pos (by omega), show (68 + 4 * w - 68) / 4 = w by omega]
theorem mW_s (t : Nat → Int32) (n : Nat) : upd (mW t n) (68 + 4 * n) (t (68 + 4 * n) + mComes t n) = mW t (n + 1) := by
  funext k
  by_cases h : k = 68 + 4 * n
  · subst h
    rw [upd_at, mW_at t (by omega)]
  · rw [upd_ne h]
    unfold mW
    by_cases h2 : 68 ≤ k ∧ k < 68 + 4 * n ∧ (k - 68) % 4 = 0
    · rw [if_pos h2, if_pos (by omega)]
    · rw [if_neg h2, if_neg (by omega)]
theorem mComes_W (t : Nat → Int32) (n w : Nat) : mComes (mW t n) w = mComes t w := by
  unfold mComes
  rw [mW_no t (by omega), mW_no t (by omega), mW_no t (by omega), mW_no t (by omega), mW_no t (by omega), mW_no t (by omega), mW_no t (by omega), mW_no t (by omega)]
theorem rd16 {R : Type} (f : Nat → Int32) (k : Int32 → Option R) : q_rd f 307 16 k = k (f 16) := rfl
theorem rises12 (τ : SS) (h16 : 0 ≤ (τ 1 16).toInt ∧ (τ 1 16).toInt ≤ 8) : pX12_rises τ = some (q_sc τ 1 (mRises (τ 1))) := by
  have hn := cl_toInt h16.1
  have hself := nI_self h16.1
  unfold pX12_rises
  simp only [R1_1, R1_0, lt_v]
  have fin : ∀ g : Int32, g = mGr (τ 1) → q_wr τ 1 307 (1 : Int32) g (fun (σ7 : SS) => q_lp (fun _ _ _ => none) (fun (c11 : SS → Int32 → Int32 → Option SS) (σ10 : SS) (x2_8 : Int32) (x3_9 : Int32) => q_rd (σ10 1) 307 (16 : Int32) (fun (v14 : Int32) => (if v14 ≤ x3_9 then q_rd (σ10 1) 307 (11 : Int32) (fun (v16 : Int32) => q_wr σ10 1 307 (11 : Int32) (v16 + x2_8) (fun (σ17 : SS) => q_rd (σ17 1) 307 (2 : Int32) (fun (v18 : Int32) => q_wr σ17 1 307 (2 : Int32) (v18 + x2_8) (fun (σ19 : SS) => q_rd (σ19 1) 307 (2 : Int32) (fun (v20 : Int32) => (if v20 ≤ (9999 : Int32) then some σ19 else q_rd (σ19 1) 307 (13 : Int32) (fun (v24 : Int32) => q_rd (σ19 1) 307 (2 : Int32) (fun (v25 : Int32) => q_wr σ19 1 307 (13 : Int32) (v24 + (v25 - (9999 : Int32))) (fun (σ26 : SS) => q_wr σ26 1 307 (2 : Int32) (9999 : Int32) (fun (σ27 : SS) => some σ27)))))))))) else q_cr (pX12_comes σ10 x3_9) (fun (r28 : Int32) => q_rd (σ10 1) 307 (((65 : Int32) + ((4 : Int32) * x3_9)) + (3 : Int32)) (fun (v29 : Int32) => q_wr σ10 1 307 (((65 : Int32) + ((4 : Int32) * x3_9)) + (3 : Int32)) (v29 + r28) (fun (σ30 : SS) => c11 σ30 (x2_8 + r28) (x3_9 + (1 : Int32)))))))) q_fu σ7 (0 : Int32) (0 : Int32)) = some (q_sc τ 1 (mRises (τ 1))) := by
    intro g hg
    rw [W1_1, hg]
    refine q_lp_rel (S := SS × Int32 × Int32) (R := SS) (fun (f : SS → Int32 → Int32 → Option SS) s => f s.1 s.2.1 s.2.2) (fun k s => ∃ j : Nat, j + k = (τ 1 16).toNatClampNeg ∧ s = (q_sc τ 1 (mW (mSoak (τ 1)) j), mSum (mSoak (τ 1)) j, nI j)) (fun r => r = some (q_sc τ 1 (mRises (τ 1)))) ?_ q_fu (τ 1 16).toNatClampNeg (q_sc τ 1 (upd (τ 1) 1 (mGr (τ 1))), 0, 0) ⟨0, by omega, by rw [mW_0]; rfl⟩ (fu_lt (by omega))
    rintro f k s ⟨j, hj, rfl⟩ ih
    dsimp only
    show q_rd (q_sc τ 1 (mW (mSoak (τ 1)) j) 1) 307 16 _ = _
    rw [sc_at, rd16]
    have e16 : mW (mSoak (τ 1)) j 16 = nI (τ 1 16).toNatClampNeg := by rw [mW_no _ (by omega)]; exact hself.symm
    rw [e16]
    by_cases hk : k = 0
    · have hjn : j = (τ 1 16).toNatClampNeg := by omega
      rw [if_pos (by rw [hjn]; exact Int32.le_refl _)]
      simp only [R1_11, R1_2, R1_13, W1_11, W1_2, W1_13, sc_at, sc_sc]
      unfold mRises mOver mIn
      rw [← hjn]
      have e11 : mW (mSoak (τ 1)) j 11 = mSoak (τ 1) 11 := mW_no _ (by omega)
      have e2 : ∀ v, upd (mW (mSoak (τ 1)) j) 11 v 2 = mSoak (τ 1) 2 := fun v => by rw [upd_ne (by decide)]; exact mW_no _ (by omega)
      rw [e11]
      simp only [e2]
      split <;> rfl
    · rw [if_neg (by rw [nI_leI (by omega) (by omega)]; omega)]
      have hj8 : j < 8 := by omega
      have ec : pX12_comes (q_sc τ 1 (mW (mSoak (τ 1)) j)) (nI j) = some (mComes (mSoak (τ 1)) j) := by rw [comes12 _ hj8, sc_at, mComes_W]
      have ei : (((65 : Int32) + ((4 : Int32) * nI j)) + (3 : Int32)) = nI (68 + 4 * j) := by
        rw [show (65 : Int32) = nI 65 from rfl, show (4 : Int32) = nI 4 from rfl, show (3 : Int32) = nI 3 from rfl, pk_mul, nI_add, nI_add]
        congr 1
        omega
      rw [ec, cr_s, ei, rd_n _ _ (by omega), wr_n _ _ _ _ (by omega), mW_no _ (by omega), sc_su, mW_s, nI_1]
      exact ih (q_sc τ 1 (mW (mSoak (τ 1)) (j + 1)), mSum (mSoak (τ 1)) (j + 1), nI (j + 1)) (k - 1) (by omega) ⟨j + 1, by omega, rfl⟩
  by_cases hg : (τ 1 1 + τ 1 0) - (τ 1 1 + τ 1 0) / 50 ≤ 999
  · rw [if_pos hg]
    exact fin _ (by unfold mGr; rw [if_pos hg])
  · rw [if_neg hg]
    exact fin _ (by unfold mGr; rw [if_neg hg])
theorem soak0 {c : SS} {t : Nat → Int32} (e0 : c 0 6 = t 0) (e1 : c 0 7 = t 1) : ∃ c1, pX0_soakGround c = some c1 ∧ (∀ x, x ≠ 0 → c1 x = c x) ∧ (∀ k, k ≠ 7 → c1 0 k = c 0 k) ∧ c1 0 7 = mGr t := by
  refine ⟨su (su (su c 0 7 (c 0 7 + c 0 6)) 0 7 (c 0 7 + c 0 6 - (c 0 7 + c 0 6) / 50)) 0 7 (mGr t), ?_, fun x hx => ?_, fun k hk => ?_, rfl⟩
  · have e : (if (999 : Int32) < c 0 7 + c 0 6 - (c 0 7 + c 0 6) / 50 then 999 else c 0 7 + c 0 6 - (c 0 7 + c 0 6) / 50) = mGr t := by
      unfold mGr
      rw [e0, e1]
      by_cases h : (t 1 + t 0) - (t 1 + t 0) / 50 ≤ 999
      · rw [if_pos h, if_neg (by rw [i_lt]; rw [i_le] at h; omega)]
      · rw [if_neg h, if_pos (by rw [i_lt]; rw [i_le] at h; omega)]
    rw [← e]
    rfl
  · unfold su
    rw [if_neg hx, if_neg hx, if_neg hx]
  · show upd (upd (upd (c 0) 7 _) 7 _) 7 _ k = _
    rw [upd_ne hk, upd_ne hk, upd_ne hk]
theorem takeIn0 {c : SS} {t : Nat → Int32} (hf : t 15 = 0 ∨ t 15 = 1) (h16 : 0 ≤ (t 16).toInt ∧ (t 16).toInt ≤ 8) (e0 : c 0 6 = t 0) (e1 : c 0 7 = t 1) (e8 : c 0 9 = t 8) (e15 : c 0 5 = t 15) (e19 : c 0 4 = t 19) (e16 : c 1 0 = t 16) (hw : ∀ w : Nat, (w : Int) < (t 16).toInt → c 2 w = t (65 + 4 * w) ∧ c 3 w = t (66 + 4 * w) ∧ c 4 w = t (67 + 4 * w)) : ∃ c2, pX0_takeIn c = some (mSum t (t 16).toNatClampNeg, c2) ∧ (∀ x, x ≠ 0 → x ≠ 5 → c2 x = c x) ∧ (∀ k, k ≠ 10 → c2 0 k = c 0 k) ∧ c2 0 10 = c 0 10 + mSum t (t 16).toNatClampNeg ∧ ∀ w : Nat, (w : Int) < (t 16).toInt → c2 5 w = c 5 w + mComes t w := by
  have hn := cl_toInt h16.1
  have hself := nI_self h16.1
  unfold pX0_takeIn
  refine q_lp_rel (S := SS × Int32 × Int32) (R := Int32 × SS) (fun (f : SS → Int32 → Int32 → Option (Int32 × SS)) s => f s.1 s.2.1 s.2.2) (fun k s => ∃ j : Nat, j + k = (t 16).toNatClampNeg ∧ s.2.2 = nI j ∧ s.2.1 = mSum t j ∧ (∀ x, x ≠ 5 → s.1 x = c x) ∧ (∀ w, w < j → s.1 5 w = c 5 w + mComes t w) ∧ (∀ w, j ≤ w → s.1 5 w = c 5 w)) (fun r => ∃ c2 : SS, r = some (mSum t (t 16).toNatClampNeg, c2) ∧ (∀ x, x ≠ 0 → x ≠ 5 → c2 x = c x) ∧ (∀ k, k ≠ 10 → c2 0 k = c 0 k) ∧ c2 0 10 = c 0 10 + mSum t (t 16).toNatClampNeg ∧ ∀ w : Nat, (w : Int) < (t 16).toInt → c2 5 w = c 5 w + mComes t w) ?_ q_fu (t 16).toNatClampNeg (c, 0, 0) ⟨0, by omega, rfl, rfl, fun _ _ => rfl, fun w hw => absurd hw (Nat.not_lt_zero w), fun _ _ => rfl⟩ (fu_lt (by omega))
  rintro f k ⟨σ3, x1, x2⟩ ⟨j, hj, rfl, rfl, hx, hlt, hge⟩ ih
  dsimp only at hx hlt hge ⊢
  have ex : σ3 1 0 = nI (t 16).toNatClampNeg := by rw [hx 1 (by decide), e16]; exact hself.symm
  show ∃ c2, (if σ3 1 0 ≤ nI j then _ else _) = _ ∧ _
  rw [ex]
  by_cases hk : k = 0
  · have hjn : j = (t 16).toNatClampNeg := by omega
    rw [if_pos (by rw [hjn]; exact Int32.le_refl _)]
    refine ⟨su σ3 0 10 (σ3 0 10 + mSum t j), by rw [hjn]; rfl, fun x h0 h5 => ?_, fun k hk => ?_, ?_, fun w hw => ?_⟩
    · unfold su
      rw [if_neg h0]
      exact hx x h5
    · show upd (σ3 0) 10 _ k = _
      rw [upd_ne hk, hx 0 (by decide)]
    · show σ3 0 10 + mSum t j = _
      rw [hx 0 (by decide), hjn]
    · exact hlt w (by omega)
  · rw [if_neg (by rw [nI_leI (by omega) (by omega)]; omega)]
    obtain ⟨w1, w2, w3⟩ := hw j (by omega)
    have ec : pX0_comesOf σ3 (nI j) = some (mComes t j) := comes0 hf (by rw [hx 0 (by decide)]; exact e0) (by rw [hx 0 (by decide)]; exact e1) (by rw [hx 0 (by decide)]; exact e8) (by rw [hx 0 (by decide)]; exact e15) (by rw [hx 0 (by decide)]; exact e19) (by omega) (by rw [hx 2 (by decide)]; exact w1) (by rw [hx 3 (by decide)]; exact w2) (by rw [hx 4 (by decide)]; exact w3)
    rw [ec, cr_s, rd_n _ _ (by omega), wr_n _ _ _ _ (by omega), lt_v, nI_1]
    refine ih (su σ3 5 j (σ3 5 j + mComes t j), mSum t (j + 1), nI (j + 1)) (k - 1) (by omega) ⟨j + 1, by omega, rfl, rfl, fun x hx5 => ?_, fun w hw => ?_, fun w hw => ?_⟩
    · exact (if_neg hx5).trans (hx x hx5)
    · show upd (σ3 5) j _ w = _
      by_cases hwj : w = j
      · subst hwj
        rw [upd_at, hge w (by omega)]
      · rw [upd_ne hwj]
        exact hlt w (by omega)
    · show upd (σ3 5) j _ w = _
      rw [upd_ne (by omega)]
      exact hge w (by omega)
