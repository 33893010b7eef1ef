/-! ===== a minute of the class is a minute of the row ===== -/
theorem over_no (r : Nat → Int32) {j : Nat} (h2 : j ≠ 2) (h13 : j ≠ 13) : mOver r j = r j := by
  unfold mOver
  split
  · rfl
  · rw [upd_ne h2, upd_ne h13]
theorem rises_no (t : Nat → Int32) {j : Nat} (h1 : j ≠ 1) (h2 : j ≠ 2) (h11 : j ≠ 11) (h13 : j ≠ 13) (h : j < 68 ∨ 68 + 4 * (t 16).toNatClampNeg ≤ j ∨ (j - 68) % 4 ≠ 0) : mRises t j = t j := by
  unfold mRises mIn
  rw [over_no _ h2 h13, upd_ne h2, upd_ne h11, mW_no _ h]
  exact upd_ne h1
theorem rises_br (t : Nat → Int32) {w : Nat} (hw : w < (t 16).toNatClampNeg) : mRises t (68 + 4 * w) = t (68 + 4 * w) + mComes (mSoak t) w := by
  unfold mRises mIn
  rw [over_no _ (by omega) (by omega), upd_ne (by omega), upd_ne (by omega), mW_at _ hw]
  unfold mSoak
  rw [upd_ne (by omega)]
theorem run_no (r : Nat → Int32) {j : Nat} (h2 : j ≠ 2) (h7 : j ≠ 7) (h10 : j ≠ 10) (h12 : j ≠ 12) : mRun r j = r j := by
  unfold mRun
  split
  · rfl
  · split
    · exact draw_row r h2 h7 h10 h12
    · split
      · exact upd_ne h10
      · exact draw_row r h2 h7 h10 h12
theorem pumps_no (r : Nat → Int32) (h9 : 0 ≤ (r 9).toInt) {j : Nat} (h2 : j ≠ 2) (h7 : j ≠ 7) (h9' : j ≠ 9) (h10 : j ≠ 10) (h12 : j ≠ 12) (h : j < 25 ∨ 65 ≤ j) : mPumps r j = r j := by
  unfold mPumps
  rw [run_no _ h2 h7 h10 h12, start_lo r h9 ⟨h9', h10, h⟩]
theorem PO_rises {t : Nat → Int32} (ho : OkS t) : PO (mRises t) := by
  obtain ⟨o1, o2, o3, o4, o5, o6, o7, o8, o9, o10⟩ := ho
  refine ⟨?_, ?_, ?_, ?_⟩
  · rw [rises_no t (by decide) (by decide) (by decide) (by decide) (by omega)]; exact o4
  · rw [rises_no t (by decide) (by decide) (by decide) (by decide) (by omega)]; exact o5
  · rw [rises_no t (by decide) (by decide) (by decide) (by decide) (by omega)]; exact o7
  · rw [rises_no t (by decide) (by decide) (by decide) (by decide) (by omega)]; exact o9
theorem PO_pumps {r : Nat → Int32} (ho : PO r) : PO (mPumps r) := (leaves_eq (p := fun c j => if c = 0 then (if j = 0 then r 3 else if j = 1 then r 4 else if j = 2 then r 5 else if j = 3 then r 6 else if j = 4 then r 7 else if j = 5 then r 14 else if j = 6 then ib (r 19) 2 else if j = 7 then r 10 else if j = 8 then r 9 else r 12) else r (25 + j)) ⟨⟨rfl, rfl, rfl, rfl, rfl, rfl, rfl, rfl, rfl, rfl⟩, fun _ _ _ => rfl⟩ ho).choose_spec.2.2
/-- what a minute leaves as it is -/
theorem goes_no {t : Nat → Int32} (ho : OkS t) {j : Nat} (h : j ≠ 1 ∧ j ≠ 2 ∧ j ≠ 7 ∧ j ≠ 8 ∧ j ≠ 9 ∧ j ≠ 10 ∧ j ≠ 11 ∧ j ≠ 12 ∧ j ≠ 13) (h3 : j < 25 ∨ 65 ≤ j) (h4 : j < 68 ∨ 97 ≤ j ∨ (j - 68) % 4 ≠ 0) (h5 : j < 101 ∨ 147 ≤ j ∨ (j - 101) % 5 ≠ 0) : mGoes t j = t j := by
  have hp := PO_rises ho
  have h16 := ho.1
  have h17 := ho.2.1
  have hcl := cl_toInt h16.1
  have e : ∀ k : Nat, (k ≠ 1 ∧ k ≠ 2 ∧ k ≠ 7 ∧ k ≠ 8 ∧ k ≠ 9 ∧ k ≠ 10 ∧ k ≠ 11 ∧ k ≠ 12 ∧ k ≠ 13) → (k < 25 ∨ 65 ≤ k) → (k < 68 ∨ 97 ≤ k ∨ (k - 68) % 4 ≠ 0) → mMin t k = t k := fun k hk hk3 hk4 => by
    unfold mMin
    rw [upd_ne hk.2.2.2.1, pumps_no _ hp.1.1 hk.2.1 hk.2.2.1 hk.2.2.2.2.1 hk.2.2.2.2.2.1 hk.2.2.2.2.2.2.2.1 hk3, rises_no t hk.1 hk.2.1 hk.2.2.2.2.2.2.1 hk.2.2.2.2.2.2.2.2 (by omega)]
  have e17 := e 17 (by omega) (by omega) (by omega)
  unfold mGoes
  rw [e17]
  have hcl2 := cl_toInt h17.1
  rw [stand_no _ (by omega), e j h h3 h4]
theorem min_17 {t : Nat → Int32} (ho : OkS t) : mMin t 17 = t 17 := by
  have hp := PO_rises ho
  unfold mMin
  rw [upd_ne (by decide), pumps_no _ hp.1.1 (by decide) (by decide) (by decide) (by decide) (by decide) (by omega), rises_no t (by decide) (by decide) (by decide) (by decide) (by omega)]
theorem goes_hm {t : Nat → Int32} (ho : OkS t) {k : Nat} (hk : (k : Int) < (t 17).toInt) : mGoes t (101 + 5 * k) = if t (100 + 5 * k) = 0 ∧ t (99 + 5 * k) < mGoes t 2 then 1 else t (101 + 5 * k) := by
  have hp := PO_rises ho
  have h17 := ho.2.1
  have hcl := cl_toInt h17.1
  have h16 := ho.1
  have hcl2 := cl_toInt h16.1
  have e : ∀ j : Nat, 97 ≤ j → mMin t j = t j := fun j hj => by
    unfold mMin
    rw [upd_ne (by omega), pumps_no _ hp.1.1 (by omega) (by omega) (by omega) (by omega) (by omega) (by omega), rises_no t (by omega) (by omega) (by omega) (by omega) (by omega)]
  have e2 : mGoes t 2 = mMin t 2 := by
    unfold mGoes
    exact stand_no _ (by omega)
  rw [e2]
  unfold mGoes
  rw [min_17 ho, stand_at _ (by omega), e (101 + 5 * k) (by omega), e (100 + 5 * k) (by omega), e (99 + 5 * k) (by omega)]
theorem goes_br {t : Nat → Int32} (ho : OkS t) {w : Nat} (hw : (w : Int) < (t 16).toInt) : mGoes t (68 + 4 * w) = t (68 + 4 * w) + mComes (mSoak t) w := by
  have hp := PO_rises ho
  have h16 := ho.1
  have hcl := cl_toInt h16.1
  unfold mGoes
  rw [stand_no _ (by omega)]
  unfold mMin
  rw [upd_ne (by omega), pumps_no _ hp.1.1 (by omega) (by omega) (by omega) (by omega) (by omega) (by omega), rises_br t (by omega)]
theorem goes_min {t : Nat → Int32} {j : Nat} (hj : j < 101) (h8 : j ≠ 8) : mGoes t j = mPumps (mRises t) j := by
  unfold mGoes
  rw [stand_no _ (by omega)]
  exact upd_ne h8
/-! ===== bounds of a minute ===== -/
theorem n_of {a : Int32} {n : Nat} (h0 : 0 ≤ a.toInt) (h : a.toInt ≤ n) : ∃ k : Nat, k ≤ n ∧ a = nI k := ⟨a.toNatClampNeg, by have := cl_toInt h0; omega, (nI_self h0).symm⟩
def bd (a : Int32) (n : Nat) : Prop := ∃ k : Nat, k ≤ n ∧ a = nI k
theorem bd_of {a : Int32} {n : Nat} (h : 0 ≤ a.toInt ∧ a.toInt ≤ n) : bd a n := n_of h.1 h.2
theorem bd_to {a : Int32} {n : Nat} (hn : n < 2 ^ 31) (h : bd a n) : 0 ≤ a.toInt ∧ a.toInt ≤ n := by
  obtain ⟨k, hk, rfl⟩ := h
  rw [nI_toInt (by omega)]
  omega
theorem bd_le {a : Int32} {n m : Nat} (h : bd a n) (hm : n ≤ m) : bd a m := by
  obtain ⟨k, hk, e⟩ := h
  exact ⟨k, by omega, e⟩
theorem bd_add {a b : Int32} {n m : Nat} (h : bd a n) (h2 : bd b m) : bd (a + b) (n + m) := by
  obtain ⟨k, hk, rfl⟩ := h
  obtain ⟨l, hl, rfl⟩ := h2
  exact ⟨k + l, by omega, nI_add k l⟩
theorem bd_mul {a b : Int32} {n m : Nat} (h : bd a n) (h2 : bd b m) : bd (a * b) (n * m) := by
  obtain ⟨k, hk, rfl⟩ := h
  obtain ⟨l, hl, rfl⟩ := h2
  exact ⟨k * l, Nat.mul_le_mul hk hl, pk_mul k l⟩
theorem bd_div {a : Int32} {n d : Nat} (h : bd a n) (hn : n < 2 ^ 31) (h0 : 0 < d) (hd : d < 2 ^ 31) : bd (a / nI d) (n / d) := by
  obtain ⟨k, hk, rfl⟩ := h
  exact ⟨k / d, Nat.div_le_div_right hk, pk_div (by omega) h0 hd⟩
theorem bd_0 (n : Nat) : bd 0 n := ⟨0, Nat.zero_le n, rfl⟩
theorem comes_bd {t : Nat → Int32} {w : Nat} (h0 : bd (t 0) 99) (h1 : bd (t 1) 999) (hf : bd (t (66 + 4 * w)) 99) (hm : bd (t (67 + 4 * w)) 999) : bd (mComes t w) 9801 := by
  have g1 : bd (t (66 + 4 * w) * t 1 / 100) 989 := bd_div (d := 100) (bd_mul hf h1) (by decide) (by decide) (by decide)
  have g2 : bd (t (66 + 4 * w) * t 1 / 100 / 2) 494 := bd_div (d := 2) g1 (by decide) (by decide) (by decide)
  have g3 : bd (t (66 + 4 * w) * t 1 / 100 / 2 / 2) 247 := bd_div (d := 2) g2 (by decide) (by decide) (by decide)
  have gs : bd (if t 0 - t (67 + 4 * w) ≤ 0 then 0 else t (66 + 4 * w) * (t 0 - t (67 + 4 * w))) 9801 := by
    split
    · exact bd_0 _
    · rename_i hc
      obtain ⟨r, hr, er⟩ := h0
      obtain ⟨m, hm2, em⟩ := hm
      rw [er, em] at hc ⊢
      rcases Nat.le_total m r with hmr | hmr
      · rw [pk_sub hmr]
        exact bd_le (bd_mul hf ⟨r - m, by omega, rfl⟩ (m := 99)) (by decide)
      · refine absurd ?_ hc
        rw [i_le, pk_sub_toInt (by omega) (by omega), show (0 : Int32).toInt = 0 from rfl]
        omega
  unfold mComes vCo
  split
  · split
    · exact bd_le g1 (by decide)
    · exact bd_le g2 (by decide)
  split
  · exact gs
  split
  · split
    · exact gs
    · exact bd_0 _
  split
  · split
    · exact bd_le g2 (by decide)
    · exact bd_le g3 (by decide)
  split
  · split
    · exact bd_0 _
    · exact bd_le hf (by decide)
  split
  · refine bd_le (bd_add (n := 494) (m := 99) ?_ ?_) (by decide)
    · split
      · exact g2
      · exact bd_le g3 (by decide)
    · split
      · exact bd_0 _
      · exact hf
  · exact bd_le hf (by decide)
theorem sum_bd {t : Nat → Int32} (h : ∀ w, bd (mComes t w) 9801 ∨ True) : ∀ n : Nat, (∀ w, w < n → bd (mComes t w) 9801) → bd (mSum t n) (9801 * n)
  | 0, _ => bd_0 _
  | n + 1, hw => bd_add (sum_bd h n (fun w hw2 => hw w (by omega))) (hw n (by omega))
theorem gr_bd {t : Nat → Int32} (h0 : bd (t 0) 99) (h1 : bd (t 1) 999) : bd (mGr t) 999 := by
  obtain ⟨r, hr, er⟩ := h0
  obtain ⟨g, hg, eg⟩ := h1
  unfold mGr
  rw [er, eg, nI_add, show (50 : Int32) = nI 50 from rfl, pk_div (by omega) (by omega) (by omega), pk_sub (Nat.div_le_self _ _)]
  split
  · rename_i hc
    rw [i_le, nI_toInt (by omega), show (999 : Int32).toInt = 999 from rfl] at hc
    exact ⟨_, by omega, rfl⟩
  · exact ⟨999, by omega, rfl⟩
theorem rises_bd {t : Nat → Int32} (h : Ok t) : bd (mRises t 1) 999 ∧ bd (mRises t 2) 9999 := by
  obtain ⟨⟨q1, q2, q3, q4, q5, q6, q7, q8, q9, q10, q11, q12, q13, q14⟩, o2, -⟩ := h
  have b0 : bd (t 0) 99 := bd_of q11
  have b1 : bd (t 1) 999 := bd_of q12
  have b2 : bd (t 2) 9999 := bd_of q13
  have hg := gr_bd b0 b1
  have hcl := cl_toInt q1.1
  have hS : bd (mSum (mSoak t) (t 16).toNatClampNeg) (9801 * (t 16).toNatClampNeg) := sum_bd (fun _ => Or.inr trivial) _ (fun w hw => by
    obtain ⟨-, w2, w3⟩ := o2 w (by omega)
    refine comes_bd b0 hg ?_ ?_
    · unfold mSoak
      rw [upd_ne (by omega)]
      exact bd_of w2
    · unfold mSoak
      rw [upd_ne (by omega)]
      exact bd_of w3)
  have hS2 : bd (t 2 + mSum (mSoak t) (t 16).toNatClampNeg) 100000 := bd_le (bd_add b2 hS) (by omega)
  have hR2 : mIn (mSoak t) (t 16).toNatClampNeg 2 = t 2 + mSum (mSoak t) (t 16).toNatClampNeg := rfl
  constructor
  · unfold mRises
    rw [over_no _ (by decide) (by decide)]
    unfold mIn
    rw [upd_ne (by decide), upd_ne (by decide), mW_no _ (by omega)]
    exact hg
  · unfold mRises mOver
    rw [hR2]
    split
    · rename_i hc
      rw [hR2]
      obtain ⟨k, hk, ek⟩ := hS2
      rw [ek, i_le, nI_toInt (by omega), show (9999 : Int32).toInt = 9999 from rfl] at hc
      rw [ek]
      exact ⟨k, by omega, rfl⟩
    · exact ⟨9999, by omega, rfl⟩
theorem drawn_bd {r : Nat → Int32} (h2 : bd (r 2) 9999) (h5 : bd (r 5) 99) : bd (r 2 - mDrawn r) 9999 := by
  obtain ⟨d, hd, ed⟩ := h2
  have hr : bd (if ib (r 19) 2 = 0 then r 5 else 2 * r 5) 198 := by
    split
    · exact bd_le h5 (by omega)
    · exact bd_mul (n := 2) (m := 99) ⟨2, by omega, rfl⟩ h5
  obtain ⟨k, hk, ek⟩ := hr
  unfold mDrawn
  rw [ek, ed]
  split
  · rw [pk_sub (Nat.le_refl _)]
    exact ⟨_, by omega, rfl⟩
  · rename_i hc
    rw [i_le, nI_toInt (by omega), nI_toInt (by omega)] at hc
    rw [pk_sub (by omega)]
    exact ⟨_, by omega, rfl⟩
theorem pumps_bd {r : Nat → Int32} (h9 : 0 ≤ (r 9).toInt) (h2 : bd (r 2) 9999) (h5 : bd (r 5) 99) : bd (mPumps r 2) 9999 := by
  have e2 : mStart r 2 = r 2 := mLog_2 r h9
  have e5 : mStart r 5 = r 5 := start_lo r h9 ⟨by decide, by decide, by omega⟩
  have k2 : bd (mStart r 2) 9999 := by rw [e2]; exact h2
  have k5 : bd (mStart r 5) 99 := by rw [e5]; exact h5
  have kd := drawn_bd k2 k5
  unfold mPumps
  generalize mStart r = r' at k2 k5 kd
  unfold mRun
  split
  · exact k2
  · split
    · exact kd
    · split
      · exact k2
      · exact kd
theorem Ok_goes {t : Nat → Int32} (h : Ok t) : Ok (mGoes t) := by
  obtain ⟨ho, o2, o3, o4⟩ := h
  have hp := PO_pumps (PO_rises ho)
  obtain ⟨p1, p2, p3, p4⟩ := hp
  have e16 : mGoes t 16 = t 16 := goes_no ho (by omega) (by omega) (by omega) (by omega)
  have e17 : mGoes t 17 = t 17 := goes_no ho (by omega) (by omega) (by omega) (by omega)
  have e18 : mGoes t 18 = t 18 := goes_no ho (by omega) (by omega) (by omega) (by omega)
  have e6 : mGoes t 6 = t 6 := goes_no ho (by omega) (by omega) (by omega) (by omega)
  have e19 : mGoes t 19 = t 19 := goes_no ho (by omega) (by omega) (by omega) (by omega)
  have e14 : mGoes t 14 = t 14 := goes_no ho (by omega) (by omega) (by omega) (by omega)
  have e15 : mGoes t 15 = t 15 := goes_no ho (by omega) (by omega) (by omega) (by omega)
  have e4 : mGoes t 4 = t 4 := goes_no ho (by omega) (by omega) (by omega) (by omega)
  have e9 : mGoes t 9 = mPumps (mRises t) 9 := goes_min (by omega) (by omega)
  have e10 : mGoes t 10 = mPumps (mRises t) 10 := goes_min (by omega) (by omega)
  have e0 : mGoes t 0 = t 0 := goes_no ho (by omega) (by omega) (by omega) (by omega)
  have e5 : mGoes t 5 = t 5 := goes_no ho (by omega) (by omega) (by omega) (by omega)
  have e1 : mGoes t 1 = mPumps (mRises t) 1 := goes_min (by omega) (by omega)
  have e2 : mGoes t 2 = mPumps (mRises t) 2 := goes_min (by omega) (by omega)
  obtain ⟨rb1, rb2⟩ := rises_bd (t := t) ⟨ho, o2, o3, o4⟩
  have hr9 := (PO_rises ho).1.1
  have r5 : mRises t 5 = t 5 := rises_no t (by decide) (by decide) (by decide) (by decide) (by omega)
  have gb2 : 0 ≤ (mGoes t 2).toInt ∧ (mGoes t 2).toInt ≤ 9999 := by
    rw [e2]
    exact bd_to (n := 9999) (by decide) (pumps_bd hr9 rb2 (by rw [r5]; exact bd_of ho.2.2.2.2.2.2.2.2.2.2.2.2.2))
  have gb1 : 0 ≤ (mGoes t 1).toInt ∧ (mGoes t 1).toInt ≤ 999 := by
    rw [e1, pumps_no _ hr9 (by decide) (by decide) (by decide) (by decide) (by decide) (by omega)]
    exact bd_to (n := 999) (by decide) rb1
  obtain ⟨q1, q2, q3, q4, q5, q6, q7, q8, q9, q10, q11, q12, q13, q14⟩ := ho
  refine ⟨?_, fun w hw => ?_, fun k hk => ?_, fun w hw => ?_⟩
  · unfold OkS
    rw [e16, e17, e18, e6, e19, e14, e15, e4, e9, e10, e0, e5]
    exact ⟨q1, q2, q3, p1, q5, q6, q7, q8, p4, q10, q11, gb1, gb2, q14⟩
  · rw [e16] at hw
    have ho : OkS t := ⟨q1, q2, q3, q4, q5, q6, q7, q8, q9, q10, q11, q12, q13, q14⟩
    rw [goes_no ho (j := 65 + 4 * w) (by omega) (by omega) (by omega) (by omega), goes_no ho (j := 66 + 4 * w) (by omega) (by omega) (by omega) (by omega), goes_no ho (j := 67 + 4 * w) (by omega) (by omega) (by omega) (by omega)]
    exact o2 w hw
  · rw [e17] at hk
    obtain ⟨r1, r2, r3, r4⟩ := o3 k hk
    have ho : OkS t := ⟨q1, q2, q3, q4, q5, q6, q7, q8, q9, q10, q11, q12, q13, q14⟩
    rw [goes_no ho (by omega) (by omega) (by omega) (by omega), goes_no ho (j := 98 + 5 * k) (by omega) (by omega) (by omega) (by omega), goes_no ho (j := 100 + 5 * k) (by omega) (by omega) (by omega) (by omega), goes_hm ho hk]
    refine ⟨r1, r2, r3, ?_⟩
    split
    · exact Or.inr rfl
    · exact r4
  · rw [goes_no ⟨q1, q2, q3, q4, q5, q6, q7, q8, q9, q10, q11, q12, q13, q14⟩ (by omega) (by omega) (by omega) (by omega)]
    exact o4 w hw
theorem sb_m (σ : SS) (b c : Nat) : q_sb σ b c = σ (b + c) := rfl
set_option maxHeartbeats 8000000 in
theorem minute0 {c : SS} {t : Nat → Int32} (hO : Ok t) (hc : CRel c t) : ∃ c', pX0_passMinute c = some c' ∧ CRel c' (mGoes t) ∧ c' 0 12 = (if c 0 12 < mGoes t 2 then mGoes t 2 else c 0 12) := by
  obtain ⟨hs, hl, hw, ⟨ht1, ht2⟩, hcc⟩ := hc
  obtain ⟨e0, e1, e2, e3, e4, e5, e6, e7, e8, e9, e10, e11, e12, e13, e14, e15, e16, e17, e19, e66⟩ := hs
  have ho := hO.1
  obtain ⟨q1, q2, q3, q4, q5, q6, q7, q8, q9, q10⟩ := id ho
  have hcl := cl_toInt q1.1
  have hcl2 := cl_toInt q2.1
  obtain ⟨c1, g1, g2, g3, g4⟩ := soak0 (t := t) e0 e1
  have s16 : mSoak t 16 = t 16 := rfl
  obtain ⟨c2, k1, k2, k3, k4, k5⟩ := takeIn0 (c := c1) (t := mSoak t) q8 q1 (by rw [g3 6 (by decide)]; exact e0) g4 (by rw [g3 9 (by decide)]; exact e8) (by rw [g3 5 (by decide)]; exact e15) (by rw [g3 4 (by decide)]; exact e19) (by rw [g2 1 (by decide)]; exact e16) (fun w hw2 => by
    obtain ⟨w1, w2, w3, -⟩ := hw w hw2
    rw [g2 2 (by decide), g2 3 (by decide), g2 4 (by decide)]
    unfold mSoak
    rw [upd_ne (by omega), upd_ne (by omega), upd_ne (by omega)]
    exact ⟨w1, w2, w3⟩)
  rw [s16] at k1 k4 k5
  have hR2 : mIn (mSoak t) (t 16).toNatClampNeg 2 = t 2 + mSum (mSoak t) (t 16).toNatClampNeg := rfl
  have hR13 : mIn (mSoak t) (t 16).toNatClampNeg 13 = t 13 := by
    unfold mIn
    rw [upd_ne (by decide), upd_ne (by decide), mW_no _ (by omega)]
    rfl
  have hR11 : mRises t 11 = t 11 + mSum (mSoak t) (t 16).toNatClampNeg := by
    unfold mRises
    rw [over_no _ (by decide) (by decide)]
    rfl
  have hR1 : mRises t 1 = mGr t := by
    unfold mRises
    rw [over_no _ (by decide) (by decide)]
    unfold mIn
    rw [upd_ne (by decide), upd_ne (by decide), mW_no _ (by omega)]
    rfl
  have fin : ∀ σ5 : SS, σ5 0 8 = mRises t 2 → σ5 0 11 = mRises t 13 → (∀ x, x ≠ 0 → σ5 x = c2 x) → (∀ k, k ≠ 8 → k ≠ 11 → σ5 0 k = c2 0 k) → ∃ c', q_ci (pX4_leaves (q_sb σ5 6) (σ5 0 8) (σ5 0 9)) (fun (τ : SS) => (q_em σ5 6 0 2 τ)) (fun (r8 : Int32) (σ7 : SS) => q_lt (su σ7 0 8 r8) (fun (σ9 : SS) => q_lt (su σ9 0 9 ((σ9 0 9) + (1 : Int32))) (fun (σ10 : SS) => q_cs (pX9_standIn (q_sb σ10 8) (σ10 0 8)) (fun (τ : SS) => (q_em σ10 8 0 4 τ)) (fun (σ11 : SS) => q_lt (su σ11 0 12 (if (σ11 0 12) < (σ11 0 8) then (σ11 0 8) else (σ11 0 12))) (fun (σ12 : SS) => some σ12))))) = some c' ∧ CRel c' (mGoes t) ∧ c' 0 12 = (if c 0 12 < mGoes t 2 then mGoes t 2 else c 0 12) := by
    intro σ5 m8 m11 mx mk
    have z : ∀ k, k ≠ 8 → k ≠ 11 → k ≠ 10 → k ≠ 7 → σ5 0 k = c 0 k := fun k a b c3 d => by rw [mk k a b, k3 k c3, g3 k d]
    have zx : ∀ x, x ≠ 0 → x ≠ 5 → σ5 x = c x := fun x a b => by rw [mx x a, k2 x a b, g2 x a]
    have hr9 := (PO_rises ho).1.1
    have rn : ∀ j : Nat, j ≠ 1 → j ≠ 2 → j ≠ 11 → j ≠ 13 → j < 68 → mRises t j = t j := fun j a b c3 d e => rises_no t a b c3 d (by omega)
    have hPR : PR (q_sb σ5 6) (mRises t) := by
      refine ⟨⟨?_, ?_, ?_, ?_, ?_, ?_, ?_, ?_, ?_, ?_⟩, fun i hi hi2 => ?_⟩
      · show σ5 6 0 = _; rw [zx 6 (by decide) (by decide), e3, rn 3 (by decide) (by decide) (by decide) (by decide) (by decide)]
      · show σ5 6 1 = _; rw [zx 6 (by decide) (by decide), e4, rn 4 (by decide) (by decide) (by decide) (by decide) (by decide)]
      · show σ5 6 2 = _; rw [zx 6 (by decide) (by decide), e5, rn 5 (by decide) (by decide) (by decide) (by decide) (by decide)]
      · show σ5 6 3 = _; rw [zx 6 (by decide) (by decide), e6, rn 6 (by decide) (by decide) (by decide) (by decide) (by decide)]
      · show σ5 6 4 = _; rw [zx 6 (by decide) (by decide), e7, rn 7 (by decide) (by decide) (by decide) (by decide) (by decide)]
      · show σ5 6 5 = _; rw [zx 6 (by decide) (by decide), e14, rn 14 (by decide) (by decide) (by decide) (by decide) (by decide)]
      · show σ5 6 6 = _; rw [zx 6 (by decide) (by decide), e66, rn 19 (by decide) (by decide) (by decide) (by decide) (by decide)]
      · show σ5 6 7 = _; rw [zx 6 (by decide) (by decide), e10, rn 10 (by decide) (by decide) (by decide) (by decide) (by decide)]
      · show σ5 6 8 = _; rw [zx 6 (by decide) (by decide), e9, rn 9 (by decide) (by decide) (by decide) (by decide) (by decide)]
      · show σ5 6 9 = _; rw [zx 6 (by decide) (by decide), e12, rn 12 (by decide) (by decide) (by decide) (by decide) (by decide)]
      · show σ5 7 i = _
        rw [rn 9 (by decide) (by decide) (by decide) (by decide) (by decide)] at hi2
        rw [zx 7 (by decide) (by decide), rn (25 + i) (by omega) (by omega) (by omega) (by omega) (by omega)]
        exact hl i hi hi2
    obtain ⟨q, v1, ⟨v2, v3⟩, v4⟩ := leaves_eq hPR (PO_rises ho)
    have m9 : σ5 0 9 = mRises t 8 := by rw [z 9 (by decide) (by decide) (by decide) (by decide), e8, rn 8 (by decide) (by decide) (by decide) (by decide) (by decide)]
    rw [m8, m9, v1, ci_s]
    simp only [lt_v]
    have hd2 : mGoes t 2 = mPumps (mRises t) 2 := goes_min (by omega) (by omega)
    rw [← hd2]
    obtain ⟨th, u1, u2, u3, u4⟩ := standIn0 (q_sb σ5 8) (mGoes t 2) (n := (t 17).toNatClampNeg) (by omega) (by show σ5 8 0 = _; rw [zx 8 (by decide) (by decide), e17]; exact (nI_self q2.1).symm)
    have ue : pX9_standIn (q_sb (su (su (q_em σ5 6 0 2 q) 0 8 (mGoes t 2)) 0 9 (su (q_em σ5 6 0 2 q) 0 8 (mGoes t 2) 0 9 + 1)) 8) (su (su (q_em σ5 6 0 2 q) 0 8 (mGoes t 2)) 0 9 (su (q_em σ5 6 0 2 q) 0 8 (mGoes t 2) 0 9 + 1) 0 8) = pX9_standIn (q_sb σ5 8) (mGoes t 2) := by
      congr 1
      funext x
      show (if 8 + x = 0 then _ else if 8 + x = 0 then _ else if 6 ≤ 8 + x ∧ 8 + x < 6 + 2 then _ else σ5 (8 + x)) = σ5 (8 + x)
      rw [if_neg (by omega), if_neg (by omega), if_neg (by omega)]
    rw [ue, u1, cs_s]
    refine ⟨_, rfl, ?_, ?_⟩
    · have gn : ∀ j : Nat, (j ≠ 1 ∧ j ≠ 2 ∧ j ≠ 7 ∧ j ≠ 8 ∧ j ≠ 9 ∧ j ≠ 10 ∧ j ≠ 11 ∧ j ≠ 12 ∧ j ≠ 13) → j < 25 → mGoes t j = t j := fun j a b => goes_no ho a (by omega) (by omega) (by omega)
      have gp : ∀ j : Nat, j < 101 → j ≠ 8 → mGoes t j = mPumps (mRises t) j := fun j a b => goes_min a b
      have pn : ∀ j : Nat, j < 25 → j ≠ 2 → j ≠ 7 → j ≠ 9 → j ≠ 10 → j ≠ 12 → mPumps (mRises t) j = mRises t j := fun j a b c3 d e f => pumps_no _ hr9 b c3 d e f (by omega)
      obtain ⟨y0, y1, y2, y3, y4, y5, y6, y7, y8, y9⟩ := v2
      refine ⟨⟨?_, ?_, ?_, ?_, ?_, ?_, ?_, ?_, ?_, ?_, ?_, ?_, ?_, ?_, ?_, ?_, ?_, ?_, ?_, ?_⟩, fun i hi hi2 => ?_, fun w hw2 => ?_, ⟨fun k hk => ?_, fun k hk => ?_⟩, fun w hw2 => ?_⟩
      · show σ5 0 6 = _; rw [z 6 (by decide) (by decide) (by decide) (by decide), e0, gn 0 (by omega) (by omega)]
      · show σ5 0 7 = _; rw [mk 7 (by decide) (by decide), k3 7 (by decide), g4, gp 1 (by omega) (by omega), pn 1 (by omega) (by omega) (by omega) (by omega) (by omega) (by omega), hR1]
      · rfl
      · show q 0 0 = _; rw [y0, gp 3 (by omega) (by omega)]
      · show q 0 1 = _; rw [y1, gp 4 (by omega) (by omega)]
      · show q 0 2 = _; rw [y2, gp 5 (by omega) (by omega)]
      · show q 0 3 = _; rw [y3, gp 6 (by omega) (by omega)]
      · show q 0 4 = _; rw [y4, gp 7 (by omega) (by omega)]
      · show σ5 0 9 + 1 = _
        rw [m9]
        unfold mGoes
        rw [stand_no _ (by omega)]
        show _ = mPumps (mRises t) 8 + 1
        rw [pn 8 (by omega) (by omega) (by omega) (by omega) (by omega) (by omega)]
      · show q 0 8 = _; rw [y8, gp 9 (by omega) (by omega)]
      · show q 0 7 = _; rw [y7, gp 10 (by omega) (by omega)]
      · show σ5 0 10 = _; rw [mk 10 (by decide) (by decide), k4, g3 10 (by decide), e11, gp 11 (by omega) (by omega), pn 11 (by omega) (by omega) (by omega) (by omega) (by omega) (by omega), hR11]
      · show q 0 9 = _; rw [y9, gp 12 (by omega) (by omega)]
      · show σ5 0 11 = _; rw [m11, gp 13 (by omega) (by omega), pn 13 (by omega) (by omega) (by omega) (by omega) (by omega) (by omega)]
      · show q 0 5 = _; rw [y5, gp 14 (by omega) (by omega)]
      · show σ5 0 5 = _; rw [z 5 (by decide) (by decide) (by decide) (by decide), e15, gn 15 (by omega) (by omega)]
      · show σ5 1 0 = _; rw [zx 1 (by decide) (by decide), e16, gn 16 (by omega) (by omega)]
      · show th 0 0 = _; rw [u3 0 (by decide)]; show σ5 8 0 = _; rw [zx 8 (by decide) (by decide), e17, gn 17 (by omega) (by omega)]
      · show σ5 0 4 = _; rw [z 4 (by decide) (by decide) (by decide) (by decide), e19, gn 19 (by omega) (by omega)]
      · show q 0 6 = _; rw [y6, gp 19 (by omega) (by omega)]
      · show q 1 i = _
        rw [gp 9 (by omega) (by omega)] at hi2
        rw [v3 i hi hi2, gp (25 + i) (by omega) (by omega)]
      · rw [gn 16 (by omega) (by omega)] at hw2
        obtain ⟨w1, w2, w3, w4⟩ := hw w hw2
        refine ⟨?_, ?_, ?_, ?_⟩
        · show σ5 2 w = _; rw [zx 2 (by decide) (by decide), w1, goes_no ho (by omega) (by omega) (by omega) (by omega)]
        · show σ5 3 w = _; rw [zx 3 (by decide) (by decide), w2, goes_no ho (by omega) (by omega) (by omega) (by omega)]
        · show σ5 4 w = _; rw [zx 4 (by decide) (by decide), w3, goes_no ho (by omega) (by omega) (by omega) (by omega)]
        · show σ5 5 w = _; rw [mx 5 (by decide), k5 w hw2, g2 5 (by decide), w4, goes_br ho hw2]
      · rw [gn 17 (by omega) (by omega)] at hk
        obtain ⟨w1, w2, w3, w4, w5⟩ := ht1 k hk
        refine ⟨?_, ?_, ?_, ?_, ?_⟩
        · show th 1 k = _; rw [u2 1 (by decide)]; show σ5 9 k = _; rw [zx 9 (by decide) (by decide), w1, goes_no ho (by omega) (by omega) (by omega) (by omega)]
        · show th 2 k = _; rw [u2 2 (by decide)]; show σ5 10 k = _; rw [zx 10 (by decide) (by decide), w2, goes_no ho (by omega) (by omega) (by omega) (by omega)]
        · show th 3 k = _; rw [u2 3 (by decide)]; show σ5 11 k = _; rw [zx 11 (by decide) (by decide), w3, goes_no ho (by omega) (by omega) (by omega) (by omega)]
        · show ib (th 0 4) k = _; rw [u3 4 (by decide)]; show ib (σ5 8 4) k = _; rw [zx 8 (by decide) (by decide), w4, goes_no ho (by omega) (by omega) (by omega) (by omega)]
        · show ib (th 0 5) k = _
          rw [u4 k, goes_hm ho hk]
          have a1 : q_sb σ5 8 0 4 = c 8 4 := by show σ5 8 4 = _; rw [zx 8 (by decide) (by decide)]
          have a2 : q_sb σ5 8 3 k = c 11 k := by show σ5 11 k = _; rw [zx 11 (by decide) (by decide)]
          have a3 : q_sb σ5 8 0 5 = c 8 5 := by show σ5 8 5 = _; rw [zx 8 (by decide) (by decide)]
          rw [a1, a2, a3, w3, w4, w5]
          by_cases hcnd : t (100 + 5 * k) = 0 ∧ t (99 + 5 * k) < mGoes t 2
          · rw [if_pos hcnd, if_pos ⟨by omega, hcnd⟩]
          · rw [if_neg hcnd, if_neg (fun h => hcnd h.2)]
      · rw [gn 17 (by omega) (by omega)] at hk
        obtain ⟨w1, w2⟩ := ht2 k hk
        refine ⟨?_, ?_⟩
        · show ib (th 0 4) k = _; rw [u3 4 (by decide)]; show ib (σ5 8 4) k = _; rw [zx 8 (by decide) (by decide), w1]
        · show ib (th 0 5) k = _
          rw [u4 k, if_neg (by omega)]
          show ib (σ5 8 5) k = _
          rw [zx 8 (by decide) (by decide), w2]
      · show σ5 12 w = _; rw [zx 12 (by decide) (by decide), hcc w hw2, goes_no ho (by omega) (by omega) (by omega) (by omega)]
    · generalize mGoes t 2 = d
      show (if σ5 0 12 < d then d else σ5 0 12) = _
      rw [z 12 (by decide) (by decide) (by decide) (by decide)]
  unfold pX0_passMinute
  rw [g1, cs_s, k1, ci_s]
  simp only [lt_v]
  have hd8 : c1 0 8 + mSum (mSoak t) (t 16).toNatClampNeg = mIn (mSoak t) (t 16).toNatClampNeg 2 := by rw [g3 8 (by decide), e2, hR2]
  have hs8 : su c2 0 8 (c1 0 8 + mSum (mSoak t) (t 16).toNatClampNeg) 0 8 = mIn (mSoak t) (t 16).toNatClampNeg 2 := hd8
  by_cases hov : mIn (mSoak t) (t 16).toNatClampNeg 2 ≤ 9999
  · rw [if_pos (by rw [hs8]; exact hov)]
    refine fin _ ?_ ?_ (fun x hx => if_neg hx) (fun k h8 h11 => upd_ne h8)
    · rw [hs8]; unfold mRises mOver; rw [if_pos hov]
    · show c2 0 11 = _
      rw [k3 11 (by decide), g3 11 (by decide), e13]
      unfold mRises mOver
      rw [if_pos hov, hR13]
  · rw [if_neg (by rw [hs8]; exact hov)]
    refine fin _ ?_ ?_ (fun x hx => (if_neg hx).trans ((if_neg hx).trans (if_neg hx))) (fun k h8 h11 => (upd_ne h8).trans ((upd_ne h11).trans (upd_ne h8)))
    · show (9999 : Int32) = _
      unfold mRises mOver; rw [if_neg hov]; rfl
    · show c2 0 11 + (c1 0 8 + mSum (mSoak t) (t 16).toNatClampNeg - 9999) = _
      rw [hd8, k3 11 (by decide), g3 11 (by decide), e13]
      unfold mRises mOver
      rw [if_neg hov]
      show _ = mIn (mSoak t) (t 16).toNatClampNeg 13 + (mIn (mSoak t) (t 16).toNatClampNeg 2 - 9999)
      rw [hR13]
