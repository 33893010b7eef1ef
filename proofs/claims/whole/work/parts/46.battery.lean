/-! ===== a battery that is great enough ===== -/
theorem up_comm (t : Nat → Int32) {a b : Nat} (x y : Int32) (h : a ≠ b) : upd (upd t a x) b y = upd (upd t b y) a x := by
  funext k
  by_cases ha : k = a
  · subst ha
    rw [upd_at, upd_ne h, upd_at]
  · rw [upd_ne ha]
    by_cases hb : k = b
    · subst hb
      rw [upd_at, upd_at]
    · rw [upd_ne hb, upd_ne ha, upd_ne hb]
theorem soak7 (t : Nat → Int32) (v : Int32) : mSoak (upd t 7 v) = upd (mSoak t) 7 v := by
  have hg : mGr (upd t 7 v) = mGr t := by
    unfold mGr
    rw [upd_ne (show 1 ≠ 7 by decide), upd_ne (show 0 ≠ 7 by decide)]
  unfold mSoak
  rw [hg, up_comm t v (mGr t) (show 7 ≠ 1 by decide)]
theorem comes7 (t : Nat → Int32) (v : Int32) (w : Nat) : mComes (upd t 7 v) w = mComes t w := by
  unfold mComes
  rw [upd_ne (show 65 + 4 * w ≠ 7 by omega), upd_ne (show 66 + 4 * w ≠ 7 by omega), upd_ne (show 67 + 4 * w ≠ 7 by omega), upd_ne (show 0 ≠ 7 by decide), upd_ne (show 1 ≠ 7 by decide), upd_ne (show 15 ≠ 7 by decide), upd_ne (show 8 ≠ 7 by decide), upd_ne (show 19 ≠ 7 by decide)]
theorem sum7 (t : Nat → Int32) (v : Int32) (n : Nat) : mSum (upd t 7 v) n = mSum t n := by
  induction n with
  | zero =>
    have z1 : mSum (upd t 7 v) 0 = 0 := rfl
    have z2 : mSum t 0 = 0 := rfl
    rw [z1, z2]
  | succ n ih =>
    have e1 : mSum (upd t 7 v) (n + 1) = mSum (upd t 7 v) n + mComes (upd t 7 v) n := rfl
    have e2 : mSum t (n + 1) = mSum t n + mComes t n := rfl
    rw [e1, e2, ih, comes7]
theorem W7 (t : Nat → Int32) (v : Int32) (n : Nat) : mW (upd t 7 v) n = upd (mW t n) 7 v := by
  funext k
  by_cases hk : k = 7
  · subst hk
    rw [upd_at, mW_no _ (by omega), upd_at]
  · rw [upd_ne hk]
    unfold mW
    rw [upd_ne hk, comes7]
theorem in7 (t : Nat → Int32) (v : Int32) (n : Nat) : mIn (upd t 7 v) n = upd (mIn t n) 7 v := by
  unfold mIn
  rw [W7, sum7, upd_ne (show 11 ≠ 7 by decide), upd_ne (show 2 ≠ 7 by decide), up_comm _ v _ (show 7 ≠ 11 by decide), up_comm _ v _ (show 7 ≠ 2 by decide)]
theorem over7 (r : Nat → Int32) (v : Int32) : mOver (upd r 7 v) = upd (mOver r) 7 v := by
  unfold mOver
  rw [upd_ne (show 2 ≠ 7 by decide), upd_ne (show 13 ≠ 7 by decide)]
  split
  · rfl
  · rw [up_comm _ v _ (show 7 ≠ 13 by decide), up_comm _ v _ (show 7 ≠ 2 by decide)]
theorem rises7 (t : Nat → Int32) (v : Int32) : mRises (upd t 7 v) = upd (mRises t) 7 v := by
  unfold mRises
  rw [upd_ne (show 16 ≠ 7 by decide), soak7, in7, over7]
theorem log7 (r : Nat → Int32) (v : Int32) : mLog (upd r 7 v) = upd (mLog r) 7 v := by
  unfold mLog
  rw [upd_ne (show 9 ≠ 7 by decide), upd_ne (show 8 ≠ 7 by decide)]
  split
  · rfl
  · rw [up_comm _ v _ (show 7 ≠ 25 + (r 9).toNatClampNeg by omega)]
theorem beg7 (r : Nat → Int32) (v : Int32) : mBeg (upd r 7 v) = upd (mBeg r) 7 v := by
  unfold mBeg
  rw [upd_ne (show 9 ≠ 7 by decide), upd_ne (show 6 ≠ 7 by decide), log7, up_comm _ v _ (show 7 ≠ 9 by decide), up_comm _ v _ (show 7 ≠ 10 by decide)]
theorem start7 {r : Nat → Int32} {v : Int32} (h7 : ¬ r 7 ≤ 0) (hv : ¬ v ≤ 0) : mStart (upd r 7 v) = upd (mStart r) 7 v := by
  unfold mStart
  rw [upd_ne (show 10 ≠ 7 by decide), upd_ne (show 9 ≠ 7 by decide), upd_ne (show 6 ≠ 7 by decide), upd_ne (show 2 ≠ 7 by decide), upd_ne (show 3 ≠ 7 by decide), upd_ne (show 14 ≠ 7 by decide), upd_at, beg7, if_neg hv, if_neg h7]
  by_cases g1 : r 10 = 0
  · rw [if_pos g1, if_pos g1]
    by_cases g2 : r 9 ≤ r 6
    · rw [if_pos g2, if_pos g2]
      by_cases g3 : r 2 < r 3
      · rw [if_pos g3, if_pos g3]
      · rw [if_neg g3, if_neg g3]
        by_cases g4 : r 14 = 1
        · rw [if_pos g4, if_pos g4]
        · rw [if_neg g4, if_neg g4]
    · rw [if_neg g2, if_neg g2]
  · rw [if_neg g1, if_neg g1]
theorem draw7 (r : Nat → Int32) (v : Int32) : mDraw (upd r 7 v) = upd (mDraw r) 7 (v - (if r 14 = 1 then 0 else 1)) := by
  have hd : mDrawn (upd r 7 v) = mDrawn r := by
    unfold mDrawn
    rw [upd_ne (show 2 ≠ 7 by decide), upd_ne (show 19 ≠ 7 by decide), upd_ne (show 5 ≠ 7 by decide)]
  unfold mDraw
  rw [hd, upd_at, upd_ne (show 14 ≠ 7 by decide), upd_ne (show 2 ≠ 7 by decide), upd_ne (show 12 ≠ 7 by decide), upd_ne (show 4 ≠ 7 by decide), upd_upd]
  rw [up_comm _ (if r 4 < r 2 - mDrawn r then 1 else 0) (v - (if r 14 = 1 then 0 else 1)) (show 10 ≠ 7 by decide), up_comm _ (r 12 + mDrawn r) (v - (if r 14 = 1 then 0 else 1)) (show 12 ≠ 7 by decide), up_comm _ (r 2 - mDrawn r) (v - (if r 14 = 1 then 0 else 1)) (show 2 ≠ 7 by decide), upd_upd]
theorem draw_7 (r : Nat → Int32) : mDraw r 7 = r 7 - (if r 14 = 1 then 0 else 1) := by
  unfold mDraw
  rw [upd_ne (by decide), upd_ne (by decide), upd_ne (by decide), upd_at]
theorem run7 {r : Nat → Int32} (h7 : ¬ r 7 ≤ 0) : ∃ d : Int32, (d = 0 ∨ d = 1) ∧ mRun r 7 = r 7 - d ∧ ∀ v : Int32, ¬ v ≤ 0 → mRun (upd r 7 v) = upd (mRun r) 7 (v - d) := by
  unfold mRun
  by_cases g1 : r 10 = 0
  · refine ⟨0, Or.inl rfl, by rw [if_pos g1, Int32.sub_zero], fun v hv => ?_⟩
    rw [upd_ne (show 10 ≠ 7 by decide), if_pos g1, if_pos g1, Int32.sub_zero]
  · refine ⟨if r 14 = 1 then 0 else 1, by split; exact Or.inl rfl; exact Or.inr rfl, ?_, fun v hv => ?_⟩
    · rw [if_neg g1, if_neg h7]
      by_cases g4 : r 14 = 1
      · rw [if_pos g4, if_pos g4, draw_7, if_pos g4]
      · rw [if_neg g4, if_neg g4, draw_7, if_neg g4]
    · rw [upd_ne (show 10 ≠ 7 by decide), upd_ne (show 14 ≠ 7 by decide), upd_at, if_neg g1, if_neg g1, if_neg h7, if_neg hv, draw7]
      by_cases g4 : r 14 = 1
      · rw [if_pos g4, if_pos g4, if_pos g4]
      · rw [if_neg g4, if_neg g4, if_neg g4]
theorem stand7 (r : Nat → Int32) (v : Int32) (n : Nat) : mStand (upd r 7 v) n = upd (mStand r n) 7 v := by
  funext k
  by_cases hk : k = 7
  · subst hk
    rw [upd_at, stand_no _ (by omega), upd_at]
  · rw [upd_ne hk]
    unfold mStand
    by_cases h101 : 101 ≤ k
    · rw [upd_ne hk, upd_ne (show k - 1 ≠ 7 by omega), upd_ne (show k - 2 ≠ 7 by omega), upd_ne (show 2 ≠ 7 by decide)]
    · rw [if_neg (fun hh => h101 hh.1), if_neg (fun hh => h101 hh.1), upd_ne hk]
theorem goes7 {t : Nat → Int32} (ho : OkS t) (h7 : ¬ t 7 ≤ 0) : ∃ d : Int32, (d = 0 ∨ d = 1) ∧ mGoes t 7 = t 7 - d ∧ ∀ v : Int32, ¬ v ≤ 0 → mGoes (upd t 7 v) = upd (mGoes t) 7 (v - d) := by
  have hr9 := (PO_rises ho).1.1
  have r7 : mRises t 7 = t 7 := rises_no t (by decide) (by decide) (by decide) (by decide) (by omega)
  have s7 : mStart (mRises t) 7 = t 7 := by rw [start_lo _ hr9 ⟨by decide, by decide, by omega⟩, r7]
  obtain ⟨d, d1, d2, d3⟩ := run7 (r := mStart (mRises t)) (by rw [s7]; exact h7)
  rw [s7] at d2
  refine ⟨d, d1, ?_, fun v hv => ?_⟩
  · rw [goes_min (by omega) (by omega)]
    exact d2
  · have e : mPumps (mRises (upd t 7 v)) = upd (mPumps (mRises t)) 7 (v - d) := by
      unfold mPumps
      rw [rises7, start7 (by rw [r7]; exact h7) hv, d3 v hv]
    have em : mMin (upd t 7 v) = upd (mMin t) 7 (v - d) := by
      unfold mMin
      rw [e, upd_ne (show 8 ≠ 7 by decide), up_comm _ _ _ (show 7 ≠ 8 by decide)]
    unfold mGoes
    rw [em, upd_ne (show 17 ≠ 7 by decide), stand7]
theorem sub_d {n k : Nat} {d : Int32} (hd : d = 0 ∨ d = 1) (h : k < n) : ∃ e, (e = 0 ∨ e = 1) ∧ d = nI e := by
  rcases hd with rfl | rfl
  · exact ⟨0, Or.inl rfl, rfl⟩
  · exact ⟨1, Or.inr rfl, rfl⟩
theorem bat_eq {T : Nat → Int32} (hO : ∀ v, Ok (upd T 7 v)) {n b : Nat} (hn : n ≤ 200) (hb : n ≤ b) (hb2 : b ≤ 999) (m : Nat) : m ≤ n → ∃ k, k ≤ m ∧ mIter (upd T 7 (nI n)) m 7 = nI (n - k) ∧ mIter (upd T 7 (nI b)) m = upd (mIter (upd T 7 (nI n)) m) 7 (nI (b - k)) := by
  induction m with
  | zero =>
    intro _
    refine ⟨0, Nat.le_refl 0, ?_, ?_⟩
    · show upd T 7 (nI n) 7 = _
      rw [upd_at]
      rfl
    · show upd T 7 (nI b) = upd (upd T 7 (nI n)) 7 (nI (b - 0))
      rw [upd_upd]
      rfl
  | succ m ih =>
    intro hm
    obtain ⟨k, hk, e1, e2⟩ := ih (by omega)
    have hOm := Ok_iter (hO (nI n)) m
    have pos : ∀ j : Nat, 0 < j → j < 5000 → ¬ nI j ≤ 0 := fun j h0 h1 hh => by
      have := (nI_leS (m := 0) h1 (by omega)).mp hh
      omega
    obtain ⟨d, d1, d2, d3⟩ := goes7 hOm.1 (by rw [e1]; exact pos _ (by omega) (by omega))
    obtain ⟨e, he, rfl⟩ := sub_d (n := 1) (k := 0) d1 (by omega)
    refine ⟨k + e, by omega, ?_, ?_⟩
    · show mGoes (mIter (upd T 7 (nI n)) m) 7 = _
      rw [d2, e1, pk_sub (by omega), show n - k - e = n - (k + e) by omega]
    · show mGoes (mIter (upd T 7 (nI b)) m) = upd (mGoes (mIter (upd T 7 (nI n)) m)) 7 _
      rw [e2, d3 _ (pos _ (by omega) (by omega)), pk_sub (by omega), show b - k - e = b - (k + e) by omega]
theorem bat_iff {T : Nat → Int32} (hO : ∀ v, Ok (upd T 7 v)) {n b : Nat} (hn : n ≤ 200) (hb : n ≤ b) (hb2 : b ≤ 999) {a : Int32} (ha : 0 ≤ a.toInt) : mTop 0 (upd T 7 (nI b)) n ≤ a ↔ mTop 0 (upd T 7 (nI n)) n ≤ a := by
  have e : ∀ l, l ≤ n → mIter (upd T 7 (nI b)) l 2 = mIter (upd T 7 (nI n)) l 2 := fun l hl => by
    obtain ⟨k, -, -, e2⟩ := bat_eq hO hn hb hb2 l hl
    rw [e2, upd_ne (by decide)]
  rw [top_iff ha, top_iff ha]
  constructor
  · intro h l h1 h2
    rw [← e l h2]
    exact h l h1 h2
  · intro h l h1 h2
    rw [e l h2]
    exact h l h1 h2
theorem Fst_bat {T : Nat → Int32} (hO : ∀ v, Ok (upd T 7 v)) {n : Nat} (hn : n ≤ 200) {a r : Int32} (ha : 0 ≤ a.toInt) (h : Fst (fun k => mTop 0 (upd T 7 (nI k)) n ≤ a) 0 n r) : Fst (fun k => mTop 0 (upd T 7 (nI k)) n ≤ a) 0 999 r := by
  rcases h with ⟨e, x⟩ | ⟨m, m1, m2, e, x, y⟩
  · refine Or.inl ⟨e, fun m h1 h2 hp => ?_⟩
    by_cases hm : m ≤ n
    · exact x m h1 hm hp
    · exact x n (by omega) (Nat.le_refl n) ((bat_iff hO hn (by omega) h2 ha).mp hp)
  · exact Or.inr ⟨m, m1, by omega, e, x, y⟩
set_option maxHeartbeats 4000000 in
theorem bat3 {s : SS} {t : Nat → Int32} (hO : Ok t) (hc : CRel (q_sb s 1) t) {n : Nat} (hn : n ≤ 200) {a : Int32} (ha : 0 ≤ a.toInt) : ∃ r s', pX3_leastBattery s (nI n) a = some (r, s') ∧ Fst (fun k => mTop 0 (upd (upd t 14 0) 7 (nI k)) n ≤ a) 0 n r ∧ ∀ x, x < 14 → s' x = s x := by
  obtain ⟨s1, f1, f2, f3⟩ := foresee3 hO hc hn
  unfold pX3_leastBattery
  rw [f1, cs_s]
  refine q_for (S := SS) (R := Int32 × SS) (fun (f : SS → Int32 → Option (Int32 × SS)) s i => f s i) (m := 0) (n := n + 1) (by omega) (by omega) (fun j b => (∀ m, m < n → b 27 m = mQi t m) ∧ (∀ x, x < 14 → b x = s x) ∧ ∀ l, 0 ≤ l → l < j → ¬ mTop 0 (upd (upd t 14 0) 7 (nI l)) n ≤ a) (fun o => ∃ r s', o = some (r, s') ∧ Fst (fun k => mTop 0 (upd (upd t 14 0) 7 (nI k)) n ≤ a) 0 n r ∧ ∀ x, x < 14 → s' x = s x) ?_ ?_ s1 ⟨f2, f3, fun l h1 h2 => by omega⟩
  · rintro f j b hj1 hj2 ⟨hb1, hb2, hb3⟩ ih
    try dsimp only
    obtain ⟨b', p1, p2, p3⟩ := pump3 hO (CR_b hc hb2)
    rw [if_neg (fun hh => by have := (nI_ltS (by omega) (by omega)).mp hh; omega), p1, zz_b (Or.inl rfl), lt_v, lt_v]
    obtain ⟨⟨c0, c1, c2, c3, c4, c5, c6, c7, c8, c9⟩, cl⟩ := id p2
    have hp : PR (q_sb (su (su b' 20 5 0) 20 4 (nI j)) 20) (upd (upd t 14 0) 7 (nI j)) := PR_upd p2 (fun i hi => rfl) rfl (fun i hi => (upd_ne (by omega)).trans (upd_ne (by omega))) ⟨c0, c1, c2, c3, rfl, rfl, c6, c7, c8, c9⟩
    have keep : ∀ x, x ≠ 20 → x ≠ 21 → su (su b' 20 5 0) 20 4 (nI j) x = b x := fun x h1 h2 => by rw [ud_ne _ _ _ h1, ud_ne _ _ _ h1, p3 x h1 h2]
    have hI : eqI t (upd (upd t 14 0) 7 (nI j)) := by
      have i1 := eqI_upd (t := t) (k := 14) 0 (Or.inr (Or.inr (Or.inr rfl)))
      have i2 := eqI_upd (t := upd t 14 0) (k := 7) (nI j) (Or.inr (Or.inr (Or.inl rfl)))
      obtain ⟨x0, x1, x8, x15, x16, x19, xw⟩ := i1
      obtain ⟨y0, y1, y8, y15, y16, y19, yw⟩ := i2
      exact ⟨x0.trans y0, x1.trans y1, x8.trans y8, x15.trans y15, x16.trans y16, x19.trans y19, fun w hw => ⟨(xw w hw).1.trans (yw w hw).1, (xw w hw).2.1.trans (yw w hw).2.1, (xw w hw).2.2.trans (yw w hw).2.2⟩⟩
    obtain ⟨s', q1, q2, q3⟩ := try3 (n := n) (a := a) hO (Ok_bat (Ok_cur hO) (nI j)) hI rfl hc hp (fun x hx => (keep x (by omega) (by omega)).trans (hb2 x hx)) hn (fun m hm => by rw [keep 27 (by omega) (by omega)]; exact hb1 m hm) ha
    rw [q1, ci_s, nI_s]
    have k1 : ∀ x, x < 14 → s' x = s x := fun x hx => by rw [q3 x (by omega) (by omega), keep x (by omega) (by omega), hb2 x hx]
    by_cases hP : mTop 0 (upd (upd t 14 0) 7 (nI j)) n ≤ a
    · rw [if_pos hP, if_neg (by decide)]
      exact ⟨_, _, rfl, Or.inr ⟨j, hj1, by omega, rfl, hP, hb3⟩, k1⟩
    · rw [if_neg hP, if_pos rfl]
      refine ih _ ⟨fun m hm => by rw [q3 27 (by omega) (by omega), keep 27 (by omega) (by omega)]; exact hb1 m hm, k1, fun l h1 h2 => ?_⟩
      by_cases hl : l = j
      · rw [hl]; exact hP
      · exact hb3 l h1 (by omega)
  · rintro f b ⟨hb1, hb2, hb3⟩
    try dsimp only
    rw [if_pos ((nI_ltS (by omega) (by omega)).mpr (by omega))]
    exact ⟨_, _, rfl, Or.inl ⟨rfl, fun m h1 h2 => hb3 m h1 (by omega)⟩, hb2⟩
theorem back14 {b τ : SS} (hN : NS b (su τ 1 14 0)) : NS (q_sc b 1 (upd (b 1) 14 (τ 1 14))) τ := by
  refine ⟨?_, fun j hj => ?_, fun x h0 h1 h3 => ?_⟩
  · rw [sc_at, hN.1, ud_at, upd_upd, upd_self]
  · rw [show q_sc b 1 (upd (b 1) 14 (τ 1 14)) 0 = b 0 from rfl, hN.2.1 j hj]
    rfl
  · rw [show q_sc b 1 (upd (b 1) 14 (τ 1 14)) x = b x from if_neg h1, hN.2.2 x h0 h1 h3, ud_ne _ _ _ h1]
set_option maxHeartbeats 4000000 in
theorem bat12 (τ : SS) (hO : Ok (τ 1)) {n : Nat} (hn : n ≤ 200) {a : Int32} (hg : pX12_isNight (nI n) a = some 1) : ∃ r τ', pX12_batteryFor τ (nI n) a = some (if r = -1 then (-1000004, su τ' 4 3 (τ' 4 3 + 1)) else (r, τ')) ∧ NS τ' τ ∧ Fst (fun k => mTop 0 (upd (upd (τ 1) 14 0) 7 (nI k)) n ≤ a) 0 999 r := by
  unfold pX12_batteryFor
  rw [hg, cr_s, if_neg (by decide), Q1_14, W1_14, ← su_sc]
  refine q_for (S := SS × Int32) (R := Int32 × SS) (fun (f : SS → Int32 → Int32 → Option (Int32 × SS)) s i => f s.1 s.2 i) (m := 0) (n := 1000) (by omega) (by omega) (fun j b => NS b.1 (su τ 1 14 0) ∧ ((b.2 = -1 ∧ ∀ l, 0 ≤ l → l < j → ¬ mTop 0 (upd (upd (τ 1) 14 0) 7 (nI l)) n ≤ a) ∨ ∃ m, m ≤ 999 ∧ b.2 = nI m ∧ mTop 0 (upd (upd (τ 1) 14 0) 7 (nI m)) n ≤ a ∧ ∀ l, 0 ≤ l → l < m → ¬ mTop 0 (upd (upd (τ 1) 14 0) 7 (nI l)) n ≤ a)) (fun o => ∃ r τ', o = some (if r = -1 then (-1000004, su τ' 4 3 (τ' 4 3 + 1)) else (r, τ')) ∧ NS τ' τ ∧ Fst (fun k => mTop 0 (upd (upd (τ 1) 14 0) 7 (nI k)) n ≤ a) 0 999 r) ?_ ?_ (su τ 1 14 0, -1) ⟨NS_r _, Or.inl ⟨rfl, fun l h1 h2 => by omega⟩⟩
  · rintro f j ⟨b, x⟩ hj1 hj2 ⟨hN, hh⟩ ih
    try dsimp only at hN hh ⊢
    simp only [lt_n, W1_14, end_eq]
    rw [if_neg (fun hh => by have := (nI_ltS (n := 999) (by omega) (by omega)).mp hh; omega)]
    rcases hh with ⟨rfl, hl⟩ | ⟨m, m2, rfl, m3, m4⟩
    · rw [if_neg (show ¬ (0 : Int32) ≤ -1 by decide)]
      have hOj := Ok_bat (Ok_cur hO) (nI j)
      obtain ⟨b', w1, w2⟩ := sw12 b (w := 7) (v := nI j) (Or.inr (Or.inr rfl)) (by rw [hN.1]; exact hOj) hn a
      rw [hN.1, show su τ 1 14 0 1 = upd (τ 1) 14 0 from rfl] at w1
      rw [show (7 : Int32) = nI 7 from rfl, w1, ci_s, nI_s]
      by_cases hP : mTop 0 (upd (upd (τ 1) 14 0) 7 (nI j)) n ≤ a
      · obtain ⟨k, hk, ek⟩ := sw_val hOj n
        rw [show upd (upd (τ 1) 14 0) 7 (nI j) 9 = upd (τ 1) 14 0 9 from rfl] at ek
        rw [if_pos hP, ek, if_neg (by rw [i_lt, nI_toInt (by omega)]; show ¬ (k : Int) < 0; omega)]
        exact ih (b', nI j) ⟨NS_t w2 hN, Or.inr ⟨j, by omega, rfl, hP, hl⟩⟩
      · rw [if_neg hP, if_pos (by decide)]
        refine ih (b', -1) ⟨NS_t w2 hN, Or.inl ⟨rfl, fun l h1 h2 => ?_⟩⟩
        by_cases hlj : l = j
        · rw [hlj]; exact hP
        · exact hl l h1 (by omega)
    · rw [if_pos (ge0 (by omega)), fin_at _ (by omega)]
      exact ⟨nI m, _, rfl, back14 hN, Or.inr ⟨m, by omega, m2, rfl, m3, m4⟩⟩
  · rintro f ⟨b, x⟩ ⟨hN, hh⟩
    try dsimp only at hN hh ⊢
    simp only [lt_n, W1_14, end_eq]
    rw [if_pos (show (999 : Int32) < nI 1000 by decide)]
    rcases hh with ⟨rfl, hl⟩ | ⟨m, m2, rfl, m3, m4⟩
    · rw [fin_no]
      exact ⟨-1, _, rfl, back14 hN, Or.inl ⟨rfl, fun m h1 h2 => hl m h1 (by omega)⟩⟩
    · rw [fin_at _ (by omega)]
      exact ⟨nI m, _, rfl, back14 hN, Or.inr ⟨m, by omega, m2, rfl, m3, m4⟩⟩
theorem s_batteryFor : S_batteryFor Rel := by
  intro σ τ a1 a2 h
  have R0 : Rel (su σ 1 0 (σ 1 0 + 1)) (su τ 4 0 (τ 4 0 + 1)) := R_tell h (by decide)
  obtain ⟨t1, t2⟩ := trial_g a1 a2
  by_cases h1 : wi a1 1 200 = 0
  · rw [if_pos h1] at t1 t2
    simp only [pX11_batteryFor, pX12_batteryFor, t1, t2, cr_s, tell_0, find_0, ci_s]
    exact ⟨_, _, _, rfl, rfl, R0⟩
  by_cases h2 : wi a2 0 9999 = 0
  · rw [if_neg h1, if_pos h2] at t1 t2
    simp only [pX11_batteryFor, pX12_batteryFor, t1, t2, cr_s, tell_0, find_0, ci_s]
    exact ⟨_, _, _, rfl, rfl, R0⟩
  rw [if_neg h1, if_neg h2] at t1 t2
  obtain ⟨n, hn, hn1, rfl⟩ := trial_of (b := a2) h1
  have ha : 0 ≤ a2.toInt := (wi_ok h2).1
  have hO := h.1.1
  obtain ⟨r, s', p1, p2, p3⟩ := bat3 (s := q_ap 1 (q_sb σ 52) (q_ap 13 (q_sb σ 3) (q_sb σ 53))) hO (CR_n3 h.1.2.1) hn ha
  obtain ⟨r', τ', k1, k2, k3⟩ := bat12 τ hO hn (a := a2) t2
  have hr := Fst_u (Fst_bat (fun v => Ok_bat (Ok_cur hO) v) hn ha p2) k3
  subst hr
  unfold pX11_batteryFor
  rw [t1, cr_s, if_neg (by decide), p1, ci_s]
  exact both_end h p3 k2 k1
