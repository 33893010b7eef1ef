/-! ===== what comes doesn't hang on the pump ===== -/
def eqI (t t' : Nat → Int32) : Prop := t 0 = t' 0 ∧ t 1 = t' 1 ∧ t 8 = t' 8 ∧ t 15 = t' 15 ∧ t 16 = t' 16 ∧ t 19 = t' 19 ∧ ∀ w, w < 8 → t (65 + 4 * w) = t' (65 + 4 * w) ∧ t (66 + 4 * w) = t' (66 + 4 * w) ∧ t (67 + 4 * w) = t' (67 + 4 * w)
theorem goes_1 {t : Nat → Int32} (ho : OkS t) : mGoes t 1 = mGr t := by
  rw [goes_min (by omega) (by omega), pumps_no _ (PO_rises ho).1.1 (by decide) (by decide) (by decide) (by decide) (by decide) (by omega)]
  unfold mRises
  rw [over_no _ (by decide) (by decide)]
  unfold mIn
  rw [upd_ne (by decide), upd_ne (by decide), mW_no _ (by omega)]
  rfl
theorem goes_8 {t : Nat → Int32} (ho : OkS t) : mGoes t 8 = t 8 + 1 := by
  unfold mGoes
  rw [stand_no _ (by omega)]
  unfold mMin
  rw [upd_at, pumps_no _ (PO_rises ho).1.1 (by decide) (by decide) (by decide) (by decide) (by decide) (by omega), rises_no t (by decide) (by decide) (by decide) (by decide) (by omega)]
theorem goes_9 {t : Nat → Int32} (ho : OkS t) : mGoes t 9 = t 9 ∨ mGoes t 9 = t 9 + 1 := by
  have r9 : mRises t 9 = t 9 := rises_no t (by decide) (by decide) (by decide) (by decide) (by omega)
  rw [goes_min (by omega) (by omega)]
  unfold mPumps
  rw [run_no _ (by decide) (by decide) (by decide) (by decide)]
  have hb : mBeg (mRises t) 9 = t 9 + 1 := by
    rw [← r9]
    unfold mBeg
    rw [upd_ne (by decide), upd_at]
  unfold mStart
  split
  · split
    · split
      · exact Or.inl r9
      · split
        · exact Or.inr hb
        · split
          · exact Or.inl r9
          · exact Or.inr hb
    · exact Or.inl r9
  · exact Or.inl r9
theorem iter_9 {t : Nat → Int32} (h : Ok t) {a : Nat} (ea : t 9 = nI a) : ∀ n, ∃ k, k ≤ n ∧ mIter t n 9 = nI (a + k)
  | 0 => ⟨0, Nat.le_refl 0, ea⟩
  | n + 1 => by
    obtain ⟨k, hk, ek⟩ := iter_9 h ea n
    rcases goes_9 (Ok_iter h n).1 with e | e
    · exact ⟨k, by omega, by rw [← ek]; exact e⟩
    · refine ⟨k + 1, by omega, ?_⟩
      rw [ek, nI_s] at e
      exact e
theorem iter_8 {t : Nat → Int32} (h : Ok t) : ∀ n, mIter t n 8 = t 8 + nI n
  | 0 => (Int32.add_zero _).symm
  | n + 1 => by
    have e := goes_8 (Ok_iter h n).1
    rw [iter_8 h n, Int32.add_assoc, nI_s] at e
    exact e
theorem eqI_goes {t t' : Nat → Int32} (ho : OkS t) (ho' : OkS t') (h : eqI t t') : eqI (mGoes t) (mGoes t') := by
  obtain ⟨h0, h1, h8, h15, h16, h19, hw⟩ := h
  have c : ∀ j, (j ≠ 1 ∧ j ≠ 2 ∧ j ≠ 7 ∧ j ≠ 8 ∧ j ≠ 9 ∧ j ≠ 10 ∧ j ≠ 11 ∧ j ≠ 12 ∧ j ≠ 13) → (j < 25 ∨ 65 ≤ j) → (j < 68 ∨ 97 ≤ j ∨ (j - 68) % 4 ≠ 0) → (j < 101 ∨ 147 ≤ j ∨ (j - 101) % 5 ≠ 0) → t j = t' j → mGoes t j = mGoes t' j := fun j a1 a2 a3 a4 e => by
    rw [goes_no ho a1 a2 a3 a4, goes_no ho' a1 a2 a3 a4, e]
  refine ⟨c 0 (by omega) (by omega) (by omega) (by omega) h0, ?_, ?_, c 15 (by omega) (by omega) (by omega) (by omega) h15, c 16 (by omega) (by omega) (by omega) (by omega) h16, c 19 (by omega) (by omega) (by omega) (by omega) h19, fun w hw8 => ?_⟩
  · rw [goes_1 ho, goes_1 ho']
    unfold mGr
    rw [h0, h1]
  · rw [goes_8 ho, goes_8 ho', h8]
  · obtain ⟨w1, w2, w3⟩ := hw w hw8
    exact ⟨c _ (by omega) (by omega) (by omega) (by omega) w1, c _ (by omega) (by omega) (by omega) (by omega) w2, c _ (by omega) (by omega) (by omega) (by omega) w3⟩
theorem eqI_iter {t t' : Nat → Int32} (hO : Ok t) (hO' : Ok t') (h : eqI t t') : ∀ n, eqI (mIter t n) (mIter t' n)
  | 0 => h
  | n + 1 => eqI_goes (Ok_iter hO n).1 (Ok_iter hO' n).1 (eqI_iter hO hO' h n)
theorem comes_eqI {t t' : Nat → Int32} (h : eqI t t') {w : Nat} (hw8 : w < 8) : mComes (mSoak t) w = mComes (mSoak t') w := by
  obtain ⟨h0, h1, h8, h15, h16, h19, hw⟩ := h
  obtain ⟨w1, w2, w3⟩ := hw w hw8
  have hg : mGr t = mGr t' := by
    unfold mGr
    rw [h0, h1]
  show vCo (upd t 1 (mGr t) (65 + 4 * w)) (upd t 1 (mGr t) (66 + 4 * w)) (upd t 1 (mGr t) (67 + 4 * w)) (t 0) (mGr t) (t 15) (t 8) (ib (t 19) 0) = vCo (upd t' 1 (mGr t') (65 + 4 * w)) (upd t' 1 (mGr t') (66 + 4 * w)) (upd t' 1 (mGr t') (67 + 4 * w)) (t' 0) (mGr t') (t' 15) (t' 8) (ib (t' 19) 0)
  rw [upd_ne (show 65 + 4 * w ≠ 1 by omega), upd_ne (show 66 + 4 * w ≠ 1 by omega), upd_ne (show 67 + 4 * w ≠ 1 by omega), upd_ne (show 65 + 4 * w ≠ 1 by omega), upd_ne (show 66 + 4 * w ≠ 1 by omega), upd_ne (show 67 + 4 * w ≠ 1 by omega), w1, w2, w3, h0, hg, h15, h8, h19]
theorem sum_eqI {t t' : Nat → Int32} (h : eqI t t') (n : Nat) : n ≤ 8 → mSum (mSoak t) n = mSum (mSoak t') n := by
  induction n with
  | zero =>
    intro _
    have z1 : mSum (mSoak t) 0 = 0 := rfl
    have z2 : mSum (mSoak t') 0 = 0 := rfl
    rw [z1, z2]
  | succ n ih =>
    intro hn
    have e1 : mSum (mSoak t) (n + 1) = mSum (mSoak t) n + mComes (mSoak t) n := rfl
    have e2 : mSum (mSoak t') (n + 1) = mSum (mSoak t') n + mComes (mSoak t') n := rfl
    rw [e1, e2, ih (by omega), comes_eqI h (by omega)]
def mQi (t : Nat → Int32) (m : Nat) : Int32 := mSum (mSoak (mIter t m)) (t 16).toNatClampNeg
theorem Q_eq {t t' : Nat → Int32} (hO : Ok t) (hO' : Ok t') (h : eqI t t') (m : Nat) : mQi t m = mQi t' m := by
  have o := hO.1.1
  have hcl := cl_toInt o.1
  unfold mQi
  rw [← h.2.2.2.2.1]
  exact sum_eqI (eqI_iter hO hO' h m) _ (by omega)
/-! ===== what comes, found once ===== -/
def CIn (c : SS) (t : Nat → Int32) : Prop := c 0 6 = t 0 ∧ c 0 7 = t 1 ∧ c 0 9 = t 8 ∧ c 0 5 = t 15 ∧ c 0 4 = t 19 ∧ c 1 0 = t 16 ∧ ∀ w : Nat, (w : Int) < (t 16).toInt → c 2 w = t (65 + 4 * w) ∧ c 3 w = t (66 + 4 * w) ∧ c 4 w = t (67 + 4 * w)
theorem sb_em (b c : SS) {x : Nat} (hx : x < 13) : q_sb (q_em b 14 0 13 c) 14 x = c x := by
  show q_em b 14 0 13 c (14 + x) = c x
  rw [em_in x hx, Nat.zero_add]
set_option maxHeartbeats 4000000 in
theorem foresee3 {s : SS} {t : Nat → Int32} (hO : Ok t) (hc : CRel (q_sb s 1) t) {n : Nat} (hn : n ≤ 200) : ∃ s', pX3_foreseeInflow s (nI n) = some s' ∧ (∀ m, m < n → s' 27 m = mQi t m) ∧ ∀ x, x < 14 → s' x = s x := by
  obtain ⟨s1, b1, b2, b3, b4⟩ := begin3 hO hc
  unfold pX3_foreseeInflow
  rw [b1, cs_s]
  obtain ⟨e0, e1, e2, e3, e4, e5, e6, e7, e8, e9, e10, e11, e12, e13, e14, e15, e16, e17, e19, e66⟩ := id b2.1
  refine q_for (S := SS) (R := SS) (fun (f : SS → Int32 → Option SS) s i => f s i) (m := 0) (n := n) (by omega) (by omega) (fun j b => CIn (q_sb b 14) (mIter t j) ∧ (∀ m, m < j → b 27 m = mQi t m) ∧ ∀ x, x < 14 → b x = s x) (fun o => ∃ s', o = some s' ∧ (∀ m, m < n → s' 27 m = mQi t m) ∧ ∀ x, x < 14 → s' x = s x) ?_ ?_ s1 ⟨⟨e0, e1, e8, e15, e19, e16, fun w hw => ?_⟩, fun m hm => by omega, fun x hx => b4 x (by omega)⟩
  · rintro f j b hj1 hj2 ⟨⟨i0, i1, i8, i15, i19, i16, iw⟩, hb2, hb3⟩ ih
    try dsimp only
    have hOj := Ok_iter hO j
    have ho := hOj.1
    obtain ⟨c1, g1, g2, g3, g4⟩ := soak0 (c := q_sb b 14) (t := mIter t j) i0 i1
    have m16 : mIter t j 16 = t 16 := iter_no hO (by omega) (by omega) (by omega) (by omega) j
    obtain ⟨c2, k1, k2, k3, k4, k5⟩ := takeIn0 (c := q_sb (q_em b 14 0 13 c1) 14) (t := mSoak (mIter t j)) ho.2.2.2.2.2.2.2.1 ho.1 (by rw [sb_em b c1 (by omega), g3 6 (by decide)]; exact i0) (by rw [sb_em b c1 (by omega)]; exact g4) (by rw [sb_em b c1 (by omega), g3 9 (by decide)]; exact i8) (by rw [sb_em b c1 (by omega), g3 5 (by decide)]; exact i15) (by rw [sb_em b c1 (by omega), g3 4 (by decide)]; exact i19) (by rw [sb_em b c1 (by omega), g2 1 (by decide)]; exact i16) (fun w hw => by
      obtain ⟨w1, w2, w3⟩ := iw w hw
      rw [sb_em b c1 (by omega), sb_em b c1 (by omega), sb_em b c1 (by omega), g2 2 (by decide), g2 3 (by decide), g2 4 (by decide)]
      unfold mSoak
      rw [upd_ne (by omega), upd_ne (by omega), upd_ne (by omega)]
      exact ⟨w1, w2, w3⟩)
    have kq : mSum (mSoak (mIter t j)) (mSoak (mIter t j) 16).toNatClampNeg = mQi t j := by
      unfold mQi
      rw [show mSoak (mIter t j) 16 = mIter t j 16 from rfl, m16]
    rw [kq] at k1
    rw [if_neg (by rw [nI_leS (by omega) (by omega)]; omega), g1, cs_s, k1, ci_s, wr_n _ _ _ _ (by omega), lt_v, nI_s]
    generalize hb' : su (su (q_em (q_em b 14 0 13 c1) 14 0 13 c2) 27 j (mQi t j)) 14 9 _ = b'
    have f1 : ∀ x, x ≠ 0 → x < 13 → q_sb b' 14 x = c2 x := fun x h0 hx => by
      rw [← hb']
      show su _ 14 9 _ (14 + x) = _
      rw [ud_ne _ _ _ (by omega), ud_ne _ _ _ (by omega), em_in x hx, Nat.zero_add]
    have f0 : ∀ k, k ≠ 9 → q_sb b' 14 0 k = c2 0 k := fun k hk => by
      rw [← hb']
      show upd (q_em (q_em b 14 0 13 c1) 14 0 13 c2 (14 + 0)) 9 _ k = _
      rw [upd_ne hk, em_in 0 (by omega)]
    have f9 : q_sb b' 14 0 9 = c2 0 9 + 1 := by
      rw [← hb']
      rfl
    have d0 : ∀ k, k ≠ 10 → k ≠ 7 → c2 0 k = q_sb b 14 0 k := fun k h1 h2 => by rw [k3 k h1, sb_em b c1 (by omega), g3 k h2]
    have dx : ∀ x, x ≠ 0 → x ≠ 5 → x < 13 → c2 x = q_sb b 14 x := fun x h1 h2 h3 => by rw [k2 x h1 h2, sb_em b c1 h3, g2 x h1]
    refine ih b' ⟨⟨?_, ?_, ?_, ?_, ?_, ?_, fun w hw => ?_⟩, fun m hm => ?_, fun x hx => ?_⟩
    · rw [f0 6 (by decide), d0 6 (by decide) (by decide), i0]
      exact (goes_no ho (by omega) (by omega) (by omega) (by omega)).symm
    · rw [f0 7 (by decide), k3 7 (by decide), sb_em b c1 (by omega), g4]
      exact (goes_1 ho).symm
    · rw [f9, d0 9 (by decide) (by decide), i8]
      exact (goes_8 ho).symm
    · rw [f0 5 (by decide), d0 5 (by decide) (by decide), i15]
      exact (goes_no ho (by omega) (by omega) (by omega) (by omega)).symm
    · rw [f0 4 (by decide), d0 4 (by decide) (by decide), i19]
      exact (goes_no ho (by omega) (by omega) (by omega) (by omega)).symm
    · rw [f1 1 (by decide) (by decide), dx 1 (by decide) (by decide) (by decide), i16]
      exact (goes_no ho (by omega) (by omega) (by omega) (by omega)).symm
    · have e16' : mIter t (j + 1) 16 = mIter t j 16 := goes_no ho (by omega) (by omega) (by omega) (by omega)
      rw [e16'] at hw
      have hw8 := ho.1
      obtain ⟨w1, w2, w3⟩ := iw w hw
      rw [f1 2 (by decide) (by decide), f1 3 (by decide) (by decide), f1 4 (by decide) (by decide), dx 2 (by decide) (by decide) (by decide), dx 3 (by decide) (by decide) (by decide), dx 4 (by decide) (by decide) (by decide), w1, w2, w3]
      exact ⟨(goes_no ho (by omega) (by omega) (by omega) (by omega)).symm, (goes_no ho (by omega) (by omega) (by omega) (by omega)).symm, (goes_no ho (by omega) (by omega) (by omega) (by omega)).symm⟩
    · have e27 : b' 27 = upd (b 27) j (mQi t j) := by
        rw [← hb', ud_ne _ _ _ (by omega), ud_at, em_out (by omega), em_out (by omega)]
      rw [e27]
      by_cases hmj : m = j
      · subst hmj; exact upd_at
      · rw [upd_ne hmj]; exact hb2 m (by omega)
    · rw [← hb', ud_ne _ _ _ (by omega), ud_ne _ _ _ (by omega), em_out (by omega), em_out (by omega), hb3 x hx]
  · rintro f b ⟨-, hb2, hb3⟩
    try dsimp only
    rw [if_pos (by rw [nI_leS (by omega) (by omega)]; omega)]
    exact ⟨b, rfl, hb2, hb3⟩
  · obtain ⟨w1, w2, w3, -⟩ := b2.2.2.1 w hw
    exact ⟨w1, w2, w3⟩
/-! ===== a pump is tried ===== -/
theorem PR_rises {p : SS} {t : Nat → Int32} (h : PR p t) : PR p (mRises t) := by
  have rn : ∀ j : Nat, j ≠ 1 → j ≠ 2 → j ≠ 11 → j ≠ 13 → j < 68 → mRises t j = t j := fun j a b c3 d e => rises_no t a b c3 d (by omega)
  obtain ⟨⟨p0, p1, p2, p3, p4, p5, p6, p7, p8, p9⟩, hl⟩ := h
  refine ⟨⟨?_, ?_, ?_, ?_, ?_, ?_, ?_, ?_, ?_, ?_⟩, fun i hi hi2 => ?_⟩
  · rw [rn 3 (by decide) (by decide) (by decide) (by decide) (by decide)]; exact p0
  · rw [rn 4 (by decide) (by decide) (by decide) (by decide) (by decide)]; exact p1
  · rw [rn 5 (by decide) (by decide) (by decide) (by decide) (by decide)]; exact p2
  · rw [rn 6 (by decide) (by decide) (by decide) (by decide) (by decide)]; exact p3
  · rw [rn 7 (by decide) (by decide) (by decide) (by decide) (by decide)]; exact p4
  · rw [rn 14 (by decide) (by decide) (by decide) (by decide) (by decide)]; exact p5
  · rw [rn 19 (by decide) (by decide) (by decide) (by decide) (by decide)]; exact p6
  · rw [rn 10 (by decide) (by decide) (by decide) (by decide) (by decide)]; exact p7
  · rw [rn 9 (by decide) (by decide) (by decide) (by decide) (by decide)]; exact p8
  · rw [rn 12 (by decide) (by decide) (by decide) (by decide) (by decide)]; exact p9
  · rw [rn 9 (by decide) (by decide) (by decide) (by decide) (by decide)] at hi2
    rw [rn (25 + i) (by omega) (by omega) (by omega) (by omega) (by omega)]
    exact hl i hi hi2
theorem PR_goes {p : SS} {t : Nat → Int32} (h : PR p (mPumps (mRises t))) : PR p (mGoes t) := by
  have g : ∀ j, j < 101 → j ≠ 8 → mGoes t j = mPumps (mRises t) j := fun j h1 h2 => goes_min h1 h2
  unfold PR at h ⊢
  rw [g 3 (by decide) (by decide), g 4 (by decide) (by decide), g 5 (by decide) (by decide), g 6 (by decide) (by decide), g 7 (by decide) (by decide), g 14 (by decide) (by decide), g 19 (by decide) (by decide), g 10 (by decide) (by decide), g 9 (by decide) (by decide), g 12 (by decide) (by decide)]
  refine ⟨h.1, fun i hi hi2 => ?_⟩
  rw [g (25 + i) (by omega) (by omega)]
  exact h.2 i hi hi2
theorem rises_2 {t : Nat → Int32} : mRises t 2 = if t 2 + mSum (mSoak t) (t 16).toNatClampNeg < 9999 then t 2 + mSum (mSoak t) (t 16).toNatClampNeg else 9999 := by
  have hR2 : mIn (mSoak t) (t 16).toNatClampNeg 2 = t 2 + mSum (mSoak t) (t 16).toNatClampNeg := rfl
  unfold mRises mOver
  rw [hR2]
  generalize t 2 + mSum (mSoak t) (t 16).toNatClampNeg = d at hR2
  by_cases h : d ≤ 9999
  · rw [if_pos h, hR2]
    by_cases h2 : d < 9999
    · rw [if_pos h2]
    · rw [if_neg h2]
      rw [i_le] at h
      rw [i_lt] at h2
      exact i_eq.mpr (by omega)
  · rw [if_neg h, if_neg (by rw [i_le] at h; rw [i_lt]; omega)]
    rfl
set_option maxHeartbeats 4000000 in
theorem stays3 {s : SS} {u : Nat → Int32} {n : Nat} {a : Int32} (hO : Ok u) (hp : PR (q_sb s 20) u) (hd : s 1 8 = u 2) (hm : s 1 9 = u 8) (hn : n ≤ 200) (hq : ∀ m, m < n → s 27 m = mQi u m) (ha : 0 ≤ a.toInt) : ∃ s', pX3_staysWithin s (nI n) a = some (if mTop 0 u n ≤ a then 1 else 0, s') ∧ (mTop 0 u n ≤ a → s' 20 8 = mIter u n 9) ∧ ∀ x, x ≠ 20 → x ≠ 21 → s' x = s x := by
  have ti := top_iff ha u n
  unfold pX3_staysWithin
  rw [lt_v, hd]
  refine q_for (S := SS × Int32) (R := Int32 × SS) (fun (f : SS → Int32 → Int32 → Option (Int32 × SS)) s i => f s.1 s.2 i) (m := 0) (n := n) (by omega) (by omega) (fun j b => PR (q_sb b.1 20) (mIter u j) ∧ b.2 = mIter u j 2 ∧ (∀ x, x ≠ 20 → x ≠ 21 → b.1 x = s x) ∧ ∀ l, 1 ≤ l → l ≤ j → mIter u l 2 ≤ a) (fun o => ∃ s', o = some (if mTop 0 u n ≤ a then 1 else 0, s') ∧ (mTop 0 u n ≤ a → s' 20 8 = mIter u n 9) ∧ ∀ x, x ≠ 20 → x ≠ 21 → s' x = s x) ?_ ?_ (s, u 2) ⟨hp, rfl, fun _ _ _ => rfl, fun l h1 h2 => by omega⟩
  · rintro f j ⟨b, d⟩ hj1 hj2 ⟨hb1, hb2, hb3, hb4⟩ ih
    try dsimp only at hb1 hb2 hb3 ⊢
    have hOj := Ok_iter hO j
    have m16 : mIter u j 16 = u 16 := iter_no hO (by omega) (by omega) (by omega) (by omega) j
    have e2 : mRises (mIter u j) 2 = if d + mQi u j < 9999 then d + mQi u j else 9999 := by
      rw [rises_2, hb2, m16]
      rfl
    have e8 : mRises (mIter u j) 8 = u 8 + nI j := by
      rw [rises_no _ (by decide) (by decide) (by decide) (by decide) (by omega), iter_8 hO j]
    obtain ⟨q, q1, q2, q3⟩ := leaves_eq (PR_rises hb1) (PO_rises hOj.1)
    have eg : mPumps (mRises (mIter u j)) 2 = mIter u (j + 1) 2 := (goes_min (by omega) (by omega)).symm
    rw [e2, e8, eg] at q1
    rw [if_neg (by rw [nI_leS (by omega) (by omega)]; omega), rd_n _ _ (by omega), hb3 27 (by omega) (by omega), hq j hj2, hb3 1 (by omega) (by omega), hm, q1, ci_s, nI_s]
    have k2 : PR (q_sb (q_em b 20 0 2 q) 20) (mIter u (j + 1)) := by
      have : PR q (mGoes (mIter u j)) := PR_goes q2
      have x0 : q_sb (q_em b 20 0 2 q) 20 0 = q 0 := em_in 0 (by omega)
      have x1 : q_sb (q_em b 20 0 2 q) 20 1 = q 1 := em_in 1 (by omega)
      unfold PR
      rw [x0, x1]
      exact this
    have k3 : ∀ x, x ≠ 20 → x ≠ 21 → q_em b 20 0 2 q x = s x := fun x h1 h2 => by rw [em_out (by omega), hb3 x h1 h2]
    split
    · rename_i hc
      refine ih (_, _) ⟨k2, rfl, k3, fun l h1 h2 => ?_⟩
      by_cases hl : l = j + 1
      · rw [hl]; exact hc
      · exact hb4 l h1 (by omega)
    · rename_i hc
      have hnt : ¬ mTop 0 u n ≤ a := fun hh => hc (ti.mp hh (j + 1) (by omega) (by omega))
      rw [zz_b (Or.inl rfl), if_neg hnt]
      exact ⟨_, rfl, fun hh => absurd hh hnt, k3⟩
  · rintro f ⟨b, d⟩ ⟨hb1, hb2, hb3, hb4⟩
    try dsimp only at hb1 hb2 hb3 ⊢
    have ht : mTop 0 u n ≤ a := ti.mpr hb4
    rw [if_pos (by rw [nI_leS (by omega) (by omega)]; omega), zz_b (Or.inr rfl), if_pos ht]
    exact ⟨_, rfl, fun _ => hb1.1.2.2.2.2.2.2.2.2.1, hb3⟩
theorem pump3 {b : SS} {t : Nat → Int32} (hO : Ok t) (hc : CRel (q_sb b 1) t) : ∃ b' : SS, (∀ {R : Type} (k : SS → Option R), q_cs (pX4_becomeLike (q_ap 2 (q_sb b 20) (q_sb b 7))) (fun (τ : SS) => (q_em (q_em b 20 0 2 τ) 7 2 2 τ)) k = k b') ∧ PR (q_sb b' 20) t ∧ ∀ x, x ≠ 20 → x ≠ 21 → b' x = b x := by
  obtain ⟨⟨e0, e1, e2, e3, e4, e5, e6, e7, e8, e9, e10, e11, e12, e13, e14, e15, e16, e17, e19, e66⟩, c2, -⟩ := hc
  obtain ⟨o1, o2, o3, o4, o5, o6, o7, o8, o9, o10⟩ := hO.1
  obtain ⟨m, hm, em⟩ := num_of (a := t 9) (n := 1000) o4.1 o4.2
  have n9 : (t 9).toInt = m := by rw [em, nI_toInt (by omega)]
  have z2 : q_ap 2 (q_sb b 20) (q_sb b 7) 2 = b 7 := ap_sb_hi 0
  have z3 : q_ap 2 (q_sb b 20) (q_sb b 7) 3 = b 8 := ap_sb_hi 1
  have e3 : b 7 0 = _ := e3
  have e4 : b 7 1 = _ := e4
  have e5 : b 7 2 = _ := e5
  have e6 : b 7 3 = _ := e6
  have e7 : b 7 4 = _ := e7
  have e9 : b 7 8 = _ := e9
  have e10 : b 7 7 = _ := e10
  have e12 : b 7 9 = _ := e12
  have e14 : b 7 5 = _ := e14
  have e66 : b 7 6 = _ := e66
  obtain ⟨p, hp, p1, p2, p3⟩ := like4 (s := q_ap 2 (q_sb b 20) (q_sb b 7)) hm (by rw [z2, e9, em]) (by rw [z2, e14]; exact o7) (by rw [z2, e66]; exact ib_01 _ _) (by rw [z2, e10]; exact o9)
  obtain ⟨q1, q2⟩ := em2 b p (b := 20) (b' := 7) (n := 2) (by omega) p3
  refine ⟨_, fun k => by rw [hp, cs_s], ?_, fun x h1 h2 => q1 x (by omega)⟩
  have x0 : q_sb (q_em (q_em b 20 0 2 p) 7 2 2 p) 20 0 = p 0 := q2 0 (by omega)
  have x1 : q_sb (q_em (q_em b 20 0 2 p) 7 2 2 p) 20 1 = p 1 := q2 1 (by omega)
  unfold PR
  rw [x0, x1, p1 0 (by omega), p1 1 (by omega), p1 2 (by omega), p1 3 (by omega), p1 4 (by omega), p1 5 (by omega), p1 6 (by omega), p1 7 (by omega), p1 8 (by omega), p1 9 (by omega), z2]
  refine ⟨⟨e3, e4, e5, e6, e7, e14, e66, e10, e9, e12⟩, fun i hi hi2 => ?_⟩
  rw [p2 i hi (by omega), z3]
  exact c2 i hi hi2
/-! ===== the reference's trials ===== -/
def NS (τ' τ : SS) : Prop := τ' 1 = τ 1 ∧ (∀ j, j ≠ 5 → τ' 0 j = τ 0 j) ∧ ∀ x, x ≠ 0 → x ≠ 1 → x ≠ 3 → τ' x = τ x
theorem NS_r (τ : SS) : NS τ τ := ⟨rfl, fun _ _ => rfl, fun _ _ _ _ => rfl⟩
theorem NS_t {a b c : SS} (h : NS a b) (h2 : NS b c) : NS a c := ⟨h.1.trans h2.1, fun j hj => (h.2.1 j hj).trans (h2.2.1 j hj), fun x h0 h1 h3 => (h.2.2 x h0 h1 h3).trans (h2.2.2 x h0 h1 h3)⟩
theorem NS_n (τ : SS) {r : Nat → Int32} (g : Int32) (hr : ∀ j, 307 ≤ j → r j = τ 1 j) : NS (rs (nb τ) (nbk τ r) g) τ := by
  refine ⟨?_, fun j hj => upd_ne hj, fun x h0 h1 h3 => ?_⟩
  · rw [rs_1]
    funext j
    by_cases hj : j < 307
    · exact nbk_lo τ r hj
    · exact (if_neg hj).trans (hr j (by omega))
  · rw [rs_no _ _ _ (by omega)]
    exact if_neg h3
theorem R_NS {σ σ' τ τ' : SS} (h : Rel σ τ) (hx : ∀ x, x < 52 → σ' x = σ x) (hn : NS τ' τ) : Rel σ' τ' :=
  R_same h hx (fun j _ => by rw [hn.1]) (hn.2.1 3 (by decide)) (hn.2.1 7 (by decide)) (fun x hx => hn.2.2 x (by omega) (by omega) (by omega))
theorem sw12 (τ : SS) {w : Nat} {v : Int32} (hw : w = 3 ∨ w = 5 ∨ w = 7) (hO : Ok (upd (τ 1) w v)) {n : Nat} (hn : n ≤ 200) (a : Int32) : ∃ τ', pX12_startsWith τ (nI w) v (nI n) a = some (if mTop 0 (upd (τ 1) w v) n ≤ a then mIter (upd (τ 1) w v) n 9 - τ 1 9 else -1, τ') ∧ NS τ' τ := by
  have e9 : upd (τ 1) w v 9 = τ 1 9 := upd_ne (by omega)
  unfold pX12_startsWith
  rw [begin_rs, cs_s, lt_v, rs_top, wr_n _ _ _ _ (by omega), rs_su, rs_1, Q1_9, e9, goesOn_rs (nb τ) 0 hO (by omega), cs_s]
  simp only [lt_n, back_rs, cs_s, rs_g, rs_1, Q1_9]
  have hns : ∀ g, NS (rs (nb τ) (nbk τ (mIter (upd (τ 1) w v) n)) g) τ := fun g => NS_n τ g (fun j hj => by
    rw [iter_no hO (by omega) (by omega) (by omega) (by omega) n]
    exact upd_ne (by omega))
  split
  · exact ⟨_, rfl, hns _⟩
  · exact ⟨_, rfl, hns _⟩
theorem sw_val {u : Nat → Int32} (hO : Ok u) (n : Nat) : ∃ k, k ≤ n ∧ mIter u n 9 - u 9 = nI k := by
  have o4 := hO.1.2.2.2.1
  obtain ⟨a, ha, ea⟩ := num_of (a := u 9) (n := 1000) o4.1 o4.2
  obtain ⟨k, hk, ek⟩ := iter_9 hO ea n
  refine ⟨k, hk, ?_⟩
  rw [ek, ea, pk_sub (by omega), show a + k - a = k by omega]
theorem trial_g (a b : Int32) : pX11_isTrial a b = some (if wi a 1 200 = 0 then 0 else if wi b 0 9999 = 0 then 0 else 1) ∧ pX12_isNight a b = some (if wi a 1 200 = 0 then 0 else if wi b 0 9999 = 0 then 0 else 1) := by
  constructor
  · unfold pX11_isTrial
    simp only [lt_n, within_eq, cr_s]
    split
    · rfl
    · split <;> rfl
  · unfold pX12_isNight
    simp only [lt_n, in_eq, cr_s]
    split
    · rfl
    · split <;> rfl
/-- a row with another number of the pump -/
theorem Ok_on {t : Nat → Int32} (h : Ok t) (v : Int32) : Ok (upd t 3 v) := by
  obtain ⟨o1, o2, o3, o4, o5, o6, o7, o8, o9, o10, o11, o12, o13, o14⟩ := id h.1
  exact Ok_mk h ⟨o1, o2, o3, o4, o5, o6, o7, o8, o9, o10, o11, o12, o13, o14⟩ rfl rfl (fun j hj => upd_ne (by omega))
theorem Ok_rate {t : Nat → Int32} (h : Ok t) {k : Nat} (hk : k ≤ 99) : Ok (upd t 5 (nI k)) := by
  obtain ⟨o1, o2, o3, o4, o5, o6, o7, o8, o9, o10, o11, o12, o13, o14⟩ := id h.1
  exact Ok_mk h ⟨o1, o2, o3, o4, o5, o6, o7, o8, o9, o10, o11, o12, o13, show 0 ≤ (nI k).toInt ∧ (nI k).toInt ≤ 99 by rw [nI_toInt (by omega)]; omega⟩ rfl rfl (fun j hj => upd_ne (by omega))
theorem Ok_bat {t : Nat → Int32} (h : Ok t) (v : Int32) : Ok (upd t 7 v) := by
  obtain ⟨o1, o2, o3, o4, o5, o6, o7, o8, o9, o10, o11, o12, o13, o14⟩ := id h.1
  exact Ok_mk h ⟨o1, o2, o3, o4, o5, o6, o7, o8, o9, o10, o11, o12, o13, o14⟩ rfl rfl (fun j hj => upd_ne (by omega))
theorem Ok_cur {t : Nat → Int32} (h : Ok t) : Ok (upd t 14 0) := by
  obtain ⟨o1, o2, o3, o4, o5, o6, o7, o8, o9, o10, o11, o12, o13, o14⟩ := id h.1
  exact Ok_mk h ⟨o1, o2, o3, o4, o5, o6, Or.inl rfl, o8, o9, o10, o11, o12, o13, o14⟩ rfl rfl (fun j hj => upd_ne (by omega))
theorem eqI_upd {t : Nat → Int32} {k : Nat} (v : Int32) (hk : k = 3 ∨ k = 5 ∨ k = 7 ∨ k = 14) : eqI t (upd t k v) := by
  have c : ∀ j, j ≠ 3 → j ≠ 5 → j ≠ 7 → j ≠ 14 → t j = upd t k v j := fun j a b c d => (upd_ne (by omega)).symm
  exact ⟨c 0 (by decide) (by decide) (by decide) (by decide), c 1 (by decide) (by decide) (by decide) (by decide), c 8 (by decide) (by decide) (by decide) (by decide), c 15 (by decide) (by decide) (by decide) (by decide), c 16 (by decide) (by decide) (by decide) (by decide), c 19 (by decide) (by decide) (by decide) (by decide), fun w _ => ⟨c _ (by omega) (by omega) (by omega) (by omega), c _ (by omega) (by omega) (by omega) (by omega), c _ (by omega) (by omega) (by omega) (by omega)⟩⟩
theorem PR_upd {p p' : SS} {t t' : Nat → Int32} (h : PR p t) (h1 : ∀ i, i < 40 → p' 1 i = p 1 i) (h9 : t' 9 = t 9) (hl : ∀ i, i < 40 → t' (25 + i) = t (25 + i)) (hs : p' 0 0 = t' 3 ∧ p' 0 1 = t' 4 ∧ p' 0 2 = t' 5 ∧ p' 0 3 = t' 6 ∧ p' 0 4 = t' 7 ∧ p' 0 5 = t' 14 ∧ p' 0 6 = ib (t' 19) 2 ∧ p' 0 7 = t' 10 ∧ p' 0 8 = t' 9 ∧ p' 0 9 = t' 12) : PR p' t' :=
  ⟨hs, fun i hi hi2 => by
    rw [h9] at hi2
    rw [h1 i hi, hl i hi]
    exact h.2 i hi hi2⟩
