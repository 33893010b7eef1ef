/-! ===== which works ===== -/
def mCo (t : Nat → Int32) (x : Int32) : Nat → Int32
  | 0 => 0
  | k + 1 => if ib x k = 0 then mCo t x k else mCo t x k + t (21 + k)
def mBA (t : Nat → Int32) (x : Int32) : Nat → Nat → Int32
  | 0 => t
  | k + 1 => if ib x k = 0 then mBA t x k else mBuild (mBA t x k) k
theorem cost0 {c : SS} {t : Nat → Int32} (hc : ∀ w, w < 4 → c 12 w = t (21 + w)) (x : Int32) : pX0_costOf c x = some (mCo t x 4) := by
  unfold pX0_costOf
  refine q_for (S := Int32) (R := Int32) (fun (f : Int32 → Int32 → Option Int32) s i => f s i) (m := 0) (n := 4) (by omega) (by omega) (fun j s => s = mCo t x j) (fun r => r = some (mCo t x 4)) ?_ ?_ 0 rfl
  · intro f j s hj1 hj2 hs ih
    subst hs
    try dsimp only
    have es : mCo t x (j + 1) = if ib x j = 0 then mCo t x j else mCo t x j + t (21 + j) := rfl
    rw [if_neg (fun hh => by have := (nI_leS (n := 4) (by omega) (by omega)).mp hh; omega)]
    simp only [lt_n]
    rw [rd_n _ _ hj2, hc j hj2, nI_s]
    by_cases hb : ib x j = 0
    · rw [if_pos ((and_bit x (by omega)).mpr hb)]
      exact ih _ (by rw [es, if_pos hb])
    · rw [if_neg (fun hh => hb ((and_bit x (by omega)).mp hh))]
      exact ih _ (by rw [es, if_neg hb])
  · intro f s hs
    subst hs
    try dsimp only
    rw [if_pos (show (4 : Int32) ≤ nI 4 by decide)]
theorem cost12 (τ : SS) (x : Int32) : pX12_costOf τ x = some (mCo (τ 1) x 4) := by
  unfold pX12_costOf
  refine q_for (S := Int32) (R := Int32) (fun (f : Int32 → Int32 → Option Int32) s i => f s i) (m := 0) (n := 4) (by omega) (by omega) (fun j s => s = mCo (τ 1) x j) (fun r => r = some (mCo (τ 1) x 4)) ?_ ?_ 0 rfl
  · intro f j s hj1 hj2 hs ih
    subst hs
    try dsimp only
    have es : mCo (τ 1) x (j + 1) = if ib x j = 0 then mCo (τ 1) x j else mCo (τ 1) x j + τ 1 (21 + j) := rfl
    rw [if_neg (fun hh => by have := (nI_leS (n := 4) (by omega) (by omega)).mp hh; omega)]
    simp only [lt_n]
    rw [show (21 : Int32) + nI j = nI (21 + j) from nI_add 21 j, rd_n _ _ (by omega), nI_s, shr_bit x (by omega)]
    by_cases hb : ib x j = 0
    · rw [if_neg (by rw [hb]; decide), Int32.add_zero]
      exact ih _ (by rw [es, if_pos hb])
    · rw [if_pos (by rcases ib_01 x j with h0 | h0; exact absurd h0 hb; exact h0)]
      exact ih _ (by rw [es, if_neg hb])
  · intro f s hs
    subst hs
    try dsimp only
    rw [if_pos (show (4 : Int32) ≤ nI 4 by decide)]
theorem Ok_BA {t : Nat → Int32} (h : Ok t) (x : Int32) : ∀ k, k ≤ 4 → Ok (mBA t x k)
  | 0, _ => h
  | k + 1, hk => by
    unfold mBA
    split
    · exact Ok_BA h x k (by omega)
    · exact Ok_build (Ok_BA h x k (by omega)) (by omega)
theorem BA_no (t : Nat → Int32) (x : Int32) {j : Nat} (hj : (16 ≤ j ∧ j ≠ 19) ∨ j = 9) : ∀ k, mBA t x k j = t j
  | 0 => rfl
  | k + 1 => by
    unfold mBA
    split
    · exact BA_no t x hj k
    · exact (build_no _ _ hj).trans (BA_no t x hj k)
theorem all0 {c : SS} {t : Nat → Int32} (hc : CRel c t) (x : Int32) : ∃ c', pX0_constructAll c x = some c' ∧ CRel c' (mBA t x 4) := by
  unfold pX0_constructAll
  refine q_for (S := SS) (R := SS) (fun (f : SS → Int32 → Option SS) s i => f s i) (m := 0) (n := 4) (by omega) (by omega) (fun j b => CRel b (mBA t x j)) (fun r => ∃ c', r = some c' ∧ CRel c' (mBA t x 4)) ?_ ?_ c hc
  · intro f j b hj1 hj2 hb ih
    try dsimp only
    have es : mBA t x (j + 1) = if ib x j = 0 then mBA t x j else mBuild (mBA t x j) j := rfl
    obtain ⟨c', p1, p2, p3⟩ := construct0 hb hj2
    rw [if_neg (fun hh => by have := (nI_leS (n := 4) (by omega) (by omega)).mp hh; omega)]
    simp only [lt_n]
    rw [p1, cs_s, nI_s]
    by_cases hbb : ib x j = 0
    · rw [if_pos ((and_bit x (by omega)).mpr hbb)]
      exact ih _ (by rw [es, if_pos hbb]; exact hb)
    · rw [if_neg (fun hh => hbb ((and_bit x (by omega)).mp hh))]
      exact ih _ (by rw [es, if_neg hbb]; exact p2)
  · intro f b hb
    try dsimp only
    rw [if_pos (show (4 : Int32) ≤ nI 4 by decide)]
    exact ⟨b, rfl, hb⟩
def mH (D V : Nat → Int32) (L : Nat) (t : Nat → Int32) (x : Int32) : Int32 := mTold 3 (mPl D V (mBA t x 4) L) 0 0
theorem mH_b {D V : Nat → Int32} {L : Nat} {t : Nat → Int32} (hO : Ok t) (hd : ∀ l, l < L → dOk (D l) (V l)) (x : Int32) : 0 ≤ (mH D V L t x).toInt ∧ (mH D V L t x).toInt ≤ 990 := by
  have hOr := Ok_pl (D := D) (V := V) (Ok_BA hO x 4 (by omega)) L hd
  have h17 := hOr.1.2.1
  have hcl := cl_toInt h17.1
  have e : mH D V L t x = mHw (mPl D V (mBA t x 4) L) (mPl D V (mBA t x 4) L 17).toNatClampNeg := rfl
  rw [e]
  obtain ⟨b1, b2⟩ := mHw_b hOr (mPl D V (mBA t x 4) L 17).toNatClampNeg (by omega)
  omega
theorem hw12 (τ : SS) {t : Nat → Int32} (et : τ 1 = t) (hO : Ok t) {y L : Nat} {D V : Nat → Int32} (hy : y < 6) (hL : L ≤ 12) (h1 : t (147 + 25 * y) = nI L) (h2 : ∀ i, i < L → t (148 + 25 * y + 2 * i) = D i ∧ t (149 + 25 * y + 2 * i) = V i ∧ dOk (D i) (V i)) (x : Int32) : ∃ τ', pX12_harmWith τ x (nI y) = some (mH D V L t x, τ') ∧ NS τ' τ := by
  subst et
  have hOB := Ok_BA hO x 4 (by omega)
  have hdk : ∀ l, l < L → dOk (D l) (V l) := fun l hl => (h2 l hl).2.2
  have hOr := Ok_pl (D := D) (V := V) hOB L hdk
  have pp := plays12 (nb τ) (r := mBA (τ 1) x 4) (τ 0 5) (D := D) (V := V) hOB hy hL (by rw [BA_no _ _ (by omega), h1]) (fun i hi => by rw [BA_no _ _ (by omega), BA_no _ _ (by omega)]; exact h2 i hi)
  have tt : pX12_toldOf (rs (nb τ) (mPl D V (mBA (τ 1) x 4) L) (mPt D V (τ 0 5) (mBA (τ 1) x 4) L)) 3 0 = some (mH D V L (τ 1) x, rs (nb τ) (nbk τ (mPl D V (mBA (τ 1) x 4) L)) (mPt D V (τ 0 5) (mBA (τ 1) x 4) L)) := told12 τ _ 0 hOr (w := 3) (by decide)
  unfold pX12_harmWith
  rw [begin_rs, cs_s]
  refine q_for (S := SS) (R := Int32 × SS) (fun (f : SS → Int32 → Option (Int32 × SS)) s i => f s i) (m := 0) (n := 4) (by omega) (by omega) (fun j b => b = rs (nb τ) (mBA (τ 1) x j) (τ 0 5)) (fun r => ∃ τ', r = some (mH D V L (τ 1) x, τ') ∧ NS τ' τ) ?_ ?_ _ rfl
  · intro f j b hj1 hj2 hb ih
    subst hb
    try dsimp only
    have es : mBA (τ 1) x (j + 1) = if ib x j = 0 then mBA (τ 1) x j else mBuild (mBA (τ 1) x j) j := rfl
    rw [if_neg (fun hh => by have := (nI_leS (n := 4) (by omega) (by omega)).mp hh; omega)]
    simp only [lt_n]
    rw [builds_rs (nb τ) _ _ hj2, cs_s, nI_s, shr_bit x (by omega)]
    by_cases hb : ib x j = 0
    · rw [if_neg (by rw [hb]; decide)]
      exact ih _ (by rw [es, if_pos hb])
    · rw [if_pos (by rcases ib_01 x j with h0 | h0; exact absurd h0 hb; exact h0)]
      exact ih _ (by rw [es, if_neg hb])
  · intro f b hb
    subst hb
    try dsimp only
    rw [if_pos (show (4 : Int32) ≤ nI 4 by decide), pp, cs_s, tt, ci_s]
    refine ⟨_, rfl, NS_n τ _ (fun j hj => ?_)⟩
    rw [pl_no hOB (by omega) L hdk, BA_no _ _ (by omega)]
set_option maxHeartbeats 4000000 in
theorem wk3 {s : SS} {t : Nat → Int32} {y L : Nat} {D V : Nat → Int32} (hO : Ok t) (hc : CRel (q_sb s 1) t) (hy : y < 6) (hL : L ≤ 12) (h1 : s 29 y = nI L) (h2 : ∀ i, i < L → s 30 (12 * y + i) = D i ∧ s 31 (12 * y + i) = V i ∧ dOk (D i) (V i)) (x : Int32) : ∃ s' : SS, (∀ {R : Type} (K : Int32 → SS → Option R), q_cs (pX3_begin (q_sb s 0)) (fun (τ : SS) => (q_em s 0 0 28 τ)) (fun (σ21 : SS) => q_cs (pX0_constructAll (q_sb σ21 14) x) (fun (τ : SS) => (q_em σ21 14 0 13 τ)) (fun (σ22 : SS) => q_cs (pX7_perform (q_ap 4 (q_sb σ22 28) (q_sb σ22 14)) (nI y)) (fun (τ : SS) => (q_em (q_em σ22 28 0 4 τ) 14 4 13 τ)) (fun (σ23 : SS) => q_cr (pX9_harmedWorth (q_sb σ23 22)) (fun (r24 : Int32) => K r24 σ23)))) = K (mH D V L t x) s') ∧ ∀ x, (x < 14 ∨ 27 ≤ x) → s' x = s x := by
  have hdk : ∀ l, l < L → dOk (D l) (V l) := fun l hl => (h2 l hl).2.2
  have hOB := Ok_BA hO x 4 (by omega)
  have hOr := Ok_pl (D := D) (V := V) hOB L hdk
  obtain ⟨s1, b1, b2, b3, b4⟩ := begin3 (s := q_sb s 0) hO (by rw [sb_sb]; exact hc)
  have f1 : ∀ x, (x < 14 ∨ 27 ≤ x) → q_em s 0 0 28 s1 x = s x := fun x hx => by
    by_cases h28 : x < 28
    · have := em_in (σ := s) (τ := s1) (b := 0) (o := 0) (n := 28) x h28
      rw [Nat.zero_add] at this
      rw [this, b4 x hx]
      show s (0 + x) = s x
      rw [Nat.zero_add]
    · exact em_out (by omega)
  have f2 : CRel (q_sb (q_em s 0 0 28 s1) 14) t := CR_congr (c' := q_sb s1 14) (fun i hi => by
    have := em_in (σ := s) (τ := s1) (b := 0) (o := 0) (n := 28) (14 + i) (by omega)
    rw [Nat.zero_add] at this
    exact this) b2
  obtain ⟨c', g1, g2⟩ := all0 f2 x
  have f3 : ∀ x, (x < 14 ∨ 27 ≤ x) → q_em (q_em s 0 0 28 s1) 14 0 13 c' x = s x := fun x hx => by rw [em_out (by omega), f1 x hx]
  have f4 := em14 (s := q_em s 0 0 28 s1) g2
  have hb1 : ∀ {R : Type} (k : SS → Option R), q_cs (pX3_begin (q_sb s 0)) (fun (τ : SS) => (q_em s 0 0 28 τ)) k = k (q_em s 0 0 28 s1) := fun k => by rw [b1, cs_s]
  have hg1 : ∀ {R : Type} (k : SS → Option R), q_cs (pX0_constructAll (q_sb (q_em s 0 0 28 s1) 14) x) (fun (τ : SS) => (q_em (q_em s 0 0 28 s1) 14 0 13 τ)) k = k (q_em (q_em s 0 0 28 s1) 14 0 13 c') := fun k => by rw [g1, cs_s]
  generalize q_em (q_em s 0 0 28 s1) 14 0 13 c' = s2 at f3 f4 hg1
  obtain ⟨s', p1, p2, p3, p4⟩ := perf7 (s := q_ap 4 (q_sb s2 28) (q_sb s2 14)) (t := mBA t x 4) (y := y) (L := L) (D := D) (V := V) hOB (CR_congr (c' := q_sb s2 14) (fun x hx => ap_hi x) f4) hy hL (by
    show s2 (28 + 1) y = _
    rw [f3 _ (by omega)]
    exact h1) (fun i hi => by
    show s2 (28 + 2) _ = _ ∧ s2 (28 + 3) _ = _ ∧ _
    rw [f3 _ (by omega), f3 _ (by omega)]
    exact h2 i hi)
  have e14 : ∀ i, i < 13 → q_em (q_em s2 28 0 4 s') 14 4 13 s' (14 + i) = s' (4 + i) := fun i hi => em_in i hi
  have eo : ∀ x, (x < 14 ∨ 27 ≤ x) → q_em (q_em s2 28 0 4 s') 14 4 13 s' x = s x := fun x hx => by
    rw [em_out (by omega)]
    by_cases h28 : 28 ≤ x ∧ x < 32
    · obtain ⟨i, rfl⟩ : ∃ i, x = 28 + i := ⟨x - 28, by omega⟩
      rw [em_in i (by omega), Nat.zero_add, p4 i (by omega), ap_lo (by omega)]
      exact f3 _ (by omega)
    · rw [em_out (by omega), f3 x hx]
  have c3 : CRel (q_sb (q_em (q_em s2 28 0 4 s') 14 4 13 s') 14) (mPl D V (mBA t x 4) L) := CR_congr (c' := q_sb s' 4) (fun x hx => e14 x hx) p2
  have hh := harm_c hOr c3
  rw [sb_sb] at hh
  refine ⟨q_em (q_em s2 28 0 4 s') 14 4 13 s', fun K => ?_, eo⟩
  rw [hb1, hg1, p1, cs_s, hh, cr_s]
  rfl
def mWk (D V : Nat → Int32) (L : Nat) (t : Nat → Int32) (coin : Int32) : Nat → Int32 × Int32
  | 0 => (0, mH D V L t 0)
  | k + 1 => if nI (k + 1) &&& t 19 = 0 then (if mCo t (nI (k + 1)) 4 ≤ coin then (if mH D V L t (nI (k + 1)) < (mWk D V L t coin k).2 then (nI (k + 1), mH D V L t (nI (k + 1))) else if mH D V L t (nI (k + 1)) = (mWk D V L t coin k).2 then (if mCo t (mWk D V L t coin k).1 4 ≤ mCo t (nI (k + 1)) 4 then mWk D V L t coin k else (nI (k + 1), mH D V L t (nI (k + 1)))) else mWk D V L t coin k) else mWk D V L t coin k) else mWk D V L t coin k
theorem zand (x : Int32) : (0 : Int32) &&& x = 0 := by
  apply b_ext
  intro i hi
  rw [b_and, b_0, Bool.false_and]
theorem co_0 (t : Nat → Int32) : mCo t 0 4 = 0 := by
  have e : ∀ k, mCo t 0 (k + 1) = if ib 0 k = 0 then mCo t 0 k else mCo t 0 k + t (21 + k) := fun k => rfl
  rw [e 3, if_pos (ib_0 3), e 2, if_pos (ib_0 2), e 1, if_pos (ib_0 1), e 0, if_pos (ib_0 0)]
  rfl
set_option maxHeartbeats 4000000 in
theorem wks3 {s : SS} {t : Nat → Int32} {y L : Nat} {D V : Nat → Int32} (hO : Ok t) (hc : CRel (q_sb s 1) t) (hy : y < 6) (hL : L ≤ 12) (h1 : s 29 y = nI L) (h2 : ∀ i, i < L → s 30 (12 * y + i) = D i ∧ s 31 (12 * y + i) = V i ∧ dOk (D i) (V i)) {coin : Int32} (hcn : 0 ≤ coin.toInt) (w : Int32) : ∃ s', pX3_bestWorks s (nI y) coin w = some (if w = 0 then (mWk D V L t coin 15).1 else (mWk D V L t coin 15).2, s') ∧ ∀ x, (x < 14 ∨ 27 ≤ x) → s' x = s x := by
  have hdk : ∀ l, l < L → dOk (D l) (V l) := fun l hl => (h2 l hl).2.2
  unfold pX3_bestWorks
  refine q_for (S := SS × Int32 × Int32 × Int32) (R := Int32 × SS) (fun (f : SS → Int32 → Int32 → Int32 → Int32 → Option (Int32 × SS)) s i => f s.1 s.2.1 s.2.2.1 s.2.2.2 i) (m := 0) (n := 16) (by omega) (by omega) (fun j b => (∀ x, (x < 14 ∨ 27 ≤ x) → b.1 x = s x) ∧ ((j = 0 ∧ b.2.1 = 0 ∧ b.2.2.1 = 991 ∧ b.2.2.2 = 10000) ∨ (1 ≤ j ∧ b.2.1 = (mWk D V L t coin (j - 1)).1 ∧ b.2.2.1 = (mWk D V L t coin (j - 1)).2 ∧ b.2.2.2 = mCo t b.2.1 4))) (fun o => ∃ s', o = some (if w = 0 then (mWk D V L t coin 15).1 else (mWk D V L t coin 15).2, s') ∧ ∀ x, (x < 14 ∨ 27 ≤ x) → s' x = s x) ?_ ?_ (s, 0, 991, 10000) ⟨fun _ _ => rfl, Or.inl ⟨rfl, rfl, rfl, rfl⟩⟩
  · rintro f j ⟨b, x5, x6, x7⟩ hj1 hj2 ⟨hb, hh⟩ ih
    try dsimp only at hb hh ⊢
    have hcb : CRel (q_sb b 1) t := CR_congr (c' := q_sb s 1) (fun x hx => hb (1 + x) (by omega)) hc
    rw [if_neg (fun hh => by have := (nI_leS (n := 16) (by omega) (by omega)).mp hh; omega), cost0 (c := q_sb b 1) (t := t) (fun w hw => hcb.2.2.2.2 w hw), cr_s, lt_v]
    have e19 : b 1 4 = t 19 := hcb.1.2.2.2.2.2.2.2.2.2.2.2.2.2.2.2.2.2.2.1
    obtain ⟨b', w1, w2⟩ := wk3 (s := b) (D := D) (V := V) hO hcb hy hL (by rw [hb 29 (by omega)]; exact h1) (fun i hi => by rw [hb 30 (by omega), hb 31 (by omega)]; exact h2 i hi) (nI j)
    have kb : ∀ x, (x < 14 ∨ 27 ≤ x) → b' x = s x := fun x hx => by rw [w2 x hx, hb x hx]
    rw [w1]
    simp only [lt_n, nI_s, e19]
    rcases hh with ⟨rfl, rfl, rfl, rfl⟩ | ⟨hj, q1, q2, q3⟩
    · have hm := mH_b (D := D) (V := V) (L := L) hO hdk (nI 0)
      rw [if_pos (show nI 0 &&& t 19 = 0 from zand _), if_pos (show mCo t (nI 0) 4 ≤ coin by rw [show nI 0 = (0 : Int32) from rfl, co_0, i_le]; exact hcn), if_pos (show mH D V L t (nI 0) < 991 by rw [i_lt]; show _ < (991 : Int); omega)]
      exact ih (b', nI 0, mH D V L t (nI 0), mCo t (nI 0) 4) ⟨kb, Or.inr ⟨by omega, rfl, by dsimp only; rfl, by dsimp only⟩⟩
    · subst q3
      obtain ⟨i, rfl⟩ : ∃ i, j = i + 1 := ⟨j - 1, by omega⟩
      rw [show i + 1 - 1 = i by omega] at q1 q2
      have es : mWk D V L t coin (i + 1) = if nI (i + 1) &&& t 19 = 0 then (if mCo t (nI (i + 1)) 4 ≤ coin then (if mH D V L t (nI (i + 1)) < (mWk D V L t coin i).2 then (nI (i + 1), mH D V L t (nI (i + 1))) else if mH D V L t (nI (i + 1)) = (mWk D V L t coin i).2 then (if mCo t (mWk D V L t coin i).1 4 ≤ mCo t (nI (i + 1)) 4 then mWk D V L t coin i else (nI (i + 1), mH D V L t (nI (i + 1)))) else mWk D V L t coin i) else mWk D V L t coin i) else mWk D V L t coin i := rfl
      have goK : ∀ (z : SS), (∀ x, (x < 14 ∨ 27 ≤ x) → z x = s x) → mWk D V L t coin (i + 1) = mWk D V L t coin i → ∃ s', f z x5 x6 (mCo t x5 4) (nI (i + 1 + 1)) = some (if w = 0 then (mWk D V L t coin 15).1 else (mWk D V L t coin 15).2, s') ∧ ∀ x, (x < 14 ∨ 27 ≤ x) → s' x = s x := fun z hz he => ih (z, x5, x6, mCo t x5 4) ⟨hz, Or.inr ⟨by omega, by rw [show i + 1 + 1 - 1 = i + 1 by omega, he]; exact q1, by rw [show i + 1 + 1 - 1 = i + 1 by omega, he]; exact q2, rfl⟩⟩
      have goT : mWk D V L t coin (i + 1) = (nI (i + 1), mH D V L t (nI (i + 1))) → ∃ s', f b' (nI (i + 1)) (mH D V L t (nI (i + 1))) (mCo t (nI (i + 1)) 4) (nI (i + 1 + 1)) = some (if w = 0 then (mWk D V L t coin 15).1 else (mWk D V L t coin 15).2, s') ∧ ∀ x, (x < 14 ∨ 27 ≤ x) → s' x = s x := fun he => ih (b', nI (i + 1), mH D V L t (nI (i + 1)), mCo t (nI (i + 1)) 4) ⟨kb, Or.inr ⟨by omega, by rw [show i + 1 + 1 - 1 = i + 1 by omega, he], by rw [show i + 1 + 1 - 1 = i + 1 by omega, he], rfl⟩⟩
      by_cases g1 : nI (i + 1) &&& t 19 = 0
      · rw [if_pos g1]
        rw [if_pos g1] at es
        by_cases g2 : mCo t (nI (i + 1)) 4 ≤ coin
        · rw [if_pos g2]
          rw [if_pos g2] at es
          rw [← q1, ← q2] at es
          by_cases g3 : mH D V L t (nI (i + 1)) < x6
          · rw [if_pos g3]
            rw [if_pos g3] at es
            exact goT es
          · rw [if_neg g3]
            rw [if_neg g3] at es
            by_cases g4 : mH D V L t (nI (i + 1)) = x6
            · rw [if_pos g4]
              rw [if_pos g4] at es
              by_cases g5 : mCo t x5 4 ≤ mCo t (nI (i + 1)) 4
              · rw [if_pos g5]
                rw [if_pos g5] at es
                exact goK b' kb es
              · rw [if_neg g5]
                rw [if_neg g5] at es
                exact goT es
            · rw [if_neg g4]
              rw [if_neg g4] at es
              exact goK b' kb es
        · rw [if_neg g2]
          rw [if_neg g2] at es
          exact goK b hb es
      · rw [if_neg g1]
        rw [if_neg g1] at es
        exact goK b hb es
  · rintro f ⟨b, x5, x6, x7⟩ ⟨hb, hh⟩
    try dsimp only at hb hh ⊢
    rw [if_pos (show (16 : Int32) ≤ nI 16 by decide)]
    simp only [lt_n]
    rcases hh with ⟨h0, -⟩ | ⟨hj, q1, q2, q3⟩
    · omega
    · rw [q1, q2]
      refine ⟨b, ?_, hb⟩
      split <;> rfl
set_option maxHeartbeats 4000000 in
theorem s_worth : S_worth Rel := by
  intro σ τ a1 a2 a3 h
  have R0 : Rel (su σ 1 0 (σ 1 0 + 1)) (su τ 4 0 (τ 4 0 + 1)) := R_tell h (by decide)
  obtain ⟨i1, i2⟩ := isSky_eq h a1
  unfold pX11_worth pX12_worth
  rw [i1, i2, cr_s, cr_s, lt_v, lt_v, tell_0, find_0, ci_s, ci_s]
  by_cases h1 : wi a1 0 (τ 1 18 - 1) = 0
  · rw [if_pos h1, if_pos h1]
    exact ⟨_, _, _, rfl, rfl, R0⟩
  rw [if_neg h1, if_neg h1, within_eq, in_eq, cr_s, cr_s]
  by_cases h2 : wi a2 0 9999 = 0
  · rw [if_pos h2, if_pos h2]
    exact ⟨_, _, _, rfl, rfl, R0⟩
  rw [if_neg h2, if_neg h2, within_eq, in_eq, cr_s, cr_s]
  by_cases h3 : wi a3 0 1 = 0
  · rw [if_pos h3, if_pos h3]
    exact ⟨_, _, _, rfl, rfl, R0⟩
  rw [if_neg h3, if_neg h3]
  obtain ⟨y, L, rfl, hy, hL, hl1, hl2, hd⟩ := sky_of h h1
  have hO := h.1.1
  have hcn : 0 ≤ a2.toInt := (wi_ok h2).1
  have key : ∃ τ', (q_ci (pX12_harmWith τ 0 (nI y)) (fun (τ : SS) => τ) (fun (r11 : Int32) (σ10 : SS) => q_lp (fun _ _ _ _ => none) (fun (c16 : SS → Int32 → Int32 → Int32 → Option (Int32 × SS)) (σ15 : SS) (x4_12 : Int32) (x5_13 : Int32) (x6_14 : Int32) => (if 16 ≤ x6_14 then q_lt (fun y20 => some (y20, σ15)) (fun j21 => (if a3 = 0 then j21 x4_12 else j21 x5_13)) else q_rd (σ15 1) 307 19 (fun v23 => q_lt (fun (σ26 : SS) (x4_24 : Int32) (x5_25 : Int32) => c16 σ26 x4_24 x5_25 (x6_14 + 1)) (fun j27 => (if (x6_14 &&& v23) = 0 then q_cr (pX12_costOf σ15 x6_14) (fun r29 => (if r29 ≤ a2 then q_ci (pX12_harmWith σ15 x6_14 (nI y)) (fun (τ : SS) => τ) (fun (r32 : Int32) (σ31 : SS) => q_lt (j27 σ31 x6_14 r32) (fun j33 => (if r32 < x5_13 then j33 else (if r32 = x5_13 then q_cr (pX12_costOf σ31 x6_14) (fun r36 => q_cr (pX12_costOf σ31 x4_12) (fun r37 => (if r37 ≤ r36 then j27 σ31 x4_12 x5_13 else j33))) else j27 σ31 x4_12 x5_13)))) else j27 σ15 x4_12 x5_13)) else j27 σ15 x4_12 x5_13))))) q_fu σ10 0 r11 1)) = some (if a3 = 0 then (mWk (fun i => τ 1 (148 + 25 * y + 2 * i)) (fun i => τ 1 (149 + 25 * y + 2 * i)) L (τ 1) a2 15).1 else (mWk (fun i => τ 1 (148 + 25 * y + 2 * i)) (fun i => τ 1 (149 + 25 * y + 2 * i)) L (τ 1) a2 15).2, τ') ∧ NS τ' τ := by
    generalize hD : (fun i => τ 1 (148 + 25 * y + 2 * i)) = D
    generalize hV : (fun i => τ 1 (149 + 25 * y + 2 * i)) = V
    have hd2 : ∀ i, i < L → τ 1 (148 + 25 * y + 2 * i) = D i ∧ τ 1 (149 + 25 * y + 2 * i) = V i ∧ dOk (D i) (V i) := fun i hi => by
      rw [← hD, ← hV]
      exact ⟨rfl, rfl, (hd i hi).2.2⟩
    obtain ⟨τ0, w1, w2⟩ := hw12 τ rfl hO (D := D) (V := V) hy hL hl2 hd2 0
    rw [w1, ci_s]
    refine q_for (S := SS × Int32 × Int32) (R := Int32 × SS) (fun (f : SS → Int32 → Int32 → Int32 → Option (Int32 × SS)) s i => f s.1 s.2.1 s.2.2 i) (m := 1) (n := 16) (by omega) (by omega) (fun j b => NS b.1 τ ∧ b.2.1 = (mWk D V L (τ 1) a2 (j - 1)).1 ∧ b.2.2 = (mWk D V L (τ 1) a2 (j - 1)).2) (fun o => ∃ τ', o = some (if a3 = 0 then (mWk D V L (τ 1) a2 15).1 else (mWk D V L (τ 1) a2 15).2, τ') ∧ NS τ' τ) ?_ ?_ (τ0, 0, _) ⟨w2, rfl, rfl⟩
    · rintro f j ⟨b, x4, x5⟩ hj1 hj2 ⟨hN, q1, q2⟩ ih
      try dsimp only at hN q1 q2 ⊢
      obtain ⟨i, rfl⟩ : ∃ i, j = i + 1 := ⟨j - 1, by omega⟩
      rw [show i + 1 - 1 = i by omega] at q1 q2
      obtain ⟨b', u1, u2⟩ := hw12 b hN.1 hO (D := D) (V := V) hy hL hl2 hd2 (nI (i + 1))
      have kN := NS_t u2 hN
      rw [if_neg (fun hh => by have := (nI_leS (n := 16) (by omega) (by omega)).mp hh; omega), Q1_19, hN.1, lt_v]
      simp only [cost12, cr_s, u1, ci_s, lt_n, nI_s, hN.1, kN.1]
      have es : mWk D V L (τ 1) a2 (i + 1) = if nI (i + 1) &&& τ 1 19 = 0 then (if mCo (τ 1) (nI (i + 1)) 4 ≤ a2 then (if mH D V L (τ 1) (nI (i + 1)) < (mWk D V L (τ 1) a2 i).2 then (nI (i + 1), mH D V L (τ 1) (nI (i + 1))) else if mH D V L (τ 1) (nI (i + 1)) = (mWk D V L (τ 1) a2 i).2 then (if mCo (τ 1) (mWk D V L (τ 1) a2 i).1 4 ≤ mCo (τ 1) (nI (i + 1)) 4 then mWk D V L (τ 1) a2 i else (nI (i + 1), mH D V L (τ 1) (nI (i + 1)))) else mWk D V L (τ 1) a2 i) else mWk D V L (τ 1) a2 i) else mWk D V L (τ 1) a2 i := rfl
      have goK : ∀ z : SS, NS z τ → mWk D V L (τ 1) a2 (i + 1) = mWk D V L (τ 1) a2 i → ∃ τ', f z x4 x5 (nI (i + 1 + 1)) = some (if a3 = 0 then (mWk D V L (τ 1) a2 15).1 else (mWk D V L (τ 1) a2 15).2, τ') ∧ NS τ' τ := fun z hz he => ih (z, x4, x5) ⟨hz, by rw [show i + 1 + 1 - 1 = i + 1 by omega, he]; exact q1, by rw [show i + 1 + 1 - 1 = i + 1 by omega, he]; exact q2⟩
      have goT : mWk D V L (τ 1) a2 (i + 1) = (nI (i + 1), mH D V L (τ 1) (nI (i + 1))) → ∃ τ', f b' (nI (i + 1)) (mH D V L (τ 1) (nI (i + 1))) (nI (i + 1 + 1)) = some (if a3 = 0 then (mWk D V L (τ 1) a2 15).1 else (mWk D V L (τ 1) a2 15).2, τ') ∧ NS τ' τ := fun he => ih (b', nI (i + 1), mH D V L (τ 1) (nI (i + 1))) ⟨kN, by rw [show i + 1 + 1 - 1 = i + 1 by omega, he], by rw [show i + 1 + 1 - 1 = i + 1 by omega, he]⟩
      by_cases g1 : nI (i + 1) &&& τ 1 19 = 0
      · rw [if_pos g1]
        rw [if_pos g1] at es
        by_cases g2 : mCo (τ 1) (nI (i + 1)) 4 ≤ a2
        · rw [if_pos g2]
          rw [if_pos g2] at es
          rw [← q1, ← q2] at es
          by_cases g3 : mH D V L (τ 1) (nI (i + 1)) < x5
          · rw [if_pos g3]
            rw [if_pos g3] at es
            exact goT es
          · rw [if_neg g3]
            rw [if_neg g3] at es
            by_cases g4 : mH D V L (τ 1) (nI (i + 1)) = x5
            · rw [if_pos g4]
              rw [if_pos g4] at es
              by_cases g5 : mCo (τ 1) x4 4 ≤ mCo (τ 1) (nI (i + 1)) 4
              · rw [if_pos g5]
                rw [if_pos g5] at es
                exact goK b' kN es
              · rw [if_neg g5]
                rw [if_neg g5] at es
                exact goT es
            · rw [if_neg g4]
              rw [if_neg g4] at es
              exact goK b' kN es
        · rw [if_neg g2]
          rw [if_neg g2] at es
          exact goK b hN es
      · rw [if_neg g1]
        rw [if_neg g1] at es
        exact goK b hN es
    · rintro f ⟨b, x4, x5⟩ ⟨hN, q1, q2⟩
      try dsimp only at hN q1 q2 ⊢
      rw [if_pos (show (16 : Int32) ≤ nI 16 by decide)]
      simp only [lt_n]
      rw [q1, q2]
      refine ⟨b, ?_, hN⟩
      split <;> rfl
  obtain ⟨τ', k1, k2⟩ := key
  generalize hs : q_ap 1 (q_sb σ 52) (q_ap 13 (q_sb σ 3) (q_ap 14 (q_sb σ 53) (q_sb σ 16))) = s
  have hsx : ∀ i, i < 4 → s (28 + i) = σ (16 + i) := fun i hi => by
    rw [← hs, show 28 + i = 1 + (13 + (14 + i)) by omega, ap_hi, ap_hi, ap_hi]
    rfl
  obtain ⟨s', p1, p2⟩ := wks3 (s := s) (t := τ 1) (y := y) (L := L) (D := fun i => τ 1 (148 + 25 * y + 2 * i)) (V := fun i => τ 1 (149 + 25 * y + 2 * i)) hO (by rw [← hs]; exact CR_n3 h.1.2.1) hy hL (by rw [show s 29 = σ (16 + 1) from hsx 1 (by omega)]; exact hl1) (fun i hi => by
    rw [show s 30 = σ (16 + 2) from hsx 2 (by omega), show s 31 = σ (16 + 3) from hsx 3 (by omega)]
    exact hd i hi) hcn a3
  rw [p1, ci_s, k1]
  refine ⟨_, _, _, rfl, rfl, R_NS h (em4 σ (q_ap 14 (q_sb σ 53) (q_sb σ 16)) _ (by omega) (fun x hx => ?_) (fun i hi => ?_)) k2⟩
  · rw [p2 x (by omega), ← hs]
  · rw [p2 _ (by omega), hsx i hi]
