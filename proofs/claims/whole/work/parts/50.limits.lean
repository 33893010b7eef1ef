/-! ===== limits, found on both sides ===== -/
def lc (t : Nat → Int32) (k : Nat) : Nat := mn t k (if t (100 + 5 * k) = 0 ∧ t (101 + 5 * k) = 0 then 601 else 0) 400
def lr (t : Nat → Int32) (k : Nat) : Nat := if (k : Int) < (t 17).toInt then mn t k 9999 400 else 9999
theorem it_h {t : Nat → Int32} (hO : Ok t) {k : Nat} (hk : k < 10) (j : Nat) : mIter t j (99 + 5 * k) = t (99 + 5 * k) := iter_no hO (by omega) (by omega) (by omega) (by omega) j
theorem mn_s (t : Nat → Int32) (k init j : Nat) : mn t k init (j + 1) = if mIter t (j + 1) 2 ≤ t (99 + 5 * k) then mn t k init j else min (mn t k init j) j := rfl
set_option maxHeartbeats 4000000 in
theorem lims3 {s : SS} {t : Nat → Int32} (hO : Ok t) (hc : CRel (q_sb s 1) t) {n : Nat} (hn : n ≤ 10) (en : t 17 = nI n) : ∃ s', pX3_foreseeLimits s = some s' ∧ (∀ k, k < n → s' 28 k = nI (lc t k)) ∧ ∀ x, x < 14 → s' x = s x := by
  have n17 : (t 17).toInt = n := by rw [en, nI_toInt (by omega)]
  have hc' : CRel (q_sb (q_sb s 0) 1) t := by rw [sb_sb]; exact hc
  obtain ⟨s1, b1, b2, b3, b4⟩ := begin3 (s := q_sb s 0) hO hc'
  unfold pX3_foreseeLimits
  rw [b1, cs_s]
  have f1 : ∀ x, x < 14 → q_em s 0 0 28 s1 x = s x := fun x hx => by
    have := em_in (σ := s) (τ := s1) (b := 0) (o := 0) (n := 28) x (by omega)
    rw [Nat.zero_add] at this
    rw [this, b4 x (by omega)]
    show s (0 + x) = s x
    rw [Nat.zero_add]
  have f2 : CRel (q_sb (q_em s 0 0 28 s1) 14) t := CR_congr (c' := q_sb s1 14) (fun i hi => by
    have := em_in (σ := s) (τ := s1) (b := 0) (o := 0) (n := 28) (14 + i) (by omega)
    rw [Nat.zero_add] at this
    exact this) b2
  have ii : ∀ k, (if t (100 + 5 * k) = 0 ∧ t (101 + 5 * k) = 0 then 601 else 0) ≤ 601 := fun k => by split <;> omega
  refine q_for (S := SS) (R := SS) (fun (f : SS → Int32 → Option SS) s i => f s i) (m := 0) (n := n) (by omega) (by omega) (fun j b => CRel (q_sb b 14) t ∧ (∀ k, k < j → b 28 k = nI (if t (100 + 5 * k) = 0 ∧ t (101 + 5 * k) = 0 then 601 else 0)) ∧ ∀ x, x < 14 → b x = s x) (fun o => ∃ s', o = some s' ∧ (∀ k, k < n → s' 28 k = nI (lc t k)) ∧ ∀ x, x < 14 → s' x = s x) ?_ ?_ _ ⟨f2, fun k hk => by omega, f1⟩
  · rintro F j b hj1 hj2 ⟨hb1, hb2, hb3⟩ ih
    try dsimp only
    have e0 : b 22 0 = nI n := by rw [← en]; exact hb1.1.2.2.2.2.2.2.2.2.2.2.2.2.2.2.2.2.2.1
    obtain ⟨r1, r2, r3, r4, r5⟩ := hb1.2.2.2.1.1 j (by omega)
    have r4 : ib (q_sb b 22 0 4) j = _ := r4
    have r5 : ib (q_sb b 22 0 5) j = _ := r5
    rw [e0, if_neg (by rw [nI_leS (by omega) (by omega)]; omega), lifted_eq _ (by omega), harmed_eq _ (by omega), r4, r5, cr_s]
    simp only [lt_n, cr_s]
    rw [wr_n _ _ _ _ (by omega), wr_n _ _ _ _ (by omega), nI_s]
    have nx : ∀ v : Nat, nI v = nI (if t (100 + 5 * j) = 0 ∧ t (101 + 5 * j) = 0 then 601 else 0) → ∃ s', F (su b 28 j (nI v)) (nI (j + 1)) = some s' ∧ (∀ k, k < n → s' 28 k = nI (lc t k)) ∧ ∀ x, x < 14 → s' x = s x := fun v hv => by
      refine ih _ ⟨CR_congr (c' := q_sb b 14) (fun x hx => ud_ne _ _ _ (by omega)) hb1, fun k hk => ?_, fun x hx => by rw [ud_ne _ _ _ (by omega), hb3 x hx]⟩
      rw [ud_at]
      by_cases hkj : k = j
      · subst hkj; rw [upd_at, hv]
      · rw [upd_ne hkj]; exact hb2 k (by omega)
    by_cases g1 : t (100 + 5 * j) = 0
    · rw [if_pos g1]
      by_cases g2 : t (101 + 5 * j) = 0
      · rw [if_pos g2]
        exact nx 601 (by rw [if_pos ⟨g1, g2⟩])
      · rw [if_neg g2]
        exact nx 0 (by rw [if_neg (fun hh => g2 hh.2)])
    · rw [if_neg g1]
      exact nx 0 (by rw [if_neg (fun hh => g1 hh.1)])
  · rintro F b ⟨hb1, hb2, hb3⟩
    try dsimp only
    have e0 : b 22 0 = nI n := by rw [← en]; exact hb1.1.2.2.2.2.2.2.2.2.2.2.2.2.2.2.2.2.2.1
    rw [e0, if_pos (by rw [nI_leS (by omega) (by omega)]; omega)]
    refine q_for (S := SS) (R := SS) (fun (f : SS → Int32 → Option SS) s i => f s i) (m := 0) (n := 400) (by omega) (by omega) (fun j b => CRel (q_sb b 14) (mIter t j) ∧ (∀ k, k < n → b 28 k = nI (mn t k (if t (100 + 5 * k) = 0 ∧ t (101 + 5 * k) = 0 then 601 else 0) j)) ∧ ∀ x, x < 14 → b x = s x) (fun o => ∃ s', o = some s' ∧ (∀ k, k < n → s' 28 k = nI (lc t k)) ∧ ∀ x, x < 14 → s' x = s x) ?_ ?_ b ⟨hb1, hb2, hb3⟩
    · rintro F2 m b hm1 hm2 ⟨hb1, hb2, hb3⟩ ih
      try dsimp only
      have hOm := Ok_iter hO m
      obtain ⟨c', q1, q2, q3⟩ := minute0 hOm hb1
      have m17 : mIter t (m + 1) 17 = t 17 := iter_no hO (by omega) (by omega) (by omega) (by omega) (m + 1)
      rw [if_neg (fun hh => by have := (nI_leS (n := 400) (by omega) (by omega)).mp hh; omega), q1, cs_s]
      have k1 : CRel (q_sb (q_em b 14 0 13 c') 14) (mIter t (m + 1)) := em14 q2
      have k2 : ∀ x, x < 14 → q_em b 14 0 13 c' x = s x := fun x hx => by rw [em_out (by omega), hb3 x hx]
      have k3 : q_em b 14 0 13 c' 28 = b 28 := em_out (by omega)
      generalize q_em b 14 0 13 c' = z at k1 k2 k3
      refine q_for (S := SS) (R := SS) (fun (f : SS → Int32 → Option SS) s i => f s i) (m := 0) (n := n) (by omega) (by omega) (fun j b => CRel (q_sb b 14) (mIter t (m + 1)) ∧ (∀ k, k < j → b 28 k = nI (mn t k (if t (100 + 5 * k) = 0 ∧ t (101 + 5 * k) = 0 then 601 else 0) (m + 1))) ∧ (∀ k, j ≤ k → k < n → b 28 k = nI (mn t k (if t (100 + 5 * k) = 0 ∧ t (101 + 5 * k) = 0 then 601 else 0) m)) ∧ ∀ x, x < 14 → b x = s x) (fun o => ∃ s', o = some s' ∧ (∀ k, k < n → s' 28 k = nI (lc t k)) ∧ ∀ x, x < 14 → s' x = s x) ?_ ?_ z ⟨k1, fun k hk => by omega, fun k _ hk => by rw [k3]; exact hb2 k hk, k2⟩
      · rintro F3 j y hj1 hj2 ⟨y1, y2, y3, y4⟩ ih3
        try dsimp only
        have e0 : y 22 0 = nI n := by rw [← en, ← m17]; exact y1.1.2.2.2.2.2.2.2.2.2.2.2.2.2.2.2.2.2.1
        have e2 : y 14 8 = mIter t (m + 1) 2 := y1.1.2.2.1
        obtain ⟨r1, r2, r3, r4, r5⟩ := y1.2.2.2.1.1 j (by rw [m17]; omega)
        have r3 : y 25 j = _ := r3
        rw [e0, if_neg (by rw [nI_leS (by omega) (by omega)]; omega), rd_n _ _ (by omega), e2, r3, it_h hO (by omega) (m + 1)]
        simp only [lt_n]
        rw [rd_n _ _ (by omega), wr_n _ _ _ _ (by omega), nI_s, y3 j (Nat.le_refl j) hj2]
        have hle := mn_le t j (if t (100 + 5 * j) = 0 ∧ t (101 + 5 * j) = 0 then 601 else 0) m
        have hi := ii j
        have es := mn_s t j (if t (100 + 5 * j) = 0 ∧ t (101 + 5 * j) = 0 then 601 else 0) m
        by_cases g1 : mIter t (m + 1) 2 ≤ t (99 + 5 * j)
        · rw [if_pos g1]
          rw [if_pos g1] at es
          refine ih3 y ⟨y1, fun k hk => ?_, fun k h1 h2 => y3 k (by omega) h2, y4⟩
          by_cases hkj : k = j
          · subst hkj; rw [es]; exact y3 k (Nat.le_refl k) hj2
          · exact y2 k (by omega)
        · rw [if_neg g1]
          rw [if_neg g1] at es
          generalize hM : mn t j (if t (100 + 5 * j) = 0 ∧ t (101 + 5 * j) = 0 then 601 else 0) m = M at hle es
          have ev : (if nI m < nI M then nI m else nI M) = nI (min M m) := by
            by_cases hmm : m < M
            · rw [if_pos ((nI_ltS (by omega) (by omega)).mpr hmm), Nat.min_eq_right (by omega)]
            · rw [if_neg (fun hh => hmm ((nI_ltS (by omega) (by omega)).mp hh)), Nat.min_eq_left (by omega)]
          rw [ev]
          refine ih3 _ ⟨CR_congr (c' := q_sb y 14) (fun x hx => ud_ne _ _ _ (by omega)) y1, fun k hk => ?_, fun k h1 h2 => ?_, fun x hx => by rw [ud_ne _ _ _ (by omega), y4 x hx]⟩
          · rw [ud_at]
            by_cases hkj : k = j
            · subst hkj; rw [upd_at, es]
            · rw [upd_ne hkj]; exact y2 k (by omega)
          · rw [ud_at, upd_ne (by omega)]
            exact y3 k (by omega) h2
      · rintro F3 y ⟨y1, y2, y3, y4⟩
        try dsimp only
        have e0 : y 22 0 = nI n := by rw [← en, ← m17]; exact y1.1.2.2.2.2.2.2.2.2.2.2.2.2.2.2.2.2.2.1
        rw [e0, if_pos (by rw [nI_leS (by omega) (by omega)]; omega), nI_s]
        exact ih y ⟨y1, y2, y4⟩
    · rintro F2 b ⟨hb1, hb2, hb3⟩
      try dsimp only
      rw [if_pos (show (400 : Int32) ≤ nI 400 by decide)]
      exact ⟨b, rfl, hb2, hb3⟩
/-! ===== the reference's ===== -/
theorem rs_7 (τ : SS) (r : Nat → Int32) (g : Int32) (k : Nat) (v : Int32) : su (rs τ r g) 7 k v = rs (su τ 7 k v) r g := by
  funext x
  show (if x = 7 then upd (τ 7) k v else if x = 0 then upd (τ 0) 5 g else if x = 1 then r else τ x) = if x = 0 then upd (τ 0) 5 g else if x = 1 then r else if x = 7 then upd (τ 7) k v else τ x
  by_cases h : x = 7
  · subst h; rfl
  · rw [if_neg h, if_neg h]
theorem rs_70 (τ : SS) (r : Nat → Int32) (g : Int32) : rs τ r g 7 = τ 7 := rfl
def N7 (X τ : SS) : Prop := ∀ x, x ≠ 7 → X x = nb τ x
theorem N7_su {X τ : SS} (h : N7 X τ) (k : Nat) (v : Int32) : N7 (su X 7 k v) τ := fun x hx => (ud_ne _ _ _ hx).trans (h x hx)
set_option maxHeartbeats 4000000 in
theorem due12 (τ : SS) (hO : Ok (τ 1)) {n : Nat} (hn : n ≤ 10) (en : τ 1 17 = nI n) : ∃ τ', pX12_findDue τ = some τ' ∧ τ' 1 = τ 1 ∧ (∀ k, k < 10 → τ' 7 k = nI (lr (τ 1) k)) ∧ (∀ j, j ≠ 5 → τ' 0 j = τ 0 j) ∧ ∀ x, x ≠ 0 → x ≠ 1 → x ≠ 3 → x ≠ 7 → τ' x = τ x := by
  have n17 : (τ 1 17).toInt = n := by rw [en, nI_toInt (by omega)]
  unfold pX12_findDue
  rw [begin_rs, cs_s]
  generalize hPost : (fun (o : Option SS) => ∃ τ', o = some τ' ∧ τ' 1 = τ 1 ∧ (∀ k, k < 10 → τ' 7 k = nI (lr (τ 1) k)) ∧ (∀ j, j ≠ 5 → τ' 0 j = τ 0 j) ∧ ∀ x, x ≠ 0 → x ≠ 1 → x ≠ 3 → x ≠ 7 → τ' x = τ x) = Post
  refine (congrFun hPost _).mpr ?_
  refine q_for (S := SS) (R := SS) (fun (f : SS → Int32 → Option SS) s i => f s i) (m := 0) (n := 10) (by omega) (by omega) (fun j b => ∃ X, N7 X τ ∧ b = rs X (τ 1) (τ 0 5) ∧ ∀ k, k < j → X 7 k = nI 9999) Post ?_ ?_ _ ⟨nb τ, fun _ _ => rfl, rfl, fun k hk => by omega⟩
  · rintro F j b hj1 hj2 ⟨X, x1, rfl, x2⟩ ih
    try dsimp only
    rw [if_neg (fun hh => by have := (nI_leS (n := 10) (by omega) (by omega)).mp hh; omega), wr_n _ _ _ _ (by omega), nI_s, rs_7]
    refine ih _ ⟨_, N7_su x1 _ _, rfl, fun k hk => ?_⟩
    rw [ud_at]
    by_cases hkj : k = j
    · subst hkj; rw [upd_at]; rfl
    · rw [upd_ne hkj]; exact x2 k (by omega)
  · rintro F b ⟨X, x1, rfl, x2⟩
    try dsimp only
    rw [if_pos (show (10 : Int32) ≤ nI 10 by decide)]
    refine q_for (S := SS) (R := SS) (fun (f : SS → Int32 → Option SS) s i => f s i) (m := 1) (n := 401) (by omega) (by omega) (fun j b => ∃ X, N7 X τ ∧ b = rs X (mIter (τ 1) (j - 1)) (τ 0 5) ∧ (∀ k, k < n → X 7 k = nI (mn (τ 1) k 9999 (j - 1))) ∧ ∀ k, n ≤ k → k < 10 → X 7 k = nI 9999) Post ?_ ?_ _ ⟨X, x1, rfl, fun k hk => x2 k (by omega), fun k _ hk => x2 k hk⟩
    · rintro F2 j b hj1 hj2 ⟨X, x1, rfl, x2, x3⟩ ih
      try dsimp only
      obtain ⟨m, rfl⟩ : ∃ m, j = m + 1 := ⟨j - 1, by omega⟩
      rw [show m + 1 - 1 = m by omega] at x2 ⊢
      have m17 : mIter (τ 1) (m + 1) 17 = τ 1 17 := iter_no hO (by omega) (by omega) (by omega) (by omega) (m + 1)
      rw [if_neg (fun hh => by have := (nI_ltS (n := 400) (by omega) (by omega)).mp hh; omega), goes_rs X _ (Ok_iter hO m), cs_s]
      refine q_for (S := SS) (R := SS) (fun (f : SS → Int32 → Option SS) s i => f s i) (m := 0) (n := n) (by omega) (by omega) (fun j b => ∃ X, N7 X τ ∧ b = rs X (mIter (τ 1) (m + 1)) (τ 0 5) ∧ (∀ k, k < j → X 7 k = nI (mn (τ 1) k 9999 (m + 1))) ∧ (∀ k, j ≤ k → k < n → X 7 k = nI (mn (τ 1) k 9999 m)) ∧ ∀ k, n ≤ k → k < 10 → X 7 k = nI 9999) Post ?_ ?_ _ ⟨X, x1, rfl, fun k hk => by omega, fun k _ hk => x2 k hk, x3⟩
      · rintro F3 i b hi1 hi2 ⟨Y, y1, rfl, y2, y3, y4⟩ ih3
        try dsimp only
        rw [rs_1, Q1_17, m17, en, if_neg (by rw [nI_leS (by omega) (by omega)]; omega), Q1_2, ti_2 _ (by omega), cr_s, rs_1, it_h hO (by omega) (m + 1)]
        simp only [lt_n, rs_70]
        rw [rd_n _ _ (by omega), rd_n _ _ (by omega), wr_n _ _ _ _ (by omega), wr_n _ _ _ _ (by omega), nI_s, y3 i (Nat.le_refl i) hi2, rs_7, rs_7, show nI (m + 1) - 1 = nI m from pk_sub (a := m + 1) (b := 1) (by omega)]
        have hle := mn_le (τ 1) i 9999 m
        have es := mn_s (τ 1) i 9999 m
        have nx : ∀ v : Nat, v = mn (τ 1) i 9999 (m + 1) → Post (F3 (rs (su Y 7 i (nI v)) (mIter (τ 1) (m + 1)) (τ 0 5)) (nI (i + 1))) := fun v hv => by
          refine ih3 _ ⟨_, N7_su y1 _ _, rfl, fun k hk => ?_, fun k h1 h2 => ?_, fun k h1 h2 => ?_⟩
          · rw [ud_at]
            by_cases hki : k = i
            · subst hki; rw [upd_at, hv]
            · rw [upd_ne hki]; exact y2 k (by omega)
          · rw [ud_at, upd_ne (by omega)]; exact y3 k (by omega) h2
          · rw [ud_at, upd_ne (by omega)]; exact y4 k h1 h2
        generalize hM : mn (τ 1) i 9999 m = M at hle es
        by_cases g1 : mIter (τ 1) (m + 1) 2 ≤ τ 1 (99 + 5 * i)
        · rw [if_pos g1]
          rw [if_pos g1] at es
          exact nx M es.symm
        · rw [if_neg g1]
          rw [if_neg g1] at es
          by_cases g2 : M < m + 1
          · rw [if_pos ((nI_lt_big (by omega) (by omega)).mpr g2)]
            exact nx M (by omega)
          · rw [if_neg (fun hh => g2 ((nI_lt_big (by omega) (by omega)).mp hh))]
            exact nx m (by omega)
      · rintro F3 b ⟨Y, y1, rfl, y2, y3, y4⟩
        try dsimp only
        rw [rs_1, Q1_17, m17, en, if_pos (by rw [nI_leS (by omega) (by omega)]; omega), nI_s]
        exact ih _ ⟨Y, y1, rfl, y2, y4⟩
    · rintro F2 b ⟨X, x1, rfl, x2, x3⟩
      try dsimp only
      rw [show 401 - 1 = 400 from rfl] at x2 ⊢
      rw [if_pos (show (400 : Int32) < nI 401 by decide), layBack12, cs_s, rs_W, ← hPost]
      have X3 : X 3 = mix (τ 1) (τ 3) := x1 3 (by decide)
      have hrow : mix (rs X (mIter (τ 1) 400) (τ 0 5) 3) (rs X (mIter (τ 1) 400) (τ 0 5) 1) = τ 1 := by
        rw [rs_1, rs_no _ _ _ (by omega), X3]
        funext j
        by_cases hj : j < 307
        · exact (mix_lo hj).trans (mix_lo hj)
        · refine (if_neg hj).trans ?_
          exact iter_no hO (by omega) (by omega) (by omega) (by omega) 400
      rw [hrow]
      refine ⟨_, rfl, rfl, fun k hk => ?_, fun j hj => ?_, fun x h0 h1 h3 h7 => ?_⟩
      · rw [rs_70]
        unfold lr
        by_cases hkn : k < n
        · rw [if_pos (by omega), x2 k hkn]
        · rw [if_neg (by omega), x3 k (by omega) hk]
      · show upd (X 0) 5 (τ 0 5) j = _
        rw [upd_ne hj, x1 0 (by decide)]
        rfl
      · rw [rs_no _ _ _ (by omega), x1 x h7]
        exact if_neg h3
