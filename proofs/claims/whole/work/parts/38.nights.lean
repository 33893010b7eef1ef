/-! ===== skies that are there ===== -/
theorem isSky_eq {σ τ : SS} (h : Rel σ τ) (a : Int32) : pX11_isSky σ a = some (wi a 0 (τ 1 18 - 1)) ∧ pX12_isSky τ a = some (wi a 0 (τ 1 18 - 1)) := by
  have e : σ 16 0 = τ 1 18 := h.1.2.2.1.1
  constructor
  · unfold pX11_isSky
    rw [within_eq, cr_s, zz_b (wi_01 _ _ _), e]
  · show q_cr (pX12_in a 0 (τ 1 18 - 1)) _ = _
    rw [in_eq, cr_s, zz_b (wi_01 _ _ _)]
theorem sky_of {σ τ : SS} (h : Rel σ τ) {a1 : Int32} (h1 : ¬ wi a1 0 (τ 1 18 - 1) = 0) : ∃ y L : Nat, a1 = nI y ∧ y < 6 ∧ L ≤ 12 ∧ σ 17 y = nI L ∧ τ 1 (147 + 25 * y) = nI L ∧ ∀ i, i < L → σ 18 (12 * y + i) = τ 1 (148 + 25 * y + 2 * i) ∧ σ 19 (12 * y + i) = τ 1 (149 + 25 * y + 2 * i) ∧ dOk (τ 1 (148 + 25 * y + 2 * i)) (τ 1 (149 + 25 * y + 2 * i)) := by
  have o1 := h.1.1.1.2.2.1
  obtain ⟨g1, g2⟩ := wi_ok h1
  rw [show (0 : Int32).toInt = 0 from rfl] at g1
  rw [sub1_toInt o1.1] at g2
  have hcl := cl_toInt g1
  obtain ⟨k1, k2, k3⟩ := h.1.2.2.1.2 a1.toNatClampNeg (by omega)
  have k1 : σ 17 a1.toNatClampNeg = _ := k1
  obtain ⟨L, hL, eL⟩ := num_of (a := τ 1 (147 + 25 * a1.toNatClampNeg)) (n := 12) (by omega) k2.2
  refine ⟨a1.toNatClampNeg, L, (nI_self g1).symm, by omega, hL, by rw [k1, eL], eL, fun i hi => k3 i ?_⟩
  rw [eL, nI_toInt (by omega)]
  omega
theorem s_play : S_play Rel := by
  intro σ τ a1 h
  obtain ⟨i1, i2⟩ := isSky_eq h a1
  simp only [pX11_play, pX12_play, i1, i2, cr_s, tell_0, find_0, ci_s]
  by_cases h1 : wi a1 0 (τ 1 18 - 1) = 0
  · simp only [if_pos h1]
    exact ⟨_, _, _, rfl, rfl, R_tell h (by decide)⟩
  simp only [if_neg h1]
  obtain ⟨y, L, rfl, hy, hL, hl1, hl2, hd⟩ := sky_of h h1
  obtain ⟨s', p1, p2, p3, p4⟩ := perf7 (s := q_ap 4 (q_sb σ 16) (q_sb σ 3)) (t := τ 1) (y := y) (L := L) (D := fun i => τ 1 (148 + 25 * y + 2 * i)) (V := fun i => τ 1 (149 + 25 * y + 2 * i)) h.1.1 (CR_congr (c' := q_sb σ 3) (fun x hx => ap_hi x) h.1.2.1) hy hL hl1 hd
  have p5 := plays12 τ (r := τ 1) (τ 0 5) (y := y) (L := L) (D := fun i => τ 1 (148 + 25 * y + 2 * i)) (V := fun i => τ 1 (149 + 25 * y + 2 * i)) h.1.1 hy hL hl2 (fun i hi => ⟨rfl, rfl, (hd i hi).2.2⟩)
  have hdk : ∀ l, l < L → dOk (τ 1 (148 + 25 * y + 2 * l)) (τ 1 (149 + 25 * y + 2 * l)) := fun l hl => (hd l hl).2.2
  rw [rs_self] at p5
  rw [p1, p5, cs_s, cs_s, Q1_2]
  generalize hr : mPl (fun i => τ 1 (148 + 25 * y + 2 * i)) (fun i => τ 1 (149 + 25 * y + 2 * i)) (τ 1) L = r at p2
  have hno : ∀ j, ((16 ≤ j ∧ j < 25) ∨ 147 ≤ j) → r j = τ 1 j := fun j hj => by rw [← hr]; exact pl_no h.1.1 hj L hdk
  have hOr : Ok r := by rw [← hr]; exact Ok_pl h.1.1 L hdk
  have e3 : ∀ i, i < 13 → q_em (q_em σ 16 0 4 s') 3 4 13 s' (3 + i) = s' (4 + i) := fun i hi => em_in i hi
  have efar : ∀ x, (x < 3 ∨ 16 ≤ x) → q_em (q_em σ 16 0 4 s') 3 4 13 s' x = σ x := fun x hx => by
    rw [em_out (by omega)]
    by_cases h16 : 16 ≤ x ∧ x < 20
    · obtain ⟨i, rfl⟩ : ∃ i, x = 16 + i := ⟨x - 16, by omega⟩
      rw [em_in i (by omega), Nat.zero_add, p4 i (by omega), ap_lo (by omega)]
      rfl
    · rw [em_out (by omega)]
  have v1 : q_em (q_em σ 16 0 4 s') 3 4 13 s' 3 8 = r 2 := by
    have : s' 4 8 = r 2 := p2.1.2.2.1
    rw [show q_em (q_em σ 16 0 4 s') 3 4 13 s' 3 = s' (4 + 0) from e3 0 (by omega)]
    exact this
  rw [v1]
  refine ⟨_, _, _, rfl, rfl, ?_⟩
  refine R_house h ⟨hOr, CR_congr (c' := q_sb s' 4) (fun x hx => e3 x hx) p2, KR_congr (k := q_sb σ 16) (fun x hx => efar _ (by omega)) (hno 18 (by omega)) (fun j hj => hno j (by omega)) h.1.2.2.1, ?_, ?_⟩ (fun x hx => efar x (by omega)) rfl rfl (fun x hx => rs_no _ _ _ (by omega))
  · rw [efar 20 (by omega)]
    exact PR_congr (hno 16 (by omega)) (fun j hj => hno j (by omega)) h.1.2.2.2.1
  · rw [efar 2 (by omega), show rs τ r _ 1 20 = r 20 from rfl, hno 20 (by omega)]
    exact h.1.2.2.2.2
/-! ===== how long a sky is ===== -/
def mSk (D V : Nat → Int32) : Nat → Int32
  | 0 => 0
  | k + 1 => if D k = 1 then mSk D V k + V k else mSk D V k
theorem minOf7 {s : SS} {y L : Nat} {D V : Nat → Int32} (hy : y < 6) (hL : L ≤ 12) (h1 : s 1 y = nI L) (h2 : ∀ i, i < L → s 2 (12 * y + i) = D i ∧ s 3 (12 * y + i) = V i) : pX7_minutesOf s (nI y) = some (mSk D V L) := by
  unfold pX7_minutesOf
  rw [mul12, lt_v]
  refine q_for (S := Int32) (R := Int32) (fun (f : Int32 → Int32 → Option Int32) s i => f s i) (m := 12 * y) (n := 12 * y + L) (by omega) (by omega) (fun j a => a = mSk D V (j - 12 * y)) (fun r => r = some (mSk D V L)) ?_ ?_ 0 ?_
  · intro f j a hj1 hj2 ha ih
    subst ha
    try dsimp only
    obtain ⟨i, rfl⟩ : ∃ i, j = 12 * y + i := ⟨j - 12 * y, by omega⟩
    obtain ⟨w1, w2⟩ := h2 i (by omega)
    have es : mSk D V (i + 1) = if D i = 1 then mSk D V i + V i else mSk D V i := rfl
    rw [rd_n _ _ hy, h1, nI_add, if_neg (by rw [nI_leS (by omega) (by omega)]; omega), rd_n _ _ (by omega), w1, lt_v, rd_n _ _ (by omega), w2, lt_v, nI_s, show 12 * y + i - 12 * y = i by omega]
    split
    · rename_i hc; exact ih _ (by rw [show 12 * y + i + 1 - 12 * y = i + 1 by omega, es, if_pos hc])
    · rename_i hc; exact ih _ (by rw [show 12 * y + i + 1 - 12 * y = i + 1 by omega, es, if_neg hc])
  · intro f a ha
    subst ha
    try dsimp only
    rw [rd_n _ _ hy, h1, nI_add, if_pos (by rw [nI_leS (by omega) (by omega)]; omega), show 12 * y + L - 12 * y = L by omega]
  · rw [show 12 * y - 12 * y = 0 by omega]
    rfl
theorem s_skyOf : S_skyOf Rel := by
  intro σ τ a1 a2 h
  have R0 : Rel (su σ 1 0 (σ 1 0 + 1)) (su τ 4 0 (τ 4 0 + 1)) := R_tell h (by decide)
  obtain ⟨i1, i2⟩ := isSky_eq h a1
  simp only [pX11_skyOf, pX12_skyOf, i1, i2, within_eq, in_eq, cr_s, lt_v, tell_0, find_0, ci_s]
  by_cases h1 : wi a1 0 (τ 1 18 - 1) = 0
  · simp only [if_pos h1]
    exact ⟨_, _, _, rfl, rfl, R0⟩
  by_cases h2 : wi a2 0 1 = 0
  · simp only [if_neg h1, if_pos h2]
    exact ⟨_, _, _, rfl, rfl, R0⟩
  simp only [if_neg h1, if_neg h2]
  obtain ⟨y, L, rfl, hy, hL, hl1, hl2, hd⟩ := sky_of h h1
  rw [minOf7 (s := q_sb σ 16) (D := fun i => τ 1 (148 + 25 * y + 2 * i)) (V := fun i => τ 1 (149 + 25 * y + 2 * i)) hy hL hl1 (fun i hi => ⟨(hd i hi).1, (hd i hi).2.1⟩), cr_s, rd_n _ _ hy, hl1]
  refine ⟨if a2 = 0 then nI L else mSk (fun i => τ 1 (148 + 25 * y + 2 * i)) (fun i => τ 1 (149 + 25 * y + 2 * i)) L, σ, τ, by split <;> rfl, ?_, h⟩
  rw [show (147 : Int32) + 25 * nI y = nI (147 + 25 * y) by rw [show (147 : Int32) = nI 147 from rfl, show (25 : Int32) = nI 25 from rfl, pk_mul, nI_add]]
  refine q_for (S := Int32) (R := Int32 × SS) (fun (f : Int32 → Int32 → Option (Int32 × SS)) s i => f s i) (m := 0) (n := L) (by omega) (by omega) (fun j a => a = mSk (fun i => τ 1 (148 + 25 * y + 2 * i)) (fun i => τ 1 (149 + 25 * y + 2 * i)) j) (fun r => r = some (if a2 = 0 then nI L else mSk (fun i => τ 1 (148 + 25 * y + 2 * i)) (fun i => τ 1 (149 + 25 * y + 2 * i)) L, τ)) ?_ ?_ 0 rfl
  · intro f i a hj1 hj2 ha ih
    subst ha
    try dsimp only
    have es : mSk (fun i => τ 1 (148 + 25 * y + 2 * i)) (fun i => τ 1 (149 + 25 * y + 2 * i)) (i + 1) = if τ 1 (148 + 25 * y + 2 * i) = 1 then mSk (fun i => τ 1 (148 + 25 * y + 2 * i)) (fun i => τ 1 (149 + 25 * y + 2 * i)) i + τ 1 (149 + 25 * y + 2 * i) else mSk (fun i => τ 1 (148 + 25 * y + 2 * i)) (fun i => τ 1 (149 + 25 * y + 2 * i)) i := rfl
    have a2 : nI (147 + 25 * y) + 2 + 2 * nI i = nI (149 + 25 * y + 2 * i) := by
      rw [show (2 : Int32) = nI 2 from rfl, nI_add, pk_mul, nI_add, show 147 + 25 * y + 2 + 2 * i = 149 + 25 * y + 2 * i by omega]
    have a1 : nI (147 + 25 * y) + 1 + 2 * nI i = nI (148 + 25 * y + 2 * i) := by
      rw [show (1 : Int32) = nI 1 from rfl, show (2 : Int32) = nI 2 from rfl, nI_add, pk_mul, nI_add, show 147 + 25 * y + 1 + 2 * i = 148 + 25 * y + 2 * i by omega]
    rw [rd_n _ _ (by omega), hl2, if_neg (by rw [nI_leS (by omega) (by omega)]; omega), a1, a2, rd_n _ _ (by omega), rd_n _ _ (by omega), nI_s]
    split
    · rename_i hc; exact ih _ (by rw [es, if_pos hc])
    · rename_i hc; exact ih _ (by rw [es, if_neg hc, Int32.add_zero])
  · intro f a ha
    subst ha
    try dsimp only
    rw [rd_n _ _ (by omega), hl2, if_pos (by rw [nI_leS (by omega) (by omega)]; omega), rd_n _ _ (by omega), hl2]
    split <;> rfl
/-! ===== nights ===== -/
def nb (τ : SS) : SS := q_sc τ 3 (mix (τ 1) (τ 3))
theorem nb_rs (τ : SS) : nb τ = rs (nb τ) (τ 1) (τ 0 5) := (rs_self (nb τ)).symm
theorem begin_rs (τ : SS) : pX12_begin τ = some (rs (nb τ) (τ 1) (τ 0 5)) := by
  rw [begin12, ← nb_rs]
  rfl
def nbk (τ : SS) (r : Nat → Int32) : Nat → Int32 := mix (mix (τ 1) (τ 3)) r
theorem back_rs (τ : SS) (r : Nat → Int32) (g : Int32) : pX12_layBack (rs (nb τ) r g) = some (rs (nb τ) (nbk τ r) g) := by
  rw [layBack12, rs_W]
  rfl
theorem nbk_lo (τ : SS) (r : Nat → Int32) {j : Nat} (h : j < 307) : nbk τ r j = τ 1 j := (mix_lo h).trans (mix_lo h)
theorem R_night {σ σ' τ : SS} (h : Rel σ τ) (hx : ∀ x, x < 52 → σ' x = σ x) (r : Nat → Int32) (g : Int32) : Rel σ' (rs (nb τ) (nbk τ r) g) :=
  R_same h hx (fun j hj => nbk_lo τ r hj) rfl rfl (fun x hx => (rs_no _ _ _ (by omega)).trans (if_neg (by omega)))
theorem em3 (σ g s2 : SS) (h14 : ∀ x, x < 14 → s2 x = q_ap 1 (q_sb σ 52) (q_ap 13 (q_sb σ 3) g) x) : ∀ x, x < 52 → q_em (q_em (q_em σ 52 0 1 s2) 3 1 13 s2) 53 14 14 s2 x = σ x := by
  intro x hx
  rw [em_out (by omega)]
  by_cases h3 : 3 ≤ x ∧ x < 16
  · obtain ⟨i, rfl⟩ : ∃ i, x = 3 + i := ⟨x - 3, by omega⟩
    rw [em_in i (by omega), h14 _ (by omega), ap_hi, ap_lo (by omega)]
    rfl
  · rw [em_out (by omega), em_out (by omega)]
theorem em4 (σ g s2 : SS) {b n : Nat} (hb : b + n ≤ 52) (h14 : ∀ x, x < 14 → s2 x = q_ap 1 (q_sb σ 52) (q_ap 13 (q_sb σ 3) g) x) (h28 : ∀ i, i < n → s2 (28 + i) = σ (b + i)) : ∀ x, x < 52 → q_em (q_em (q_em (q_em σ 52 0 1 s2) 3 1 13 s2) 53 14 14 s2) b 28 n s2 x = σ x := by
  intro x hx
  by_cases h3 : b ≤ x ∧ x < b + n
  · obtain ⟨i, rfl⟩ : ∃ i, x = b + i := ⟨x - b, by omega⟩
    rw [em_in i (by omega), h28 i (by omega)]
  · rw [em_out (by omega)]
    exact em3 σ g s2 h14 x hx
theorem CR_n3 {σ g : SS} {t : Nat → Int32} (h : CRel (q_sb σ 3) t) : CRel (q_sb (q_ap 1 (q_sb σ 52) (q_ap 13 (q_sb σ 3) g)) 1) t :=
  CR_congr (c' := q_sb σ 3) (fun x hx => by
    show q_ap 1 (q_sb σ 52) (q_ap 13 (q_sb σ 3) g) (1 + x) = _
    rw [ap_hi, ap_lo hx]) h
/-- what is told of a night -/
def mTold (w : Nat) (r : Nat → Int32) (g st : Int32) : Int32 := if w = 0 then r 2 else if w = 1 then g else if w = 2 then r 9 - st else mHw r (r 17).toNatClampNeg
theorem told12 (τ : SS) {r : Nat → Int32} (g st : Int32) (hO : Ok r) {w : Nat} (hw : w < 4) : pX12_toldOf (rs (nb τ) r g) (nI w) st = some (mTold w r g st, rs (nb τ) (nbk τ r) g) := by
  unfold pX12_toldOf
  simp only [lt_v, back_rs, cs_s, Q1_2, Q1_9, harm_t (rs (nb τ) r g) hO, cr_s]
  rcases (by omega : w = 0 ∨ w = 1 ∨ w = 2 ∨ w = 3) with rfl | rfl | rfl | rfl <;> rfl
theorem outc3 {s : SS} {r : Nat → Int32} (hO : Ok r) (hc : CRel (q_sb s 14) r) {g st : Int32} (hg : s 14 12 = g) (hst : s 7 8 = st) {w : Nat} (hw : w < 4) : pX3_outcome s (nI w) = some (mTold w r g st) := by
  have e2 : s 14 8 = r 2 := hc.1.2.2.1
  have e9 : s 20 8 = r 9 := hc.1.2.2.2.2.2.2.2.2.2.1
  have hh := harm_c hO hc
  rw [sb_sb] at hh
  unfold pX3_outcome
  rw [hh, e2, hg, e9, hst, cr_s]
  rcases (by omega : w = 0 ∨ w = 1 ∨ w = 2 ∨ w = 3) with rfl | rfl | rfl | rfl <;> rfl
theorem em14 {s c' : SS} {t : Nat → Int32} (h : CRel c' t) : CRel (q_sb (q_em s 14 0 13 c') 14) t :=
  CR_congr (c' := c') (fun x hx => by
    show q_em s 14 0 13 c' (14 + x) = c' x
    rw [em_in x hx, Nat.zero_add]) h
theorem s_ahead : S_ahead Rel := by
  intro σ τ a1 a2 h
  have R0 : Rel (su σ 1 0 (σ 1 0 + 1)) (su τ 4 0 (τ 4 0 + 1)) := R_tell h (by decide)
  simp only [pX11_ahead, pX12_ahead, within_eq, in_eq, cr_s, lt_v, tell_0, find_0, ci_s]
  by_cases h1 : wi a1 0 400 = 0
  · simp only [if_pos h1]
    exact ⟨_, _, _, rfl, rfl, R0⟩
  by_cases h2 : wi a2 0 3 = 0
  · simp only [if_neg h1, if_pos h2]
    exact ⟨_, _, _, rfl, rfl, R0⟩
  simp only [if_neg h1, if_neg h2]
  obtain ⟨n, hn, rfl⟩ := num_of (a := a1) (n := 400) (wi_ok h1).1 (wi_ok h1).2
  obtain ⟨w, hw, rfl⟩ := num_of (a := a2) (n := 3) (wi_ok h2).1 (wi_ok h2).2
  have hO := h.1.1
  rw [begin_rs, cs_s, rs_top, rs_1, Q1_9, goesOn_rs (nb τ) 0 hO (by omega), cs_s, told12 τ _ _ (Ok_iter hO n) (by omega), ci_s]
  obtain ⟨s1, b1, b2, b3, b4⟩ := begin3 (s := q_ap 1 (q_sb σ 52) (q_ap 13 (q_sb σ 3) (q_sb σ 53))) hO (CR_n3 h.1.2.1)
  obtain ⟨c', k1, k2, k3⟩ := iter0 (c := q_sb s1 14) hO b2 (n := n) (by omega)
  unfold pX3_behindMinutes
  rw [b1, cs_s, k1, cs_s, outc3 (st := τ 1 9) (Ok_iter hO n) (em14 k2) (g := mTop 0 (τ 1) n) ?_ ?_ (by omega), cr_s, ci_s]
  · refine ⟨_, _, _, rfl, rfl, R_night h (em3 σ (q_sb σ 53) _ (fun x hx => ?_)) _ _⟩
    rw [em_out (by omega), b4 x (by omega)]
  · show c' 0 12 = _
    rw [k3, show q_sb s1 14 0 12 = 0 from b3]
  · rw [em_out (by omega), b4 7 (by omega)]
    exact h.1.2.1.1.2.2.2.2.2.2.2.2.2.1
theorem s_under : S_under Rel := by
  intro σ τ a1 a2 h
  have R0 : Rel (su σ 1 0 (σ 1 0 + 1)) (su τ 4 0 (τ 4 0 + 1)) := R_tell h (by decide)
  obtain ⟨i1, i2⟩ := isSky_eq h a1
  simp only [pX11_under, pX12_under, i1, i2, within_eq, in_eq, cr_s, lt_v, tell_0, find_0, ci_s]
  by_cases h1 : wi a1 0 (τ 1 18 - 1) = 0
  · simp only [if_pos h1]
    exact ⟨_, _, _, rfl, rfl, R0⟩
  by_cases h2 : wi a2 0 3 = 0
  · simp only [if_neg h1, if_pos h2]
    exact ⟨_, _, _, rfl, rfl, R0⟩
  simp only [if_neg h1, if_neg h2]
  obtain ⟨y, L, rfl, hy, hL, hl1, hl2, hd⟩ := sky_of h h1
  obtain ⟨w, hw, rfl⟩ := num_of (a := a2) (n := 3) (wi_ok h2).1 (wi_ok h2).2
  have hO := h.1.1
  have hdk : ∀ l, l < L → dOk (τ 1 (148 + 25 * y + 2 * l)) (τ 1 (149 + 25 * y + 2 * l)) := fun l hl => (hd l hl).2.2
  have hOl := Ok_pl (D := fun i => τ 1 (148 + 25 * y + 2 * i)) (V := fun i => τ 1 (149 + 25 * y + 2 * i)) hO L hdk
  rw [begin_rs, cs_s, rs_top, rs_1, Q1_9, plays12 (nb τ) 0 (D := fun i => τ 1 (148 + 25 * y + 2 * i)) (V := fun i => τ 1 (149 + 25 * y + 2 * i)) hO hy hL hl2 (fun i hi => ⟨rfl, rfl, hdk i hi⟩), cs_s, told12 τ _ _ hOl (by omega), ci_s]
  unfold pX3_behindSky
  generalize hs : q_ap 1 (q_sb σ 52) (q_ap 13 (q_sb σ 3) (q_ap 14 (q_sb σ 53) (q_sb σ 16))) = s
  have hsx : ∀ i, i < 4 → s (28 + i) = σ (16 + i) := fun i hi => by
    rw [← hs, show 28 + i = 1 + (13 + (14 + i)) by omega, ap_hi, ap_hi, ap_hi]
    rfl
  have hcs : CRel (q_sb (q_sb s 0) 1) (τ 1) := by
    rw [sb_sb, ← hs]
    exact CR_n3 h.1.2.1
  obtain ⟨s1, b1, b2, b3, b4⟩ := begin3 (s := q_sb s 0) hO hcs
  rw [b1, cs_s]
  have f1 : ∀ x, (x < 14 ∨ 27 ≤ x) → q_em s 0 0 28 s1 x = s x := fun x hx => by
    by_cases h28 : x < 28
    · have := em_in (σ := s) (τ := s1) (b := 0) (o := 0) (n := 28) x h28
      rw [Nat.zero_add] at this
      rw [this, b4 x hx]
      show s (0 + x) = s x
      rw [Nat.zero_add]
    · exact em_out (by omega)
  have f2 : ∀ i, i < 13 → q_em s 0 0 28 s1 (14 + i) = s1 (14 + i) := fun i hi => by
    have := em_in (σ := s) (τ := s1) (b := 0) (o := 0) (n := 28) (14 + i) (by omega)
    rw [Nat.zero_add] at this
    exact this
  generalize q_em s 0 0 28 s1 = s2 at f1 f2
  obtain ⟨s', p1, p2, p3, p4⟩ := perf7 (s := q_ap 4 (q_sb s2 28) (q_sb s2 14)) (t := τ 1) (y := y) (L := L) (D := fun i => τ 1 (148 + 25 * y + 2 * i)) (V := fun i => τ 1 (149 + 25 * y + 2 * i)) hO (CR_congr (c' := q_sb s1 14) (fun x hx => (ap_hi x).trans (f2 x hx)) b2) hy hL (by
    show s2 (28 + 1) y = _
    rw [f1 _ (by omega), hsx 1 (by omega)]
    exact hl1) (fun i hi => by
    show s2 (28 + 2) _ = _ ∧ s2 (28 + 3) _ = _ ∧ _
    rw [f1 _ (by omega), f1 _ (by omega), hsx 2 (by omega), hsx 3 (by omega)]
    exact hd i hi)
  have z12 : q_ap 4 (q_sb s2 28) (q_sb s2 14) 4 12 = 0 := by
    show s2 (14 + 0) 12 = 0
    rw [f2 0 (by omega)]
    exact b3
  rw [z12] at p3
  have e14 : ∀ i, i < 13 → q_em (q_em s2 28 0 4 s') 14 4 13 s' (14 + i) = s' (4 + i) := fun i hi => em_in i hi
  have eo : ∀ x, (x < 14 ∨ 27 ≤ x) → q_em (q_em s2 28 0 4 s') 14 4 13 s' x = s x := fun x hx => by
    rw [em_out (by omega)]
    by_cases h28 : 28 ≤ x ∧ x < 32
    · obtain ⟨i, rfl⟩ : ∃ i, x = 28 + i := ⟨x - 28, by omega⟩
      rw [em_in i (by omega), Nat.zero_add, p4 i (by omega), ap_lo (by omega)]
      exact f1 _ (by omega)
    · rw [em_out (by omega), f1 x hx]
  rw [p1, cs_s]
  generalize q_em (q_em s2 28 0 4 s') 14 4 13 s' = s3 at e14 eo
  have c3 : CRel (q_sb (q_sb s3 0) 14) (mPl (fun i => τ 1 (148 + 25 * y + 2 * i)) (fun i => τ 1 (149 + 25 * y + 2 * i)) (τ 1) L) := CR_congr (c' := q_sb s' 4) (fun x hx => by
    show s3 (0 + (14 + x)) = s' (4 + x)
    rw [Nat.zero_add, e14 x hx]) p2
  rw [outc3 (s := q_sb s3 0) (st := τ 1 9) hOl c3 (g := mPt (fun i => τ 1 (148 + 25 * y + 2 * i)) (fun i => τ 1 (149 + 25 * y + 2 * i)) 0 (τ 1) L) ?_ ?_ (by omega), cr_s, ci_s]
  · refine ⟨_, _, _, rfl, rfl, R_night h (em4 σ (q_ap 14 (q_sb σ 53) (q_sb σ 16)) _ (by omega) (fun x hx => ?_) (fun i hi => ?_)) _ _⟩
    · rw [eo x (by omega), ← hs]
    · rw [eo _ (by omega), hsx i hi]
  · show s3 (14 + 0) 12 = _
    rw [e14 0 (by omega)]
    exact p3
  · show s3 7 8 = _
    rw [eo 7 (by omega), ← hs]
    exact h.1.2.1.1.2.2.2.2.2.2.2.2.2.1
/-! ===== the first that does ===== -/
def Fst (P : Nat → Prop) (lo hi : Nat) (r : Int32) : Prop := (r = -1 ∧ ∀ m, lo ≤ m → m ≤ hi → ¬ P m) ∨ ∃ m, lo ≤ m ∧ m ≤ hi ∧ r = nI m ∧ P m ∧ ∀ l, lo ≤ l → l < m → ¬ P l
theorem Fst_u {P : Nat → Prop} {lo hi : Nat} {r r' : Int32} (h : Fst P lo hi r) (h' : Fst P lo hi r') : r = r' := by
  rcases h with ⟨e, a⟩ | ⟨m, m1, m2, e, a, b⟩
  · rcases h' with ⟨e', a'⟩ | ⟨m', m1', m2', e', a', b'⟩
    · rw [e, e']
    · exact absurd a' (a m' m1' m2')
  · rcases h' with ⟨e', a'⟩ | ⟨m', m1', m2', e', a', b'⟩
    · exact absurd a (a' m m1 m2)
    · have : m = m' := by
        rcases Nat.lt_trichotomy m m' with hl | hl | hl
        · exact absurd a (b' m m1 hl)
        · exact hl
        · exact absurd a' (b m' m1' hl)
      rw [e, e', this]
theorem top_iff {a : Int32} (ha : 0 ≤ a.toInt) (t : Nat → Int32) : ∀ n, mTop 0 t n ≤ a ↔ ∀ l, 1 ≤ l → l ≤ n → mIter t l 2 ≤ a
  | 0 => ⟨fun _ l h1 h2 => by omega, fun _ => by rw [i_le]; exact ha⟩
  | n + 1 => by
    have ih := top_iff ha t n
    show (if mTop 0 t n < mIter t (n + 1) 2 then mIter t (n + 1) 2 else mTop 0 t n) ≤ a ↔ _
    constructor
    · intro h l h1 h2
      by_cases hl : l = n + 1
      · subst hl
        split at h
        · exact h
        · rename_i hc
          rw [i_le] at h ⊢
          rw [i_lt] at hc
          omega
      · refine ih.mp ?_ l h1 (by omega)
        split at h
        · rename_i hc
          rw [i_le] at h ⊢
          rw [i_lt] at hc
          omega
        · exact h
    · intro h
      have h1 := h (n + 1) (by omega) (by omega)
      have h2 := ih.mpr (fun l g1 g2 => h l g1 (by omega))
      split
      · exact h1
      · exact h2
theorem orNone_eq (σ : SS) (a : Int32) : pX11_orNone σ a = some (if a = -1 then (-1000004, su σ 1 3 (σ 1 3 + 1)) else (a, σ)) := by
  unfold pX11_orNone
  simp only [lt_v, tell_3, ci_s]
  split <;> rfl
theorem nI_m1 {n : Nat} (h : n < 2 ^ 31) : ¬ nI n = -1 := fun e => by
  have := i_eq.mp e
  rw [nI_toInt h, show (-1 : Int32).toInt = -1 from rfl] at this
  omega
set_option maxHeartbeats 4000000 in
theorem reach3 {s : SS} {t : Nat → Int32} (hO : Ok t) (hc : CRel (q_sb s 1) t) (a : Int32) : ∃ r s', pX3_firstMinuteAbove s a = some (r, s') ∧ Fst (fun m => ¬ mIter t m 2 ≤ a) 1 400 r ∧ ∀ x, x < 14 → s' x = s x := by
  obtain ⟨s1, b1, b2, b3, b4⟩ := begin3 hO hc
  unfold pX3_firstMinuteAbove
  rw [b1, cs_s]
  refine q_for (S := SS) (R := Int32 × SS) (fun (f : SS → Int32 → Option (Int32 × SS)) s i => f s i) (m := 1) (n := 401) (by omega) (by omega) (fun j b => CRel (q_sb b 14) (mIter t (j - 1)) ∧ (∀ x, x < 14 → b x = s x) ∧ ∀ l, 1 ≤ l → l < j → mIter t l 2 ≤ a) (fun o => ∃ r s', o = some (r, s') ∧ Fst (fun m => ¬ mIter t m 2 ≤ a) 1 400 r ∧ ∀ x, x < 14 → s' x = s x) ?_ ?_ s1 ⟨b2, fun x hx => b4 x (by omega), fun l h1 h2 => by omega⟩
  · rintro f j b hj1 hj2 ⟨hb1, hb2, hb3⟩ ih
    try dsimp only
    obtain ⟨c', q1, q2, q3⟩ := minute0 (Ok_iter hO (j - 1)) hb1
    have ei : mGoes (mIter t (j - 1)) = mIter t j := by
      obtain ⟨i, rfl⟩ : ∃ i, j = i + 1 := ⟨j - 1, by omega⟩
      rfl
    rw [ei] at q2
    have e2 : q_em b 14 0 13 c' 14 8 = mIter t j 2 := q2.1.2.2.1
    rw [if_neg (fun hh => by have := (nI_ltS (n := 400) (by omega) (by omega)).mp hh; omega), q1, cs_s, e2, nI_s]
    split
    · rename_i hc
      refine ih _ ⟨em14 q2, fun x hx => by rw [em_out (by omega), hb2 x hx], fun l h1 h2 => ?_⟩
      by_cases hl : l = j
      · rw [hl]; exact hc
      · exact hb3 l h1 (by omega)
    · rename_i hc
      exact ⟨_, _, rfl, Or.inr ⟨j, hj1, by omega, rfl, hc, fun l h1 h2 hn => hn (hb3 l h1 h2)⟩, fun x hx => by rw [em_out (by omega), hb2 x hx]⟩
  · rintro f b ⟨hb1, hb2, hb3⟩
    try dsimp only
    rw [if_pos (show (400 : Int32) < nI 401 from (nI_ltS (n := 400) (by omega) (by omega)).mpr (by omega))]
    exact ⟨_, _, rfl, Or.inl ⟨rfl, fun m h1 h2 hn => hn (hb3 m h1 (by omega))⟩, hb2⟩
theorem finding3 (τ : SS) : pX12_finding τ 3 = some (-1000004, su τ 4 3 (τ 4 3 + 1)) := rfl
set_option maxHeartbeats 4000000 in
theorem s_reaches : S_reaches Rel := by
  intro σ τ a1 h
  simp only [pX11_reaches, pX12_reaches, within_eq, in_eq, cr_s, lt_v, tell_0, find_0, ci_s]
  by_cases h1 : wi a1 0 9999 = 0
  · simp only [if_pos h1]
    exact ⟨_, _, _, rfl, rfl, R_tell h (by decide)⟩
  simp only [if_neg h1]
  have ha : 0 ≤ a1.toInt := (wi_ok h1).1
  have hO := h.1.1
  obtain ⟨r, s', p1, p2, p3⟩ := reach3 (s := q_ap 1 (q_sb σ 52) (q_ap 13 (q_sb σ 3) (q_sb σ 53))) hO (CR_n3 h.1.2.1) a1
  rw [p1, ci_s, orNone_eq, ci_s]
  have R1 : ∀ q g, Rel (q_em (q_em (q_em σ 52 0 1 s') 3 1 13 s') 53 14 14 s') (rs (nb τ) (nbk τ q) g) := fun q g => R_night h (em3 σ (q_sb σ 53) s' p3) q g
  generalize q_em (q_em (q_em σ 52 0 1 s') 3 1 13 s') 53 14 14 s' = σ' at R1
  have key : ∃ r' q g, (q_cs (pX12_begin τ) (fun (τ : SS) => τ) (fun (σ3 : SS) => q_lp (fun _ _ => none) (fun (c7 : SS → Int32 → Option (Int32 × SS)) (σ6 : SS) (x2_5 : Int32) => (if 400 ≤ x2_5 then (if (σ6 0 5) ≤ a1 then q_cs (pX12_layBack σ6) (fun (τ : SS) => τ) (fun (σ13 : SS) => (if (0 : Int32) = 0 then q_ci (pX12_finding σ13 3) (fun (τ : SS) => τ) (fun (r19 : Int32) (σ18 : SS) => some (r19, σ18)) else some (x2_5, σ13))) else q_cs (pX12_layBack σ6) (fun (τ : SS) => τ) (fun (σ13 : SS) => (if (1 : Int32) = 0 then q_ci (pX12_finding σ13 3) (fun (τ : SS) => τ) (fun (r19 : Int32) (σ18 : SS) => some (r19, σ18)) else some (x2_5, σ13)))) else (if a1 < (σ6 0 5) then (if (σ6 0 5) ≤ a1 then q_cs (pX12_layBack σ6) (fun (τ : SS) => τ) (fun (σ13 : SS) => (if (0 : Int32) = 0 then q_ci (pX12_finding σ13 3) (fun (τ : SS) => τ) (fun (r19 : Int32) (σ18 : SS) => some (r19, σ18)) else some (x2_5, σ13))) else q_cs (pX12_layBack σ6) (fun (τ : SS) => τ) (fun (σ13 : SS) => (if (1 : Int32) = 0 then q_ci (pX12_finding σ13 3) (fun (τ : SS) => τ) (fun (r19 : Int32) (σ18 : SS) => some (r19, σ18)) else some (x2_5, σ13)))) else q_cs (pX12_goesOn σ6 1) (fun (τ : SS) => τ) (fun (σ23 : SS) => c7 σ23 (x2_5 + 1))))) q_fu (su σ3 0 5 0) 0)) = some (if r' = -1 then (-1000004, su (rs (nb τ) (nbk τ q) g) 4 3 (rs (nb τ) (nbk τ q) g 4 3 + 1)) else (r', rs (nb τ) (nbk τ q) g)) ∧ Fst (fun m => ¬ mIter (τ 1) m 2 ≤ a1) 1 400 r' := by
    rw [begin_rs, cs_s, rs_top]
    refine q_for (S := SS) (R := Int32 × SS) (fun (f : SS → Int32 → Option (Int32 × SS)) s i => f s i) (m := 0) (n := 400) (by omega) (by omega) (fun j b => b = rs (nb τ) (mIter (τ 1) j) (mTop 0 (τ 1) j) ∧ ∀ l, 1 ≤ l → l < j → mIter (τ 1) l 2 ≤ a1) (fun o => ∃ r' q g, o = some (if r' = -1 then (-1000004, su (rs (nb τ) (nbk τ q) g) 4 3 (rs (nb τ) (nbk τ q) g 4 3 + 1)) else (r', rs (nb τ) (nbk τ q) g)) ∧ Fst (fun m => ¬ mIter (τ 1) m 2 ≤ a1) 1 400 r') ?_ ?_ _ ⟨rfl, fun l h1 h2 => by omega⟩
    · rintro f j b hj1 hj2 ⟨hb, hl⟩ ih
      subst hb
      try dsimp only
      rw [if_neg (fun hh => by have := (nI_leS (n := 400) (by omega) (by omega)).mp hh; omega), rs_g, back_rs, cs_s, cs_s, if_neg (show ¬ (1 : Int32) = 0 by decide)]
      have ti := top_iff ha (τ 1) j
      by_cases hc : a1 < mTop 0 (τ 1) j
      · have hc2 : ¬ mTop 0 (τ 1) j ≤ a1 := by rw [i_le]; rw [i_lt] at hc; omega
        rw [if_pos hc, if_neg hc2]
        have hj0 : 1 ≤ j := by
          rcases Nat.eq_zero_or_pos j with h0 | h0
          · subst h0
            exact absurd (ti.mpr (fun l g1 g2 => by omega)) hc2
          · exact h0
        refine ⟨nI j, _, _, by rw [if_neg (nI_m1 (by omega))], Or.inr ⟨j, hj0, by omega, rfl, fun hp => hc2 (ti.mpr (fun l g1 g2 => ?_)), fun l g1 g2 hn => hn (hl l g1 g2)⟩⟩
        by_cases hlj : l = j
        · rw [hlj]; exact hp
        · exact hl l g1 (by omega)
      · have hc2 : mTop 0 (τ 1) j ≤ a1 := by rw [i_le]; rw [i_lt] at hc; omega
        rw [if_neg hc, show (1 : Int32) = nI 1 from rfl, goesOn_rs (nb τ) _ (Ok_iter hO j) (by omega), cs_s, nI_add]
        exact ih _ ⟨rfl, fun l g1 g2 => ti.mp hc2 l g1 (by omega)⟩
    · rintro f b ⟨hb, hl⟩
      subst hb
      try dsimp only
      rw [if_pos (show (400 : Int32) ≤ nI 400 by decide), rs_g, back_rs, cs_s, cs_s, if_neg (show ¬ (1 : Int32) = 0 by decide), if_pos (show (0 : Int32) = 0 from rfl), finding3, ci_s]
      have ti := top_iff ha (τ 1) 400
      by_cases hc : mTop 0 (τ 1) 400 ≤ a1
      · rw [if_pos hc]
        exact ⟨-1, _, _, by rw [if_pos rfl], Or.inl ⟨rfl, fun m g1 g2 hn => hn (ti.mp hc m g1 g2)⟩⟩
      · rw [if_neg hc]
        refine ⟨nI 400, _, _, by rw [if_neg (nI_m1 (by omega))], Or.inr ⟨400, by omega, by omega, rfl, fun hp => hc (ti.mpr (fun l g1 g2 => ?_)), fun l g1 g2 hn => hn (hl l g1 g2)⟩⟩
        by_cases hlj : l = 400
        · rw [hlj]; exact hp
        · exact hl l g1 (by omega)
  obtain ⟨r', q, g, k1, k2⟩ := key
  have hr := Fst_u p2 k2
  subst hr
  by_cases hm : r = -1
  · rw [if_pos hm]
    rw [if_pos hm] at k1
    exact ⟨_, _, _, rfl, k1, R_tell (R1 q g) (by decide)⟩
  · rw [if_neg hm]
    rw [if_neg hm] at k1
    exact ⟨_, _, _, rfl, k1, R1 q g⟩
