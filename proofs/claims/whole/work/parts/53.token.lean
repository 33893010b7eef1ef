/-! ===== tokens ===== -/
def scan (P : Int32 → Bool) (bs : Nat → Int32) : Nat → Nat → Nat
  | 0, p => p
  | k + 1, p => if P (bs p) = true then scan P bs k (p + 1) else p
theorem scan_le (P : Int32 → Bool) (bs : Nat → Int32) : ∀ k p, p ≤ scan P bs k p ∧ scan P bs k p ≤ p + k
  | 0, p => ⟨Nat.le_refl _, Nat.le_refl _⟩
  | k + 1, p => by
    have := scan_le P bs k (p + 1)
    unfold scan
    split <;> omega
theorem scan_s (P : Int32 → Bool) (bs : Nat → Int32) (k p : Nat) : scan P bs (k + 1) p = if P (bs p) = true then scan P bs k (p + 1) else p := rfl
def isBl (x : Int32) : Bool := decide (x = 32)
def isL (x : Int32) : Bool := decide (¬ wi x 97 122 = 0)
def isD (x : Int32) : Bool := decide (¬ wi x 48 57 = 0)
def tkT (bs : Nat → Int32) (N q : Nat) : Int32 := if q < N then (if isL (bs q) = true then 1 else if isD (bs q) = true then 2 else if bs q = 59 then 3 else 4) else 0
def tkE (bs : Nat → Int32) (N q : Nat) : Nat := if q < N then (if isL (bs q) = true then scan isL bs (N - q) q else if isD (bs q) = true then scan isD bs (N - q) q else q + 1) else q
theorem tkE_b (bs : Nat → Int32) {N q : Nat} (hq : q ≤ N) : q ≤ tkE bs N q ∧ tkE bs N q ≤ N := by
  unfold tkE
  have h1 := scan_le isL bs (N - q) q
  have h2 := scan_le isD bs (N - q) q
  split
  · split
    · omega
    · split <;> omega
  · omega
def vC (bs : Nat → Int32) : Nat → Nat → Int32 → Int32
  | 0, _, v => v
  | k + 1, p, v => if isD (bs p) = true then vC bs k (p + 1) (if v * 10 + bs p - 48 < 1000 then v * 10 + bs p - 48 else 1000) else v
def vR (bs : Nat → Int32) : Nat → Nat → Int32 → Int32
  | 0, _, v => v
  | k + 1, p, v => if isD (bs p) = true then vR bs k (p + 1) (if v ≤ 999 then 10 * v + bs p - 48 else v) else v
def VR (v v' : Int32) : Prop := (∃ a, a ≤ 999 ∧ v = nI a ∧ v' = nI a) ∨ (v = nI 1000 ∧ ∃ b, 999 < b ∧ b ≤ 9999 ∧ v' = nI b)
theorem dig_of {x : Int32} (h : isD x = true) : ∃ c, 48 ≤ c ∧ c ≤ 57 ∧ x = nI c := by
  have h1 := of_decide_eq_true h
  obtain ⟨g1, g2⟩ := wi_ok h1
  rw [show (48 : Int32).toInt = 48 from rfl] at g1
  rw [show (57 : Int32).toInt = 57 from rfl] at g2
  obtain ⟨c, hc, rfl⟩ := num_of (a := x) (n := 57) (by omega) g2
  rw [nI_toInt (by omega)] at g1
  exact ⟨c, by omega, hc, rfl⟩
theorem VR_s {v v' x : Int32} (h : VR v v') (hx : isD x = true) : VR (if v * 10 + x - 48 < 1000 then v * 10 + x - 48 else 1000) (if v' ≤ 999 then 10 * v' + x - 48 else v') := by
  obtain ⟨c, c1, c2, rfl⟩ := dig_of hx
  rcases h with ⟨a, ha, rfl, rfl⟩ | ⟨rfl, b, b1, b2, rfl⟩
  · have e1 : nI a * 10 + nI c - 48 = nI (a * 10 + c - 48) := by
      rw [show (10 : Int32) = nI 10 from rfl, show (48 : Int32) = nI 48 from rfl, pk_mul, nI_add, pk_sub (by omega)]
    have e2 : 10 * nI a + nI c - 48 = nI (a * 10 + c - 48) := by
      rw [show (10 : Int32) = nI 10 from rfl, show (48 : Int32) = nI 48 from rfl, pk_mul, nI_add, pk_sub (by omega), Nat.mul_comm]
    rw [e1, e2, if_pos (show nI a ≤ 999 from (nI_leS (m := 999) (by omega) (by omega)).mpr ha)]
    by_cases hl : a * 10 + c - 48 < 1000
    · rw [if_pos (show nI (a * 10 + c - 48) < 1000 from (nI_lt_big (m := 1000) (by omega) (by omega)).mpr hl)]
      exact Or.inl ⟨_, by omega, rfl, rfl⟩
    · rw [if_neg (show ¬ nI (a * 10 + c - 48) < 1000 from fun hh => hl ((nI_lt_big (m := 1000) (by omega) (by omega)).mp hh))]
      exact Or.inr ⟨rfl, _, by omega, by omega, rfl⟩
  · have e1 : nI 1000 * 10 + nI c - 48 = nI (10000 + c - 48) := by
      rw [show (10 : Int32) = nI 10 from rfl, show (48 : Int32) = nI 48 from rfl, pk_mul, nI_add, pk_sub (by omega)]
    rw [e1, if_neg (show ¬ nI (10000 + c - 48) < 1000 from fun hh => by have := (nI_lt_big (m := 1000) (by omega) (by omega)).mp hh; omega), if_neg (show ¬ nI b ≤ 999 from fun hh => by have := (nI_le_big (m := 999) (by omega) (by omega)).mp hh; omega)]
    exact Or.inr ⟨rfl, b, b1, b2, rfl⟩
theorem VR_f (bs : Nat → Int32) : ∀ k p v v', VR v v' → VR (vC bs k p v) (vR bs k p v')
  | 0, p, v, v', h => h
  | k + 1, p, v, v', h => by
    unfold vC vR
    by_cases hd : isD (bs p) = true
    · rw [if_pos hd, if_pos hd]
      exact VR_f bs k (p + 1) _ _ (VR_s h hd)
    · rw [if_neg hd, if_neg hd]
      exact h
theorem V_in {v v' : Int32} (h : VR v v') {lo hi : Nat} (hh : hi ≤ 999) : wi v (nI lo) (nI hi) = 0 ↔ wi v' (nI lo) (nI hi) = 0 := by
  rcases h with ⟨a, ha, rfl, rfl⟩ | ⟨rfl, b, b1, b2, rfl⟩
  · exact Iff.rfl
  · rw [wi_iff, wi_iff, nI_toInt (show 1000 < 2 ^ 31 by decide), nI_toInt (show b < 2 ^ 31 by omega), nI_toInt (show hi < 2 ^ 31 by omega)]
    constructor
    · intro _; omega
    · intro _; omega
theorem V_eq {v v' : Int32} (h : VR v v') {lo hi : Nat} (hh : hi ≤ 999) (hw : ¬ wi v' (nI lo) (nI hi) = 0) : v = v' := by
  rcases h with ⟨a, ha, rfl, rfl⟩ | ⟨rfl, b, b1, b2, rfl⟩
  · rfl
  · have := wi_ok hw
    rw [nI_toInt (show b < 2 ^ 31 by omega), nI_toInt (show hi < 2 ^ 31 by omega)] at this
    omega
/-! ===== the class's token ===== -/
def TS (s : SS) (N : Nat) (bs : Nat → Int32) : Prop := s 1 1 = nI N ∧ ∀ i, i < N → s 2 i = bs i
theorem letter8 {s : SS} {N : Nat} {bs : Nat → Int32} (hN : N ≤ 100) (h : TS s N bs) {i : Nat} (hi : i < N) : pX8_isLetter (q_sb s 1) (nI i) = some (wi (bs i) 97 122) := by
  unfold pX8_isLetter
  rw [rd_n _ _ (by omega), show q_sb s 1 1 i = bs i from h.2 i hi, within_eq, cr_s, zz_b (wi_01 _ _ _)]
theorem digit8 {s : SS} {N : Nat} {bs : Nat → Int32} (hN : N ≤ 100) (h : TS s N bs) {i : Nat} (hi : i < N) : pX8_isDigit (q_sb s 1) (nI i) = some (wi (bs i) 48 57) := by
  unfold pX8_isDigit
  rw [rd_n _ _ (by omega), show q_sb s 1 1 i = bs i from h.2 i hi, within_eq, cr_s, zz_b (wi_01 _ _ _)]
theorem TS_su {s : SS} {N : Nat} {bs : Nat → Int32} (h : TS s N bs) (j : Nat) (v : Int32) : TS (su s 0 j v) N bs := h
theorem isL_w {x : Int32} : isL x = true ↔ ¬ wi x 97 122 = 0 := by
  unfold isL
  exact decide_eq_true_iff
theorem isD_w {x : Int32} : isD x = true ↔ ¬ wi x 48 57 = 0 := by
  unfold isD
  exact decide_eq_true_iff
theorem isBl_w {x : Int32} : isBl x = true ↔ x = 32 := by
  unfold isBl
  exact decide_eq_true_iff
theorem word5 {s : SS} {N q : Nat} {bs : Nat → Int32} (hN : N ≤ 100) (h : TS s N bs) (hq : q ≤ N) (e3 : s 0 3 = nI q) : ∃ s', pX5_readWord s = some s' ∧ (∀ x, x ≠ 0 → s' x = s x) ∧ s' 0 1 = 1 ∧ s' 0 2 = s 0 2 ∧ s' 0 3 = nI (scan isL bs (N - q) q) := by
  unfold pX5_readWord
  rw [lt_v]
  refine q_lp_rel (S := SS) (R := SS) (fun (f : SS → Option SS) s => f s) (fun k b => ∃ p, p + k = N ∧ (∀ x, x ≠ 0 → b x = s x) ∧ b 0 1 = 1 ∧ b 0 2 = s 0 2 ∧ b 0 3 = nI p ∧ scan isL bs k p = scan isL bs (N - q) q) (fun o => ∃ s', o = some s' ∧ (∀ x, x ≠ 0 → s' x = s x) ∧ s' 0 1 = 1 ∧ s' 0 2 = s 0 2 ∧ s' 0 3 = nI (scan isL bs (N - q) q)) ?_ q_fu (N - q) (su s 0 1 1) ⟨q, by omega, fun x hx => ud_ne _ _ _ hx, rfl, rfl, e3, rfl⟩ (fu_lt (by omega))
  rintro F k b ⟨p, hp, b1, b2, b3, b4, b5⟩ ih
  try dsimp only
  have hb : TS b N bs := ⟨by rw [b1 1 (by decide)]; exact h.1, fun i hi => by rw [b1 2 (by decide)]; exact h.2 i hi⟩
  simp only [lt_n]
  rw [hb.1, b4]
  by_cases hk : k = 0
  · subst hk
    rw [if_pos (by rw [nI_leS (by omega) (by omega)]; omega)]
    exact ⟨b, rfl, b1, b2, b3, by rw [b4, ← b5]; rfl⟩
  · obtain ⟨m, rfl⟩ : ∃ m, k = m + 1 := ⟨k - 1, by omega⟩
    rw [if_neg (by rw [nI_leS (by omega) (by omega)]; omega), letter8 hN hb (by omega), cr_s, nI_s]
    rw [scan_s] at b5
    by_cases hl : isL (bs p) = true
    · rw [if_pos hl] at b5
      rw [if_neg (isL_w.mp hl)]
      exact ih _ m (by omega) ⟨p + 1, by omega, fun x hx => (ud_ne _ _ _ hx).trans (b1 x hx), b2, b3, rfl, b5⟩
    · rw [if_neg hl] at b5
      rw [if_pos (Decidable.not_not.mp (fun hh => hl (isL_w.mpr hh)))]
      exact ⟨b, rfl, b1, b2, b3, by rw [b4, b5]⟩
theorem num5 {s : SS} {N q : Nat} {bs : Nat → Int32} (hN : N ≤ 100) (h : TS s N bs) (hq : q ≤ N) (e3 : s 0 3 = nI q) : ∃ s', pX5_readNumber s = some s' ∧ (∀ x, x ≠ 0 → s' x = s x) ∧ s' 0 1 = 2 ∧ s' 0 2 = s 0 2 ∧ s' 0 3 = nI (scan isD bs (N - q) q) ∧ s' 0 4 = vC bs (N - q) q 0 := by
  unfold pX5_readNumber
  rw [lt_v, lt_v]
  refine q_lp_rel (S := SS) (R := SS) (fun (f : SS → Option SS) s => f s) (fun k b => ∃ p, p + k = N ∧ (∀ x, x ≠ 0 → b x = s x) ∧ b 0 1 = 2 ∧ b 0 2 = s 0 2 ∧ b 0 3 = nI p ∧ scan isD bs k p = scan isD bs (N - q) q ∧ vC bs k p (b 0 4) = vC bs (N - q) q 0) (fun o => ∃ s', o = some s' ∧ (∀ x, x ≠ 0 → s' x = s x) ∧ s' 0 1 = 2 ∧ s' 0 2 = s 0 2 ∧ s' 0 3 = nI (scan isD bs (N - q) q) ∧ s' 0 4 = vC bs (N - q) q 0) ?_ q_fu (N - q) (su (su s 0 1 2) 0 4 0) ⟨q, by omega, fun x hx => (ud_ne _ _ _ hx).trans (ud_ne _ _ _ hx), rfl, rfl, e3, rfl, rfl⟩ (fu_lt (by omega))
  rintro F k b ⟨p, hp, b1, b2, b3, b4, b5, b6⟩ ih
  try dsimp only
  have hb : TS b N bs := ⟨by rw [b1 1 (by decide)]; exact h.1, fun i hi => by rw [b1 2 (by decide)]; exact h.2 i hi⟩
  simp only [lt_n]
  rw [hb.1, b4]
  by_cases hk : k = 0
  · subst hk
    rw [if_pos (by rw [nI_leS (by omega) (by omega)]; omega)]
    exact ⟨b, rfl, b1, b2, b3, by rw [b4, ← b5]; rfl, by rw [← b6]; rfl⟩
  · obtain ⟨m, rfl⟩ : ∃ m, k = m + 1 := ⟨k - 1, by omega⟩
    rw [if_neg (by rw [nI_leS (by omega) (by omega)]; omega), digit8 hN hb (by omega), cr_s, rd_n _ _ (by omega), hb.2 p (by omega), show su b 0 4 (if b 0 4 * 10 + bs p - 48 < 1000 then b 0 4 * 10 + bs p - 48 else 1000) 0 3 = nI p from b4, nI_s]
    rw [scan_s] at b5
    have ev : vC bs (m + 1) p (b 0 4) = if isD (bs p) = true then vC bs m (p + 1) (if b 0 4 * 10 + bs p - 48 < 1000 then b 0 4 * 10 + bs p - 48 else 1000) else b 0 4 := rfl
    rw [ev] at b6
    by_cases hl : isD (bs p) = true
    · rw [if_pos hl] at b5 b6
      rw [if_neg (isD_w.mp hl)]
      exact ih _ m (by omega) ⟨p + 1, by omega, fun x hx => (ud_ne _ _ _ hx).trans ((ud_ne _ _ _ hx).trans (b1 x hx)), b2, b3, rfl, b5, b6⟩
    · rw [if_neg hl] at b5 b6
      rw [if_pos (Decidable.not_not.mp (fun hh => hl (isD_w.mpr hh)))]
      exact ⟨b, rfl, b1, b2, b3, by rw [b4, b5], b6⟩
set_option maxHeartbeats 4000000 in
theorem tok5 {s : SS} {N p0 : Nat} {bs : Nat → Int32} (hN : N ≤ 100) (h : TS s N bs) (hp0 : p0 ≤ N) (e3 : s 0 3 = nI p0) {q : Nat} (hq : q = scan isBl bs (N - p0) p0) : ∃ s', pX5_readToken s = some s' ∧ (∀ x, x ≠ 0 → s' x = s x) ∧ s' 0 1 = tkT bs N q ∧ s' 0 2 = nI q ∧ s' 0 3 = nI (tkE bs N q) ∧ (tkT bs N q = 2 → s' 0 4 = vC bs (N - q) q 0) := by
  have hqb := scan_le isBl bs (N - p0) p0
  unfold pX5_readToken
  refine q_lp_rel (S := SS) (R := SS) (fun (f : SS → Option SS) s => f s) (fun k b => ∃ p, p + k = N ∧ (∀ x, x ≠ 0 → b x = s x) ∧ b 0 3 = nI p ∧ scan isBl bs k p = q) (fun o => ∃ s', o = some s' ∧ (∀ x, x ≠ 0 → s' x = s x) ∧ s' 0 1 = tkT bs N q ∧ s' 0 2 = nI q ∧ s' 0 3 = nI (tkE bs N q) ∧ (tkT bs N q = 2 → s' 0 4 = vC bs (N - q) q 0)) ?_ q_fu (N - p0) s ⟨p0, by omega, fun _ _ => rfl, e3, hq.symm⟩ (fu_lt (by omega))
  rintro F k b ⟨p, hp, b1, b3, b5⟩ ih
  try dsimp only
  have hb : TS b N bs := ⟨by rw [b1 1 (by decide)]; exact h.1, fun i hi => by rw [b1 2 (by decide)]; exact h.2 i hi⟩
  have rest : p = q → ∃ s', q_lt (su b 0 2 (b 0 3)) (fun (σ6 : SS) => q_lt (fun (σ7 : SS) => some σ7) (fun (j8 : SS → Option SS) => (if (σ6 0 2) < (σ6 1 1) then q_cr (pX8_isLetter (q_sb σ6 1) (σ6 0 2)) (fun (r10 : Int32) => (if r10 = 0 then q_cr (pX8_isDigit (q_sb σ6 1) (σ6 0 2)) (fun (r12 : Int32) => (if r12 = 0 then q_rd (σ6 2) 100 (σ6 0 2) (fun (v14 : Int32) => q_lt (fun (y15 : Int32) => q_lt (su σ6 0 1 y15) (fun (σ17 : SS) => q_lt (su σ17 0 3 ((σ17 0 3) + 1)) (fun (σ18 : SS) => j8 σ18))) (fun j16 => (if v14 = 59 then j16 3 else j16 4))) else q_cs (pX5_readNumber σ6) (fun (τ : SS) => τ) (fun (σ20 : SS) => j8 σ20))) else q_cs (pX5_readWord σ6) (fun (τ : SS) => τ) (fun (σ21 : SS) => j8 σ21))) else q_lt (su σ6 0 1 0) (fun (σ22 : SS) => j8 σ22)))) = some s' ∧ (∀ x, x ≠ 0 → s' x = s x) ∧ s' 0 1 = tkT bs N q ∧ s' 0 2 = nI q ∧ s' 0 3 = nI (tkE bs N q) ∧ (tkT bs N q = 2 → s' 0 4 = vC bs (N - q) q 0) := fun hpq => by
    subst hpq
    rw [lt_v, lt_v]
    have z : TS (su b 0 2 (b 0 3)) N bs := TS_su hb _ _
    have z2 : su b 0 2 (b 0 3) 0 2 = nI p := b3
    have z3 : su b 0 2 (b 0 3) 0 3 = nI p := b3
    have zx : ∀ x, x ≠ 0 → su b 0 2 (b 0 3) x = s x := fun x hx => (ud_ne _ _ _ hx).trans (b1 x hx)
    generalize su b 0 2 (b 0 3) = y at z z2 z3 zx
    rw [z2, z.1]
    unfold tkT tkE
    by_cases hpN : p < N
    · rw [if_pos ((nI_ltS (by omega) (by omega)).mpr hpN), letter8 hN z hpN, digit8 hN z hpN, cr_s, cr_s, if_pos hpN, if_pos hpN]
      by_cases hl : isL (bs p) = true
      · obtain ⟨s', w1, w2, w3, w4, w5⟩ := word5 hN z (by omega) z3
        rw [if_neg (isL_w.mp hl), if_pos hl, if_pos hl, w1, cs_s]
        exact ⟨s', rfl, fun x hx => (w2 x hx).trans (zx x hx), w3, by rw [w4, z2], w5, fun hh => absurd hh (by decide)⟩
      · rw [if_pos (Decidable.not_not.mp (fun hh => hl (isL_w.mpr hh))), if_neg hl, if_neg hl]
        by_cases hd : isD (bs p) = true
        · obtain ⟨s', w1, w2, w3, w4, w5, w6⟩ := num5 hN z (by omega) z3
          rw [if_neg (isD_w.mp hd), if_pos hd, if_pos hd, w1, cs_s]
          exact ⟨s', rfl, fun x hx => (w2 x hx).trans (zx x hx), w3, by rw [w4, z2], w5, fun _ => w6⟩
        · rw [if_pos (Decidable.not_not.mp (fun hh => hd (isD_w.mpr hh))), if_neg hd, if_neg hd, rd_n _ _ (by omega), z.2 p hpN]
          simp only [lt_n]
          by_cases h59 : bs p = 59
          · rw [if_pos h59, if_pos h59, show su y 0 1 3 0 3 = nI p from z3, nI_s]
            exact ⟨_, rfl, fun x hx => (ud_ne _ _ _ hx).trans ((ud_ne _ _ _ hx).trans (zx x hx)), rfl, z2, rfl, fun hh => absurd hh (by decide)⟩
          · rw [if_neg h59, if_neg h59, show su y 0 1 4 0 3 = nI p from z3, nI_s]
            exact ⟨_, rfl, fun x hx => (ud_ne _ _ _ hx).trans ((ud_ne _ _ _ hx).trans (zx x hx)), rfl, z2, rfl, fun hh => absurd hh (by decide)⟩
    · rw [if_neg (fun hh => hpN ((nI_ltS (by omega) (by omega)).mp hh)), if_neg hpN, if_neg hpN, lt_v]
      exact ⟨_, rfl, fun x hx => (ud_ne _ _ _ hx).trans (zx x hx), rfl, z2, z3, fun hh => absurd hh (by decide)⟩
  rw [lt_v]
  rw [hb.1]
  by_cases hk : k = 0
  · subst hk
    rw [if_pos (show nI N ≤ b 0 3 by rw [b3, nI_leS (by omega) (by omega)]; omega)]
    exact rest b5
  · obtain ⟨m, rfl⟩ : ∃ m, k = m + 1 := ⟨k - 1, by omega⟩
    rw [if_neg (show ¬ nI N ≤ b 0 3 by rw [b3, nI_leS (by omega) (by omega)]; omega)]
    rw [scan_s] at b5
    have er : q_rd (b 2) 100 (b 0 3) (fun v24 => (if v24 = 32 then q_lt (su b 0 3 ((b 0 3) + 1)) (fun σ26 => F σ26) else q_lt (su b 0 2 (b 0 3)) (fun (σ6 : SS) => q_lt (fun (σ7 : SS) => some σ7) (fun (j8 : SS → Option SS) => (if (σ6 0 2) < (σ6 1 1) then q_cr (pX8_isLetter (q_sb σ6 1) (σ6 0 2)) (fun (r10 : Int32) => (if r10 = 0 then q_cr (pX8_isDigit (q_sb σ6 1) (σ6 0 2)) (fun (r12 : Int32) => (if r12 = 0 then q_rd (σ6 2) 100 (σ6 0 2) (fun (v14 : Int32) => q_lt (fun (y15 : Int32) => q_lt (su σ6 0 1 y15) (fun (σ17 : SS) => q_lt (su σ17 0 3 ((σ17 0 3) + 1)) (fun (σ18 : SS) => j8 σ18))) (fun j16 => (if v14 = 59 then j16 3 else j16 4))) else q_cs (pX5_readNumber σ6) (fun (τ : SS) => τ) (fun (σ20 : SS) => j8 σ20))) else q_cs (pX5_readWord σ6) (fun (τ : SS) => τ) (fun (σ21 : SS) => j8 σ21))) else q_lt (su σ6 0 1 0) (fun (σ22 : SS) => j8 σ22)))))) = (if bs p = 32 then F (su b 0 3 (nI (p + 1))) else q_lt (su b 0 2 (b 0 3)) (fun (σ6 : SS) => q_lt (fun (σ7 : SS) => some σ7) (fun (j8 : SS → Option SS) => (if (σ6 0 2) < (σ6 1 1) then q_cr (pX8_isLetter (q_sb σ6 1) (σ6 0 2)) (fun (r10 : Int32) => (if r10 = 0 then q_cr (pX8_isDigit (q_sb σ6 1) (σ6 0 2)) (fun (r12 : Int32) => (if r12 = 0 then q_rd (σ6 2) 100 (σ6 0 2) (fun (v14 : Int32) => q_lt (fun (y15 : Int32) => q_lt (su σ6 0 1 y15) (fun (σ17 : SS) => q_lt (su σ17 0 3 ((σ17 0 3) + 1)) (fun (σ18 : SS) => j8 σ18))) (fun j16 => (if v14 = 59 then j16 3 else j16 4))) else q_cs (pX5_readNumber σ6) (fun (τ : SS) => τ) (fun (σ20 : SS) => j8 σ20))) else q_cs (pX5_readWord σ6) (fun (τ : SS) => τ) (fun (σ21 : SS) => j8 σ21))) else q_lt (su σ6 0 1 0) (fun (σ22 : SS) => j8 σ22))))) := by
      have e1 : b 0 3 + 1 = nI (p + 1) := by rw [b3, nI_s]
      rw [e1]
      conv => lhs; arg 3; rw [b3]
      rw [rd_n _ _ (by omega), hb.2 p (by omega), lt_v]
    rw [er]
    by_cases hl : isBl (bs p) = true
    · rw [if_pos hl] at b5
      rw [if_pos (isBl_w.mp hl)]
      exact ih _ m (by omega) ⟨p + 1, by omega, fun x hx => (ud_ne _ _ _ hx).trans (b1 x hx), rfl, b5⟩
    · rw [if_neg hl] at b5
      rw [if_neg (fun hh => hl (isBl_w.mpr hh))]
      exact rest b5
