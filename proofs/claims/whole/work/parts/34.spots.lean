/-! ===== a loop that counts up ===== -/
theorem q_for {T S R : Type} {bot : T} {st : T → T} (ap : T → S → Int32 → Option R) {m n : Nat} (hm : m ≤ n) (hn : n < 4000) (J : Nat → S → Prop) (Post : Option R → Prop) (step : ∀ (f : T) (j : Nat) (s : S), m ≤ j → j < n → J j s → (∀ s' : S, J (j + 1) s' → Post (ap f s' (nI (j + 1)))) → Post (ap (st f) s (nI j))) (last : ∀ (f : T) (s : S), J n s → Post (ap (st f) s (nI n))) (s0 : S) (h0 : J m s0) : Post (ap (q_lp bot st q_fu) s0 (nI m)) := by
  refine q_lp_rel (S := S × Int32) (R := R) (fun f s => ap f s.1 s.2) (fun k s => ∃ j : Nat, m ≤ j ∧ j + k = n ∧ s.2 = nI j ∧ J j s.1) Post ?_ q_fu (n - m) (s0, nI m) ⟨m, Nat.le_refl m, by omega, rfl, h0⟩ (fu_lt (by omega))
  rintro f k ⟨s1, s2⟩ ⟨j, hj1, hj2, h2, h3⟩ ih
  try dsimp only at h2 h3 ⊢
  subst h2
  by_cases hjn : j = n
  · subst hjn; exact last f s1 h3
  · exact step f j s1 hj1 (by omega) h3 (fun s' hs' => ih (s', nI (j + 1)) (k - 1) (by omega) ⟨j + 1, by omega, by omega, rfl, hs'⟩)
theorem nI_ltS {n m : Nat} (hn : n < 5000) (hm : m < 5000) : nI n < nI m ↔ n < m := by
  rw [i_lt, nI_toInt (by omega), nI_toInt (by omega)]
  omega
theorem nI_s (j : Nat) : nI j + 1 = nI (j + 1) := nI_add j 1
/-! ===== rows that agree below or above ===== -/
theorem Ok_lo {t t' : Nat → Int32} (ht : ∀ j, j < 147 → t' j = t j) (h : Ok t) : Ok t' := by
  obtain ⟨o1, o2, o3, o4⟩ := h
  have h16 := o1.1
  have h17 := o1.2.1
  refine ⟨?_, fun w hw => ?_, fun k hk => ?_, fun w hw => ?_⟩
  · unfold OkS
    rw [ht 16 (by decide), ht 17 (by decide), ht 18 (by decide), ht 9 (by decide), ht 6 (by decide), ht 19 (by decide), ht 14 (by decide), ht 15 (by decide), ht 10 (by decide), ht 4 (by decide), ht 0 (by decide), ht 1 (by decide), ht 2 (by decide), ht 5 (by decide)]
    exact o1
  · rw [ht 16 (by decide)] at hw
    rw [ht (65 + 4 * w) (by omega), ht (66 + 4 * w) (by omega), ht (67 + 4 * w) (by omega)]
    exact o2 w hw
  · rw [ht 17 (by decide)] at hk
    rw [ht _ (by omega), ht (98 + 5 * k) (by omega), ht (100 + 5 * k) (by omega), ht (101 + 5 * k) (by omega)]
    exact o3 k hk
  · rw [ht _ (by omega)]
    exact o4 w hw
theorem CR_lo {c c' : SS} {t t' : Nat → Int32} (o : OkS t) (hx : ∀ x, x < 13 → c' x = c x) (ht : ∀ j, j < 147 → t' j = t j) (h : CRel c t) : CRel c' t' := by
  obtain ⟨c1, c2, c3, ⟨c4, c5⟩, c6⟩ := h
  have h16 := o.1
  have h17 := o.2.1
  refine ⟨?_, fun i hi hi2 => ?_, fun w hw => ?_, ⟨fun w hw => ?_, fun w hw => ?_⟩, fun w hw => ?_⟩
  · unfold CRs at c1 ⊢
    rw [hx 0 (by decide), hx 6 (by decide), hx 1 (by decide), hx 8 (by decide), ht 0 (by decide), ht 1 (by decide), ht 2 (by decide), ht 3 (by decide), ht 4 (by decide), ht 5 (by decide), ht 6 (by decide), ht 7 (by decide), ht 8 (by decide), ht 9 (by decide), ht 10 (by decide), ht 11 (by decide), ht 12 (by decide), ht 13 (by decide), ht 14 (by decide), ht 15 (by decide), ht 16 (by decide), ht 17 (by decide), ht 19 (by decide)]
    exact c1
  · rw [ht 9 (by decide)] at hi2
    rw [hx 7 (by decide), ht _ (by omega)]
    exact c2 i hi hi2
  · rw [ht 16 (by decide)] at hw
    rw [hx 2 (by decide), hx 3 (by decide), hx 4 (by decide), hx 5 (by decide), ht _ (by omega), ht (66 + 4 * w) (by omega), ht (67 + 4 * w) (by omega), ht (68 + 4 * w) (by omega)]
    exact c3 w hw
  · rw [ht 17 (by decide)] at hw
    rw [hx 8 (by decide), hx 9 (by decide), hx 10 (by decide), hx 11 (by decide), ht _ (by omega), ht (98 + 5 * w) (by omega), ht (99 + 5 * w) (by omega), ht (100 + 5 * w) (by omega), ht (101 + 5 * w) (by omega)]
    exact c4 w hw
  · rw [ht 17 (by decide)] at hw
    rw [hx 8 (by decide)]
    exact c5 w hw
  · rw [hx 12 (by decide), ht _ (by omega)]
    exact c6 w hw
theorem KR_mid {k k' : SS} {t t' : Nat → Int32} (o : OkS t) (hk : ∀ x, x < 4 → k' x = k x) (h18 : t' 18 = t 18) (hhi : ∀ j, 147 ≤ j → j < 297 → t' j = t j) (h : KRel k t) : KRel k' t' := by
  have h6 := o.2.2.1
  refine ⟨by rw [hk 0 (by decide), h18]; exact h.1, fun y hy => ?_⟩
  rw [h18] at hy
  obtain ⟨k1, k2, k3⟩ := h.2 y hy
  rw [hk 1 (by decide), hk 2 (by decide), hk 3 (by decide), hhi (147 + 25 * y) (by omega) (by omega)]
  refine ⟨k1, k2, fun i hi => ?_⟩
  rw [hhi _ (by omega) (by omega), hhi (149 + 25 * y + 2 * i) (by omega) (by omega)]
  exact k3 i hi
/-! ===== spots ===== -/
theorem hold_put {σ τ : SS} (h : Rel σ τ) {k : Nat} (hk : k < 10) {v : Int32} (hv : -1 ≤ v.toInt ∧ v.toInt < (τ 1 16).toInt) : Rel (su σ 20 k v) (su τ 1 (297 + k) v) := by
  have hH := h.1
  have o := hH.1.1
  refine R_house h ⟨Ok_lo (fun j hj => upd_ne (by omega)) hH.1, CR_lo o (fun x hx => ?_) (fun j hj => upd_ne (by omega)) hH.2.1, KR_mid o (fun x hx => ?_) (upd_ne (by omega)) (fun j h1 h2 => upd_ne (by omega)) hH.2.2.1, fun j hj => ?_, ?_⟩ (fun x hx => ud_ne _ _ _ (by omega)) rfl rfl (fun x hx => ud_ne _ _ _ (by omega))
  · show su σ 20 k v (2 + 1 + x) = σ (2 + 1 + x)
    exact ud_ne _ _ _ (by omega)
  · show su σ 20 k v (2 + 14 + x) = σ (2 + 14 + x)
    exact ud_ne _ _ _ (by omega)
  · show upd (σ 20) k v j = upd (τ 1) (297 + k) v (297 + j) ∧ -1 ≤ (upd (τ 1) (297 + k) v (297 + j)).toInt ∧ (upd (τ 1) (297 + k) v (297 + j)).toInt < (upd (τ 1) (297 + k) v 16).toInt
    rw [upd_ne (show 16 ≠ 297 + k by omega)]
    by_cases hjk : j = k
    · subst hjk; rw [upd_at, upd_at]; exact ⟨rfl, hv⟩
    · rw [upd_ne hjk, upd_ne (by omega)]; exact hH.2.2.2.1 j hj
  · show su σ 20 k v 2 3 = upd (τ 1) (297 + k) v 20
    rw [upd_ne (by omega), ud_ne _ _ _ (by omega)]
    exact hH.2.2.2.2
theorem s_hold : S_hold Rel := by
  intro σ τ a1 a2 h
  have R0 : Rel (su σ 1 0 (σ 1 0 + 1)) (su τ 4 0 (τ 4 0 + 1)) := R_tell h (by decide)
  obtain ⟨i1, i2⟩ := isWater_eq h a2
  simp only [pX11_hold, pX12_hold, i1, i2, within_eq, in_eq, cr_s, lt_v, tell_0, find_0, ci_s]
  by_cases h1 : wi a1 0 9 = 0
  · simp only [if_pos h1]
    exact ⟨_, _, _, rfl, rfl, R0⟩
  simp only [if_neg h1]
  obtain ⟨g1, g2⟩ := wi_ok h1
  obtain ⟨k, hk, rfl⟩ := num_of (a := a1) (n := 9) g1 g2
  rw [show (297 : Int32) + nI k = nI (297 + k) from nI_add 297 k, wr_n _ _ _ _ (by omega), wr_n _ _ _ _ (by omega)]
  have o1 := h.1.1.1.1
  by_cases h2 : a2 = -1
  · rw [if_pos h2, if_pos h2]
    exact ⟨_, _, _, rfl, rfl, hold_put h (by omega) (by rw [h2, show (-1 : Int32).toInt = -1 from rfl]; omega)⟩
  · rw [if_neg h2, if_neg h2]
    by_cases h3 : wi a2 0 (τ 1 16 - 1) = 0
    · rw [if_pos h3, if_pos h3]
      exact ⟨_, _, _, rfl, rfl, R0⟩
    · rw [if_neg h3, if_neg h3]
      obtain ⟨w, rfl, hw, hw8⟩ := wat_of h h3
      exact ⟨_, _, _, rfl, rfl, hold_put h (by omega) (by rw [nI_toInt (by omega)]; omega)⟩
theorem kind_eq (c : SS) {w a b : Nat} (hw : w < 8) (ha : a < 7) (hb : b < 7) (e : c 1 w = nI a) : pX10_isOfKind c (nI w) (nI b) = pX12_isUnder (nI a) (nI b) := by
  unfold pX10_isOfKind
  rw [rd_n _ _ hw, e]
  rcases (by omega : a = 0 ∨ a = 1 ∨ a = 2 ∨ a = 3 ∨ a = 4 ∨ a = 5 ∨ a = 6) with rfl | rfl | rfl | rfl | rfl | rfl | rfl <;> rcases (by omega : b = 0 ∨ b = 1 ∨ b = 2 ∨ b = 3 ∨ b = 4 ∨ b = 5 ∨ b = 6) with rfl | rfl | rfl | rfl | rfl | rfl | rfl <;> rfl
theorem under_ok {a b : Nat} (ha : a < 7) (hb : b < 7) : ∃ r, pX12_isUnder (nI a) (nI b) = some r := by
  rcases (by omega : a = 0 ∨ a = 1 ∨ a = 2 ∨ a = 3 ∨ a = 4 ∨ a = 5 ∨ a = 6) with rfl | rfl | rfl | rfl | rfl | rfl | rfl <;> rcases (by omega : b = 0 ∨ b = 1 ∨ b = 2 ∨ b = 3 ∨ b = 4 ∨ b = 5 ∨ b = 6) with rfl | rfl | rfl | rfl | rfl | rfl | rfl <;> exact ⟨_, rfl⟩
theorem s_as : S_as Rel := by
  intro σ τ a1 a2 h
  have R0 : Rel (su σ 1 0 (σ 1 0 + 1)) (su τ 4 0 (τ 4 0 + 1)) := R_tell h (by decide)
  have R2 : Rel (su σ 1 2 (σ 1 2 + 1)) (su τ 4 2 (τ 4 2 + 1)) := R_tell h (by decide)
  have R5 : Rel (su σ 1 5 (σ 1 5 + 1)) (su τ 4 5 (τ 4 5 + 1)) := R_tell h (by decide)
  simp only [pX11_as, pX12_as, within_eq, in_eq, cr_s, lt_v, tell_0, find_0, tell_2, find_2, tell_5, find_5, ci_s]
  by_cases h1 : wi a1 0 9 = 0
  · simp only [if_pos h1]
    exact ⟨_, _, _, rfl, rfl, R0⟩
  by_cases h2 : wi a2 0 6 = 0
  · simp only [if_neg h1, if_pos h2]
    exact ⟨_, _, _, rfl, rfl, R0⟩
  simp only [if_neg h1, if_neg h2]
  obtain ⟨g1, g2⟩ := wi_ok h1
  obtain ⟨k, hk, rfl⟩ := num_of (a := a1) (n := 9) g1 g2
  obtain ⟨g3, g4⟩ := wi_ok h2
  obtain ⟨b, hb, rfl⟩ := num_of (a := a2) (n := 6) g3 g4
  rw [show (297 : Int32) + nI k = nI (297 + k) from nI_add 297 k, rd_n _ _ (by omega), rd_n _ _ (by omega)]
  obtain ⟨p1, p2, p3⟩ := h.1.2.2.2.1 k (by omega)
  have p1 : σ 20 k = τ 1 (297 + k) := p1
  rw [p1]
  generalize hv : τ 1 (297 + k) = v at p1 p2 p3
  obtain ⟨i1, -⟩ := isWater_eq h v
  rw [i1, cr_s]
  have o1 := h.1.1.1.1
  by_cases h3 : v = -1
  · have : wi v 0 (τ 1 16 - 1) = 0 := by
      rw [wi_iff, h3]
      exact Or.inl (by decide)
    rw [if_pos h3, if_pos this]
    exact ⟨_, _, _, rfl, rfl, R5⟩
  · have h4 : ¬ wi v 0 (τ 1 16 - 1) = 0 := by
      rw [wi_iff, sub1_toInt o1.1, show (0 : Int32).toInt = 0 from rfl]
      have : v.toInt ≠ -1 := fun e => h3 (i_eq.mpr e)
      omega
    rw [if_neg h3, if_neg h4]
    obtain ⟨w, rfl, hw, hw8⟩ := wat_of h h4
    have hk1 : q_sb σ 4 1 w = τ 1 (65 + 4 * w) := (h.1.2.1.2.2.1 w hw).1
    obtain ⟨⟨q1, q2⟩, -⟩ := h.1.1.2.1 w hw
    obtain ⟨a, ha, ea⟩ := num_of (a := τ 1 (65 + 4 * w)) (n := 6) q1 q2
    obtain ⟨r, hr⟩ := under_ok (a := a) (b := b) (by omega) (by omega)
    rw [kind_eq (q_sb σ 4) (a := a) hw8 (by omega) (by omega) (by rw [hk1, ea]), show pX12_its τ (nI w) 0 = some (τ 1 (65 + 4 * w)) from its_eq τ hw8 (j := 0) (by decide), cr_s, ea, hr, cr_s, cr_s]
    by_cases hr0 : r = 0
    · rw [if_pos hr0, if_pos hr0]
      exact ⟨_, _, _, rfl, rfl, R2⟩
    · rw [if_neg hr0, if_neg hr0]
      exact ⟨_, _, _, rfl, rfl, h⟩
/-! ===== the log ===== -/
theorem log4 (p : SS) {s : Nat} (hs : s ≤ 1000) (e : p 0 8 = nI s) : pX4_logged p = some (nI (min s 40)) := by
  unfold pX4_logged
  rw [e]
  rcases Nat.lt_or_ge 40 s with h | h
  · rw [if_pos (show (40 : Int32) < nI s from (nI_ltS (n := 40) (by omega) (by omega)).mpr h), Nat.min_eq_right (by omega)]
    rfl
  · rw [if_neg (fun hh => by have := (nI_ltS (n := 40) (by omega) (by omega)).mp hh; omega), Nat.min_eq_left h]
theorem log12 (τ : SS) {s : Nat} (hs : s ≤ 1000) (e : τ 1 9 = nI s) : pX12_logged τ = some (nI (min s 40)) := by
  unfold pX12_logged
  simp only [Q1_9, lt_v]
  rw [e]
  rcases Nat.lt_or_ge s 40 with h | h
  · rw [if_neg (fun hh => by have := (nI_leS (n := 40) (by omega) (by omega)).mp hh; omega), Nat.min_eq_left (by omega)]
  · rw [if_pos (show (40 : Int32) ≤ nI s from (nI_leS (n := 40) (by omega) (by omega)).mpr h), Nat.min_eq_right h]
    rfl
theorem s_start : S_start Rel := by
  intro σ τ a1 h
  have R0 : Rel (su σ 1 0 (σ 1 0 + 1)) (su τ 4 0 (τ 4 0 + 1)) := R_tell h (by decide)
  have o4 := h.1.1.1.2.2.2.1
  obtain ⟨s, hs, es⟩ := num_of (a := τ 1 9) (n := 1000) o4.1 o4.2
  have e9 : σ 9 8 = τ 1 9 := h.1.2.1.1.2.2.2.2.2.2.2.2.2.1
  simp only [pX11_start, pX12_start, log4 (q_sb σ 9) hs (show σ 9 8 = nI s by rw [e9, es]), log12 τ hs es, within_eq, in_eq, cr_s, lt_v, tell_0, find_0, ci_s]
  by_cases h1 : wi a1 0 (nI (min s 40) - 1) = 0
  · simp only [if_pos h1]
    exact ⟨_, _, _, rfl, rfl, R0⟩
  · simp only [if_neg h1]
    obtain ⟨g1, g2⟩ := wi_ok h1
    rw [sub1_toInt (by rw [nI_toInt (by omega)]; omega), nI_toInt (by omega)] at g2
    obtain ⟨k, hk, rfl⟩ := num_of (a := a1) (n := 40) g1 (by omega)
    rw [nI_toInt (by omega)] at g2
    rw [show (25 : Int32) + nI k = nI (25 + k) from nI_add 25 k, rd_n _ _ (by omega), rd_n _ _ (by omega)]
    have : σ 10 k = τ 1 (25 + k) := h.1.2.1.2.1 k (by omega) (by rw [es, nI_toInt (by omega)]; omega)
    rw [this]
    exact ⟨_, _, _, rfl, rfl, h⟩
def mQ (f : Nat → Int32) : Nat → Int32
  | 0 => f 1 - f 0
  | k + 1 => if f (k + 2) - f (k + 1) < mQ f k then f (k + 2) - f (k + 1) else mQ f k
theorem mQ_s (f : Nat → Int32) {j : Nat} (hj : 2 ≤ j) : mQ f (j + 1 - 2) = if f j - f (j - 1) < mQ f (j - 2) then f j - f (j - 1) else mQ f (j - 2) := by
  obtain ⟨i, rfl⟩ : ∃ i, j = i + 2 := ⟨j - 2, by omega⟩
  rfl
theorem mQ_congr {f g : Nat → Int32} : ∀ n, (∀ k, k < n + 2 → f k = g k) → mQ f n = mQ g n
  | 0, h => by unfold mQ; rw [h 0 (by omega), h 1 (by omega)]
  | n + 1, h => by
    unfold mQ
    rw [mQ_congr n (fun k hk => h k (by omega)), h (n + 2) (by omega), h (n + 1) (by omega)]
theorem least4 (p : SS) {s n : Nat} (hs : s ≤ 1000) (e : p 0 8 = nI s) (hn : n = min s 40) (h2 : 2 ≤ n) : pX4_leastBetweenStarts p = some (mQ (p 1) (n - 2)) := by
  have hl : pX4_logged p = some (nI n) := by rw [hn]; exact log4 p hs e
  unfold pX4_leastBetweenStarts
  rw [show (1 : Int32) = nI 1 from rfl, show (0 : Int32) = nI 0 from rfl, rd_n _ _ (by omega), rd_n _ _ (by omega), lt_v]
  refine q_for (S := Int32) (R := Int32) (fun (f : Int32 → Int32 → Option Int32) s i => f s i) (m := 2) (n := n) h2 (by omega) (fun j s => s = mQ (p 1) (j - 2)) (fun r => r = some (mQ (p 1) (n - 2))) ?_ ?_ _ rfl
  · intro f j s hj1 hj2 hs ih
    subst hs
    try dsimp only
    rw [hl, cr_s, if_neg (by rw [nI_leS (by omega) (by omega)]; omega), rd_n _ _ (by omega), pk_sub (show 1 ≤ j by omega), rd_n _ _ (by omega), lt_v, nI_add]
    exact ih _ (mQ_s _ hj1).symm
  · intro f s hs
    subst hs
    try dsimp only
    rw [hl, cr_s, if_pos (by rw [nI_leS (by omega) (by omega)]; omega)]
theorem s_quickest : S_quickest Rel := by
  intro σ τ h
  have R3 : Rel (su σ 1 3 (σ 1 3 + 1)) (su τ 4 3 (τ 4 3 + 1)) := R_tell h (by decide)
  have o4 := h.1.1.1.2.2.2.1
  obtain ⟨s, hs, es⟩ := num_of (a := τ 1 9) (n := 1000) o4.1 o4.2
  have e9 : q_sb σ 9 0 8 = nI s := by
    have : σ 9 8 = τ 1 9 := h.1.2.1.1.2.2.2.2.2.2.2.2.2.1
    show σ 9 8 = _
    rw [this, es]
  have l4 := log4 (q_sb σ 9) hs e9
  have l12 := log12 τ hs es
  obtain ⟨n, hn⟩ : ∃ n, n = min s 40 := ⟨_, rfl⟩
  rw [← hn] at l4 l12
  simp only [pX11_quickest, pX12_quickest, l4, l12, cr_s, tell_3, find_3, ci_s]
  by_cases h2 : 2 ≤ n
  · have h2' : (2 : Int32) ≤ nI n := (nI_leS (n := 2) (by omega) (by omega)).mpr h2
    rw [if_pos h2', if_pos h2', least4 (q_sb σ 9) hs e9 hn h2, cr_s]
    refine ⟨mQ (fun i => τ 1 (25 + i)) (n - 2), σ, τ, ?_, ?_, h⟩
    · rw [mQ_congr (f := q_sb σ 9 1) (g := fun i => τ 1 (25 + i)) (n - 2) (fun k hk => h.1.2.1.2.1 k (by omega) (by rw [es, nI_toInt (by omega)]; omega))]
    · rw [show (26 : Int32) = nI 26 from rfl, show (25 : Int32) = nI 25 from rfl, rd_n _ _ (by omega), rd_n _ _ (by omega), lt_v]
      refine q_for (S := Int32) (R := Int32 × SS) (fun (f : Int32 → Int32 → Option (Int32 × SS)) s i => f s i) (m := 2) (n := n) h2 (by omega) (fun j s => s = mQ (fun i => τ 1 (25 + i)) (j - 2)) (fun r => r = some (mQ (fun i => τ 1 (25 + i)) (n - 2), τ)) ?_ ?_ _ rfl
      · intro f j s hj1 hj2 hs ih
        subst hs
        try dsimp only
        rw [if_neg (by rw [nI_leS (by omega) (by omega)]; omega), nI_add, rd_n _ _ (by omega), show nI (25 + j) - 1 = nI (25 + j - 1) from pk_sub (a := 25 + j) (b := 1) (by omega), rd_n _ _ (by omega), lt_v, lt_v, nI_s]
        have e := mQ_s (fun i => τ 1 (25 + i)) hj1
        try dsimp only at e
        rw [show 25 + j - 1 = 25 + (j - 1) by omega]
        split
        · rename_i hc
          rw [i_le] at hc
          exact ih _ (by rw [e, if_neg (by rw [i_lt]; omega)])
        · rename_i hc
          rw [i_le] at hc
          exact ih _ (by rw [e, if_pos (by rw [i_lt]; omega)])
      · intro f s hs
        subst hs
        try dsimp only
        rw [if_pos (by rw [nI_leS (by omega) (by omega)]; omega)]
  · have h2' : ¬ (2 : Int32) ≤ nI n := fun hh => h2 ((nI_leS (n := 2) (by omega) (by omega)).mp hh)
    rw [if_neg h2', if_neg h2']
    exact ⟨_, _, _, rfl, rfl, R3⟩
/-! ===== came ===== -/
def mBest (f : Nat → Int32) : Nat → Nat
  | 0 => 0
  | k + 1 => if f (k + 1) ≤ f (mBest f k) then mBest f k else k + 1
theorem mBest_le (f : Nat → Int32) : ∀ k, mBest f k ≤ k
  | 0 => Nat.le_refl 0
  | k + 1 => by
    have := mBest_le f k
    unfold mBest
    split <;> omega
theorem mBest_congr {f g : Nat → Int32} : ∀ n, (∀ k, k ≤ n → f k = g k) → mBest f n = mBest g n
  | 0, _ => rfl
  | n + 1, h => by
    have hl := mBest_le g n
    unfold mBest
    rw [mBest_congr n (fun k hk => h k (by omega)), h (n + 1) (by omega), h (mBest g n) (by omega)]
theorem mBest_s (f : Nat → Int32) {j : Nat} (hj : 1 ≤ j) : mBest f (j + 1 - 1) = if f j ≤ f (mBest f (j - 1)) then mBest f (j - 1) else j := by
  obtain ⟨i, rfl⟩ : ∃ i, j = i + 1 := ⟨j - 1, by omega⟩
  rfl
theorem most10 (w : SS) {n : Nat} (h1 : 1 ≤ n) (h8 : n ≤ 8) (e : w 0 0 = nI n) : pX10_mostBrought w = some (nI (mBest (w 4) (n - 1))) := by
  unfold pX10_mostBrought
  refine q_for (S := Int32) (R := Int32) (fun (f : Int32 → Int32 → Option Int32) s i => f s i) (m := 1) (n := n) h1 (by omega) (fun j s => s = nI (mBest (w 4) (j - 1))) (fun r => r = some (nI (mBest (w 4) (n - 1)))) ?_ ?_ 0 rfl
  · intro f j s hj1 hj2 hs ih
    subst hs
    try dsimp only
    have hb := mBest_le (w 4) (j - 1)
    rw [e, if_neg (by rw [nI_leS (by omega) (by omega)]; omega), rd_n _ _ (by omega), rd_n _ _ (by omega), lt_v, nI_s]
    split
    · rename_i hc; exact ih _ (by rw [mBest_s _ hj1, if_pos hc])
    · rename_i hc; exact ih _ (by rw [mBest_s _ hj1, if_neg hc])
  · intro f s hs
    subst hs
    try dsimp only
    rw [e, if_pos (by rw [nI_leS (by omega) (by omega)]; omega)]
theorem its_3 (τ : SS) {w : Nat} (hw : w < 8) : pX12_its τ (nI w) 3 = some (τ 1 (68 + 4 * w)) := by
  rw [show 68 + 4 * w = 65 + 4 * w + 3 by omega]
  exact its_eq τ hw (by decide)
theorem s_came : S_came Rel := by
  intro σ τ h
  have R3 : Rel (su σ 1 3 (σ 1 3 + 1)) (su τ 4 3 (τ 4 3 + 1)) := R_tell h (by decide)
  have e16 : σ 4 0 = τ 1 16 := (R_sc h).2.2.2.2.2.2.2.2.2.2.2.2.2.2.2.2.1
  have o1 := h.1.1.1.1
  obtain ⟨n, hn, en⟩ := num_of (a := τ 1 16) (n := 8) o1.1 o1.2
  simp only [pX11_came, pX12_came, Q1_16, cr_s, tell_3, find_3, ci_s]
  rw [e16, en]
  by_cases h0 : n = 0
  · subst h0
    rw [if_pos (show nI 0 = (0 : Int32) from rfl), if_pos (show nI 0 = (0 : Int32) from rfl)]
    exact ⟨_, _, _, rfl, rfl, R3⟩
  · have hne : ¬ nI n = (0 : Int32) := fun hh => by
      have := i_eq.mp hh
      rw [nI_toInt (by omega), show (0 : Int32).toInt = 0 from rfl] at this
      omega
    rw [if_neg hne, if_neg hne, most10 (q_sb σ 4) (by omega) hn (show σ 4 0 = _ by rw [e16, en]), cr_s]
    refine ⟨nI (mBest (fun w => τ 1 (68 + 4 * w)) (n - 1)), σ, τ, ?_, ?_, h⟩
    · rw [mBest_congr (f := q_sb σ 4 4) (g := fun w => τ 1 (68 + 4 * w)) (n - 1) (fun k hk => (h.1.2.1.2.2.1 k (by rw [en, nI_toInt (by omega)]; omega)).2.2.2)]
    · refine q_for (S := Int32) (R := Int32 × SS) (fun (f : Int32 → Int32 → Option (Int32 × SS)) s i => f s i) (m := 1) (n := n) (by omega) (by omega) (fun j s => s = nI (mBest (fun w => τ 1 (68 + 4 * w)) (j - 1))) (fun r => r = some (nI (mBest (fun w => τ 1 (68 + 4 * w)) (n - 1)), τ)) ?_ ?_ 0 rfl
      · intro f j s hj1 hj2 hs ih
        subst hs
        try dsimp only
        have hb := mBest_le (fun w => τ 1 (68 + 4 * w)) (j - 1)
        have e := mBest_s (fun w => τ 1 (68 + 4 * w)) hj1
        try dsimp only at e
        rw [if_neg (by rw [nI_leS (by omega) (by omega)]; omega), its_3 τ (by omega), its_3 τ (by omega), cr_s, cr_s, lt_v, nI_s]
        split
        · rename_i hc; exact ih _ (by rw [e, if_pos hc])
        · rename_i hc; exact ih _ (by rw [e, if_neg hc])
      · intro f s hs
        subst hs
        try dsimp only
        rw [if_pos (by rw [nI_leS (by omega) (by omega)]; omega)]
