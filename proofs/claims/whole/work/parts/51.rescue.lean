/-! ===== the reference: can all be lifted ===== -/
theorem nI_z {S : Nat} (h : S < 2 ^ 31) : nI S = (0 : Int32) ↔ S = 0 := by
  rw [i_eq, nI_toInt h, show (0 : Int32).toInt = 0 from rfl]
  omega
theorem Cn_0 (f d : Nat → Nat) (w : Nat) : Cn f d 0 w := fun i hi hb => by
  rw [Nat.zero_testBit] at hb
  exact absurd hb (by decide)
set_option maxHeartbeats 4000000 in
theorem canAll12 (τ : SS) (hO : Ok (τ 1)) {n : Nat} (hn : n ≤ 10) (en : τ 1 17 = nI n) {d : Nat → Nat} (hd : ∀ k, k < 10 → τ 7 k = nI (d k)) (hdb : ∀ k, d k ≤ 9999) {S w : Nat} (hS : S < 2 ^ n) (hw : w ≤ 60) : ∃ r, pX12_canAll τ (nI S) (nI w) = some r ∧ (r = 0 ↔ ¬ Cn (fW (τ 1)) d S w) := by
  have n17 : (τ 1 17).toInt = n := by rw [en, nI_toInt (by omega)]
  have hp := pw_le n (by omega)
  unfold pX12_canAll
  refine q_lp_rel (S := Int32 × Int32) (R := Int32) (fun (f : Int32 → Int32 → Option Int32) s => f s.1 s.2) (fun k s => ∃ w', s = (nI w', nI k) ∧ k < 2 ^ n ∧ w' + Ws (fW (τ 1)) k ≤ 660 ∧ (Cn (fW (τ 1)) d S w ↔ Cn (fW (τ 1)) d k w')) (fun o => ∃ r, o = some r ∧ (r = 0 ↔ ¬ Cn (fW (τ 1)) d S w)) ?_ q_fu S (nI w, nI S) ⟨w, rfl, hS, by have := Wf_b hO S; omega, Iff.rfl⟩ (fu_lt (by omega))
  rintro F k s ⟨w', rfl, hk, hb, hiff⟩ ih
  try dsimp only
  by_cases hk0 : k = 0
  · subst hk0
    rw [if_pos (show nI 0 = (0 : Int32) from rfl), zz_b (Or.inr rfl)]
    exact ⟨1, rfl, fun h => absurd h (by decide), fun h => absurd (hiff.mpr (Cn_0 _ _ _)) h⟩
  · rw [if_neg (fun hh => hk0 ((nI_z (by omega)).mp hh))]
    refine q_for (S := Int32) (R := Int32) (fun (f : Int32 → Int32 → Option Int32) s i => f s i) (m := 0) (n := 10) (by omega) (by omega) (fun j x => (x = -1 ∧ ∀ l, l < j → k.testBit l = false) ∨ ∃ i, i < j ∧ x = nI i ∧ k.testBit i = true ∧ ∀ l, l < j → k.testBit l = true → d i ≤ d l) (fun o => ∃ r, o = some r ∧ (r = 0 ↔ ¬ Cn (fW (τ 1)) d S w)) ?_ ?_ (-1) (Or.inl ⟨rfl, fun l hl => by omega⟩)
    · intro G j x hj1 hj2 hx ih2
      try dsimp only
      rw [if_neg (fun hh => by have := (nI_leS (n := 10) (by omega) (by omega)).mp hh; omega)]
      simp only [lt_n]
      rw [shr_bit _ (by omega), nI_s]
      have hdj := hdb j
      cases hbj : k.testBit j
      · rw [if_neg (fun hh => by rw [(ib_n1 (by omega)).mp hh] at hbj; exact absurd hbj (by decide))]
        refine ih2 _ ?_
        rcases hx with ⟨e, h1⟩ | ⟨i, h1, e, h2, h3⟩
        · refine Or.inl ⟨e, fun l hl => ?_⟩
          by_cases hlj : l = j
          · rw [hlj]; exact hbj
          · exact h1 l (by omega)
        · refine Or.inr ⟨i, by omega, e, h2, fun l hl hbl => ?_⟩
          by_cases hlj : l = j
          · rw [hlj, hbj] at hbl; exact absurd hbl (by decide)
          · exact h3 l (by omega) hbl
      · rw [if_pos ((ib_n1 (by omega)).mpr hbj)]
        rcases hx with ⟨rfl, h1⟩ | ⟨i, h1, rfl, h2, h3⟩
        · rw [if_pos (show (-1 : Int32) < 0 by decide)]
          refine ih2 _ (Or.inr ⟨j, by omega, rfl, hbj, fun l hl hbl => ?_⟩)
          by_cases hlj : l = j
          · rw [hlj]; exact Nat.le_refl _
          · rw [h1 l (by omega)] at hbl; exact absurd hbl (by decide)
        · have hdi := hdb i
          rw [if_neg (show ¬ nI i < 0 by rw [i_lt, nI_toInt (by omega)]; show ¬ (i : Int) < 0; omega), rd_n _ _ (by omega), rd_n _ _ (by omega), hd j (by omega), hd i (by omega)]
          by_cases hle : d i ≤ d j
          · rw [if_pos ((nI_le_big (by omega) (by omega)).mpr hle)]
            refine ih2 _ (Or.inr ⟨i, by omega, rfl, h2, fun l hl hbl => ?_⟩)
            by_cases hlj : l = j
            · rw [hlj]; exact hle
            · exact h3 l (by omega) hbl
          · rw [if_neg (fun hh => hle ((nI_le_big (by omega) (by omega)).mp hh))]
            refine ih2 _ (Or.inr ⟨j, by omega, rfl, hbj, fun l hl hbl => ?_⟩)
            by_cases hlj : l = j
            · rw [hlj]; exact Nat.le_refl _
            · have := h3 l (by omega) hbl
              omega
    · intro G x hx
      try dsimp only
      rw [if_pos (show (10 : Int32) ≤ nI 10 by decide)]
      rcases hx with ⟨rfl, h1⟩ | ⟨i, h1, rfl, h2, h3⟩
      · obtain ⟨l, hl, hbl⟩ := ne_bit (S := k) (by omega) hk0
        rw [h1 l hl] at hbl
        exact absurd hbl (by decide)
      · have hin := bit_lt hk h2
        have hdi := hdb i
        have hf := fW_b hO i
        rw [ti_1 τ h1, cr_s, fW_at hO (by omega), lt_v, nI_add, rd_n _ _ h1, hd i h1]
        have hC := Cn_min (f := fW (τ 1)) (d := d) (S := k) (w := w') h1 h2 h3
        have hWr := Ws_rm (f := fW (τ 1)) h1 h2
        by_cases hle : w' + fW (τ 1) i ≤ d i
        · rw [if_pos ((nI_le_big (by omega) (by omega)).mpr hle), lt_v, rm_32 k (by omega) i h1]
          have hlt := rm_lt (S := k) (by omega) h1 h2
          refine ih (nI (w' + fW (τ 1) i), nI (rmS k i)) (rmS k i) hlt ⟨w' + fW (τ 1) i, rfl, by omega, by omega, ?_⟩
          rw [hiff, hC]
          exact ⟨fun h => h.2, fun h => ⟨hle, h⟩⟩
        · rw [if_neg (fun hh => hle ((nI_le_big (by omega) (by omega)).mp hh)), zz_b (Or.inl rfl)]
          exact ⟨0, rfl, fun _ h => hle (hC.mp (hiff.mp h)).1, fun _ => rfl⟩
/-! ===== the class: sets in time ===== -/
theorem us_up {f : Nat → Nat} {p : Nat → Bool} {n : Nat} (h : ∀ k, n ≤ k → p k = false) : ∀ e, us f p (n + e) = us f p n
  | 0 => rfl
  | e + 1 => by
    show us f p (n + e) + (if p (n + e) = true then f (n + e) else 0) = _
    rw [h _ (by omega), us_up h e]
    rfl
theorem us_10 {f : Nat → Nat} {p : Nat → Bool} {n : Nat} (hn : n ≤ 10) (h : ∀ k, n ≤ k → p k = false) : us f p 10 = us f p n := by
  have := us_up (f := f) h (10 - n)
  rw [show n + (10 - n) = 10 by omega] at this
  exact this
theorem no_bit {S n k : Nat} (hS : S < 2 ^ n) (hk : n ≤ k) : S.testBit k = false := Nat.testBit_lt_two_pow (Nat.lt_of_lt_of_le hS (Nat.pow_le_pow_right (by omega) hk))
/-- the world of choices -/
def CH (s : SS) (n : Nat) (f l : Nat → Nat) : Prop := s 2 0 = nI n ∧ (∀ k, k < n → s 4 k = nI (f k)) ∧ ∀ k, k < n → s 1 k = nI (l k)
theorem and_n {S k : Nat} (hk : k < 10) : (nI S &&& ((1 : Int32) <<< (nI k &&& 31)) = 0) ↔ S.testBit k = false := by
  rw [and_bit _ (by omega)]
  exact ib_n0 (by omega)
theorem wUp1 {s : SS} {n : Nat} {f l : Nat → Nat} (hn : n ≤ 10) (hc : CH s n f l) (hl : ∀ k, l k ≤ 601) {b S : Nat} (hb : b ≤ 601) (hS : S < 2 ^ n) : pX1_weightUpTo s (nI b) (nI S) = some (nI (Us f l S b)) := by
  obtain ⟨c1, c2, c3⟩ := hc
  have e10 : Us f l S b = us f (fun k => S.testBit k && decide (l k ≤ b)) n := us_10 hn (fun k hk => by rw [no_bit hS hk, Bool.false_and])
  rw [e10]
  unfold pX1_weightUpTo
  refine q_for (S := Int32) (R := Int32) (fun (f : Int32 → Int32 → Option Int32) s i => f s i) (m := 0) (n := n) (by omega) (by omega) (fun j x => x = nI (us f (fun k => S.testBit k && decide (l k ≤ b)) j)) (fun o => o = some (nI (us f (fun k => S.testBit k && decide (l k ≤ b)) n))) ?_ ?_ 0 rfl
  · intro F j x hj1 hj2 hx ih
    subst hx
    try dsimp only
    rw [c1, if_neg (by rw [nI_leS (by omega) (by omega)]; omega)]
    simp only [lt_n]
    have hlj := hl j
    rw [rd_n _ _ (by omega), rd_n _ _ (by omega), c2 j hj2, c3 j hj2, nI_add, nI_s]
    cases hbj : S.testBit j
    · rw [if_pos ((and_n (by omega)).mpr hbj)]
      exact ih _ (by rw [us_s, if_neg (by rw [hbj, Bool.false_and]; decide), Nat.add_zero])
    · rw [if_neg (fun hh => by rw [(and_n (by omega)).mp hh] at hbj; exact absurd hbj (by decide))]
      by_cases hle : l j ≤ b
      · rw [if_neg (fun hh => by have := (nI_ltS (by omega) (by omega)).mp hh; omega)]
        exact ih _ (by rw [us_s, if_pos (by rw [hbj, decide_eq_true hle]; rfl)])
      · rw [if_pos ((nI_ltS (by omega) (by omega)).mpr (by omega))]
        exact ih _ (by rw [us_s, if_neg (by rw [decide_eq_false hle, Bool.and_false]; decide), Nat.add_zero])
  · intro F x hx
    subst hx
    try dsimp only
    rw [c1, if_pos (by rw [nI_leS (by omega) (by omega)]; omega)]
/-- a loop with its counter alone -/
theorem q_for0 {R : Type} {bot : Int32 → Option R} {st : (Int32 → Option R) → Int32 → Option R} {m n : Nat} (hm : m ≤ n) (hn : n < 4000) (J : Nat → Prop) (Post : Option R → Prop) (step : ∀ (f : Int32 → Option R) (j : Nat), m ≤ j → j < n → J j → (J (j + 1) → Post (f (nI (j + 1)))) → Post (st f (nI j))) (last : ∀ (f : Int32 → Option R), J n → Post (st f (nI n))) (h0 : J m) : Post (q_lp bot st q_fu (nI m)) :=
  q_for (S := Unit) (R := R) (fun (f : Int32 → Option R) _ i => f i) hm hn (fun j _ => J j) Post (fun f j _ h1 h2 h3 ih => step f j h1 h2 h3 (fun h => ih () h)) (fun f _ h => last f h) () h0
theorem canB1 {s : SS} {n : Nat} {f l : Nat → Nat} (hn : n ≤ 10) (hc : CH s n f l) (hl : ∀ k, l k ≤ 601) (hf : ∀ S, Ws f S ≤ 600) (hf1 : ∀ k, f k ≤ 60) {i B : Nat} (hi : i < n) (hB : B < 2 ^ n) : ∃ r, pX1_canBeFirst s (nI i) (nI B) = some r ∧ (r = 0 ↔ ¬ Cn f l (rmS B i) (f i)) := by
  have hp := pw_le n (by omega)
  have hT : rmS B i < 2 ^ n := Nat.lt_of_le_of_lt (rm_le B i) hB
  unfold pX1_canBeFirst
  rw [rm_32 B (by omega) i (by omega), lt_v]
  generalize rmS B i = T at hT
  obtain ⟨c1, c2, c3⟩ := id hc
  refine q_for0 (m := 0) (n := n) (by omega) (by omega) (fun j => ∀ k, k < j → T.testBit k = true → f i + Us f l T (l k) ≤ l k) (fun o => ∃ r, o = some r ∧ (r = 0 ↔ ¬ Cn f l T (f i))) ?_ ?_ (fun k hk => by omega)
  · intro F j hj1 hj2 hJ ih
    have hlj := hl j
    have hU := Nat.le_trans (Us_le f l T (l j)) (hf T)
    have hfi := hf1 i
    rw [c1, if_neg (by rw [nI_leS (by omega) (by omega)]; omega), lt_v, nI_s, rd_n _ _ (by omega), rd_n _ _ (by omega), c2 i hi, c3 j hj2, wUp1 hn hc hl hlj hT, cr_s, nI_add]
    cases hbj : T.testBit j
    · rw [if_pos ((and_n (by omega)).mpr hbj)]
      refine ih (fun k hk hb => ?_)
      by_cases hkj : k = j
      · rw [hkj, hbj] at hb; exact absurd hb (by decide)
      · exact hJ k (by omega) hb
    · rw [if_neg (fun hh => by rw [(and_n (by omega)).mp hh] at hbj; exact absurd hbj (by decide)), rd_n _ _ (by omega), c3 j hj2]
      by_cases hle : f i + Us f l T (l j) ≤ l j
      · rw [if_pos ((nI_leS (by omega) (by omega)).mpr hle)]
        refine ih (fun k hk hb => ?_)
        by_cases hkj : k = j
        · rw [hkj]; exact hle
        · exact hJ k (by omega) hb
      · rw [if_neg (fun hh => hle ((nI_leS (by omega) (by omega)).mp hh)), zz_b (Or.inl rfl)]
        exact ⟨0, rfl, fun _ hC => hle (hC j (by omega) hbj), fun _ => rfl⟩
  · intro F hJ
    rw [c1, if_pos (by rw [nI_leS (by omega) (by omega)]; omega), zz_b (Or.inr rfl)]
    refine ⟨1, rfl, fun h => absurd h (by decide), fun h => absurd (fun k hk hb => hJ k (bit_lt hT hb) hb) h⟩
theorem first1 {s : SS} {n : Nat} {f l : Nat → Nat} (hn : n ≤ 10) (hc : CH s n f l) (hl : ∀ k, l k ≤ 601) (hf : ∀ S, Ws f S ≤ 600) (hf1 : ∀ k, f k ≤ 60) {B : Nat} (hB : B < 2 ^ n) : ∃ r, pX1_firstOf s (nI B) = some r ∧ Fst (fun i => B.testBit i = true ∧ Cn f l (rmS B i) (f i)) 0 n r := by
  unfold pX1_firstOf
  refine q_for0 (m := 0) (n := n) (by omega) (by omega) (fun j => ∀ k, 0 ≤ k → k < j → ¬ (B.testBit k = true ∧ Cn f l (rmS B k) (f k))) (fun o => ∃ r, o = some r ∧ Fst (fun i => B.testBit i = true ∧ Cn f l (rmS B i) (f i)) 0 n r) ?_ ?_ (fun k _ hk => by omega)
  · intro F j hj1 hj2 hJ ih
    obtain ⟨r, p1, p2⟩ := canB1 hn hc hl hf hf1 hj2 hB
    rw [hc.1, if_neg (by rw [nI_leS (by omega) (by omega)]; omega), lt_v, nI_s, p1, cr_s]
    cases hbj : B.testBit j
    · rw [if_pos ((and_n (by omega)).mpr hbj)]
      refine ih (fun k h0 hk hb => ?_)
      by_cases hkj : k = j
      · rw [hkj, hbj] at hb; exact absurd hb.1 (by decide)
      · exact hJ k h0 (by omega) hb
    · rw [if_neg (fun hh => by rw [(and_n (by omega)).mp hh] at hbj; exact absurd hbj (by decide))]
      by_cases hr : r = 0
      · rw [if_pos hr]
        refine ih (fun k h0 hk hb => ?_)
        by_cases hkj : k = j
        · subst hkj; exact p2.mp hr hb.2
        · exact hJ k h0 (by omega) hb
      · rw [if_neg hr]
        refine ⟨_, rfl, Or.inr ⟨j, by omega, by omega, rfl, ⟨hbj, ?_⟩, hJ⟩⟩
        exact Classical.byContradiction (fun h => hr (p2.mpr h))
  · intro F hJ
    rw [hc.1, if_pos (by rw [nI_leS (by omega) (by omega)]; omega)]
    refine ⟨-1, rfl, Or.inl ⟨rfl, fun m h0 hm hP => ?_⟩⟩
    exact hJ m h0 (bit_lt hB hP.1) hP
theorem pw_ge : ∀ S, S < 1024 → ∀ i, i < 10 → S.testBit i = true → 2 ^ i ≤ S := by decide +kernel
theorem hasL1 {s : SS} {n : Nat} {f l : Nat → Nat} (hn : n ≤ 10) (hc : CH s n f l) (hl : ∀ k, l k ≤ 601) (hf : ∀ S, Ws f S ≤ 600) {S : Nat} (h1 : 1 ≤ S) (hS : S < 2 ^ n) (h6 : s 6 S = nI (Ws f S)) (h8 : ∀ T, T < S → (s 8 T = 0 ↔ ¬ Cn f l T 0)) : ∃ r, pX1_hasLast s (nI S) = some r ∧ (r = 0 ∨ r = 1) ∧ (r = 0 ↔ ¬ Cn f l S 0) := by
  have hp := pw_le n (by omega)
  obtain ⟨c1, c2, c3⟩ := id hc
  have hCl := Cn_last (f := f) (d := l) (S := S) (by omega) (by omega)
  unfold pX1_hasLast
  refine q_for0 (m := 0) (n := n) (by omega) (by omega) (fun j => ∀ k, k < j → ¬ (S.testBit k = true ∧ Ws f S ≤ l k ∧ Cn f l (rmS S k) 0)) (fun o => ∃ r, o = some r ∧ (r = 0 ∨ r = 1) ∧ (r = 0 ↔ ¬ Cn f l S 0)) ?_ ?_ (fun k hk => by omega)
  · intro F j hj1 hj2 hJ ih
    have hlj := hl j
    have hfS := hf S
    rw [c1, if_neg (by rw [nI_leS (by omega) (by omega)]; omega), lt_v, lt_v, nI_s]
    cases hbj : S.testBit j
    · rw [if_pos ((and_n (by omega)).mpr hbj)]
      refine ih (fun k hk hb => ?_)
      by_cases hkj : k = j
      · rw [hkj, hbj] at hb; exact absurd hb.1 (by decide)
      · exact hJ k (by omega) hb
    · have hge := pw_ge S (by omega) j (by omega) hbj
      have hlt := rm_lt (S := S) (by omega) (show j < 10 by omega) hbj
      rw [if_neg (fun hh => by rw [(and_n (by omega)).mp hh] at hbj; exact absurd hbj (by decide)), rd_n _ _ (by omega), rd_n _ _ (by omega), h6, c3 j hj2]
      by_cases hle : Ws f S ≤ l j
      · rw [if_neg (fun hh => by have := (nI_ltS (by omega) (by omega)).mp hh; omega), sh_pow j (by omega), pk_sub hge, rm_eq S (by omega) j (by omega) hbj, rd_n _ _ (by omega)]
        by_cases h0 : s 8 (rmS S j) = 0
        · rw [if_pos h0]
          refine ih (fun k hk hb => ?_)
          by_cases hkj : k = j
          · subst hkj; exact (h8 _ hlt).mp h0 hb.2.2
          · exact hJ k (by omega) hb
        · rw [if_neg h0, zz_b (Or.inr rfl)]
          have hCj : Cn f l (rmS S j) 0 := Classical.byContradiction (fun h => h0 ((h8 _ hlt).mpr h))
          exact ⟨1, rfl, Or.inr rfl, fun h => absurd h (by decide), fun h => absurd (hCl.mp ⟨j, by omega, hbj, hle, hCj⟩) h⟩
      · rw [if_pos ((nI_ltS (by omega) (by omega)).mpr (by omega))]
        refine ih (fun k hk hb => ?_)
        by_cases hkj : k = j
        · subst hkj; exact hle hb.2.1
        · exact hJ k (by omega) hb
  · intro F hJ
    rw [c1, if_pos (by rw [nI_leS (by omega) (by omega)]; omega), zz_b (Or.inl rfl)]
    refine ⟨0, rfl, Or.inl rfl, fun _ hC => ?_, fun _ => rfl⟩
    obtain ⟨i, hi, hb, hw, hCi⟩ := hCl.mpr hC
    exact hJ i (bit_lt hS hb) ⟨hb, hw, hCi⟩
noncomputable def Pc (f l : Nat → Nat) (S : Nat) : Bool := @decide (Cn f l S 0) (Classical.propDecidable _)
theorem Pc_t {f l : Nat → Nat} {S : Nat} : Pc f l S = true ↔ Cn f l S 0 := by
  unfold Pc
  exact @decide_eq_true_iff (Cn f l S 0) (Classical.propDecidable _)
theorem bst_P {P : Nat → Bool} {w : Nat → Nat} : ∀ k, bst P w k = 0 ∨ P (bst P w k) = true
  | 0 => Or.inl rfl
  | k + 1 => by
    have e : bst P w (k + 1) = if P (k + 1) = true ∧ w (bst P w k) < w (k + 1) then k + 1 else bst P w k := rfl
    rw [e]
    split
    · rename_i h
      exact Or.inr h.1
    · exact bst_P k
set_option maxHeartbeats 4000000 in
theorem lift1 {s : SS} {n : Nat} {f g l : Nat → Nat} (hn : n ≤ 10) (hc : CH s n f l) (hg : ∀ k, k < n → s 3 k = nI (g k)) (h6 : s 6 0 = 0) (h7 : s 7 0 = 0) (hl : ∀ k, l k ≤ 601) (hf : ∀ S, Ws f S ≤ 600) (hf1 : ∀ k, f k ≤ 60) (bg : ∀ S, Ws g S ≤ 2000) (w : Int32) : ∃ r s', Fst (fun i => (bst (Pc f l) (Ws g) (2 ^ n - 1)).testBit i = true ∧ Cn f l (rmS (bst (Pc f l) (Ws g) (2 ^ n - 1)) i) (f i)) 0 n r ∧ pX1_liftable s w = some ((if w = 0 then nI (bst (Pc f l) (Ws g) (2 ^ n - 1)) else if w = 1 then nI (Ws g (bst (Pc f l) (Ws g) (2 ^ n - 1))) else r), s') ∧ CW s' f g (2 ^ n) ∧ ∀ x, x < 6 → s' x = s x := by
  obtain ⟨c1, c2, c3⟩ := id hc
  obtain ⟨s1, a1, a2, a3⟩ := addUp1 hn c1 c2 hg h6 h7
  have hp := pw_le n (by omega)
  have pos : 0 < 2 ^ n := Nat.pow_pos (by omega)
  unfold pX1_liftable
  rw [a1, cs_s, zz_b (Or.inr rfl), show (0 : Int32) = nI 0 from rfl, wr_n _ _ _ _ (by omega)]
  generalize hPost : (fun (o : Option (Int32 × SS)) => ∃ r s', Fst (fun i => (bst (Pc f l) (Ws g) (2 ^ n - 1)).testBit i = true ∧ Cn f l (rmS (bst (Pc f l) (Ws g) (2 ^ n - 1)) i) (f i)) 0 n r ∧ o = some ((if w = nI 0 then nI (bst (Pc f l) (Ws g) (2 ^ n - 1)) else if w = 1 then nI (Ws g (bst (Pc f l) (Ws g) (2 ^ n - 1))) else r), s') ∧ CW s' f g (2 ^ n) ∧ ∀ x, x < 6 → s' x = s x) = Post
  refine (congrFun hPost _).mpr ?_
  refine q_for (S := SS × Int32) (R := Int32 × SS) (fun (f : SS → Int32 → Int32 → Option (Int32 × SS)) s i => f s.1 s.2 i) (m := 1) (n := 2 ^ n) (by omega) (by omega) (fun j b => CW b.1 f g (2 ^ n) ∧ (∀ x, x < 6 → b.1 x = s x) ∧ (∀ T, T < j → (b.1 8 T = 0 ↔ ¬ Cn f l T 0)) ∧ b.2 = nI (bst (Pc f l) (Ws g) (j - 1))) Post ?_ ?_ (su s1 8 0 1, nI 0) ⟨a2, fun x hx => by show su s1 8 0 1 x = s x; rw [ud_ne _ _ _ (by omega), a3 x (by omega) (by omega)], fun T hT => ?_, rfl⟩
  · rintro F j ⟨b, x⟩ hj1 hj2 ⟨q1, q2, q3, q4⟩ ih
    try dsimp only at q1 q2 q3 q4 ⊢
    subst q4
    have hcb : CH b n f l := ⟨by rw [q2 2 (by omega)]; exact c1, fun k hk => by rw [q2 4 (by omega)]; exact c2 k hk, fun k hk => by rw [q2 1 (by omega)]; exact c3 k hk⟩
    obtain ⟨r, t1, t2, t3⟩ := hasL1 hn hcb hl hf hj1 hj2 (q1 j hj2).1 q3
    have hle := bst_le (Pc f l) (Ws g) (j - 1)
    have es := bst_s (Pc f l) (Ws g) hj1
    generalize bst (Pc f l) (Ws g) (j - 1) = B at hle es
    have e20 : (1 : Int32) <<< (b 2 0 &&& 31) = nI (2 ^ n) := by rw [show b 2 0 = nI n from hcb.1, sh_pow n (by omega)]
    rw [if_neg (show ¬ (1 : Int32) <<< (b 2 0 &&& 31) ≤ nI j by rw [e20, nI_leS (by omega) (by omega)]; omega), t1, cr_s, zz_b t2, wr_n _ _ _ _ (by omega), rd_n _ _ (by omega), ud_at, upd_at]
    simp only [lt_n]
    rw [rd_n _ _ (by omega), rd_n _ _ (by omega), show su b 8 j r 7 = b 7 from rfl, (q1 j hj2).2, (q1 B (by omega)).2, nI_s]
    have b2 := bg j
    have b3 := bg B
    have k3 : ∀ T, T < j + 1 → (su b 8 j r 8 T = 0 ↔ ¬ Cn f l T 0) := fun T hT => by
      rw [ud_at]
      by_cases hTj : T = j
      · subst hTj; rw [upd_at]; exact t3
      · rw [upd_ne hTj]; exact q3 T (by omega)
    have nx : ∀ v : Nat, v = bst (Pc f l) (Ws g) (j + 1 - 1) → Post (F (su b 8 j r) (nI v) (nI (j + 1))) := fun v hv => ih (su b 8 j r, nI v) ⟨q1, fun x hx => by show su b 8 j r x = s x; rw [ud_ne _ _ _ (by omega), q2 x hx], k3, by rw [← hv]⟩
    by_cases hr : r = nI 0
    · rw [if_pos hr]
      exact nx B (by rw [es, if_neg (fun hh => t3.mp hr (Pc_t.mp hh.1))])
    · rw [if_neg hr]
      have hCj : Cn f l j 0 := Classical.byContradiction (fun h => hr (t3.mpr h))
      by_cases c2 : Ws g j ≤ Ws g B
      · rw [if_pos ((nI_leS (by omega) (by omega)).mpr c2)]
        exact nx B (by rw [es, if_neg (fun hh => by have := hh.2; omega)])
      · rw [if_neg (fun hh => c2 ((nI_leS (by omega) (by omega)).mp hh))]
        exact nx j (by rw [es, if_pos ⟨Pc_t.mpr hCj, by omega⟩])
  · rintro F ⟨b, x⟩ ⟨q1, q2, q3, q4⟩
    try dsimp only at q1 q2 q3 q4 ⊢
    subst q4
    have hcb : CH b n f l := ⟨by rw [q2 2 (by omega)]; exact c1, fun k hk => by rw [q2 4 (by omega)]; exact c2 k hk, fun k hk => by rw [q2 1 (by omega)]; exact c3 k hk⟩
    have hle := bst_le (Pc f l) (Ws g) (2 ^ n - 1)
    obtain ⟨r, t1, t2⟩ := first1 hn hcb hl hf hf1 (B := bst (Pc f l) (Ws g) (2 ^ n - 1)) (by omega)
    have e20 : (1 : Int32) <<< (b 2 0 &&& 31) = nI (2 ^ n) := by rw [show b 2 0 = nI n from hcb.1, sh_pow n (by omega)]
    rw [if_pos (show (1 : Int32) <<< (b 2 0 &&& 31) ≤ nI (2 ^ n) by rw [e20, nI_leS (by omega) (by omega)]; omega), t1, cr_s, rd_n _ _ (by omega), (q1 _ (by omega)).2, ← hPost]
    refine ⟨r, b, t2, ?_, q1, q2⟩
    split
    · rfl
    · split <;> rfl
  · have : T = 0 := by omega
    subst this
    show su s1 8 0 1 8 0 = 0 ↔ _
    rw [ud_at, upd_at]
    exact ⟨fun h => absurd h (by decide), fun h => absurd (Cn_0 _ _ _) h⟩
