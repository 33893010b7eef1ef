/-! ===== sheets ===== -/
theorem SR_get {σ τ : SS} (h : SRel σ τ) {k : Nat} (hk : k < 4) : shRel (σ (44 + 2 * k)) (σ (45 + 2 * k)) k τ := by
  obtain ⟨h0, h1, h2, h3⟩ := h
  rcases (by omega : k = 0 ∨ k = 1 ∨ k = 2 ∨ k = 3) with rfl | rfl | rfl | rfl
  · exact h0
  · exact h1
  · exact h2
  · exact h3
theorem SR_mk {σ τ : SS} (h : ∀ k, k < 4 → shRel (σ (44 + 2 * k)) (σ (45 + 2 * k)) k τ) : SRel σ τ := ⟨h 0 (by decide), h 1 (by decide), h 2 (by decide), h 3 (by decide)⟩
theorem R_sh {σ σ' τ τ' : SS} (h : Rel σ τ) (ex : ∀ x, x < 42 → σ' x = σ x) (et : ∀ x, x < 8 → τ' x = τ x) (hS : SRel σ' τ') : Rel σ' τ' := by
  obtain ⟨h1, h2, h3, h4, h5, -⟩ := h
  refine ⟨?_, ?_, ?_, ?_, ?_, hS⟩
  · rw [et 1 (by decide)]
    exact HR_far h1 (fun i hi => ex _ (by omega))
  · rw [ex 0 (by decide), et 0 (by decide)]
    exact h2
  · rw [et 0 (by decide), et 2 (by decide)]
    exact fun h0 => HR_far (h3 h0) (fun i hi => ex _ (by omega))
  · intro i hi
    rw [ex 1 (by decide), et 4 (by decide)]
    exact h4 i hi
  · unfold TRel
    rw [ex 40 (by decide), ex 41 (by decide), et 0 (by decide), et 5 (by decide)]
    exact h5
theorem isSheet11 (a : Int32) : pX11_isSheet a = some (wi a 0 3) := by
  unfold pX11_isSheet
  rw [within_eq, cr_s, zz_b (wi_01 _ _ _)]
theorem isSheet12 (a : Int32) : pX12_isSheet a = some (wi a 0 3) := by
  unfold pX12_isSheet
  rw [in_eq, cr_s, zz_b (wi_01 _ _ _)]
theorem sh_of {a : Int32} (h : ¬ wi a 0 3 = 0) : ∃ k : Nat, a = nI k ∧ k < 4 := by
  obtain ⟨g1, g2⟩ := wi_ok h
  obtain ⟨k, hk, e⟩ := num_of (a := a) (n := 3) g1 g2
  exact ⟨k, e, by omega⟩
theorem wi_in {k : Nat} (hk : k < 4) : ¬ wi (nI k) 0 3 = 0 := by
  rcases (by omega : k = 0 ∨ k = 1 ∨ k = 2 ∨ k = 3) with rfl | rfl | rfl | rfl <;> decide
theorem missing6 (s : SS) : pX6_isMissing s = some (if s 0 0 = 0 then 1 else 0) := by
  unfold pX6_isMissing
  simp only [lt_v]
  split <;> rfl
theorem fill40 (s : SS) (v : Int32) : pJ7_fill_53178_40 s v = some (q_sc s 0 (fun i => if i < 40 then v else s 0 i)) := by
  unfold pJ7_fill_53178_40
  refine q_for (S := SS) (R := SS) (fun (f : SS → Int32 → Option SS) s i => f s i) (m := 0) (n := 40) (by omega) (by omega) (fun j a => a = q_sc s 0 (fun i => if i < j then v else s 0 i)) (fun o => o = some (q_sc s 0 (fun i => if i < 40 then v else s 0 i))) ?_ ?_ s ?_
  · intro f j a hj1 hj2 ha ih
    subst ha
    try dsimp only
    rw [if_neg (fun hh => by have := (nI_leS (n := 40) (by omega) (by omega)).mp hh; omega), wr_n _ _ _ _ (by omega), nI_s, sc_su]
    refine ih _ ?_
    congr 1
    funext k
    by_cases hk : k = j
    · subst hk; rw [upd_at, if_pos (by omega)]
    · rw [upd_ne hk]
      by_cases hk2 : k < j
      · rw [if_pos hk2, if_pos (by omega)]
      · rw [if_neg hk2, if_neg (by omega)]
  · intro f a ha
    subst ha
    rfl
  · rw [show (fun i => if i < 0 then v else s 0 i) = s 0 from funext (fun k => if_neg (by omega)), sc_self]
theorem layOut6 (s : SS) (a1 a2 : Int32) : ∃ s', pX6_layOut s a1 a2 = some s' ∧ s' 0 0 = a1 ∧ s' 0 1 = (if a1 = 0 then 0 else a2) ∧ ∀ i, i < 40 → s' 1 i = 0 := by
  unfold pX6_layOut
  simp only [lt_v, fill40, cs_s]
  split
  · exact ⟨_, rfl, rfl, rfl, fun i hi => if_pos hi⟩
  · exact ⟨_, rfl, rfl, rfl, fun i hi => if_pos hi⟩
def shK (σ : SS) (b : Nat) (a2 a3 : Int32) : Option (Int32 × SS) := q_cs (pX6_layOut (q_sb σ b) a2 a3) (fun (τ : SS) => (q_em σ b 0 2 τ)) (fun (σ10 : SS) => some ((σ10 b 1), σ10))
theorem sheet_u (σ : SS) {k : Nat} (hk : k < 4) (a2 a3 : Int32) : pX11_sheet σ (nI k) a2 a3 = (if a2 = 0 then (if 0 ≤ a3 then (if a3 ≤ 40 then shK σ (44 + 2 * k) a2 a3 else pX11_tell σ (-1000001)) else pX11_tell σ (-1000007)) else if a2 = 8 then (if 0 ≤ a3 then (if a3 ≤ 40 then shK σ (44 + 2 * k) a2 a3 else pX11_tell σ (-1000001)) else pX11_tell σ (-1000007)) else if a2 = 16 then (if 0 ≤ a3 then (if a3 ≤ 40 then shK σ (44 + 2 * k) a2 a3 else pX11_tell σ (-1000001)) else pX11_tell σ (-1000007)) else if a2 = 32 then (if 0 ≤ a3 then (if a3 ≤ 40 then shK σ (44 + 2 * k) a2 a3 else pX11_tell σ (-1000001)) else pX11_tell σ (-1000007)) else pX11_tell σ (-1000001)) := by
  rcases (by omega : k = 0 ∨ k = 1 ∨ k = 2 ∨ k = 3) with rfl | rfl | rfl | rfl <;> rfl
theorem zero_lp {τ : SS} {k : Nat} (hk : k < 4) (z : Int32) (e : τ 9 k = z) : q_lp (fun _ _ => none) (fun (c15 : SS → Int32 → Option (Int32 × SS)) (σ14 : SS) (x4_13 : Int32) => (if 40 ≤ x4_13 then q_rd (σ14 9) 4 (nI k) (fun v19 => some (v19, σ14)) else q_wr σ14 10 160 ((40 * nI k) + x4_13) 0 (fun σ20 => c15 σ20 (x4_13 + 1)))) q_fu τ 0 = some (z, q_sc τ 10 (fun i => if 40 * k ≤ i ∧ i < 40 * k + 40 then 0 else τ 10 i)) := by
  refine q_for (S := SS) (R := Int32 × SS) (fun (f : SS → Int32 → Option (Int32 × SS)) s i => f s i) (m := 0) (n := 40) (by omega) (by omega) (fun j a => a = q_sc τ 10 (fun i => if 40 * k ≤ i ∧ i < 40 * k + j then 0 else τ 10 i)) (fun o => o = some (z, q_sc τ 10 (fun i => if 40 * k ≤ i ∧ i < 40 * k + 40 then 0 else τ 10 i))) ?_ ?_ τ ?_
  · intro f j a hj1 hj2 ha ih
    subst ha
    try dsimp only
    rw [if_neg (fun hh => by have := (nI_leS (n := 40) (by omega) (by omega)).mp hh; omega), show (40 : Int32) = nI 40 from rfl, pk_mul, nI_add, wr_n _ _ _ _ (by omega), nI_s, sc_su]
    refine ih _ ?_
    congr 1
    funext i
    by_cases hi : i = 40 * k + j
    · subst hi; rw [upd_at, if_pos (by omega)]
    · rw [upd_ne hi]
      by_cases hi2 : 40 * k ≤ i ∧ i < 40 * k + j
      · rw [if_pos hi2, if_pos (by omega)]
      · rw [if_neg hi2, if_neg (by omega)]
  · intro f a ha
    subst ha
    try dsimp only
    rw [if_pos (by decide), rd_n _ _ (by omega)]
    show some (τ 9 k, _) = _
    rw [e]
  · rw [show (fun i => if 40 * k ≤ i ∧ i < 40 * k + 0 then 0 else τ 10 i) = τ 10 from funext (fun i => if_neg (by omega)), sc_self]
theorem s_sheet : S_sheet Rel := by
  intro σ τ a1 a2 a3 h
  have R0 : Rel (su σ 1 0 (σ 1 0 + 1)) (su τ 4 0 (τ 4 0 + 1)) := R_tell h (by decide)
  have R6 : Rel (su σ 1 6 (σ 1 6 + 1)) (su τ 4 6 (τ 4 6 + 1)) := R_tell h (by decide)
  by_cases h1 : wi a1 0 3 = 0
  · simp only [pX11_sheet, pX12_sheet, isSheet11, isSheet12, cr_s, lt_v, tell_0, find_0, ci_s, if_pos h1]
    exact ⟨_, _, _, rfl, rfl, R0⟩
  obtain ⟨k, rfl, hk⟩ := sh_of h1
  rw [sheet_u σ hk]
  simp only [pX12_sheet, isSheet12, cr_s, lt_v, tell_0, find_0, tell_6, find_6, ci_s, if_neg h1]
  by_cases hg : a2 = 0 ∨ a2 = 8 ∨ a2 = 16 ∨ a2 = 32
  · have pick : ∀ {α : Type} (x y : α), (if a2 = 0 then x else if a2 = 8 then x else if a2 = 16 then x else if a2 = 32 then x else y) = x := fun x y => by
      rcases hg with g | g | g | g <;> simp only [g] <;> rfl
    rw [pick, pick]
    by_cases h3 : 0 ≤ a3
    · rw [if_pos h3, if_pos h3]
      by_cases h4 : a3 ≤ 40
      · rw [if_pos h4, if_pos h4, wr_n _ _ _ _ (by omega)]
        obtain ⟨s', p1, p2, p3, p4⟩ := layOut6 (q_sb σ (44 + 2 * k)) a2 a3
        generalize hz : (if a2 = 0 then (0 : Int32) else a3) = z at p3
        have hzb : 0 ≤ z.toInt ∧ z.toInt ≤ 40 := by
          rw [← hz]
          split
          · decide
          · rw [i_le] at h3 h4
            exact ⟨h3, h4⟩
        have e12 : (if a2 = 0 then q_wr (su τ 8 k a2) 9 4 (nI k) 0 (fun (σ12 : SS) => q_lp (fun _ _ => none) (fun (c15 : SS → Int32 → Option (Int32 × SS)) (σ14 : SS) (x4_13 : Int32) => (if 40 ≤ x4_13 then q_rd (σ14 9) 4 (nI k) (fun v19 => some (v19, σ14)) else q_wr σ14 10 160 ((40 * nI k) + x4_13) 0 (fun σ20 => c15 σ20 (x4_13 + 1)))) q_fu σ12 0) else q_wr (su τ 8 k a2) 9 4 (nI k) a3 (fun (σ12 : SS) => q_lp (fun _ _ => none) (fun (c15 : SS → Int32 → Option (Int32 × SS)) (σ14 : SS) (x4_13 : Int32) => (if 40 ≤ x4_13 then q_rd (σ14 9) 4 (nI k) (fun v19 => some (v19, σ14)) else q_wr σ14 10 160 ((40 * nI k) + x4_13) 0 (fun σ20 => c15 σ20 (x4_13 + 1)))) q_fu σ12 0)) = some (z, q_sc (su (su τ 8 k a2) 9 k z) 10 (fun i => if 40 * k ≤ i ∧ i < 40 * k + 40 then 0 else τ 10 i)) := by
          rw [wr_n _ _ _ _ (by omega), wr_n _ _ _ _ (by omega)]
          split
          · rename_i hc
            rw [if_pos hc] at hz
            subst hz
            rw [zero_lp hk 0 (by show upd ((su τ 8 k a2) 9) k 0 k = 0; exact upd_at)]
            rfl
          · rename_i hc
            rw [if_neg hc] at hz
            subst hz
            rw [zero_lp hk a3 (by show upd ((su τ 8 k a2) 9) k a3 k = a3; exact upd_at)]
            rfl
        have e10 : shK σ (44 + 2 * k) a2 a3 = some (z, q_em σ (44 + 2 * k) 0 2 s') := by
          unfold shK
          rw [p1, cs_s]
          have := em_in (σ := σ) (τ := s') (b := 44 + 2 * k) (o := 0) (n := 2) 0 (by omega)
          rw [Nat.add_zero] at this
          rw [this, p3]
        refine ⟨z, _, _, e10, e12, R_sh h (fun x hx => em_out (by omega)) (fun x hx => ?_) (SR_mk (fun m hm => ?_))⟩
        · exact (if_neg (by omega)).trans ((if_neg (by omega)).trans (if_neg (by omega)))
        · by_cases hmk : m = k
          · subst hmk
            have q0 : q_em σ (44 + 2 * m) 0 2 s' (44 + 2 * m) = s' 0 := by
              have := em_in (σ := σ) (τ := s') (b := 44 + 2 * m) (o := 0) (n := 2) 0 (by omega)
              rw [Nat.add_zero] at this
              exact this
            have q1 : q_em σ (44 + 2 * m) 0 2 s' (45 + 2 * m) = s' 1 := by
              rw [show 45 + 2 * m = 44 + 2 * m + 1 by omega]
              exact em_in 1 (by omega)
            rw [q0, q1]
            refine ⟨?_, ?_, ?_, ?_, fun i hi => ?_⟩
            · show s' 0 0 = upd (τ 8) m a2 m
              rw [upd_at, p2]
            · show upd (τ 8) m a2 m = 0 ∨ upd (τ 8) m a2 m = 8 ∨ upd (τ 8) m a2 m = 16 ∨ upd (τ 8) m a2 m = 32
              rw [upd_at]; exact hg
            · show s' 0 1 = upd (τ 9) m z m
              rw [upd_at, p3]
            · show 0 ≤ (upd (τ 9) m z m).toInt ∧ (upd (τ 9) m z m).toInt ≤ 40
              rw [upd_at]; exact hzb
            · rw [p4 i hi]
              exact (if_pos (by omega)).symm
          · obtain ⟨r1, r2, r3, r4, r5⟩ := SR_get h.2.2.2.2.2 hm
            rw [em_out (by omega), em_out (by omega)]
            refine ⟨?_, ?_, ?_, ?_, fun i hi => ?_⟩
            · show _ = upd (τ 8) k a2 m
              rw [upd_ne hmk]; exact r1
            · show upd (τ 8) k a2 m = 0 ∨ upd (τ 8) k a2 m = 8 ∨ upd (τ 8) k a2 m = 16 ∨ upd (τ 8) k a2 m = 32
              rw [upd_ne hmk]; exact r2
            · show _ = upd (τ 9) k z m
              rw [upd_ne hmk]; exact r3
            · show 0 ≤ (upd (τ 9) k z m).toInt ∧ (upd (τ 9) k z m).toInt ≤ 40
              rw [upd_ne hmk]; exact r4
            · rw [r5 i hi]
              exact (if_neg (by omega)).symm
      · rw [if_neg h4, if_neg h4]
        exact ⟨_, _, _, rfl, rfl, R0⟩
    · rw [if_neg h3, if_neg h3]
      exact ⟨_, _, _, rfl, rfl, R6⟩
  · have g0 : ¬ a2 = 0 := fun e => hg (Or.inl e)
    have g1 : ¬ a2 = 8 := fun e => hg (Or.inr (Or.inl e))
    have g2 : ¬ a2 = 16 := fun e => hg (Or.inr (Or.inr (Or.inl e)))
    have g3 : ¬ a2 = 32 := fun e => hg (Or.inr (Or.inr (Or.inr e)))
    rw [if_neg g0, if_neg g1, if_neg g2, if_neg g3, if_neg g0, if_neg g1, if_neg g2, if_neg g3]
    exact ⟨_, _, _, rfl, rfl, R0⟩
/-! ===== a number is written ===== -/
theorem i8 (x : Int32) : (x <<< ((24 : Int32) &&& 31)) >>> ((24 : Int32) &&& 31) = x.toInt8.toInt32 := by
  apply b_ext
  intro i hi
  have e1 : bt ((x <<< (nI 24 &&& 31)) >>> (nI 24 &&& 31)) i = bt x (if i < 8 then i else 7) := by
    rw [b_sshr 24 (by omega) _ hi]
    split
    · rename_i h
      rw [b_shl 24 (by omega) x h, decide_eq_true (by omega), Bool.true_and, if_pos (by omega), show 24 + i - 24 = i by omega]
    · rename_i h
      rw [b_shl 24 (by omega) x (by omega : 31 < 32), decide_eq_true (by omega), Bool.true_and, if_neg (by omega)]
  have e2 : bt x.toInt8.toInt32 i = bt x (if i < 8 then i else 7) := by
    show ((x.toBitVec.signExtend 8).signExtend 32).getLsbD i = _
    rw [BitVec.getLsbD_signExtend, decide_eq_true hi, Bool.true_and, BitVec.msb_eq_getLsbD_last]
    split
    · rename_i h
      rw [BitVec.getLsbD_signExtend, decide_eq_true h, Bool.true_and, if_pos (by omega)]
      rfl
    · rename_i h
      rw [BitVec.getLsbD_signExtend, decide_eq_true (by omega), Bool.true_and, if_pos (by omega)]
      rfl
  exact e1.trans e2.symm
theorem i16 (x : Int32) : (x <<< ((16 : Int32) &&& 31)) >>> ((16 : Int32) &&& 31) = x.toInt16.toInt32 := by
  apply b_ext
  intro i hi
  have e1 : bt ((x <<< (nI 16 &&& 31)) >>> (nI 16 &&& 31)) i = bt x (if i < 16 then i else 15) := by
    rw [b_sshr 16 (by omega) _ hi]
    split
    · rename_i h
      rw [b_shl 16 (by omega) x h, decide_eq_true (by omega), Bool.true_and, if_pos (by omega), show 16 + i - 16 = i by omega]
    · rename_i h
      rw [b_shl 16 (by omega) x (by omega : 31 < 32), decide_eq_true (by omega), Bool.true_and, if_neg (by omega)]
  have e2 : bt x.toInt16.toInt32 i = bt x (if i < 16 then i else 15) := by
    show ((x.toBitVec.signExtend 16).signExtend 32).getLsbD i = _
    rw [BitVec.getLsbD_signExtend, decide_eq_true hi, Bool.true_and, BitVec.msb_eq_getLsbD_last]
    split
    · rename_i h
      rw [BitVec.getLsbD_signExtend, decide_eq_true h, Bool.true_and, if_pos (by omega)]
      rfl
    · rename_i h
      rw [BitVec.getLsbD_signExtend, decide_eq_true (by omega), Bool.true_and, if_pos (by omega)]
      rfl
  exact e1.trans e2.symm
theorem i32 (x : Int32) : (x <<< ((0 : Int32) &&& 31)) >>> ((0 : Int32) &&& 31) = x := by
  apply b_ext
  intro i hi
  have e1 : bt ((x <<< (nI 0 &&& 31)) >>> (nI 0 &&& 31)) i = bt x i := by
    rw [b_sshr 0 (by omega) _ hi, if_pos (by omega), b_shl 0 (by omega) x (by omega), decide_eq_true (by omega), Bool.true_and, show 0 + i - 0 = i by omega]
  exact e1
def wrK (σ : SS) (b : Nat) (a2 a3 : Int32) : Option (Int32 × SS) := q_cr (pX6_isMissing (q_sb σ b)) (fun (r4 : Int32) => (if r4 = 0 then q_cr (pX11_within a2 0 ((σ b 1) - 1)) (fun (r6 : Int32) => (if r6 = 0 then pX11_tell σ (-1000001) else q_cs (pX6_put (q_sb σ b) a2 a3) (fun (τ : SS) => (q_em σ b 0 2 τ)) (fun (σ8 : SS) => some ((1 : Int32), σ8)))) else pX11_tell σ (-1000006)))
theorem write_u (σ : SS) {k : Nat} (hk : k < 4) (a2 a3 : Int32) : pX11_write σ (nI k) a2 a3 = wrK σ (44 + 2 * k) a2 a3 := by
  rcases (by omega : k = 0 ∨ k = 1 ∨ k = 2 ∨ k = 3) with rfl | rfl | rfl | rfl <;> rfl
theorem put6 {s : SS} {i : Nat} (hi : i < 40) {b : Int32} (hb : b = 8 ∨ b = 16 ∨ b = 32) (e : s 0 0 = b) (v : Int32) : pX6_put s (nI i) v = some (su s 1 i ((v <<< ((32 - b) &&& 31)) >>> ((32 - b) &&& 31))) := by
  unfold pX6_put
  simp only [lt_v, e, wr_n _ _ _ _ hi]
  rcases hb with rfl | rfl | rfl
  · rw [if_pos rfl, show (32 : Int32) - 8 = 24 from rfl, i8]
  · rw [if_neg (by decide), if_pos rfl, show (32 : Int32) - 16 = 16 from rfl, i16]
  · rw [if_neg (by decide), if_neg (by decide), show (32 : Int32) - 32 = 0 from rfl, i32]
theorem s_write : S_write Rel := by
  intro σ τ a1 a2 a3 h
  have R0 : Rel (su σ 1 0 (σ 1 0 + 1)) (su τ 4 0 (τ 4 0 + 1)) := R_tell h (by decide)
  have R5 : Rel (su σ 1 5 (σ 1 5 + 1)) (su τ 4 5 (τ 4 5 + 1)) := R_tell h (by decide)
  by_cases h1 : wi a1 0 3 = 0
  · simp only [pX11_write, pX12_write, isSheet11, isSheet12, cr_s, tell_0, find_0, ci_s, if_pos h1]
    exact ⟨_, _, _, rfl, rfl, R0⟩
  obtain ⟨k, rfl, hk⟩ := sh_of h1
  obtain ⟨r1, r2, r3, r4, r5⟩ := SR_get h.2.2.2.2.2 hk
  rw [write_u σ hk]
  unfold wrK
  simp only [pX12_write, isSheet12, missing6, within_eq, in_eq, cr_s, lt_v, tell_0, find_0, tell_5, find_5, ci_s, if_neg h1]
  rw [rd_n _ _ (by omega), rd_n _ _ (by omega)]
  have q0 : q_sb σ (44 + 2 * k) 0 0 = τ 8 k := r1
  rw [q0, r3]
  by_cases h0 : τ 8 k = 0
  · rw [if_pos h0, if_pos h0, if_neg (by decide)]
    exact ⟨_, _, _, rfl, rfl, R5⟩
  rw [if_neg h0, if_neg h0, if_pos rfl]
  by_cases h2 : wi a2 0 (τ 9 k - 1) = 0
  · rw [if_pos h2, if_pos h2]
    exact ⟨_, _, _, rfl, rfl, R0⟩
  rw [if_neg h2, if_neg h2]
  obtain ⟨g1, g2⟩ := wi_ok h2
  rw [sub1_toInt r4.1] at g2
  obtain ⟨i, hi, rfl⟩ := num_of (a := a2) (n := 39) g1 (by omega)
  have hb : τ 8 k = 8 ∨ τ 8 k = 16 ∨ τ 8 k = 32 := by
    rcases r2 with hb | hb
    · exact absurd hb h0
    · exact hb
  rw [put6 (by omega) hb q0, cs_s, em_su _ _ _ _ (by decide), em_self, show (40 : Int32) * nI k + nI i = nI (40 * k + i) by rw [show (40 : Int32) = nI 40 from rfl, pk_mul, nI_add], rd_n _ _ (by omega), wr_n _ _ _ _ (by omega)]
  refine ⟨_, _, _, rfl, rfl, R_sh h (fun x hx => ud_ne _ _ _ (by omega)) (fun x hx => ud_ne _ _ _ (by omega)) (SR_mk (fun m hm => ?_))⟩
  obtain ⟨s1, s2, s3, s4, s5⟩ := SR_get h.2.2.2.2.2 hm
  rw [ud_ne _ _ _ (by omega)]
  refine ⟨s1, s2, s3, s4, fun j hj => ?_⟩
  by_cases hmk : m = k
  · subst hmk
    rw [show 44 + 2 * m + 1 = 45 + 2 * m by omega, ud_at]
    show _ = upd (τ 10) (40 * m + i) _ (40 * m + j)
    by_cases hji : j = i
    · subst hji; rw [upd_at, upd_at]
    · rw [upd_ne hji, upd_ne (by omega)]; exact s5 j hj
  · rw [ud_ne _ _ _ (by omega)]
    show _ = upd (τ 10) (40 * k + i) _ (40 * m + j)
    rw [upd_ne (by omega)]; exact s5 j hj
