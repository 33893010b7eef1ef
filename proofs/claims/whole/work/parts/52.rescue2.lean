/-! ===== the reference: what to lift ===== -/
def mayB (t : Nat → Int32) (k : Nat) : Prop := t (100 + 5 * k) = 0 ∧ t (101 + 5 * k) = 0
def sub_m (t : Nat → Int32) (S : Nat) : Prop := ∀ k, k < 10 → S.testBit k = true → mayB t k
noncomputable def Pr (t : Nat → Int32) (d : Nat → Nat) (S : Nat) : Bool := @decide (sub_m t S ∧ Cn (fW t) d S 0) (Classical.propDecidable _)
theorem Pr_t {t : Nat → Int32} {d : Nat → Nat} {S : Nat} : Pr t d S = true ↔ (sub_m t S ∧ Cn (fW t) d S 0) := by
  unfold Pr
  exact @decide_eq_true_iff (sub_m t S ∧ Cn (fW t) d S 0) (Classical.propDecidable _)
theorem mask {S : Nat} {x : Int32} {t : Nat → Int32} {n : Nat} (hn : n ≤ 10) (hS : S < 2 ^ n) (hx : ∀ k, k < 32 → (ib x k = 1 ↔ (k < n ∧ mayB t k))) : (nI S &&& (x ^^^ (-1)) = 0) ↔ sub_m t S := by
  constructor
  · intro h k hk hb
    have h1 : bt (nI S &&& (x ^^^ (-1))) k = bt 0 k := by rw [h]
    rw [b_and, b_xor, b_0, bt_n (by omega), hb, b_m1 k (by omega), Bool.true_and] at h1
    have h2 : bt x k = true := by
      cases hh : bt x k
      · rw [hh] at h1; exact absurd h1 (by decide)
      · rfl
    exact ((hx k (by omega)).mp (by rw [ib_bt, h2]; rfl)).2
  · intro h
    apply b_ext
    intro k hk
    rw [b_and, b_xor, b_0, bt_n hk, b_m1 k hk]
    cases hb : S.testBit k
    · rfl
    · have hkn := bit_lt hS hb
      have h1 := (hx k hk).mpr ⟨hkn, h k (by omega) hb⟩
      have h2 : bt x k = true := by
        cases hh : bt x k
        · rw [ib_bt, hh] at h1; exact absurd h1 (by decide)
        · rfl
      rw [h2]
      rfl
set_option maxHeartbeats 4000000 in
theorem resc12 (τ : SS) (hO : Ok (τ 1)) {n : Nat} (hn : n ≤ 10) (en : τ 1 17 = nI n) {w : Int32} (hw : ¬ wi w 0 2 = 0) : ∃ r τ', Fst (fun i => (bst (Pr (τ 1) (lr (τ 1))) (Ws (gW (τ 1))) (2 ^ n - 1)).testBit i = true ∧ fW (τ 1) i ≤ lr (τ 1) i ∧ Cn (fW (τ 1)) (lr (τ 1)) (rmS (bst (Pr (τ 1) (lr (τ 1))) (Ws (gW (τ 1))) (2 ^ n - 1)) i) (fW (τ 1) i)) 0 n r ∧ pX12_rescue τ w = some ((if w = 0 then nI (bst (Pr (τ 1) (lr (τ 1))) (Ws (gW (τ 1))) (2 ^ n - 1)) else if w = 1 then nI (Ws (gW (τ 1)) (bst (Pr (τ 1) (lr (τ 1))) (Ws (gW (τ 1))) (2 ^ n - 1))) else r), τ') ∧ τ' 1 = τ 1 ∧ (∀ j, j ≠ 5 → τ' 0 j = τ 0 j) ∧ ∀ x, x ≠ 0 → x ≠ 1 → x ≠ 3 → x ≠ 7 → τ' x = τ x := by
  obtain ⟨τ', p1, p2, p3, p4, p5⟩ := due12 τ hO hn en
  have n17 : (τ 1 17).toInt = n := by rw [en, nI_toInt (by omega)]
  have hp := pw_le n (by omega)
  have pos : 0 < 2 ^ n := Nat.pow_pos (by omega)
  have hO' : Ok (τ' 1) := by rw [p2]; exact hO
  have en' : τ' 1 17 = nI n := by rw [p2]; exact en
  have hdb : ∀ k, lr (τ 1) k ≤ 9999 := fun k => by
    unfold lr
    split
    · exact mn_le _ _ _ _
    · exact Nat.le_refl _
  have hcan : ∀ {S v : Nat}, S < 2 ^ n → v ≤ 60 → ∃ r, pX12_canAll τ' (nI S) (nI v) = some r ∧ (r = 0 ↔ ¬ Cn (fW (τ 1)) (lr (τ 1)) S v) := fun {S v} h1 h2 => by
    have := canAll12 τ' hO' hn en' (d := lr (τ 1)) p3 hdb (S := S) (w := v) h1 h2
    rw [p2] at this
    exact this
  have hwo : ∀ {S : Nat}, S < 2 ^ n → pX12_worthOf τ' (nI S) = some (nI (Ws (gW (τ 1)) S)) := fun {S} h1 => by
    have := wo12 τ' hO' hn en' h1
    rw [p2] at this
    exact this
  generalize hd : lr (τ 1) = d at *
  generalize hPost : (fun (o : Option (Int32 × SS)) => ∃ r τ', Fst (fun i => (bst (Pr (τ 1) d) (Ws (gW (τ 1))) (2 ^ n - 1)).testBit i = true ∧ fW (τ 1) i ≤ d i ∧ Cn (fW (τ 1)) d (rmS (bst (Pr (τ 1) d) (Ws (gW (τ 1))) (2 ^ n - 1)) i) (fW (τ 1) i)) 0 n r ∧ o = some ((if w = 0 then nI (bst (Pr (τ 1) d) (Ws (gW (τ 1))) (2 ^ n - 1)) else if w = 1 then nI (Ws (gW (τ 1)) (bst (Pr (τ 1) d) (Ws (gW (τ 1))) (2 ^ n - 1))) else r), τ') ∧ τ' 1 = τ 1 ∧ (∀ j, j ≠ 5 → τ' 0 j = τ 0 j) ∧ ∀ x, x ≠ 0 → x ≠ 1 → x ≠ 3 → x ≠ 7 → τ' x = τ x) = Post
  refine (congrFun hPost _).mpr ?_
  unfold pX12_rescue
  rw [in_eq, cr_s, if_neg hw, p1, cs_s]
  refine q_for (S := Int32) (R := Int32 × SS) (fun (f : Int32 → Int32 → Option (Int32 × SS)) s i => f s i) (m := 0) (n := n) (by omega) (by omega) (fun j x => ∀ k, k < 32 → (ib x k = 1 ↔ (k < j ∧ mayB (τ 1) k))) Post ?_ ?_ 0 (fun k hk => ⟨fun h => by rw [ib_0] at h; exact absurd h (by decide), fun h => by omega⟩)
  · intro F j x hj1 hj2 hx ih
    try dsimp only
    obtain ⟨-, -, t3, t4⟩ := hO.2.2.1 j (by omega)
    rw [Q1_17, p2, en, if_neg (by rw [nI_leS (by omega) (by omega)]; omega), ti_3 τ' (by omega), ti_4 τ' (by omega), cr_s, cr_s, p2]
    simp only [lt_n]
    rw [nI_s]
    by_cases hm : mayB (τ 1) j
    · rw [if_pos (by rw [hm.1, hm.2]; decide)]
      refine ih _ (fun k hk => ?_)
      rw [or_bit x (by omega)]
      by_cases hkj : k = j
      · subst hkj
        rw [if_pos rfl]
        exact ⟨fun _ => ⟨by omega, hm⟩, fun _ => rfl⟩
      · rw [if_neg hkj, hx k hk]
        exact ⟨fun h => ⟨by omega, h.2⟩, fun h => ⟨by omega, h.2⟩⟩
    · have hne : ¬ τ 1 (100 + 5 * j) + τ 1 (101 + 5 * j) = 0 := fun hh => by
        rcases t3 with a | a
        · rcases t4 with b | b
          · exact hm ⟨a, b⟩
          · rw [a, b] at hh; exact absurd hh (by decide)
        · rcases t4 with b | b
          · rw [a, b] at hh; exact absurd hh (by decide)
          · rw [a, b] at hh; exact absurd hh (by decide)
      rw [if_neg hne]
      have x0 : x ||| 0 = x := by
        apply b_ext
        intro i hi
        rw [b_or, b_0, Bool.or_false]
      rw [x0]
      refine ih _ (fun k hk => ?_)
      rw [hx k hk]
      refine ⟨fun h => ⟨by omega, h.2⟩, fun h => ⟨?_, h.2⟩⟩
      by_cases hkj : k = j
      · subst hkj
        exact absurd h.2 hm
      · omega
  · intro F x hx
    try dsimp only
    rw [Q1_17, p2, en, if_pos (by rw [nI_leS (by omega) (by omega)]; omega)]
    refine q_for (S := Int32) (R := Int32 × SS) (fun (f : Int32 → Int32 → Option (Int32 × SS)) s i => f s i) (m := 1) (n := 2 ^ n) (by omega) (by omega) (fun j b => b = nI (bst (Pr (τ 1) d) (Ws (gW (τ 1))) (j - 1))) Post ?_ ?_ 0 rfl
    · intro F2 j b hj1 hj2 hb ih
      subst hb
      try dsimp only
      have hl := bst_le (Pr (τ 1) d) (Ws (gW (τ 1))) (j - 1)
      have es := bst_s (Pr (τ 1) d) (Ws (gW (τ 1))) hj1
      generalize bst (Pr (τ 1) d) (Ws (gW (τ 1))) (j - 1) = B at hl es
      obtain ⟨r, c1, c2⟩ := hcan (S := j) (v := 0) hj2 (by omega)
      have b2 := Wg_b hO j
      have b3 := Wg_b hO B
      rw [Q1_17, en, sh_pow n (by omega), if_neg (by rw [nI_leS (by omega) (by omega)]; omega)]
      simp only [lt_n]
      rw [hwo hj2, hwo (show B < 2 ^ n by omega), cr_s, cr_s, show pX12_canAll τ' (nI j) 0 = some r from c1, cr_s, nI_s]
      have hms := mask (t := τ 1) hn hj2 hx
      by_cases g1 : nI j &&& (x ^^^ (-1)) = 0
      · rw [if_pos g1]
        by_cases g2 : Ws (gW (τ 1)) j ≤ Ws (gW (τ 1)) B
        · rw [if_pos ((nI_leS (by omega) (by omega)).mpr g2)]
          exact ih _ (by rw [es, if_neg (fun hh => by have := hh.2; omega)])
        · rw [if_neg (fun hh => g2 ((nI_leS (by omega) (by omega)).mp hh))]
          by_cases g3 : r = 0
          · rw [if_pos g3]
            exact ih _ (by rw [es, if_neg (fun hh => c2.mp g3 (Pr_t.mp hh.1).2)])
          · rw [if_neg g3]
            have hC : Cn (fW (τ 1)) d j 0 := Classical.byContradiction (fun h => g3 (c2.mpr h))
            exact ih _ (by rw [es, if_pos ⟨Pr_t.mpr ⟨hms.mp g1, hC⟩, by omega⟩])
      · rw [if_neg g1]
        exact ih _ (by rw [es, if_neg (fun hh => g1 (hms.mpr (Pr_t.mp hh.1).1))])
    · intro F2 b hb
      subst hb
      try dsimp only
      have hl := bst_le (Pr (τ 1) d) (Ws (gW (τ 1))) (2 ^ n - 1)
      rw [Q1_17, en, sh_pow n (by omega), if_pos (by rw [nI_leS (by omega) (by omega)]; omega)]
      generalize hB : bst (Pr (τ 1) d) (Ws (gW (τ 1))) (2 ^ n - 1) = B at hl hPost
      have hBn : B < 2 ^ n := by omega
      have fin : ∀ r, Fst (fun i => B.testBit i = true ∧ fW (τ 1) i ≤ d i ∧ Cn (fW (τ 1)) d (rmS B i) (fW (τ 1) i)) 0 n r → Post (if w = 0 then some (nI B, τ') else if w = 1 then some (nI (Ws (gW (τ 1)) B), τ') else some (r, τ')) := fun r hr => by
        rw [← hPost]
        refine ⟨r, τ', hr, ?_, p2, p4, p5⟩
        split
        · rfl
        · split <;> rfl
      refine q_for (S := Int32) (R := Int32 × SS) (fun (f : Int32 → Int32 → Option (Int32 × SS)) s i => f s i) (m := 0) (n := n) (by omega) (by omega) (fun j x => (x = -1 ∧ ∀ l, 0 ≤ l → l < j → ¬ (B.testBit l = true ∧ fW (τ 1) l ≤ d l ∧ Cn (fW (τ 1)) d (rmS B l) (fW (τ 1) l))) ∨ ∃ m, m ≤ n ∧ x = nI m ∧ (B.testBit m = true ∧ fW (τ 1) m ≤ d m ∧ Cn (fW (τ 1)) d (rmS B m) (fW (τ 1) m)) ∧ ∀ l, 0 ≤ l → l < m → ¬ (B.testBit l = true ∧ fW (τ 1) l ≤ d l ∧ Cn (fW (τ 1)) d (rmS B l) (fW (τ 1) l))) Post ?_ ?_ (-1) (Or.inl ⟨rfl, fun l _ hl => by omega⟩)
      · intro F3 j x hj1 hj2 hx3 ih
        try dsimp only
        rw [Q1_17, en]
        simp only [lt_n]
        rw [hwo hBn, cr_s, if_neg (by rw [nI_leS (by omega) (by omega)]; omega)]
        rcases hx3 with ⟨rfl, hl3⟩ | ⟨m, m2, rfl, m3, m4⟩
        · rw [if_neg (show ¬ (0 : Int32) ≤ -1 by decide), ti_1 τ' (by omega), cr_s, p2, fW_at hO (by omega), nI_s, shr_bit _ (by omega), rd_n _ _ (by omega), p3 j (by omega)]
          have hf := fW_b hO j
          have hdj := hdb j
          obtain ⟨r, c1, c2⟩ := hcan (S := rmS B j) (v := fW (τ 1) j) (Nat.lt_of_le_of_lt (rm_le B j) hBn) hf
          rw [rm_32 B (by omega) j (by omega), c1, cr_s]
          have skip : ¬ (B.testBit j = true ∧ fW (τ 1) j ≤ d j ∧ Cn (fW (τ 1)) d (rmS B j) (fW (τ 1) j)) → Post (F3 (-1) (nI (j + 1))) := fun hno => ih _ (Or.inl ⟨rfl, fun l h0 hlj hQ => by
            by_cases he : l = j
            · subst he; exact hno hQ
            · exact hl3 l h0 (by omega) hQ⟩)
          cases hbj : B.testBit j
          · rw [if_neg (fun hh => by rw [(ib_n1 (by omega)).mp hh] at hbj; exact absurd hbj (by decide))]
            exact skip (fun hQ => by rw [hbj] at hQ; exact absurd hQ.1 (by decide))
          · rw [if_pos ((ib_n1 (by omega)).mpr hbj)]
            by_cases g1 : d j < fW (τ 1) j
            · rw [if_pos ((nI_lt_big (by omega) (by omega)).mpr g1)]
              exact skip (fun hQ => by have := hQ.2.1; omega)
            · rw [if_neg (fun hh => g1 ((nI_lt_big (by omega) (by omega)).mp hh))]
              by_cases g2 : r = 0
              · rw [if_pos g2]
                exact skip (fun hQ => c2.mp g2 hQ.2.2)
              · rw [if_neg g2]
                have hC : Cn (fW (τ 1)) d (rmS B j) (fW (τ 1) j) := Classical.byContradiction (fun h => g2 (c2.mpr h))
                exact ih _ (Or.inr ⟨j, by omega, rfl, ⟨hbj, by omega, hC⟩, hl3⟩)
        · rw [if_pos (ge0 (by omega))]
          exact fin (nI m) (Or.inr ⟨m, by omega, m2, rfl, m3, m4⟩)
      · intro F3 x hx3
        try dsimp only
        rw [Q1_17, en]
        simp only [lt_n]
        rw [hwo hBn, cr_s, if_pos (by rw [nI_leS (by omega) (by omega)]; omega)]
        rcases hx3 with ⟨rfl, hl3⟩ | ⟨m, m2, rfl, m3, m4⟩
        · exact fin (-1) (Or.inl ⟨rfl, fun m h0 hm hQ => hl3 m h0 (bit_lt hBn hQ.1) hQ⟩)
        · exact fin (nI m) (Or.inr ⟨m, by omega, m2, rfl, m3, m4⟩)
/-! ===== both ===== -/
theorem lc_cut {t : Nat → Int32} {k : Nat} (hk : (k : Int) < (t 17).toInt) (hm : mayB t k) : lc t k = min (lr t k) 601 := by
  unfold lc lr
  rw [if_pos hk, if_pos (show t (100 + 5 * k) = 0 ∧ t (101 + 5 * k) = 0 from hm)]
  exact mn_cut t k 400
theorem lc_no {t : Nat → Int32} {k : Nat} (hm : ¬ mayB t k) : lc t k = 0 := by
  unfold lc
  rw [if_neg (show ¬ (t (100 + 5 * k) = 0 ∧ t (101 + 5 * k) = 0) from hm)]
  have := mn_le t k 0 400
  omega
theorem lc_b (t : Nat → Int32) (k : Nat) : lc t k ≤ 601 := by
  have h1 := mn_le t k (if t (100 + 5 * k) = 0 ∧ t (101 + 5 * k) = 0 then 601 else 0) 400
  have h2 : (if t (100 + 5 * k) = 0 ∧ t (101 + 5 * k) = 0 then 601 else 0) ≤ 601 := by split <;> omega
  unfold lc
  omega
theorem may_of {t : Nat → Int32} (hO : Ok t) {n S w : Nat} (n17 : (t 17).toInt = n) (hS : S < 2 ^ n) (hC : Cn (fW t) (lc t) S w) : sub_m t S := fun k hk hb => by
  have hkn := bit_lt hS hb
  have h1 := Cn_pos hC hk hb
  have h2 := fW_1 hO (k := k) (by omega)
  exact Classical.byContradiction (fun h => by
    rw [lc_no h] at h1
    omega)
theorem cut_iff {t : Nat → Int32} {n S w : Nat} (n17 : (t 17).toInt = n) (hS : S < 2 ^ n) (hm : sub_m t S) (hw : w + Ws (fW t) S ≤ 600) : Cn (fW t) (lr t) S w ↔ Cn (fW t) (lc t) S w :=
  Cn_cut (fun k hk hb => lc_cut (by have := bit_lt hS hb; omega) (hm k hk hb)) hw
theorem P_eq {t : Nat → Int32} (hO : Ok t) {n S : Nat} (n17 : (t 17).toInt = n) (hS : S < 2 ^ n) : Pc (fW t) (lc t) S = Pr t (lr t) S := by
  have hw : 0 + Ws (fW t) S ≤ 600 := by have := Wf_b hO S; omega
  have key : Pc (fW t) (lc t) S = true ↔ Pr t (lr t) S = true := by
    rw [Pc_t, Pr_t]
    exact ⟨fun h => ⟨may_of hO n17 hS h, (cut_iff n17 hS (may_of hO n17 hS h) hw).mpr h⟩, fun h => (cut_iff n17 hS h.1 hw).mp h.2⟩
  cases h1 : Pc (fW t) (lc t) S <;> cases h2 : Pr t (lr t) S
  · rfl
  · rw [h1, h2] at key; exact absurd (key.mpr rfl) (by decide)
  · rw [h1, h2] at key; exact absurd (key.mp rfl) (by decide)
  · rfl
set_option maxHeartbeats 4000000 in
theorem s_rescue : S_rescue Rel2 := by
  intro σ τ a1 h2
  have h := h2.1
  by_cases h1 : wi a1 0 2 = 0
  · unfold pX11_rescue pX12_rescue
    rw [within_eq, in_eq, cr_s, cr_s, if_pos h1, if_pos h1, tell_0, find_0, ci_s, ci_s]
    exact ⟨_, _, _, rfl, rfl, R2_tell h2 (by decide)⟩
  have hO := h.1.1
  have o2 := hO.1.2.1
  obtain ⟨n, hn, en⟩ := num_of (a := τ 1 17) (n := 10) o2.1 o2.2
  have n17 : (τ 1 17).toInt = n := by rw [en, nI_toInt (by omega)]
  have pos : 0 < 2 ^ n := Nat.pow_pos (by omega)
  have hp := pw_le n (by omega)
  obtain ⟨r', τ', k1, k2, k3, k4, k5⟩ := resc12 τ hO hn en h1
  unfold pX11_rescue
  rw [within_eq, cr_s, if_neg h1]
  obtain ⟨s1, l1, l2, l3⟩ := lims3 (s := q_ap 1 (q_sb σ 52) (q_ap 13 (q_sb σ 3) (q_ap 14 (q_sb σ 53) (q_sb σ 68)))) hO (CR_n3 h.1.2.1) hn en
  rw [l1, cs_s]
  have e52 : ∀ x, x < 52 → q_em (q_em (q_em (q_em σ 52 0 1 s1) 3 1 13 s1) 53 14 14 s1) 68 28 1 s1 x = σ x := fun x hx => by
    rw [em_out (by omega)]
    exact em3 σ (q_ap 14 (q_sb σ 53) (q_sb σ 68)) s1 l3 x hx
  have e68 : q_em (q_em (q_em (q_em σ 52 0 1 s1) 3 1 13 s1) 53 14 14 s1) 68 28 1 s1 68 = s1 28 := em_in 0 (by omega)
  have e69 : q_em (q_em (q_em (q_em σ 52 0 1 s1) 3 1 13 s1) 53 14 14 s1) 68 28 1 s1 69 = σ 69 := by rw [em_out (by omega), em_out (by omega), em_out (by omega), em_out (by omega)]
  have e70 : q_em (q_em (q_em (q_em σ 52 0 1 s1) 3 1 13 s1) 53 14 14 s1) 68 28 1 s1 70 = σ 70 := by rw [em_out (by omega), em_out (by omega), em_out (by omega), em_out (by omega)]
  generalize q_em (q_em (q_em (q_em σ 52 0 1 s1) 3 1 13 s1) 53 14 14 s1) 68 28 1 s1 = σ3 at e52 e68 e69 e70
  obtain ⟨d1, d2⟩ := h.1.2.1.2.2.2.1
  obtain ⟨u1, u2, u3⟩ := ch_cells σ3
  have e17 : σ 11 0 = τ 1 17 := (R_sc h).2.2.2.2.2.2.2.2.2.2.2.2.2.2.2.2.2.1
  have v2 : q_ap 2 (q_sb σ3 67) (q_ap 4 (q_sb σ3 11) (q_sb σ3 69)) 2 = σ 11 := (u2 0 (by omega)).trans (e52 _ (by omega))
  have v3 : q_ap 2 (q_sb σ3 67) (q_ap 4 (q_sb σ3 11) (q_sb σ3 69)) 3 = σ 12 := (u2 1 (by omega)).trans (e52 _ (by omega))
  have v4 : q_ap 2 (q_sb σ3 67) (q_ap 4 (q_sb σ3 11) (q_sb σ3 69)) 4 = σ 13 := (u2 2 (by omega)).trans (e52 _ (by omega))
  have v1 : q_ap 2 (q_sb σ3 67) (q_ap 4 (q_sb σ3 11) (q_sb σ3 69)) 1 = s1 28 := (u1 1 (by omega)).trans e68
  have v6 : q_ap 2 (q_sb σ3 67) (q_ap 4 (q_sb σ3 11) (q_sb σ3 69)) 6 = σ 69 := (u3 0).trans e69
  have v7 : q_ap 2 (q_sb σ3 67) (q_ap 4 (q_sb σ3 11) (q_sb σ3 69)) 7 = σ 70 := (u3 1).trans e70
  obtain ⟨r, s', p0, p1, p2, p3⟩ := lift1 (s := q_ap 2 (q_sb σ3 67) (q_ap 4 (q_sb σ3 11) (q_sb σ3 69))) (n := n) (f := fW (τ 1)) (g := gW (τ 1)) (l := lc (τ 1)) hn ⟨by rw [v2, e17, en], fun k hk => by
    rw [v4, ← fW_at hO (by omega)]
    exact (d1 k (by omega)).2.1, fun k hk => by rw [v1]; exact l2 k hk⟩ (fun k hk => by
    rw [v3, ← gW_at hO (by omega)]
    exact (d1 k (by omega)).1) (by rw [v6]; exact h2.2.1) (by rw [v7]; exact h2.2.2) (lc_b (τ 1)) (Wf_b hO) (fW_b hO) (fun S => by have := Wg_b hO S; omega) a1
  have hB : bst (Pc (fW (τ 1)) (lc (τ 1))) (Ws (gW (τ 1))) (2 ^ n - 1) = bst (Pr (τ 1) (lr (τ 1))) (Ws (gW (τ 1))) (2 ^ n - 1) := bst_c _ (fun j hj1 hj2 => P_eq hO n17 (by omega))
  have hBl := bst_le (Pc (fW (τ 1)) (lc (τ 1))) (Ws (gW (τ 1))) (2 ^ n - 1)
  have hBP := bst_P (P := Pc (fW (τ 1)) (lc (τ 1))) (w := Ws (gW (τ 1))) (2 ^ n - 1)
  rw [← hB] at k1 k2
  generalize bst (Pc (fW (τ 1)) (lc (τ 1))) (Ws (gW (τ 1))) (2 ^ n - 1) = B at hBl hBP k1 k2 p0 p1
  have hBn : B < 2 ^ n := by omega
  have hBC : Cn (fW (τ 1)) (lc (τ 1)) B 0 := by
    rcases hBP with e | e
    · rw [e]; exact Cn_0 _ _ _
    · exact Pc_t.mp e
  have hBm := may_of hO n17 hBn hBC
  have hQ : ∀ i, (B.testBit i = true ∧ Cn (fW (τ 1)) (lc (τ 1)) (rmS B i) (fW (τ 1) i)) ↔ (B.testBit i = true ∧ fW (τ 1) i ≤ lr (τ 1) i ∧ Cn (fW (τ 1)) (lr (τ 1)) (rmS B i) (fW (τ 1) i)) := fun i => by
    have mk : B.testBit i = true → (Cn (fW (τ 1)) (lr (τ 1)) (rmS B i) (fW (τ 1) i) ↔ Cn (fW (τ 1)) (lc (τ 1)) (rmS B i) (fW (τ 1) i)) := fun hb => by
      have hi : i < 10 := by have := bit_lt hBn hb; omega
      refine cut_iff n17 (Nat.lt_of_le_of_lt (rm_le B i) hBn) (fun k hk hbk => hBm k hk ?_) ?_
      · rw [rm_bit B hi hk] at hbk
        exact an_l hbk
      · have h3 := Ws_rm (f := fW (τ 1)) hi hb
        have h4 := Wf_b hO B
        omega
    constructor
    · rintro ⟨hb, hC⟩
      have hin := bit_lt hBn hb
      have h3 := Cn_pos hBC (show i < 10 by omega) hb
      have h4 := lc_cut (t := τ 1) (k := i) (by omega) (hBm i (by omega) hb)
      exact ⟨hb, by omega, (mk hb).mpr hC⟩
    · rintro ⟨hb, -, hC⟩
      exact ⟨hb, (mk hb).mp hC⟩
  have hr : r = r' := by
    refine Fst_u p0 ?_
    rcases k1 with ⟨e, x⟩ | ⟨m, m1, m2, e, x, y⟩
    · exact Or.inl ⟨e, fun m g1 g2 hh => x m g1 g2 ((hQ m).mp hh)⟩
    · exact Or.inr ⟨m, m1, m2, e, (hQ m).mpr x, fun l g1 g2 hh => y l g1 g2 ((hQ l).mp hh)⟩
  subst hr
  obtain ⟨m1, m2, m3⟩ := em5 σ3 s' (fun x hx => p3 x hx)
  have z0 : ∀ f : Nat → Nat, nI (Ws f 0) = 0 := fun f => by
    have : Ws f 0 = 0 := by
      unfold Ws
      have : us f (fun k => Nat.testBit 0 k) 10 ≤ us f (fun _ => false) 10 := us_le 10 (fun k _ h => by rw [Nat.zero_testBit] at h; exact h)
      have h2 : us f (fun _ => false) 10 = 0 := rfl
      omega
    rw [this]
    rfl
  rw [p1, ci_s, k2]
  refine ⟨_, _, _, rfl, rfl, R_same h (fun x hx => (m1 x (by omega)).trans (e52 x hx)) (fun j _ => by rw [k3]) (k4 3 (by decide)) (k4 7 (by decide)) (fun x hx => k5 x (by omega) (by omega) (by omega) (by omega)), by rw [m2, (p2 0 pos).1]; exact z0 _, by rw [m3, (p2 0 pos).2]; exact z0 _⟩
