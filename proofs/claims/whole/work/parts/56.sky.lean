/-! ===== a text is read ===== -/
def RS_st (c4 : SS → Int32 → Option (Int32 × SS)) (σ3 : SS) (x2_2 : Int32) : Option (Int32 × SS) := (if 12 ≤ x2_2 then q_cs (pX5_readToken (q_sb σ3 0)) (fun (τ : SS) => (q_em σ3 0 0 3 τ)) (fun (σ8 : SS) => some ((σ8 0 2), σ8)) else q_ci (pX5_readDeed σ3 x2_2) (fun (τ : SS) => τ) (fun (r10 : Int32) (σ9 : SS) => (if r10 = 0 then some ((σ9 0 2), σ9) else q_cs (pX5_readToken (q_sb σ9 0)) (fun (τ : SS) => (q_em σ9 0 0 3 τ)) (fun (σ12 : SS) => (if (σ12 0 1) = 0 then q_cs (pX7_addNext (q_sb σ12 3) (x2_2 + 1)) (fun (τ : SS) => (q_em σ12 3 0 4 τ)) (fun (σ15 : SS) => some ((-1 : Int32), σ15)) else (if (σ12 0 1) = 3 then c4 σ12 (x2_2 + 1) else some ((σ12 0 2), σ12)))))))
theorem readSky_u (s : SS) : pX5_readSky s = q_lp (fun _ _ => none) RS_st q_fu (su s 0 3 0) 0 := by
  unfold pX5_readSky
  rw [lt_v]
  rfl
def TA_st (c8 : SS → Option (Int32 × SS)) (σ7 : SS) : Option (Int32 × SS) := (if (σ7 0 9) = 3 then q_cs (pX12_next σ7) (fun (τ : SS) => τ) (fun (σ15 : SS) => q_ci (pX12_takesDeed σ15) (fun (τ : SS) => τ) (fun (r17 : Int32) (σ16 : SS) => (if r17 = 0 then q_zz 0 (some ((0 : Int32), σ16)) else c8 σ16))) else q_lt (fun (y12 : Int32) => q_zz y12 (some (y12, σ7))) (fun j13 => (if (σ7 0 9) = 0 then j13 1 else j13 0)))
theorem takesAll_u (τ : SS) : pX12_takesAll τ = q_cs (pX12_next (su (su τ 0 8 0) 0 13 0)) (fun (τ : SS) => τ) (fun (σ3 : SS) => q_ci (pX12_takesDeed σ3) (fun (τ : SS) => τ) (fun (r5 : Int32) (σ4 : SS) => (if r5 = 0 then q_zz 0 (some ((0 : Int32), σ4)) else q_lp (fun _ => none) TA_st q_fu σ4))) := rfl
/-- between two deeds -/
def SI (s0 τ0 : SS) (N c : Nat) (bs : Nat → Int32) (s τ : SS) (i p : Nat) : Prop := TS s N bs ∧ TT τ N bs ∧ p ≤ N ∧ s 0 3 = nI p ∧ τ 0 8 = nI p ∧ τ 0 13 = nI i ∧ s 3 0 = nI c ∧ (∀ x, x ≠ 0 → x ≠ 5 → x ≠ 6 → s x = s0 x) ∧ (∀ j, j < 12 * c → s 5 j = s0 5 j ∧ s 6 j = s0 6 j) ∧ (∀ x, x ≠ 0 → x ≠ 6 → τ x = τ0 x) ∧ (∀ j, j ≠ 8 → j ≠ 9 → j ≠ 10 → j ≠ 11 → j ≠ 13 → τ 0 j = τ0 0 j) ∧ ∀ l, l < i → s 5 (12 * c + l) = τ 6 (2 * l) ∧ s 6 (12 * c + l) = τ 6 (2 * l + 1) ∧ dOk (τ 6 (2 * l)) (τ 6 (2 * l + 1))
def FR (s0 τ0 : SS) (c : Nat) (s τ : SS) : Prop := (∀ j, j < 12 * c → s 5 j = s0 5 j ∧ s 6 j = s0 6 j) ∧ (∀ x, x ≠ 0 → x ≠ 6 → τ x = τ0 x) ∧ ∀ j, j ≠ 8 → j ≠ 9 → j ≠ 10 → j ≠ 11 → j ≠ 13 → τ 0 j = τ0 0 j
def RES (s0 τ0 : SS) (c : Nat) (o1 o2 : Option (Int32 × SS)) : Prop := (∃ s τ b, o1 = some (nI b, s) ∧ o2 = some (0, τ) ∧ b ≤ 100 ∧ τ 0 10 = nI b ∧ (∀ x, x ≠ 0 → x ≠ 5 → x ≠ 6 → s x = s0 x) ∧ FR s0 τ0 c s τ) ∨ (∃ s τ L, o1 = some (-1, s) ∧ o2 = some (1, τ) ∧ 1 ≤ L ∧ L ≤ 12 ∧ τ 0 13 = nI L ∧ s 3 0 = nI (c + 1) ∧ s 4 = upd (s0 4) c (nI L) ∧ (∀ x, x ≠ 0 → x ≠ 3 → x ≠ 4 → x ≠ 5 → x ≠ 6 → s x = s0 x) ∧ FR s0 τ0 c s τ ∧ ∀ l, l < L → s 5 (12 * c + l) = τ 6 (2 * l) ∧ s 6 (12 * c + l) = τ 6 (2 * l + 1) ∧ dOk (τ 6 (2 * l)) (τ 6 (2 * l + 1)))
set_option maxHeartbeats 8000000 in
theorem sky_run {s0 τ0 : SS} {N c : Nat} {bs : Nat → Int32} (hB : BB N bs) (hc : c < 6) : ∀ (k i n1 M p : Nat) (s τ : SS), i + k = 12 → k < n1 → k < M → SI s0 τ0 N c bs s τ i p → RES s0 τ0 c (q_lp (fun _ _ => none) RS_st n1 s (nI i)) (q_cs (pX12_next τ) (fun (τ : SS) => τ) (fun (σ3 : SS) => q_ci (pX12_takesDeed σ3) (fun (τ : SS) => τ) (fun (r5 : Int32) (σ4 : SS) => (if r5 = 0 then q_zz 0 (some ((0 : Int32), σ4)) else q_lp (fun _ => none) TA_st M σ4)))) := by
  have hN := hB.1
  intro k
  induction k with
  | zero =>
    intro i n1 M p s τ hi hn hM hS
    obtain ⟨S1, S2, S3, S4, S5, S6, S7, S8, S9, S10, S11, S12⟩ := hS
    obtain ⟨n, rfl⟩ : ∃ n, n1 = n + 1 := ⟨n1 - 1, by omega⟩
    have hi12 : i = 12 := by omega
    subst hi12
    obtain ⟨s1, a1, a2, a3, a4, a5, a6⟩ := tokE hN S1 S3 S4 (q := scan isBl bs (N - p) p) rfl
    obtain ⟨τ1, b1, b2, b3, b4, b5, b6⟩ := nxt12 hB S2 S3 S5 (q := scan isBl bs (N - p) p) rfl
    have hqb := scan_le isBl bs (N - p) p
    have e1 : q_lp (fun _ _ => none) RS_st (n + 1) s (nI 12) = some (nI (scan isBl bs (N - p) p), s1) := by
      show RS_st (q_lp (fun _ _ => none) RS_st n) s (nI 12) = _
      unfold RS_st
      rw [if_pos (show (12 : Int32) ≤ nI 12 by decide), a1, a4]
    have t13 : τ1 0 13 = 12 := by
      rw [b2.2 13 (by decide) (by decide) (by decide) (by decide)]
      exact S6
    have e2 : pX12_takesDeed τ1 = some (0, τ1) := by
      unfold pX12_takesDeed
      rw [if_pos t13, zz_b (Or.inl rfl)]
    rw [e1, b1, cs_s, e2, ci_s, if_pos rfl, zz_b (Or.inl rfl)]
    refine Or.inl ⟨s1, τ1, _, rfl, rfl, by omega, b4, fun x h0 h5 h6 => (a2 x h0).trans (S8 x h0 h5 h6), fun j hj => ?_, fun x h0 h6 => (b2.1 x h0).trans (S10 x h0 h6), fun j h8 h9 h10 h11 h13 => (b2.2 j h8 h9 h10 h11).trans (S11 j h8 h9 h10 h11 h13)⟩
    rw [a2 5 (by decide), a2 6 (by decide)]
    exact S9 j hj
  | succ k ih =>
    intro i n1 M p s τ hi hn hM hS
    obtain ⟨S1, S2, S3, S4, S5, S6, S7, S8, S9, S10, S11, S12⟩ := id hS
    obtain ⟨n, rfl⟩ : ∃ n, n1 = n + 1 := ⟨n1 - 1, by omega⟩
    obtain ⟨m, rfl⟩ : ∃ m, M = m + 1 := ⟨M - 1, by omega⟩
    have hi12 : i < 12 := by omega
    have eL : ∀ o, pX5_readDeed s (nI i) = some o → q_lp (fun _ _ => none) RS_st (n + 1) s (nI i) = (if o.1 = 0 then some ((o.2 0 2), o.2) else q_cs (pX5_readToken (q_sb o.2 0)) (fun (τ : SS) => (q_em o.2 0 0 3 τ)) (fun (σ12 : SS) => (if (σ12 0 1) = 0 then q_cs (pX7_addNext (q_sb σ12 3) (nI i + 1)) (fun (τ : SS) => (q_em σ12 3 0 4 τ)) (fun (σ15 : SS) => some ((-1 : Int32), σ15)) else (if (σ12 0 1) = 3 then q_lp (fun _ _ => none) RS_st n σ12 (nI i + 1) else some ((σ12 0 2), σ12))))) := fun o ho => by
      show RS_st (q_lp (fun _ _ => none) RS_st n) s (nI i) = _
      unfold RS_st
      rw [if_neg (fun hh => by have := (nI_leS (n := 12) (by omega) (by omega)).mp hh; omega), ho]
      rfl
    rcases phase hB S1 S2 S3 S4 S5 hi12 S6 hc S7 with ⟨s', τ', b, q1, q2, q3, q4, q5, q6, q7⟩ | ⟨s', τ', d, v, e, q1, q2, q3, q4, q5, q6, q7, q8, q9⟩
    · rw [eL _ q1, q2 _ _, if_pos rfl, if_pos rfl, zz_b (Or.inl rfl)]
      refine Or.inl ⟨s', τ', b, ?_, rfl, q5, q4, fun x h0 h5 h6 => (q6 x h0).trans (S8 x h0 h5 h6), fun j hj => ?_, fun x h0 h6 => (q7.1 x h0).trans (S10 x h0 h6), fun j h8 h9 h10 h11 h13 => (q7.2 j h8 h9 h10 h11).trans (S11 j h8 h9 h10 h11 h13)⟩
      · show some (s' 0 2, s') = _
        rw [q3]
      · rw [q6 5 (by decide), q6 6 (by decide)]
        exact S9 j hj
    · obtain ⟨L1, L2, L3, L4, L5, L6, L7⟩ := q9
      have hs' : TS s' N bs := ⟨by rw [q6 1 (by decide) (by decide) (by decide)]; exact S1.1, fun j hj => by rw [q6 2 (by decide) (by decide) (by decide)]; exact S1.2 j hj⟩
      have hq3b := scan_le isBl bs (N - e) e
      obtain ⟨q3v, hq3v⟩ : ∃ q, q = scan isBl bs (N - e) e := ⟨_, rfl⟩
      have hq3N : q3v ≤ N := by omega
      obtain ⟨hE3a, hE3b⟩ := tkE_b bs hq3N
      obtain ⟨s1, a1, a2, a3, a4, a5, a6⟩ := tokE hN hs' q4 q5 hq3v
      rw [← hq3v] at L5 L6 L7
      have ht' : TT τ' N bs := ⟨by rw [L2 7 (by decide) (by decide) (by decide) (by decide) (by decide)]; exact S2.1, fun j hj => by rw [L1 5 (by decide) (by decide)]; exact S2.2 j hj⟩
      -- what has been done so far
      have dd : ∀ l, l < i + 1 → s1 5 (12 * c + l) = τ' 6 (2 * l) ∧ s1 6 (12 * c + l) = τ' 6 (2 * l + 1) ∧ dOk (τ' 6 (2 * l)) (τ' 6 (2 * l + 1)) := fun l hl => by
        rw [a2 5 (by decide), a2 6 (by decide), q7, q8, L4]
        by_cases hli : l = i
        · subst hli
          rw [upd_at, upd_at, upd_ne (show 2 * l ≠ 2 * l + 1 by omega), upd_at, upd_at]
          exact ⟨rfl, rfl, q3⟩
        · rw [upd_ne (show 12 * c + l ≠ 12 * c + i by omega), upd_ne (show 12 * c + l ≠ 12 * c + i by omega), upd_ne (show 2 * l ≠ 2 * i + 1 by omega), upd_ne (show 2 * l ≠ 2 * i by omega), upd_ne (show 2 * l + 1 ≠ 2 * i + 1 by omega), upd_ne (show 2 * l + 1 ≠ 2 * i by omega)]
          exact S12 l (by omega)
      have f5 : ∀ j, j < 12 * c → s1 5 j = s0 5 j ∧ s1 6 j = s0 6 j := fun j hj => by
        rw [a2 5 (by decide), a2 6 (by decide), q7, q8, upd_ne (by omega), upd_ne (by omega)]
        exact S9 j hj
      have fx : ∀ x, x ≠ 0 → x ≠ 5 → x ≠ 6 → s1 x = s0 x := fun x h0 h5 h6 => by rw [a2 x h0, q6 x h0 h5 h6, S8 x h0 h5 h6]
      have tx : ∀ x, x ≠ 0 → x ≠ 6 → τ' x = τ0 x := fun x h0 h6 => by rw [L1 x h0 h6, S10 x h0 h6]
      have tj : ∀ j, j ≠ 8 → j ≠ 9 → j ≠ 10 → j ≠ 11 → j ≠ 13 → τ' 0 j = τ0 0 j := fun j h8 h9 h10 h11 h13 => by rw [L2 j h8 h9 h10 h11 h13, S11 j h8 h9 h10 h11 h13]
      have e30 : s1 3 0 = nI c := by rw [a2 3 (by decide), q6 3 (by decide) (by decide) (by decide)]; exact S7
      rw [eL _ q1, q2 _ _, if_neg (show ¬ (1 : Int32) = 0 by decide), if_neg (show ¬ ((1 : Int32), s').1 = 0 from (by decide : ¬ (1 : Int32) = 0)), a1, nI_s, show q_lp (fun _ => none) TA_st (m + 1) τ' = TA_st (q_lp (fun _ => none) TA_st m) τ' from rfl]
      unfold TA_st
      rw [a3, L5]
      by_cases h3 : tkT bs N q3v = 3
      · rw [if_neg (show ¬ tkT bs N q3v = 0 by rw [h3]; decide), if_pos h3, if_pos h3]
        exact ih (i + 1) n m (tkE bs N q3v) s1 τ' (by omega) (by omega) (by omega) ⟨TS_x hs' a2, ht', hE3b, a5, L7, L3, e30, fx, f5, tx, tj, dd⟩
      · rw [if_neg h3, if_neg h3]
        by_cases h0 : tkT bs N q3v = 0
        · rw [if_pos h0, lt_v, if_pos h0]
          have A : pX7_addNext (q_sb s1 3) (nI (i + 1)) = some (su (su (q_sb s1 3) 1 c (nI (i + 1))) 0 0 (nI (c + 1))) := by
            unfold pX7_addNext
            have e30' : q_sb s1 3 0 0 = nI c := e30
            rw [e30', wr_n _ _ _ _ (by omega), lt_v, show su (q_sb s1 3) 1 c (nI (i + 1)) 0 0 = nI c from e30', nI_s]
          rw [A, cs_s, em_su _ _ _ _ (by decide), em_su _ _ _ _ (by decide), em_self]
          refine Or.inr ⟨_, τ', i + 1, rfl, rfl, by omega, by omega, L3, rfl, ?_, fun x h0 h3 h4 h5 h6 => ?_, ⟨f5, tx, tj⟩, dd⟩
          · show upd (s1 4) c (nI (i + 1)) = _
            rw [fx 4 (by decide) (by decide) (by decide)]
          · rw [ud_ne _ _ _ (by omega), ud_ne _ _ _ (by omega), fx x h0 h5 h6]
        · rw [if_neg h0, lt_v, if_neg h0]
          refine Or.inl ⟨s1, τ', q3v, by rw [a4], rfl, by omega, L6, fx, f5, tx, tj⟩
theorem first_SI {σ τ : SS} (h : Rel σ τ) {c : Nat} (ec : τ 1 18 = nI c) : ∃ N bs, BB N bs ∧ SI (q_ap 1 (q_sb σ 42) (q_ap 2 (q_sb σ 40) (q_sb σ 16))) τ N c bs (su (q_ap 1 (q_sb σ 42) (q_ap 2 (q_sb σ 40) (q_sb σ 16))) 0 3 0) (su (su τ 0 8 0) 0 13 0) 0 0 := by
  obtain ⟨t1, t2, t3⟩ := h.2.2.2.2.1
  obtain ⟨N, hN, eN⟩ := num_of (a := τ 0 7) (n := 100) t2.1 t2.2
  have n7 : (τ 0 7).toInt = N := by rw [eN, nI_toInt (by omega)]
  have c1 : q_ap 1 (q_sb σ 42) (q_ap 2 (q_sb σ 40) (q_sb σ 16)) 1 = σ 40 := (ap_hi 0).trans (ap_lo (by omega))
  have c2 : q_ap 1 (q_sb σ 42) (q_ap 2 (q_sb σ 40) (q_sb σ 16)) 2 = σ 41 := (ap_hi 1).trans (ap_lo (by omega))
  have c3 : q_ap 1 (q_sb σ 42) (q_ap 2 (q_sb σ 40) (q_sb σ 16)) 3 = σ 16 := (ap_hi 2).trans (ap_hi 0)
  have e18 : σ 16 0 = τ 1 18 := h.1.2.2.1.1
  refine ⟨N, τ 5, ⟨hN, fun i hi => (t3 i (by omega)).2⟩, ⟨?_, fun i hi => ?_⟩, ⟨?_, fun i hi => rfl⟩, by omega, rfl, rfl, rfl, ?_, fun x h0 _ _ => ud_ne _ _ _ h0, fun j _ => ⟨rfl, rfl⟩, fun x h0 _ => (ud_ne _ _ _ h0).trans (ud_ne _ _ _ h0), fun j h8 _ _ _ h13 => ?_, fun l hl => by omega⟩
  · show q_ap 1 (q_sb σ 42) (q_ap 2 (q_sb σ 40) (q_sb σ 16)) 1 1 = _
    rw [c1, t1, eN]
  · show q_ap 1 (q_sb σ 42) (q_ap 2 (q_sb σ 40) (q_sb σ 16)) 2 i = _
    rw [c2]
    exact (t3 i (by omega)).1
  · exact eN
  · show q_ap 1 (q_sb σ 42) (q_ap 2 (q_sb σ 40) (q_sb σ 16)) 3 0 = _
    rw [c3, e18, ec]
  · show upd (upd (τ 0) 8 0) 13 0 j = _
    rw [upd_ne h13, upd_ne h8]
/-- the row with a sky more -/
def skyR (t u : Nat → Int32) (c L k : Nat) : Nat → Int32 := fun j => if j = 147 + 25 * c then nI L else if 148 + 25 * c ≤ j ∧ j < 148 + 25 * c + k then u (j - (148 + 25 * c)) else t j
theorem lay_sky {τ : SS} {c L : Nat} (hc : c < 6) (hL : L ≤ 12) (e18 : τ 1 18 = nI c) (e13 : τ 0 13 = nI L) : q_lp (fun _ _ => none) (fun (c12 : SS → Int32 → Option (Int32 × SS)) (σ11 : SS) (x3_10 : Int32) => (if (2 * (σ11 0 13)) ≤ x3_10 then q_rd (σ11 1) 307 18 (fun v16 => q_wr σ11 1 307 18 (v16 + 1) (fun σ17 => q_rd (σ17 1) 307 18 (fun v18 => some ((v18 - 1), σ17)))) else q_rd (σ11 6) 26 x3_10 (fun v19 => q_wr σ11 1 307 ((nI (147 + 25 * c) + 1) + x3_10) v19 (fun σ20 => c12 σ20 (x3_10 + 1))))) q_fu (su τ 1 (147 + 25 * c) (nI L)) 0 = some (nI c, q_sc τ 1 (upd (skyR (τ 1) (τ 6) c L (2 * L)) 18 (nI (c + 1)))) := by
  refine q_for (S := SS) (R := Int32 × SS) (fun (f : SS → Int32 → Option (Int32 × SS)) s i => f s i) (m := 0) (n := 2 * L) (by omega) (by omega) (fun k b => b = q_sc τ 1 (skyR (τ 1) (τ 6) c L k)) (fun o => o = some (nI c, q_sc τ 1 (upd (skyR (τ 1) (τ 6) c L (2 * L)) 18 (nI (c + 1))))) ?_ ?_ _ ?_
  · intro F k b hk1 hk2 hb ih
    subst hb
    try dsimp only
    rw [show q_sc τ 1 (skyR (τ 1) (τ 6) c L k) 0 13 = nI L from e13, show (2 : Int32) * nI L = nI (2 * L) from pk_mul 2 L, if_neg (by rw [nI_leS (by omega) (by omega)]; omega), rd_n _ _ (by omega), show nI (147 + 25 * c) + 1 = nI (147 + 25 * c + 1) from nI_s _, nI_add, wr_n _ _ _ _ (by omega), nI_s, sc_su]
    refine ih _ ?_
    congr 1
    funext j
    show upd (skyR (τ 1) (τ 6) c L k) (147 + 25 * c + 1 + k) (τ 6 k) j = skyR (τ 1) (τ 6) c L (k + 1) j
    unfold skyR
    by_cases hj : j = 147 + 25 * c + 1 + k
    · subst hj
      rw [upd_at, if_neg (by omega), if_pos (by omega), show 147 + 25 * c + 1 + k - (148 + 25 * c) = k by omega]
    · rw [upd_ne hj]
      by_cases h1 : j = 147 + 25 * c
      · rw [if_pos h1, if_pos h1]
      · rw [if_neg h1, if_neg h1]
        by_cases h2 : 148 + 25 * c ≤ j ∧ j < 148 + 25 * c + k
        · rw [if_pos h2, if_pos (by omega)]
        · rw [if_neg h2, if_neg (by omega)]
  · intro F b hb
    subst hb
    try dsimp only
    have r18 : skyR (τ 1) (τ 6) c L (2 * L) 18 = nI c := by
      unfold skyR
      rw [if_neg (by omega), if_neg (by omega)]
      exact e18
    rw [show q_sc τ 1 (skyR (τ 1) (τ 6) c L (2 * L)) 0 13 = nI L from e13, show (2 : Int32) * nI L = nI (2 * L) from pk_mul 2 L, if_pos (by rw [nI_leS (by omega) (by omega)]; omega), sc_at, Q1_18, r18, nI_s, W1_18, sc_sc, sc_at, sc_at, Q1_18, upd_at, show nI (c + 1) - 1 = nI c from pk_sub (a := c + 1) (b := 1) (by omega)]
  · rw [su_sc]
    congr 1
    funext j
    unfold skyR
    by_cases h1 : j = 147 + 25 * c
    · rw [if_pos h1, h1, upd_at]
    · rw [if_neg h1, if_neg (by omega), upd_ne h1]
set_option maxHeartbeats 8000000 in
theorem s_sky : S_sky Rel := by
  intro σ τ h
  have R1 : Rel (su σ 1 1 (σ 1 1 + 1)) (su τ 4 1 (τ 4 1 + 1)) := R_tell h (by decide)
  have o3 := h.1.1.1.2.2.1
  obtain ⟨c, hc6, ec⟩ := num_of (a := τ 1 18) (n := 6) o3.1 o3.2
  have n18 : (τ 1 18).toInt = c := by rw [ec, nI_toInt (by omega)]
  have e18 : σ 16 0 = τ 1 18 := h.1.2.2.1.1
  unfold pX11_sky pX12_sky
  rw [e18, Q1_18, ec, tell_1, find_1, ci_s, ci_s]
  by_cases h6 : c = 6
  · subst h6
    rw [if_neg (show ¬ nI 6 < 6 by decide), if_pos (show nI 6 = 6 from rfl)]
    exact ⟨_, _, _, rfl, rfl, R1⟩
  have hc : c < 6 := by omega
  rw [if_pos (show nI c < 6 from (nI_ltS (m := 6) (by omega) (by omega)).mpr hc), if_neg (show ¬ nI c = 6 from fun hh => by
    have := i_eq.mp hh
    rw [nI_toInt (by omega), show (6 : Int32).toInt = 6 from rfl] at this
    omega)]
  obtain ⟨N, bs, hB, hSI⟩ := first_SI h ec
  have hrun := sky_run hB hc 12 0 q_fu q_fu 0 _ _ rfl (fu_lt (by omega)) (fu_lt (by omega)) hSI
  rw [readSky_u, takesAll_u]
  have d4 : ∀ i, i < 4 → q_ap 1 (q_sb σ 42) (q_ap 2 (q_sb σ 40) (q_sb σ 16)) (3 + i) = σ (16 + i) := fun i hi => by
    rw [show 3 + i = 1 + (2 + i) by omega, ap_hi, ap_hi]
    rfl
  have d2 : ∀ i, i < 2 → q_ap 1 (q_sb σ 42) (q_ap 2 (q_sb σ 40) (q_sb σ 16)) (1 + i) = σ (40 + i) := fun i hi => by
    rw [ap_hi, ap_lo hi]
    rfl
  -- the class's cells behind it
  have far : ∀ (s : SS) (x : Nat), (x < 16 ∨ (20 ≤ x ∧ x < 40) ∨ 43 ≤ x) → q_em (q_em (q_em σ 42 0 1 s) 40 1 2 s) 16 3 4 s x = σ x := fun s x hx => by rw [em_out (by omega), em_out (by omega), em_out (by omega)]
  have sk : ∀ (s : SS) (i : Nat), i < 4 → q_em (q_em (q_em σ 42 0 1 s) 40 1 2 s) 16 3 4 s (16 + i) = s (3 + i) := fun s i hi => em_in i hi
  have tp : ∀ (s : SS) (i : Nat), i < 2 → q_em (q_em (q_em σ 42 0 1 s) 40 1 2 s) 16 3 4 s (40 + i) = s (1 + i) := fun s i hi => by rw [em_out (by omega), em_in i hi]
  have kOld := h.1.2.2.1.2
  -- earlier skies stay
  have old : ∀ (s : SS), (∀ j, j < 12 * c → s 5 j = q_ap 1 (q_sb σ 42) (q_ap 2 (q_sb σ 40) (q_sb σ 16)) 5 j ∧ s 6 j = q_ap 1 (q_sb σ 42) (q_ap 2 (q_sb σ 40) (q_sb σ 16)) 6 j) → ∀ j, j < 12 * c → s 5 j = σ 18 j ∧ s 6 j = σ 19 j := fun s hs j hj => by
    obtain ⟨x1, x2⟩ := hs j hj
    rw [x1, x2, show q_ap 1 (q_sb σ 42) (q_ap 2 (q_sb σ 40) (q_sb σ 16)) 5 = σ 18 from d4 2 (by omega), show q_ap 1 (q_sb σ 42) (q_ap 2 (q_sb σ 40) (q_sb σ 16)) 6 = σ 19 from d4 3 (by omega)]
    exact ⟨rfl, rfl⟩
  rcases hrun with ⟨s, τ', b, r1, r2, r3, r4, r5, r6, r7, r8⟩ | ⟨s, τ', L, r1, r2, r3, r3b, r4, r5, r5b, r6, ⟨r7, r8, r9⟩, r10⟩
  · rw [show q_lp (fun _ _ => none) RS_st q_fu (su (q_ap 1 (q_sb σ 42) (q_ap 2 (q_sb σ 40) (q_sb σ 16))) 0 3 0) 0 = some (nI b, s) from r1, r2, ci_s, ci_s, lt_v, lt_v, lt_v, if_neg (nI_m1 (show b < 2 ^ 31 by omega)), if_pos rfl]
    have e10 : su τ' 0 7 0 0 10 = nI b := r4
    rw [e10]
    refine ⟨_, _, _, rfl, rfl, ?_⟩
    have kk := old s r6
    refine R_tp (σ := q_em (q_em (q_em σ 42 0 1 s) 40 1 2 s) 16 3 4 s) (τ := τ') ?_ (fun x hx => ud_ne _ _ _ (by omega)) rfl (fun x h0 _ => ud_ne _ _ _ h0) ⟨rfl, by show 0 ≤ (0 : Int32).toInt ∧ (0 : Int32).toInt ≤ 100; decide, fun i hi => by have hi : (i : Int) < (0 : Int32).toInt := hi; rw [show (0 : Int32).toInt = 0 from rfl] at hi; omega⟩
    have t1 : τ' 1 = τ 1 := r7 1 (by decide) (by decide)
    refine R_house h ⟨by rw [t1]; exact h.1.1, ?_, ?_, ?_, ?_⟩ (fun x hx => ?_) (r8 3 (by decide) (by decide) (by decide) (by decide) (by decide)) (r8 7 (by decide) (by decide) (by decide) (by decide) (by decide)) (fun x hx => r7 x (by omega) (by omega))
    · rw [t1]
      exact CR_congr (c' := q_sb σ 3) (fun x hx => far s _ (by omega)) h.1.2.1
    · rw [t1]
      refine ⟨?_, fun y hy => ?_⟩
      · show q_em (q_em (q_em σ 42 0 1 s) 40 1 2 s) 16 3 4 s (16 + 0) 0 = _
        rw [sk s 0 (by omega), r5 _ (by decide) (by decide) (by decide), d4 0 (by omega)]
        exact e18
      · obtain ⟨k1, k2, k3⟩ := kOld y hy
        have k1 : σ 17 y = _ := k1
        have e1 : q_sb (q_em (q_em (q_em σ 42 0 1 s) 40 1 2 s) 16 3 4 s) (2 + 14) 1 = σ 17 := by
          show q_em (q_em (q_em σ 42 0 1 s) 40 1 2 s) 16 3 4 s (16 + 1) = _
          rw [sk s 1 (by omega), r5 _ (by decide) (by decide) (by decide), d4 1 (by omega)]
        have e2 : q_sb (q_em (q_em (q_em σ 42 0 1 s) 40 1 2 s) 16 3 4 s) (2 + 14) 2 = s 5 := sk s 2 (by omega)
        have e3 : q_sb (q_em (q_em (q_em σ 42 0 1 s) 40 1 2 s) 16 3 4 s) (2 + 14) 3 = s 6 := sk s 3 (by omega)
        rw [e1, e2, e3]
        refine ⟨k1, k2, fun i hi => ?_⟩
        obtain ⟨x1, x2⟩ := kk (12 * y + i) (by omega)
        rw [x1, x2]
        exact k3 i hi
    · rw [t1]
      show PRel (q_em (q_em (q_em σ 42 0 1 s) 40 1 2 s) 16 3 4 s 20) _
      rw [far s 20 (by omega)]
      exact h.1.2.2.2.1
    · rw [t1, far s 2 (by omega)]
      exact h.1.2.2.2.2
    · by_cases hx40 : x = 40 ∨ x = 41
      · rcases hx40 with rfl | rfl
        · rw [show q_em (q_em (q_em σ 42 0 1 s) 40 1 2 s) 16 3 4 s 40 = s 1 from tp s 0 (by omega), r5 1 (by decide) (by decide) (by decide)]
          exact d2 0 (by omega)
        · rw [show q_em (q_em (q_em σ 42 0 1 s) 40 1 2 s) 16 3 4 s 41 = s 2 from tp s 1 (by omega), r5 2 (by decide) (by decide) (by decide)]
          exact d2 1 (by omega)
      · exact far s x (by omega)
  · rw [show q_lp (fun _ _ => none) RS_st q_fu (su (q_ap 1 (q_sb σ 42) (q_ap 2 (q_sb σ 40) (q_sb σ 16))) 0 3 0) 0 = some (-1, s) from r1, r2, ci_s, ci_s, lt_v, lt_v, lt_v, if_pos rfl, if_neg (show ¬ (1 : Int32) = 0 by decide)]
    have t1 : τ' 1 = τ 1 := r8 1 (by decide) (by decide)
    have v18 : su τ' 0 7 0 1 18 = nI c := by
      show τ' 1 18 = _
      rw [t1]
      exact ec
    rw [Q1_18, v18, show (147 : Int32) + 25 * nI c = nI (147 + 25 * c) by rw [show (147 : Int32) = nI 147 from rfl, show (25 : Int32) = nI 25 from rfl, pk_mul, nI_add], lt_v, wr_n _ _ _ _ (by omega), show su τ' 0 7 0 0 13 = nI L from r4, lay_sky hc (by omega) v18 (show su τ' 0 7 0 0 13 = nI L from r4)]
    have w1 : su (q_em (q_em (q_em σ 42 0 1 s) 40 1 2 s) 16 3 4 s) 40 1 0 16 0 - 1 = nI c := by
      show q_em (q_em (q_em σ 42 0 1 s) 40 1 2 s) 16 3 4 s (16 + 0) 0 - 1 = _
      rw [sk s 0 (by omega), show s (3 + 0) 0 = nI (c + 1) from r5]
      exact pk_sub (a := c + 1) (b := 1) (by omega)
    rw [w1]
    refine ⟨_, _, _, rfl, rfl, ?_⟩
    have kk := old s r7
    have row : q_sc (su τ' 0 7 0) 1 (upd (skyR (su τ' 0 7 0 1) (su τ' 0 7 0 6) c L (2 * L)) 18 (nI (c + 1))) 1 = upd (skyR (τ 1) (τ' 6) c L (2 * L)) 18 (nI (c + 1)) := by
      rw [sc_at, show su τ' 0 7 0 1 = τ' 1 from rfl, show su τ' 0 7 0 6 = τ' 6 from rfl, t1]
    generalize hrr : upd (skyR (τ 1) (τ' 6) c L (2 * L)) 18 (nI (c + 1)) = t' at row
    have lo : ∀ j, j < 147 → j ≠ 18 → t' j = τ 1 j := fun j hj h18 => by
      rw [← hrr, upd_ne h18]
      unfold skyR
      rw [if_neg (by omega), if_neg (by omega)]
    have t18 : t' 18 = nI (c + 1) := by rw [← hrr]; exact upd_at
    have hiR : ∀ j, 147 ≤ j → (j < 147 + 25 * c ∨ 172 + 25 * c ≤ j) → t' j = τ 1 j := fun j hj h2 => by
      rw [← hrr, upd_ne (by omega)]
      unfold skyR
      rw [if_neg (by omega), if_neg (by omega)]
    have tL : t' (147 + 25 * c) = nI L := by
      rw [← hrr, upd_ne (by omega)]
      unfold skyR
      rw [if_pos rfl]
    have tD : ∀ l, l < L → t' (148 + 25 * c + 2 * l) = τ' 6 (2 * l) ∧ t' (149 + 25 * c + 2 * l) = τ' 6 (2 * l + 1) := fun l hl => by
      rw [← hrr, upd_ne (by omega), upd_ne (by omega)]
      unfold skyR
      rw [if_neg (by omega), if_pos (by omega), if_neg (by omega), if_pos (by omega), show 148 + 25 * c + 2 * l - (148 + 25 * c) = 2 * l by omega, show 149 + 25 * c + 2 * l - (148 + 25 * c) = 2 * l + 1 by omega]
      exact ⟨rfl, rfl⟩
    have n18' : (t' 18).toInt = c + 1 := by rw [t18, nI_toInt (by omega)]; omega
    -- Ok of the row
    have hOk : Ok t' := by
      obtain ⟨o1, o2, o3, o4⟩ := h.1.1
      have h16 := o1.1
      have h17 := o1.2.1
      refine ⟨?_, fun w hw => ?_, fun k hk => ?_, fun w hw => ?_⟩
      · unfold OkS
        rw [lo 16 (by decide) (by decide), lo 17 (by decide) (by decide), lo 9 (by decide) (by decide), lo 6 (by decide) (by decide), lo 19 (by decide) (by decide), lo 14 (by decide) (by decide), lo 15 (by decide) (by decide), lo 10 (by decide) (by decide), lo 4 (by decide) (by decide), lo 0 (by decide) (by decide), lo 1 (by decide) (by decide), lo 2 (by decide) (by decide), lo 5 (by decide) (by decide)]
        exact ⟨o1.1, o1.2.1, by omega, o1.2.2.2⟩
      · rw [lo 16 (by decide) (by decide)] at hw
        rw [lo (65 + 4 * w) (by omega) (by omega), lo (66 + 4 * w) (by omega) (by omega), lo (67 + 4 * w) (by omega) (by omega)]
        exact o2 w hw
      · rw [lo 17 (by decide) (by decide)] at hk
        rw [lo (97 + 5 * k) (by omega) (by omega), lo (98 + 5 * k) (by omega) (by omega), lo (100 + 5 * k) (by omega) (by omega), lo (101 + 5 * k) (by omega) (by omega)]
        exact o3 k hk
      · rw [lo (21 + w) (by omega) (by omega)]
        exact o4 w hw
    have hCR : ∀ c1 : SS, (∀ x, x < 13 → c1 x = q_sb σ 3 x) → CRel c1 t' := fun c1 hx => by
      have o := h.1.1.1
      have e : CRel c1 (upd t' 18 (τ 1 18)) := CR_lo o hx (fun j hj => by
        by_cases h18 : j = 18
        · subst h18; exact upd_at
        · rw [upd_ne h18]; exact lo j hj h18) h.1.2.1
      have h16 := o.1
      have h17 := o.2.1
      obtain ⟨e1, e2, e3, ⟨e4, e5⟩, e6⟩ := e
      have l16 := lo 16 (by decide) (by decide)
      have l17 := lo 17 (by decide) (by decide)
      refine ⟨e1, fun i hi hi2 => ?_, fun w hw => ?_, ⟨fun w hw => ?_, fun w hw => ?_⟩, fun w hw => ?_⟩
      · have := e2 i hi hi2
        rw [upd_ne (by omega)] at this
        exact this
      · have := e3 w hw
        rw [upd_ne (by omega), upd_ne (by omega), upd_ne (by omega), upd_ne (by omega)] at this
        exact this
      · have := e4 w hw
        rw [upd_ne (by omega), upd_ne (by omega), upd_ne (by omega), upd_ne (by omega), upd_ne (by omega)] at this
        exact this
      · exact e5 w hw
      · have := e6 w hw
        rw [upd_ne (by omega)] at this
        exact this
    refine R_tp (σ := q_em (q_em (q_em σ 42 0 1 s) 40 1 2 s) 16 3 4 s) (τ := q_sc τ' 1 t') ?_ (fun x hx => ud_ne _ _ _ (by omega)) rfl (fun x h0 _ => ?_) ⟨rfl, by show 0 ≤ (0 : Int32).toInt ∧ (0 : Int32).toInt ≤ 100; decide, fun i hi => by have hi : (i : Int) < (0 : Int32).toInt := hi; rw [show (0 : Int32).toInt = 0 from rfl] at hi; omega⟩
    · refine R_house h ⟨hOk, hCR _ (fun x hx => far s _ (by omega)), ⟨?_, fun y hy => ?_⟩, fun j hj => ?_, ?_⟩ (fun x hx => ?_) (r9 3 (by decide) (by decide) (by decide) (by decide) (by decide)) (r9 7 (by decide) (by decide) (by decide) (by decide) (by decide)) (fun x hx => (if_neg (by omega)).trans (r8 x (by omega) (by omega)))
      · show q_em (q_em (q_em σ 42 0 1 s) 40 1 2 s) 16 3 4 s (16 + 0) 0 = t' 18
        rw [sk s 0 (by omega), t18]
        exact r5
      · have hy : (y : Int) < (t' 18).toInt := hy
        have e1 : q_sb (q_em (q_em (q_em σ 42 0 1 s) 40 1 2 s) 16 3 4 s) (2 + 14) 1 = upd (σ 17) c (nI L) := by
          show q_em (q_em (q_em σ 42 0 1 s) 40 1 2 s) 16 3 4 s (16 + 1) = _
          rw [sk s 1 (by omega), show s (3 + 1) = _ from r5b, show q_ap 1 (q_sb σ 42) (q_ap 2 (q_sb σ 40) (q_sb σ 16)) 4 = σ 17 from d4 1 (by omega)]
        have e2 : q_sb (q_em (q_em (q_em σ 42 0 1 s) 40 1 2 s) 16 3 4 s) (2 + 14) 2 = s 5 := sk s 2 (by omega)
        have e3 : q_sb (q_em (q_em (q_em σ 42 0 1 s) 40 1 2 s) 16 3 4 s) (2 + 14) 3 = s 6 := sk s 3 (by omega)
        rw [e1, e2, e3]
        show upd (σ 17) c (nI L) y = t' (147 + 25 * y) ∧ (1 ≤ (t' (147 + 25 * y)).toInt ∧ (t' (147 + 25 * y)).toInt ≤ 12) ∧ ∀ i : Nat, (i : Int) < (t' (147 + 25 * y)).toInt → s 5 (12 * y + i) = t' (148 + 25 * y + 2 * i) ∧ s 6 (12 * y + i) = t' (149 + 25 * y + 2 * i) ∧ dOk (t' (148 + 25 * y + 2 * i)) (t' (149 + 25 * y + 2 * i))
        by_cases hyc : y = c
        · subst hyc
          rw [upd_at, tL, nI_toInt (by omega)]
          refine ⟨rfl, by omega, fun i hi => ?_⟩
          obtain ⟨x1, x2⟩ := tD i (by omega)
          obtain ⟨x3, x4, x5⟩ := r10 i (by omega)
          rw [x1, x2]
          exact ⟨x3, x4, x5⟩
        · obtain ⟨k1, k2, k3⟩ := kOld y (by omega)
          have k1 : σ 17 y = _ := k1
          rw [upd_ne hyc, hiR (147 + 25 * y) (by omega) (by omega)]
          refine ⟨k1, k2, fun i hi => ?_⟩
          obtain ⟨x1, x2⟩ := kk (12 * y + i) (by omega)
          rw [hiR (148 + 25 * y + 2 * i) (by omega) (by omega), hiR (149 + 25 * y + 2 * i) (by omega) (by omega), x1, x2]
          exact k3 i hi
      · show q_em (q_em (q_em σ 42 0 1 s) 40 1 2 s) 16 3 4 s 20 j = t' (297 + j) ∧ -1 ≤ (t' (297 + j)).toInt ∧ (t' (297 + j)).toInt < (t' 16).toInt
        rw [far s 20 (by omega), hiR (297 + j) (by omega) (by omega), lo 16 (by decide) (by decide)]
        exact h.1.2.2.2.1 j hj
      · show q_em (q_em (q_em σ 42 0 1 s) 40 1 2 s) 16 3 4 s 2 3 = t' 20
        rw [far s 2 (by omega), lo 20 (by decide) (by decide)]
        exact h.1.2.2.2.2
      · by_cases hx40 : x = 40 ∨ x = 41
        · rcases hx40 with rfl | rfl
          · rw [show q_em (q_em (q_em σ 42 0 1 s) 40 1 2 s) 16 3 4 s 40 = s 1 from tp s 0 (by omega), r6 1 (by decide) (by decide) (by decide) (by decide) (by decide)]
            exact d2 0 (by omega)
          · rw [show q_em (q_em (q_em σ 42 0 1 s) 40 1 2 s) 16 3 4 s 41 = s 2 from tp s 1 (by omega), r6 2 (by decide) (by decide) (by decide) (by decide) (by decide)]
            exact d2 1 (by omega)
        · exact far s x (by omega)
    · by_cases hx1 : x = 1
      · subst hx1
        rw [row]
        exact (sc_at τ' 1 t').symm
      · rw [show q_sc (su τ' 0 7 0) 1 (upd (skyR (su τ' 0 7 0 1) (su τ' 0 7 0 6) c L (2 * L)) 18 (nI (c + 1))) x = su τ' 0 7 0 x from if_neg hx1, ud_ne _ _ _ h0]
        exact (if_neg hx1).symm
