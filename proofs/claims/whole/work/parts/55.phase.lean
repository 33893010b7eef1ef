/-! ===== a deed is read ===== -/
theorem tokE {s : SS} {N p : Nat} {bs : Nat → Int32} (hN : N ≤ 100) (h : TS s N bs) (hp : p ≤ N) (e3 : s 0 3 = nI p) {q : Nat} (hq : q = scan isBl bs (N - p) p) : ∃ s1 : SS, (∀ {R : Type} (K : SS → Option R), q_cs (pX5_readToken (q_sb s 0)) (fun (τ : SS) => (q_em s 0 0 3 τ)) K = K s1) ∧ (∀ x, x ≠ 0 → s1 x = s x) ∧ s1 0 1 = tkT bs N q ∧ s1 0 2 = nI q ∧ s1 0 3 = nI (tkE bs N q) ∧ (tkT bs N q = 2 → s1 0 4 = vC bs (N - q) q 0) := by
  obtain ⟨s', p1, p2, p3, p4, p5, p6⟩ := tok5 (s := q_sb s 0) hN h hp e3 hq
  have e0 : q_em s 0 0 3 s' 0 = s' 0 := em_in (b := 0) (o := 0) (n := 3) 0 (by omega)
  refine ⟨q_em s 0 0 3 s', fun K => by rw [p1, cs_s], fun x hx => ?_, by rw [e0]; exact p3, by rw [e0]; exact p4, by rw [e0]; exact p5, fun hh => by rw [e0]; exact p6 hh⟩
  by_cases h3 : x < 3
  · have := em_in (σ := s) (τ := s') (b := 0) (o := 0) (n := 3) x h3
    rw [Nat.zero_add] at this
    rw [this, p2 x hx]
    show s (0 + x) = s x
    rw [Nat.zero_add]
  · exact em_out (by omega)
theorem TS_x {s s1 : SS} {N : Nat} {bs : Nat → Int32} (h : TS s N bs) (hx : ∀ x, x ≠ 0 → s1 x = s x) : TS s1 N bs := ⟨by rw [hx 1 (by decide)]; exact h.1, fun i hi => by rw [hx 2 (by decide)]; exact h.2 i hi⟩
theorem wd_n : ∀ d, d < 6 → q_wd (nI d) = d := by decide
theorem told5 {s : SS} {N q e : Nat} {bs : Nat → Int32} {t : Int32} (hN : N ≤ 100) (h : TS s N bs) (e1 : s 0 1 = t) (e2 : s 0 2 = nI q) (e3 : s 0 3 = nI e) (hqe : q ≤ e) (he : e ≤ N) : ∃ r, pX5_deedTold s = some r ∧ Fst (fun d => Wd bs t q e d) 0 5 r := by
  unfold pX5_deedTold
  refine q_for0 (m := 0) (n := 6) (by omega) (by omega) (fun j => ∀ d, 0 ≤ d → d < j → ¬ Wd bs t q e d) (fun o => ∃ r, o = some r ∧ Fst (fun d => Wd bs t q e d) 0 5 r) ?_ ?_ (fun d _ hd => by omega)
  · intro F j hj1 hj2 hJ ih
    obtain ⟨r, p1, -, p3⟩ := isw5 hN h e1 e2 e3 hqe he (d := j) (by omega)
    rw [if_neg (fun hh => by have := (nI_leS (n := 6) (by omega) (by omega)).mp hh; omega), wd_n j hj2, p1, cr_s, nI_s]
    by_cases hr : r = 0
    · rw [if_pos hr]
      refine ih (fun d h0 hd => ?_)
      by_cases hdj : d = j
      · rw [hdj]; exact p3.mp hr
      · exact hJ d h0 (by omega)
    · rw [if_neg hr]
      exact ⟨_, rfl, Or.inr ⟨j, by omega, by omega, rfl, Classical.byContradiction (fun hh => hr (p3.mpr hh)), hJ⟩⟩
  · intro F hJ
    rw [if_pos (show (6 : Int32) ≤ nI 6 by decide)]
    exact ⟨_, rfl, Or.inl ⟨rfl, fun m h0 hm => hJ m h0 (by omega)⟩⟩
theorem num_c (s : SS) {d lo hi : Nat} (hd : (d = 0 ∧ lo = 0 ∧ hi = 99) ∨ (d = 1 ∧ lo = 1 ∧ hi = 60) ∨ (d = 4 ∧ lo = 0 ∧ hi = 999) ∨ (d = 5 ∧ lo = 0 ∧ hi = 999)) : pX5_valueTold s (nI d) = some (if s 0 1 = 2 then (if wi (s 0 4) (nI lo) (nI hi) = 0 then -1 else s 0 4) else -1) := by
  have n2 : ¬ nI d = 2 := fun hh => by
    have := i_eq.mp hh
    rw [nI_toInt (by omega), show (2 : Int32).toInt = 2 from rfl] at this
    omega
  have n3 : ¬ nI d = 3 := fun hh => by
    have := i_eq.mp hh
    rw [nI_toInt (by omega), show (3 : Int32).toInt = 3 from rfl] at this
    omega
  have kl : k_ldeed d = nI lo ∧ k_mdeed d = nI hi := by
    rcases hd with ⟨rfl, rfl, rfl⟩ | ⟨rfl, rfl, rfl⟩ | ⟨rfl, rfl, rfl⟩ | ⟨rfl, rfl, rfl⟩ <;> exact ⟨rfl, rfl⟩
  unfold pX5_valueTold
  rw [if_neg n2, if_neg n3]
  simp only [lt_n]
  rw [rd_n _ _ (by omega), rd_n _ _ (by omega), kl.1, kl.2, within_eq, cr_s]
  by_cases h2 : s 0 1 = 2
  · rw [if_pos h2, if_pos h2]
    by_cases hw : wi (s 0 4) (nI lo) (nI hi) = 0
    · rw [if_pos hw, if_pos hw, if_pos trivial]
    · rw [if_neg hw, if_neg hw, if_neg (by decide)]
  · rw [if_neg h2, if_neg h2, if_pos trivial]
theorem one5 {s : SS} {a b : Nat} (ha : a < 10) (hb : b < 10) {r1 r2 : Int32} (h1 : pX5_isWord s a = some r1) (h2 : pX5_isWord s b = some r2) : pX5_oneOf s a b = some (if r1 = 0 then (if r2 = 0 then -1 else 0) else 1) := by
  unfold pX5_oneOf
  rw [if_pos ha, if_pos hb, h1, cr_s, h2, cr_s]
  simp only [lt_n]
  split
  · split <;> rfl
  · rfl
theorem tn12 (τ : SS) (a1 a2 a3 : Int32) : pX12_takesNumber τ a1 a2 a3 = if τ 0 9 = 2 then (if wi (τ 0 11) a2 a3 = 0 then some (0, τ) else q_cs (pX12_lays τ a1 (τ 0 11)) (fun (τ : SS) => τ) (fun (σ5 : SS) => q_cs (pX12_next σ5) (fun (τ : SS) => τ) (fun (σ6 : SS) => some (1, σ6)))) else some (0, τ) := by
  unfold pX12_takesNumber
  rw [lt_v, in_eq, cr_s, zz_b (Or.inl rfl)]
  rfl
theorem te12 {τ : SS} (a1 : Int32) {a b : Nat} (ha : a < 10) (hb : b < 10) {r1 r2 : Int32} (h1 : pX12_isWord τ a = some r1) (h2 : pX12_isWord τ b = some r2) : pX12_takesEither τ a1 a b = if r1 = 0 then (if r2 = 0 then some (0, τ) else q_cs (pX12_lays τ a1 0) (fun (τ : SS) => τ) (fun (σ5 : SS) => q_cs (pX12_next σ5) (fun (τ : SS) => τ) (fun (σ6 : SS) => some (1, σ6)))) else q_cs (pX12_lays τ a1 1) (fun (τ : SS) => τ) (fun (σ5 : SS) => q_cs (pX12_next σ5) (fun (τ : SS) => τ) (fun (σ6 : SS) => some (1, σ6))) := by
  unfold pX12_takesEither
  rw [if_pos ha, if_pos hb, h1, cr_s, lt_v, lt_v, h2]
  by_cases g : r1 = 0
  · rw [if_pos g, if_pos g, if_pos g, cr_s]
    rfl
  · rw [if_neg g, if_neg g, if_neg g]
    rfl
theorem lay12b (τ : SS) {i : Nat} (e13 : τ 0 13 = nI i) (hi : i < 12) (d v : Int32) : pX12_lays τ d v = some (su (su (su τ 6 (2 * i) d) 6 (2 * i + 1) v) 0 13 (nI (i + 1))) := by
  unfold pX12_lays
  rw [e13, show (2 : Int32) * nI i = nI (2 * i) from pk_mul 2 i, wr_n _ _ _ _ (by omega), show su τ 6 (2 * i) d 0 13 = nI i from e13, show (2 : Int32) * nI i = nI (2 * i) from pk_mul 2 i, show nI (2 * i) + 1 = nI (2 * i + 1) from nI_s _, wr_n _ _ _ _ (by omega), lt_v, show su (su τ 6 (2 * i) d) 6 (2 * i + 1) v 0 13 = nI i from e13, nI_s]
theorem tk_no {τ : SS} {d : Nat} (hd : d < 10) (h : pX12_isWord τ d = some 0) : pX12_takes τ d = some (0, τ) := by
  unfold pX12_takes
  rw [if_pos hd, h, cr_s, if_pos rfl, zz_b (Or.inl rfl)]
theorem tk_yes {τ τ2 : SS} {d : Nat} (hd : d < 10) {r : Int32} (hr : ¬ r = 0) (h : pX12_isWord τ d = some r) (hn : pX12_next τ = some τ2) : pX12_takes τ d = some (1, τ2) := by
  unfold pX12_takes
  rw [if_pos hd, h, cr_s, if_neg hr, hn, cs_s, zz_b (Or.inr rfl)]
def PH (τ : SS) (r : Int32) (τ' : SS) : Prop := ∀ (R : Type) (K : Int32 → SS → Option R), q_cs (pX12_next τ) (fun (τ : SS) => τ) (fun (σ3 : SS) => q_ci (pX12_takesDeed σ3) (fun (τ : SS) => τ) K) = K r τ'
/-- a deed that the reference has laid -/
def LD (τ' τ : SS) (i : Nat) (d v : Int32) (bs : Nat → Int32) (N e : Nat) : Prop := (∀ x, x ≠ 0 → x ≠ 6 → τ' x = τ x) ∧ (∀ j, j ≠ 8 → j ≠ 9 → j ≠ 10 → j ≠ 11 → j ≠ 13 → τ' 0 j = τ 0 j) ∧ τ' 0 13 = nI (i + 1) ∧ τ' 6 = upd (upd (τ 6) (2 * i) d) (2 * i + 1) v ∧ τ' 0 9 = tkT bs N (scan isBl bs (N - e) e) ∧ τ' 0 10 = nI (scan isBl bs (N - e) e) ∧ τ' 0 8 = nI (tkE bs N (scan isBl bs (N - e) e))
/-- a number or a word has been told: it is laid, and the next token is there -/
theorem laid {τ τ2 : SS} {N e i : Nat} {bs : Nat → Int32} (hB : BB N bs) (h : TT τ N bs) (hT : T0 τ2 τ) (he : e ≤ N) (e8 : τ2 0 8 = nI e) (e13 : τ2 0 13 = nI i) (hi : i < 12) (d v : Int32) : ∃ τ4, q_cs (pX12_lays τ2 d v) (fun (τ : SS) => τ) (fun (σ5 : SS) => q_cs (pX12_next σ5) (fun (τ : SS) => τ) (fun (σ6 : SS) => some ((1 : Int32), σ6))) = some (1, τ4) ∧ LD τ4 τ i d v bs N e := by
  rw [lay12b τ2 e13 hi, cs_s]
  have hT3 : TT (su (su (su τ2 6 (2 * i) d) 6 (2 * i + 1) v) 0 13 (nI (i + 1))) N bs := by
    refine ⟨?_, fun j hj => ?_⟩
    · show upd (τ2 0) 13 (nI (i + 1)) 7 = _
      rw [upd_ne (by decide), hT.2 7 (by decide) (by decide) (by decide) (by decide)]
      exact h.1
    · show τ2 5 j = _
      rw [hT.1 5 (by decide)]
      exact h.2 j hj
  obtain ⟨τ4, p1, p2, p3, p4, p5, -⟩ := nxt12 hB hT3 he (show su (su (su τ2 6 (2 * i) d) 6 (2 * i + 1) v) 0 13 (nI (i + 1)) 0 8 = nI e from e8) rfl
  rw [p1, cs_s]
  refine ⟨τ4, rfl, fun x h0 h6 => ?_, fun j h8 h9 h10 h11 h13 => ?_, ?_, ?_, p3, p4, p5⟩
  · rw [p2.1 x h0, ud_ne _ _ _ h0, ud_ne _ _ _ h6, ud_ne _ _ _ h6, hT.1 x h0]
  · rw [p2.2 j h8 h9 h10 h11]
    show upd (τ2 0) 13 (nI (i + 1)) j = _
    rw [upd_ne h13, hT.2 j h8 h9 h10 h11]
  · rw [p2.2 13 (by decide) (by decide) (by decide) (by decide)]
    rfl
  · rw [p2.1 6 (by decide)]
    show upd (upd (τ2 6) (2 * i) d) (2 * i + 1) v = _
    rw [hT.1 6 (by decide)]
set_option maxHeartbeats 8000000 in
theorem phase {s τ : SS} {N p i c : Nat} {bs : Nat → Int32} (hB : BB N bs) (hs : TS s N bs) (ht : TT τ N bs) (hp : p ≤ N) (es : s 0 3 = nI p) (et : τ 0 8 = nI p) (hi : i < 12) (e13 : τ 0 13 = nI i) (hc : c < 6) (ec : s 3 0 = nI c) : (∃ s' τ' b, pX5_readDeed s (nI i) = some (0, s') ∧ PH τ 0 τ' ∧ s' 0 2 = nI b ∧ τ' 0 10 = nI b ∧ b ≤ 100 ∧ (∀ x, x ≠ 0 → s' x = s x) ∧ T0 τ' τ) ∨ (∃ s' τ' d v e, pX5_readDeed s (nI i) = some (1, s') ∧ PH τ 1 τ' ∧ dOk d v ∧ e ≤ N ∧ s' 0 3 = nI e ∧ (∀ x, x ≠ 0 → x ≠ 5 → x ≠ 6 → s' x = s x) ∧ s' 5 = upd (s 5) (12 * c + i) d ∧ s' 6 = upd (s 6) (12 * c + i) v ∧ LD τ' τ i d v bs N e) := by
  have hN := hB.1
  obtain ⟨q1, hq1⟩ : ∃ q1, q1 = scan isBl bs (N - p) p := ⟨_, rfl⟩
  have hq1b := scan_le isBl bs (N - p) p
  have hq1N : q1 ≤ N := by omega
  obtain ⟨hE1a, hE1b⟩ := tkE_b bs hq1N
  obtain ⟨s1, a1, a2, a3, a4, a5, a6⟩ := tokE hN hs hp es hq1
  obtain ⟨τ1, b1, b2, b3, b4, b5, b6⟩ := nxt12 hB ht hp et hq1
  have hs1 := TS_x hs a2
  have ht1 := T0_TT b2 ht
  have t13 : τ1 0 13 = nI i := by rw [b2.2 13 (by decide) (by decide) (by decide) (by decide)]; exact e13
  obtain ⟨r, d1, d2⟩ := told5 (s := q_sb s1 0) hN hs1 a3 a4 a5 hE1a hE1b
  have W12 : ∀ d, d < 10 → ∃ r, pX12_isWord τ1 d = some r ∧ (r = 0 ∨ r = 1) ∧ (r = 0 ↔ ¬ Wd bs (tkT bs N q1) q1 (tkE bs N q1) d) := fun d hd => isw12 hN ht1 b3 b4 b5 hE1a hE1b hd
  have no12 : ∀ d, d < 10 → ¬ Wd bs (tkT bs N q1) q1 (tkE bs N q1) d → pX12_takes τ1 d = some (0, τ1) := fun d hd hn => by
    obtain ⟨r, w1, w2, w3⟩ := W12 d hd
    rw [w3.mpr hn] at w1
    exact tk_no hd w1
  have n12 : ¬ τ1 0 13 = 12 := fun hh => by
    rw [t13] at hh
    have := i_eq.mp hh
    rw [nI_toInt (by omega), show (12 : Int32).toInt = 12 from rfl] at this
    omega
  -- the second token
  obtain ⟨e1, he1⟩ : ∃ e1, e1 = tkE bs N q1 := ⟨_, rfl⟩
  have he1N : e1 ≤ N := by omega
  obtain ⟨q2, hq2⟩ : ∃ q2, q2 = scan isBl bs (N - e1) e1 := ⟨_, rfl⟩
  have hq2b := scan_le isBl bs (N - e1) e1
  have hq2N : q2 ≤ N := by omega
  obtain ⟨hE2a, hE2b⟩ := tkE_b bs hq2N
  obtain ⟨s2, g1, g2, g3, g4, g5, g6⟩ := tokE hN hs1 he1N (by rw [a5, he1]) hq2
  obtain ⟨τ2, k1, k2, k3, k4, k5, k6⟩ := nxt12 hB ht1 he1N (by rw [b5, he1]) hq2
  have hs2 := TS_x hs1 g2
  have ht2 := T0_TT k2 ht1
  have T20 : T0 τ2 τ := ⟨fun x hx => (k2.1 x hx).trans (b2.1 x hx), fun j h8 h9 h10 h11 => (k2.2 j h8 h9 h10 h11).trans (b2.2 j h8 h9 h10 h11)⟩
  have u13 : τ2 0 13 = nI i := by rw [T20.2 13 (by decide) (by decide) (by decide) (by decide)]; exact e13
  have s2x : ∀ x, x ≠ 0 → s2 x = s x := fun x hx => (g2 x hx).trans (a2 x hx)
  have yes12 : ∀ d, d < 10 → Wd bs (tkT bs N q1) q1 (tkE bs N q1) d → pX12_takes τ1 d = some (1, τ2) := fun d hd hn => by
    obtain ⟨r, w1, w2, w3⟩ := W12 d hd
    exact tk_yes hd (fun h0 => w3.mp h0 hn) w1 k1
  unfold pX5_readDeed
  rw [a1, d1, cr_s]
  -- what the class lays
  have putc : ∀ (d v : Int32), q_cs (pX7_putNext (q_sb s2 3) (nI i) d v) (fun (τ : SS) => (q_em s2 3 0 4 τ)) (fun (σ7 : SS) => q_zz 1 (some ((1 : Int32), σ7))) = some (1, su (su s2 5 (12 * c + i) d) 6 (12 * c + i) v) := fun d v => by
    have ec2 : q_sb s2 3 0 0 = nI c := by
      show s2 3 0 = _
      rw [s2x 3 (by decide)]
      exact ec
    have ei : nI c * 12 + nI i = nI (12 * c + i) := by rw [mul12, nI_add]
    unfold pX7_putNext
    rw [ec2, ei, wr_n _ _ _ _ (by omega), show su (q_sb s2 3) 2 (12 * c + i) d 0 0 = nI c from ec2, ei, wr_n _ _ _ _ (by omega), cs_s, em_su _ _ _ _ (by decide), em_su _ _ _ _ (by decide), em_self, zz_b (Or.inr rfl)]
  have ph : ∀ (o : Int32 × SS), pX12_takesDeed τ1 = some o → PH τ o.1 o.2 := fun o ho R K => by
    rw [b1, cs_s, ho]
    rfl
  -- success
  have succ : ∀ (d v : Int32), dOk d v → (∃ τ4, pX12_takesDeed τ1 = some (1, τ4) ∧ LD τ4 τ i d v bs N (tkE bs N q2)) → (some ((1 : Int32), su (su s2 5 (12 * c + i) d) 6 (12 * c + i) v) = some (0, s2) → False) → ∃ s' τ' d' v' e, some ((1 : Int32), su (su s2 5 (12 * c + i) d) 6 (12 * c + i) v) = some (1, s') ∧ PH τ 1 τ' ∧ dOk d' v' ∧ e ≤ N ∧ s' 0 3 = nI e ∧ (∀ x, x ≠ 0 → x ≠ 5 → x ≠ 6 → s' x = s x) ∧ s' 5 = upd (s 5) (12 * c + i) d' ∧ s' 6 = upd (s 6) (12 * c + i) v' ∧ LD τ' τ i d' v' bs N e := fun d v hdv hex _ => by
    obtain ⟨τ4, t1, t2⟩ := hex
    refine ⟨_, τ4, d, v, tkE bs N q2, rfl, ph _ t1, hdv, hE2b, g5, fun x h0 h5 h6 => by rw [ud_ne _ _ _ h6, ud_ne _ _ _ h5, s2x x h0], ?_, ?_, t2⟩
    · rw [ud_ne _ _ _ (by decide), ud_at, s2x 5 (by decide)]
    · rw [ud_at, ud_ne _ _ _ (by decide), s2x 6 (by decide)]
  have fail2 : pX12_takesDeed τ1 = some (0, τ2) → (∃ s' τ' b, q_zz 0 (some ((0 : Int32), s2)) = some (0, s') ∧ PH τ 0 τ' ∧ s' 0 2 = nI b ∧ τ' 0 10 = nI b ∧ b ≤ 100 ∧ (∀ x, x ≠ 0 → s' x = s x) ∧ T0 τ' τ) := fun h => ⟨s2, τ2, q2, by rw [zz_b (Or.inl rfl)], ph _ h, g4, k4, by omega, s2x, T20⟩
  have numJ : ∀ {d lo up : Nat}, ((d = 0 ∧ lo = 0 ∧ up = 99) ∨ (d = 1 ∧ lo = 1 ∧ up = 60) ∨ (d = 4 ∧ lo = 0 ∧ up = 999) ∨ (d = 5 ∧ lo = 0 ∧ up = 999)) → (∃ v, pX5_valueTold (q_sb s2 0) (nI d) = some v ∧ ¬ v = -1 ∧ dOk (nI d) v ∧ ∃ τ4, pX12_takesNumber τ2 (nI d) (nI lo) (nI up) = some (1, τ4) ∧ LD τ4 τ i (nI d) v bs N (tkE bs N q2)) ∨ (pX5_valueTold (q_sb s2 0) (nI d) = some (-1) ∧ pX12_takesNumber τ2 (nI d) (nI lo) (nI up) = some (0, τ2)) := fun {d lo up} hd => by
    rw [num_c (q_sb s2 0) hd, tn12, show q_sb s2 0 0 1 = tkT bs N q2 from g3, k3, show q_sb s2 0 0 4 = s2 0 4 from rfl]
    by_cases h2 : tkT bs N q2 = 2
    · rw [if_pos h2, if_pos h2, g6 h2, k6 h2]
      have hV := VR_f bs (N - q2) q2 0 0 (Or.inl ⟨0, by omega, rfl, rfl⟩)
      have hhi : up ≤ 999 := by omega
      by_cases hw : wi (vR bs (N - q2) q2 0) (nI lo) (nI up) = 0
      · rw [if_pos ((V_in hV hhi).mpr hw), if_pos hw]
        exact Or.inr ⟨rfl, rfl⟩
      · have hv := V_eq hV hhi hw
        rw [if_neg (fun hh => hw ((V_in hV hhi).mp hh)), if_neg hw, hv]
        obtain ⟨w1, w2⟩ := wi_ok hw
        rw [nI_toInt (show lo < 2 ^ 31 by omega)] at w1
        rw [nI_toInt (show up < 2 ^ 31 by omega)] at w2
        refine Or.inl ⟨_, rfl, fun hh => ?_, ⟨by rw [nI_toInt (show d < 2 ^ 31 by omega)]; omega, fun hh => ?_, fun hh => ?_, fun hh => ?_, fun hh => ?_, fun hh => ?_⟩, laid hB ht T20 hE2b k5 u13 hi _ _⟩
        · rw [hh, show (-1 : Int32).toInt = -1 from rfl] at w1
          omega
        · have := i_eq.mp hh
          rw [nI_toInt (by omega), show (1 : Int32).toInt = 1 from rfl] at this
          omega
        · have := i_eq.mp hh
          rw [nI_toInt (by omega), show (2 : Int32).toInt = 2 from rfl] at this
          omega
        · have := i_eq.mp hh
          rw [nI_toInt (by omega), show (3 : Int32).toInt = 3 from rfl] at this
          omega
        · have := i_eq.mp hh
          rw [nI_toInt (by omega), show (0 : Int32).toInt = 0 from rfl] at this
          omega
        · have := i_eq.mp hh
          rw [nI_toInt (by omega), show (5 : Int32).toInt = 5 from rfl] at this
          omega
    · rw [if_neg h2, if_neg h2]
      exact Or.inr ⟨rfl, rfl⟩
  have eitJ : ∀ {d a b : Nat}, ((d = 2 ∧ a = 6 ∧ b = 7) ∨ (d = 3 ∧ a = 8 ∧ b = 9)) → (∃ v, pX5_valueTold (q_sb s2 0) (nI d) = some v ∧ ¬ v = -1 ∧ dOk (nI d) v ∧ ∃ τ4, pX12_takesEither τ2 (nI d) a b = some (1, τ4) ∧ LD τ4 τ i (nI d) v bs N (tkE bs N q2)) ∨ (pX5_valueTold (q_sb s2 0) (nI d) = some (-1) ∧ pX12_takesEither τ2 (nI d) a b = some (0, τ2)) := fun {d a b} hd => by
    obtain ⟨ra, x1, x2, x3⟩ := isw5 (s := q_sb s2 0) hN hs2 g3 g4 g5 hE2a hE2b (d := a) (by omega)
    obtain ⟨rb, y1, y2, y3⟩ := isw5 (s := q_sb s2 0) hN hs2 g3 g4 g5 hE2a hE2b (d := b) (by omega)
    obtain ⟨ra', x1', x2', x3'⟩ := isw12 hN ht2 k3 k4 k5 hE2a hE2b (d := a) (by omega)
    obtain ⟨rb', y1', y2', y3'⟩ := isw12 hN ht2 k3 k4 k5 hE2a hE2b (d := b) (by omega)
    have ev : pX5_valueTold (q_sb s2 0) (nI d) = some (if ra = 0 then (if rb = 0 then -1 else 0) else 1) := by
      rcases hd with ⟨rfl, rfl, rfl⟩ | ⟨rfl, rfl, rfl⟩
      · unfold pX5_valueTold
        rw [if_pos (show nI 2 = 2 from rfl), one5 (by omega) (by omega) x1 y1, cr_s]
      · unfold pX5_valueTold
        rw [if_neg (show ¬ nI 3 = 2 by decide), if_pos (show nI 3 = 3 from rfl), one5 (by omega) (by omega) x1 y1, cr_s]
    have hok : ∀ v : Int32, (v = 0 ∨ v = 1) → dOk (nI d) v := fun v hv => by
      refine ⟨by rw [nI_toInt (show d < 2 ^ 31 by omega)]; omega, fun hh => ?_, fun _ => hv, fun _ => hv, fun hh => ?_, fun hh => ?_⟩
      · have := i_eq.mp hh
        rw [nI_toInt (by omega), show (1 : Int32).toInt = 1 from rfl] at this
        omega
      · have := i_eq.mp hh
        rw [nI_toInt (by omega), show (0 : Int32).toInt = 0 from rfl] at this
        omega
      · have := i_eq.mp hh
        rw [nI_toInt (by omega), show (5 : Int32).toInt = 5 from rfl] at this
        omega
    rw [ev, te12 (nI d) (by omega) (by omega) x1' y1']
    by_cases ha : ra = 0
    · have ha' : ra' = 0 := x3'.mpr (x3.mp ha)
      rw [if_pos ha, if_pos ha']
      by_cases hb : rb = 0
      · have hb' : rb' = 0 := y3'.mpr (y3.mp hb)
        rw [if_pos hb, if_pos hb']
        exact Or.inr ⟨rfl, rfl⟩
      · have hb' : ¬ rb' = 0 := fun hh => hb (y3.mpr (y3'.mp hh))
        rw [if_neg hb, if_neg hb']
        exact Or.inl ⟨0, rfl, by decide, hok 0 (Or.inl rfl), laid hB ht T20 hE2b k5 u13 hi _ _⟩
    · have ha' : ¬ ra' = 0 := fun hh => ha (x3.mpr (x3'.mp hh))
      rw [if_neg ha, if_neg ha']
      exact Or.inl ⟨1, rfl, by decide, hok 1 (Or.inr rfl), laid hB ht T20 hE2b k5 u13 hi _ _⟩
  rcases d2 with ⟨rfl, hno⟩ | ⟨m, -, hm5, rfl, hW, hnl⟩
  · -- no word
    refine Or.inl ?_
    rw [if_pos rfl, zz_b (Or.inl rfl)]
    have hT : pX12_takesDeed τ1 = some (0, τ1) := by
      unfold pX12_takesDeed
      rw [if_neg n12, no12 0 (by omega) (hno 0 (by omega) (by omega)), ci_s, if_pos rfl, no12 1 (by omega) (hno 1 (by omega) (by omega)), ci_s, if_pos rfl, no12 2 (by omega) (hno 2 (by omega) (by omega)), ci_s, if_pos rfl, no12 3 (by omega) (hno 3 (by omega) (by omega)), ci_s, if_pos rfl, no12 4 (by omega) (hno 4 (by omega) (by omega)), ci_s, if_pos rfl, no12 5 (by omega) (hno 5 (by omega) (by omega)), ci_s, lt_v, lt_v, if_pos rfl]
      rfl
    exact ⟨s1, τ1, q1, rfl, ph _ hT, a4, b4, by omega, a2, b2⟩
  · rw [if_neg (nI_m1 (by omega)), g1]
    have nn : ∀ l, l < m → pX12_takes τ1 l = some (0, τ1) := fun l hl => no12 l (by omega) (hnl l (by omega) hl)
    have yy := yes12 m (by omega) hW
    rcases (by omega : m = 0 ∨ m = 1 ∨ m = 2 ∨ m = 3 ∨ m = 4 ∨ m = 5) with rfl | rfl | rfl | rfl | rfl | rfl
    · have eT : pX12_takesDeed τ1 = q_ci (pX12_takesNumber τ2 0 0 99) (fun (τ : SS) => τ) (fun (r37 : Int32) (σ36 : SS) => q_zz r37 (some (r37, σ36))) := by
        unfold pX12_takesDeed
        rw [if_neg n12, yy, ci_s, if_neg (by decide)]
      rcases numJ (d := 0) (lo := 0) (up := 99) (Or.inl ⟨rfl, rfl, rfl⟩) with ⟨v, v1, v2, v3, τ4, v4, v5⟩ | ⟨v1, v2⟩
      · refine Or.inr ?_
        rw [v1, cr_s, if_neg v2, putc]
        exact succ _ _ v3 ⟨τ4, by rw [eT, show pX12_takesNumber τ2 0 0 99 = some (1, τ4) from v4, ci_s, zz_b (Or.inr rfl)], v5⟩ (fun hh => by cases hh)
      · refine Or.inl ?_
        rw [v1, cr_s, if_pos rfl]
        exact fail2 (by rw [eT, show pX12_takesNumber τ2 0 0 99 = some (0, τ2) from v2, ci_s, zz_b (Or.inl rfl)])
    · have eT : pX12_takesDeed τ1 = q_ci (pX12_takesNumber τ2 1 1 60) (fun (τ : SS) => τ) (fun (r37 : Int32) (σ36 : SS) => q_zz r37 (some (r37, σ36))) := by
        unfold pX12_takesDeed
        rw [if_neg n12, nn 0 (by omega), ci_s, if_pos rfl, yy, ci_s, if_neg (by decide)]
      rcases numJ (d := 1) (lo := 1) (up := 60) (Or.inr (Or.inl ⟨rfl, rfl, rfl⟩)) with ⟨v, v1, v2, v3, τ4, v4, v5⟩ | ⟨v1, v2⟩
      · refine Or.inr ?_
        rw [v1, cr_s, if_neg v2, putc]
        exact succ _ _ v3 ⟨τ4, by rw [eT, show pX12_takesNumber τ2 1 1 60 = some (1, τ4) from v4, ci_s, zz_b (Or.inr rfl)], v5⟩ (fun hh => by cases hh)
      · refine Or.inl ?_
        rw [v1, cr_s, if_pos rfl]
        exact fail2 (by rw [eT, show pX12_takesNumber τ2 1 1 60 = some (0, τ2) from v2, ci_s, zz_b (Or.inl rfl)])
    · have eT : pX12_takesDeed τ1 = q_ci (pX12_takesEither τ2 2 6 7) (fun (τ : SS) => τ) (fun (r37 : Int32) (σ36 : SS) => q_zz r37 (some (r37, σ36))) := by
        unfold pX12_takesDeed
        rw [if_neg n12, nn 0 (by omega), ci_s, if_pos rfl, nn 1 (by omega), ci_s, if_pos rfl, yy, ci_s, if_neg (by decide)]
      rcases eitJ (d := 2) (a := 6) (b := 7) (Or.inl ⟨rfl, rfl, rfl⟩) with ⟨v, v1, v2, v3, τ4, v4, v5⟩ | ⟨v1, v2⟩
      · refine Or.inr ?_
        rw [v1, cr_s, if_neg v2, putc]
        exact succ _ _ v3 ⟨τ4, by rw [eT, show pX12_takesEither τ2 2 6 7 = some (1, τ4) from v4, ci_s, zz_b (Or.inr rfl)], v5⟩ (fun hh => by cases hh)
      · refine Or.inl ?_
        rw [v1, cr_s, if_pos rfl]
        exact fail2 (by rw [eT, show pX12_takesEither τ2 2 6 7 = some (0, τ2) from v2, ci_s, zz_b (Or.inl rfl)])
    · have eT : pX12_takesDeed τ1 = q_ci (pX12_takesEither τ2 3 8 9) (fun (τ : SS) => τ) (fun (r37 : Int32) (σ36 : SS) => q_zz r37 (some (r37, σ36))) := by
        unfold pX12_takesDeed
        rw [if_neg n12, nn 0 (by omega), ci_s, if_pos rfl, nn 1 (by omega), ci_s, if_pos rfl, nn 2 (by omega), ci_s, if_pos rfl, yy, ci_s, if_neg (by decide)]
      rcases eitJ (d := 3) (a := 8) (b := 9) (Or.inr ⟨rfl, rfl, rfl⟩) with ⟨v, v1, v2, v3, τ4, v4, v5⟩ | ⟨v1, v2⟩
      · refine Or.inr ?_
        rw [v1, cr_s, if_neg v2, putc]
        exact succ _ _ v3 ⟨τ4, by rw [eT, show pX12_takesEither τ2 3 8 9 = some (1, τ4) from v4, ci_s, zz_b (Or.inr rfl)], v5⟩ (fun hh => by cases hh)
      · refine Or.inl ?_
        rw [v1, cr_s, if_pos rfl]
        exact fail2 (by rw [eT, show pX12_takesEither τ2 3 8 9 = some (0, τ2) from v2, ci_s, zz_b (Or.inl rfl)])
    · have eT : pX12_takesDeed τ1 = q_ci (pX12_takesNumber τ2 4 0 999) (fun (τ : SS) => τ) (fun (r37 : Int32) (σ36 : SS) => q_zz r37 (some (r37, σ36))) := by
        unfold pX12_takesDeed
        rw [if_neg n12, nn 0 (by omega), ci_s, if_pos rfl, nn 1 (by omega), ci_s, if_pos rfl, nn 2 (by omega), ci_s, if_pos rfl, nn 3 (by omega), ci_s, if_pos rfl, yy, ci_s, if_neg (by decide)]
      rcases numJ (d := 4) (lo := 0) (up := 999) (Or.inr (Or.inr (Or.inl ⟨rfl, rfl, rfl⟩))) with ⟨v, v1, v2, v3, τ4, v4, v5⟩ | ⟨v1, v2⟩
      · refine Or.inr ?_
        rw [v1, cr_s, if_neg v2, putc]
        exact succ _ _ v3 ⟨τ4, by rw [eT, show pX12_takesNumber τ2 4 0 999 = some (1, τ4) from v4, ci_s, zz_b (Or.inr rfl)], v5⟩ (fun hh => by cases hh)
      · refine Or.inl ?_
        rw [v1, cr_s, if_pos rfl]
        exact fail2 (by rw [eT, show pX12_takesNumber τ2 4 0 999 = some (0, τ2) from v2, ci_s, zz_b (Or.inl rfl)])
    · have eT : ∀ o : Int32 × SS, (o.1 = 0 ∨ o.1 = 1) → pX12_takesNumber τ2 5 0 999 = some o → pX12_takesDeed τ1 = some o := fun o ho hh => by
        unfold pX12_takesDeed
        rw [if_neg n12, nn 0 (by omega), ci_s, if_pos rfl, nn 1 (by omega), ci_s, if_pos rfl, nn 2 (by omega), ci_s, if_pos rfl, nn 3 (by omega), ci_s, if_pos rfl, nn 4 (by omega), ci_s, if_pos rfl, yy, ci_s, lt_v, lt_v, if_neg (by decide), hh]
        obtain ⟨o1, o2⟩ := o
        rcases ho with h0 | h0
        · have h0 : o1 = 0 := h0
          subst h0
          rfl
        · have h0 : o1 = 1 := h0
          subst h0
          rfl
      rcases numJ (d := 5) (lo := 0) (up := 999) (Or.inr (Or.inr (Or.inr ⟨rfl, rfl, rfl⟩))) with ⟨v, v1, v2, v3, τ4, v4, v5⟩ | ⟨v1, v2⟩
      · refine Or.inr ?_
        rw [v1, cr_s, if_neg v2, putc]
        exact succ _ _ v3 ⟨τ4, eT (1, τ4) (Or.inr rfl) v4, v5⟩ (fun hh => by cases hh)
      · refine Or.inl ?_
        rw [v1, cr_s, if_pos rfl]
        exact fail2 (eT (0, τ2) (Or.inl rfl) v2)
