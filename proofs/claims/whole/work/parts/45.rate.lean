/-! ===== trials ===== -/
theorem try3 {b s : SS} {t u : Nat → Int32} {n : Nat} {a : Int32} (hO : Ok t) (hOu : Ok u) (hI : eqI t u) (e2 : u 2 = t 2) (hc : CRel (q_sb s 1) t) (hp : PR (q_sb b 20) u) (hb : ∀ x, x < 14 → b x = s x) (hn : n ≤ 200) (hq : ∀ m, m < n → b 27 m = mQi t m) (ha : 0 ≤ a.toInt) : ∃ s', pX3_staysWithin b (nI n) a = some (if mTop 0 u n ≤ a then 1 else 0, s') ∧ (mTop 0 u n ≤ a → s' 20 8 = mIter u n 9) ∧ ∀ x, x ≠ 20 → x ≠ 21 → s' x = b x :=
  stays3 hOu hp (by
    rw [hb 1 (by decide), e2]
    exact hc.1.2.2.1) (by
    rw [hb 1 (by decide), ← hI.2.2.1]
    exact hc.1.2.2.2.2.2.2.2.2.1) hn (fun m hm => by rw [hq m hm, Q_eq hO hOu hI]) ha
theorem CR_b {b s : SS} {t : Nat → Int32} (hc : CRel (q_sb s 1) t) (hb : ∀ x, x < 14 → b x = s x) : CRel (q_sb b 1) t := CR_congr (c' := q_sb s 1) (fun x hx => hb (1 + x) (by omega)) hc
theorem lt_200 {k : Nat} (hk : k < 5000) (m : Nat) (hm : m < 5000) : (nI m < nI k) ↔ m < k := nI_ltS hm hk
set_option maxHeartbeats 4000000 in
theorem rate3 {s : SS} {t : Nat → Int32} (hO : Ok t) (hc : CRel (q_sb s 1) t) {n : Nat} (hn : n ≤ 200) {a : Int32} (ha : 0 ≤ a.toInt) : ∃ r s', pX3_leastRate s (nI n) a = some (r, s') ∧ Fst (fun k => mTop 0 (upd t 5 (nI k)) n ≤ a) 1 99 r ∧ ∀ x, x < 14 → s' x = s x := by
  obtain ⟨s1, f1, f2, f3⟩ := foresee3 hO hc hn
  unfold pX3_leastRate
  rw [f1, cs_s]
  refine q_for (S := SS) (R := Int32 × SS) (fun (f : SS → Int32 → Option (Int32 × SS)) s i => f s i) (m := 1) (n := 100) (by omega) (by omega) (fun j b => (∀ m, m < n → b 27 m = mQi t m) ∧ (∀ x, x < 14 → b x = s x) ∧ ∀ l, 1 ≤ l → l < j → ¬ mTop 0 (upd t 5 (nI l)) n ≤ a) (fun o => ∃ r s', o = some (r, s') ∧ Fst (fun k => mTop 0 (upd t 5 (nI k)) n ≤ a) 1 99 r ∧ ∀ x, x < 14 → s' x = s x) ?_ ?_ s1 ⟨f2, f3, fun l h1 h2 => by omega⟩
  · rintro f j b hj1 hj2 ⟨hb1, hb2, hb3⟩ ih
    try dsimp only
    obtain ⟨b', p1, p2, p3⟩ := pump3 hO (CR_b hc hb2)
    rw [if_neg (fun hh => by have := (nI_ltS (n := 99) (by omega) (by omega)).mp hh; omega), p1, lt_v]
    obtain ⟨⟨c0, c1, c2, c3, c4, c5, c6, c7, c8, c9⟩, cl⟩ := id p2
    have hp : PR (q_sb (su b' 20 2 (nI j)) 20) (upd t 5 (nI j)) := PR_upd p2 (fun i hi => rfl) rfl (fun i hi => upd_ne (by omega)) ⟨c0, c1, rfl, c3, c4, c5, c6, c7, c8, c9⟩
    have keep : ∀ x, x ≠ 20 → x ≠ 21 → su b' 20 2 (nI j) x = b x := fun x h1 h2 => by rw [ud_ne _ _ _ h1, p3 x h1 h2]
    obtain ⟨s', q1, q2, q3⟩ := try3 (n := n) (a := a) hO (Ok_rate hO (k := j) (by omega)) (eqI_upd (nI j) (Or.inr (Or.inl rfl))) rfl hc hp (fun x hx => (keep x (by omega) (by omega)).trans (hb2 x hx)) hn (fun m hm => by rw [keep 27 (by omega) (by omega)]; exact hb1 m hm) ha
    rw [q1, ci_s, nI_s]
    have k1 : ∀ x, x < 14 → s' x = s x := fun x hx => by rw [q3 x (by omega) (by omega), keep x (by omega) (by omega), hb2 x hx]
    by_cases hP : mTop 0 (upd t 5 (nI j)) n ≤ a
    · rw [if_pos hP, if_neg (by decide)]
      exact ⟨_, _, rfl, Or.inr ⟨j, hj1, by omega, rfl, hP, hb3⟩, k1⟩
    · rw [if_neg hP, if_pos rfl]
      refine ih _ ⟨fun m hm => by rw [q3 27 (by omega) (by omega), keep 27 (by omega) (by omega)]; exact hb1 m hm, k1, fun l h1 h2 => ?_⟩
      by_cases hl : l = j
      · rw [hl]; exact hP
      · exact hb3 l h1 (by omega)
  · rintro f b ⟨hb1, hb2, hb3⟩
    try dsimp only
    rw [if_pos (show (99 : Int32) < nI 100 by decide)]
    exact ⟨_, _, rfl, Or.inl ⟨rfl, fun m h1 h2 => hb3 m h1 (by omega)⟩, hb2⟩
theorem end_eq (σ5 : SS) (x : Int32) : (if 0 ≤ x then some (x, σ5) else q_ci (pX12_finding σ5 3) (fun τ => τ) (fun r15 σ14 => some (r15, σ14))) = some (if 0 ≤ x then (x, σ5) else (-1000004, su σ5 4 3 (σ5 4 3 + 1))) := by
  rw [finding3, ci_s]
  split <;> rfl
theorem ge0 {m : Nat} (h : m < 2 ^ 31) : (0 : Int32) ≤ nI m := by
  rw [i_le, nI_toInt h]
  show (0 : Int) ≤ m
  omega
theorem fin_no (τ : SS) : (if (0 : Int32) ≤ -1 then ((-1 : Int32), τ) else (-1000004, su τ 4 3 (τ 4 3 + 1))) = (if (-1 : Int32) = -1 then ((-1000004 : Int32), su τ 4 3 (τ 4 3 + 1)) else (-1, τ)) := by
  rw [if_neg (by decide), if_pos rfl]
theorem fin_at (τ : SS) {m : Nat} (h : m < 2 ^ 31) : (if (0 : Int32) ≤ nI m then (nI m, τ) else (-1000004, su τ 4 3 (τ 4 3 + 1))) = (if nI m = -1 then ((-1000004 : Int32), su τ 4 3 (τ 4 3 + 1)) else (nI m, τ)) := by
  rw [if_pos (ge0 h), if_neg (nI_m1 h)]
theorem night_ok {n : Nat} {a : Int32} (h1 : ¬ wi (nI n) 1 200 = 0) (h2 : ¬ wi a 0 9999 = 0) : pX12_isNight (nI n) a = some 1 := by
  rw [(trial_g (nI n) a).2, if_neg h1, if_neg h2]
set_option maxHeartbeats 4000000 in
theorem rate12 (τ : SS) (hO : Ok (τ 1)) {n : Nat} (hn : n ≤ 200) {a : Int32} (hg : pX12_isNight (nI n) a = some 1) : ∃ r τ', pX12_rateFor τ (nI n) a = some (if r = -1 then (-1000004, su τ' 4 3 (τ' 4 3 + 1)) else (r, τ')) ∧ NS τ' τ ∧ Fst (fun k => mTop 0 (upd (τ 1) 5 (nI k)) n ≤ a) 1 99 r := by
  unfold pX12_rateFor
  rw [hg, cr_s, if_neg (by decide)]
  refine q_for (S := SS × Int32) (R := Int32 × SS) (fun (f : SS → Int32 → Int32 → Option (Int32 × SS)) s i => f s.1 s.2 i) (m := 1) (n := 100) (by omega) (by omega) (fun j b => NS b.1 τ ∧ ((b.2 = -1 ∧ ∀ l, 1 ≤ l → l < j → ¬ mTop 0 (upd (τ 1) 5 (nI l)) n ≤ a) ∨ ∃ m, 1 ≤ m ∧ m ≤ 99 ∧ b.2 = nI m ∧ mTop 0 (upd (τ 1) 5 (nI m)) n ≤ a ∧ ∀ l, 1 ≤ l → l < m → ¬ mTop 0 (upd (τ 1) 5 (nI l)) n ≤ a)) (fun o => ∃ r τ', o = some (if r = -1 then (-1000004, su τ' 4 3 (τ' 4 3 + 1)) else (r, τ')) ∧ NS τ' τ ∧ Fst (fun k => mTop 0 (upd (τ 1) 5 (nI k)) n ≤ a) 1 99 r) ?_ ?_ (τ, -1) ⟨NS_r τ, Or.inl ⟨rfl, fun l h1 h2 => by omega⟩⟩
  · rintro f j ⟨b, x⟩ hj1 hj2 ⟨hN, hh⟩ ih
    try dsimp only at hN hh ⊢
    simp only [lt_n, end_eq]
    rw [if_neg (fun hh => by have := (nI_ltS (n := 99) (by omega) (by omega)).mp hh; omega)]
    rcases hh with ⟨rfl, hl⟩ | ⟨m, m1, m2, rfl, m3, m4⟩
    · rw [if_neg (show ¬ (0 : Int32) ≤ -1 by decide)]
      have hOj := Ok_rate hO (k := j) (by omega)
      obtain ⟨b', w1, w2⟩ := sw12 b (w := 5) (v := nI j) (Or.inr (Or.inl rfl)) (by rw [hN.1]; exact hOj) hn a
      rw [hN.1] at w1
      rw [show (5 : Int32) = nI 5 from rfl, w1, ci_s, nI_s]
      by_cases hP : mTop 0 (upd (τ 1) 5 (nI j)) n ≤ a
      · obtain ⟨k, hk, ek⟩ := sw_val hOj n
        rw [show upd (τ 1) 5 (nI j) 9 = τ 1 9 from rfl] at ek
        rw [if_pos hP, ek, if_neg (by rw [i_lt, nI_toInt (by omega)]; show ¬ (k : Int) < 0; omega)]
        exact ih (b', nI j) ⟨NS_t w2 hN, Or.inr ⟨j, hj1, by omega, rfl, hP, hl⟩⟩
      · rw [if_neg hP, if_pos (by decide)]
        refine ih (b', -1) ⟨NS_t w2 hN, Or.inl ⟨rfl, fun l h1 h2 => ?_⟩⟩
        by_cases hlj : l = j
        · rw [hlj]; exact hP
        · exact hl l h1 (by omega)
    · rw [if_pos (ge0 (by omega)), fin_at b (by omega)]
      exact ⟨nI m, b, rfl, hN, Or.inr ⟨m, m1, m2, rfl, m3, m4⟩⟩
  · rintro f ⟨b, x⟩ ⟨hN, hh⟩
    try dsimp only at hN hh ⊢
    simp only [lt_n, end_eq]
    rw [if_pos (show (99 : Int32) < nI 100 by decide)]
    rcases hh with ⟨rfl, hl⟩ | ⟨m, m1, m2, rfl, m3, m4⟩
    · rw [fin_no]
      exact ⟨-1, b, rfl, hN, Or.inl ⟨rfl, fun m h1 h2 => hl m h1 (by omega)⟩⟩
    · rw [fin_at b (by omega)]
      exact ⟨nI m, b, rfl, hN, Or.inr ⟨m, m1, m2, rfl, m3, m4⟩⟩
/-- the class's end and the reference's -/
theorem both_end {σ τ : SS} (h : Rel σ τ) {s' τ' : SS} {r : Int32} (p3 : ∀ x, x < 14 → s' x = q_ap 1 (q_sb σ 52) (q_ap 13 (q_sb σ 3) (q_sb σ 53)) x) (hN : NS τ' τ) {o : Option (Int32 × SS)} (ho : o = some (if r = -1 then (-1000004, su τ' 4 3 (τ' 4 3 + 1)) else (r, τ'))) : ∃ (x : Int32) (σ2 : SS) (τ2 : SS), q_ci (pX11_orNone (q_em (q_em (q_em σ 52 0 1 s') 3 1 13 s') 53 14 14 s') r) (fun (τ : SS) => τ) (fun (r : Int32) (σ : SS) => some (r, σ)) = some (x, σ2) ∧ o = some (x, τ2) ∧ Rel σ2 τ2 := by
  have R1 : Rel (q_em (q_em (q_em σ 52 0 1 s') 3 1 13 s') 53 14 14 s') τ' := R_NS h (em3 σ (q_sb σ 53) s' p3) hN
  rw [orNone_eq, ci_s, ho]
  by_cases hm : r = -1
  · rw [if_pos hm, if_pos hm]
    exact ⟨_, _, _, rfl, rfl, R_tell R1 (by decide)⟩
  · rw [if_neg hm, if_neg hm]
    exact ⟨_, _, _, rfl, rfl, R1⟩
theorem trial_of {a b : Int32} (h1 : ¬ wi a 1 200 = 0) : ∃ n : Nat, n ≤ 200 ∧ 1 ≤ n ∧ a = nI n := by
  obtain ⟨g1, g2⟩ := wi_ok h1
  rw [show (1 : Int32).toInt = 1 from rfl] at g1
  obtain ⟨n, hn, rfl⟩ := num_of (a := a) (n := 200) (by omega) g2
  rw [nI_toInt (by omega)] at g1
  exact ⟨n, hn, by omega, rfl⟩
theorem s_rateFor : S_rateFor Rel := by
  intro σ τ a1 a2 h
  have R0 : Rel (su σ 1 0 (σ 1 0 + 1)) (su τ 4 0 (τ 4 0 + 1)) := R_tell h (by decide)
  obtain ⟨t1, t2⟩ := trial_g a1 a2
  by_cases h1 : wi a1 1 200 = 0
  · rw [if_pos h1] at t1 t2
    simp only [pX11_rateFor, pX12_rateFor, t1, t2, cr_s, tell_0, find_0, ci_s]
    exact ⟨_, _, _, rfl, rfl, R0⟩
  by_cases h2 : wi a2 0 9999 = 0
  · rw [if_neg h1, if_pos h2] at t1 t2
    simp only [pX11_rateFor, pX12_rateFor, t1, t2, cr_s, tell_0, find_0, ci_s]
    exact ⟨_, _, _, rfl, rfl, R0⟩
  rw [if_neg h1, if_neg h2] at t1 t2
  obtain ⟨n, hn, hn1, rfl⟩ := trial_of (b := a2) h1
  have ha : 0 ≤ a2.toInt := (wi_ok h2).1
  have hO := h.1.1
  obtain ⟨r, s', p1, p2, p3⟩ := rate3 (s := q_ap 1 (q_sb σ 52) (q_ap 13 (q_sb σ 3) (q_sb σ 53))) hO (CR_n3 h.1.2.1) hn ha
  obtain ⟨r', τ', k1, k2, k3⟩ := rate12 τ hO hn (a := a2) t2
  have hr := Fst_u p2 k3
  subst hr
  unfold pX11_rateFor
  rw [t1, cr_s, if_neg (by decide), p1, ci_s]
  exact both_end h p3 k2 k1
/-! ===== the best mark ===== -/
set_option maxHeartbeats 4000000 in
theorem best_l {σ τ : SS} (h : Rel σ τ) {n : Nat} (hn : n ≤ 200) {a : Int32} (ha : 0 ≤ a.toInt) (hg : pX12_isNight (nI n) a = some 1) : ∃ r s' τ', pX3_bestOnMark (q_ap 1 (q_sb σ 52) (q_ap 13 (q_sb σ 3) (q_sb σ 53))) (nI n) a = some (r, s') ∧ pX12_bestOn τ (nI n) a = some (if r = -1 then (-1000004, su τ' 4 3 (τ' 4 3 + 1)) else (r, τ')) ∧ (∀ x, x < 14 → s' x = q_ap 1 (q_sb σ 52) (q_ap 13 (q_sb σ 3) (q_sb σ 53)) x) ∧ NS τ' τ := by
  have hO := h.1.1
  have hc := CR_n3 (g := q_sb σ 53) h.1.2.1
  generalize q_ap 1 (q_sb σ 52) (q_ap 13 (q_sb σ 3) (q_sb σ 53)) = s at hc
  obtain ⟨s1, f1, f2, f3⟩ := foresee3 hO hc hn
  have o10 := hO.1.2.2.2.2.2.2.2.2.2.1
  obtain ⟨o, ho, eo⟩ := num_of (a := τ 1 4) (n := 998) o10.1 o10.2
  have es : s1 7 1 = nI o := by
    rw [f3 7 (by omega), ← eo]
    exact hc.1.2.2.2.2.1
  have e78 : s 7 8 = τ 1 9 := hc.1.2.2.2.2.2.2.2.2.2.1
  unfold pX3_bestOnMark pX12_bestOn
  rw [f1, cs_s, es, lt_v, hg, cr_s, if_neg (show ¬ (1 : Int32) = 0 by decide), Q1_4, eo, lt_v, nI_s]
  refine q_for2 (S1 := SS × Int32 × Int32) (S2 := SS × Int32 × Int32) (R1 := Int32 × SS) (R2 := Int32 × SS) (fun (f : SS → Int32 → Int32 → Int32 → Option (Int32 × SS)) s i => f s.1 s.2.1 s.2.2 i) (fun (f : SS → Int32 → Int32 → Int32 → Option (Int32 × SS)) s i => f s.1 s.2.1 s.2.2 i) (m := o + 1) (n := max (o + 1) 201) (by omega) (by omega) (fun j b β => ((∀ m, m < n → b.1 27 m = mQi (τ 1) m) ∧ ∀ x, x < 14 → b.1 x = s x) ∧ NS β.1 τ ∧ ((b.2.1 = -1 ∧ β.2.1 = -1 ∧ b.2.2 = 201) ∨ ∃ p k, p ≤ 200 ∧ k ≤ 200 ∧ b.2.1 = nI p ∧ β.2.1 = nI p ∧ b.2.2 = nI k ∧ β.2.2 = nI k)) (fun o1 o2 => ∃ r s' τ', o1 = some (r, s') ∧ o2 = some (if r = -1 then (-1000004, su τ' 4 3 (τ' 4 3 + 1)) else (r, τ')) ∧ (∀ x, x < 14 → s' x = s x) ∧ NS τ' τ) ?_ ?_ (s1, -1, 201) (τ, -1, 0) ⟨⟨f2, f3⟩, NS_r τ, Or.inl ⟨rfl, rfl, rfl⟩⟩
  · rintro f g j ⟨b, x3, x4⟩ ⟨β, y3, y4⟩ hj1 hj2 ⟨⟨hb1, hb2⟩, hN, hh⟩ ih
    try dsimp only at hb1 hb2 hN hh ⊢
    have hj : j ≤ 200 := by omega
    obtain ⟨b', p1, p2, p3⟩ := pump3 hO (CR_b hc hb2)
    have n200 : ¬ (200 : Int32) < nI j := fun hh => by have := (nI_ltS (n := 200) (by omega) (by omega)).mp hh; omega
    rw [if_neg n200, if_neg n200, p1, lt_v]
    obtain ⟨⟨c0, c1, c2, c3, c4, c5, c6, c7, c8, c9⟩, cl⟩ := id p2
    have hp : PR (q_sb (su b' 20 0 (nI j)) 20) (upd (τ 1) 3 (nI j)) := PR_upd p2 (fun i hi => rfl) rfl (fun i hi => upd_ne (by omega)) ⟨rfl, c1, c2, c3, c4, c5, c6, c7, c8, c9⟩
    have keep : ∀ x, x ≠ 20 → x ≠ 21 → su b' 20 0 (nI j) x = b x := fun x h1 h2 => by rw [ud_ne _ _ _ h1, p3 x h1 h2]
    have hOj := Ok_on hO (nI j)
    obtain ⟨s', q1, q2, q3⟩ := try3 (n := n) (a := a) hO hOj (eqI_upd (nI j) (Or.inl rfl)) rfl hc hp (fun x hx => (keep x (by omega) (by omega)).trans (hb2 x hx)) hn (fun m hm => by rw [keep 27 (by omega) (by omega)]; exact hb1 m hm) ha
    obtain ⟨β', w1, w2⟩ := sw12 β (w := 3) (v := nI j) (Or.inl rfl) (by rw [hN.1]; exact hOj) hn a
    rw [hN.1] at w1
    rw [q1, ci_s, show (3 : Int32) = nI 3 from rfl, w1, ci_s]
    have k1 : ∀ x, x < 14 → s' x = s x := fun x hx => by rw [q3 x (by omega) (by omega), keep x (by omega) (by omega), hb2 x hx]
    have k27 : ∀ m, m < n → s' 27 m = mQi (τ 1) m := fun m hm => by rw [q3 27 (by omega) (by omega), keep 27 (by omega) (by omega)]; exact hb1 m hm
    have kN := NS_t w2 hN
    simp only [lt_n, nI_s]
    by_cases hP : mTop 0 (upd (τ 1) 3 (nI j)) n ≤ a
    · obtain ⟨k, hk, ek⟩ := sw_val hOj n
      rw [show upd (τ 1) 3 (nI j) 9 = τ 1 9 from rfl] at ek
      rw [if_pos hP, if_pos hP, ek, q2 hP, k1 7 (by omega), e78, ek, if_neg (show ¬ (1 : Int32) = 0 by decide), if_neg (show ¬ nI k < 0 by rw [i_lt, nI_toInt (by omega)]; show ¬ (k : Int) < 0; omega)]
      rcases hh with ⟨rfl, rfl, rfl⟩ | ⟨p, k', hp1, hk1, rfl, rfl, rfl, rfl⟩
      · rw [if_neg (show ¬ (201 : Int32) ≤ nI k from fun hh => by have := (nI_leS (n := 201) (by omega) (by omega)).mp hh; omega), if_pos (show (-1 : Int32) < 0 by decide)]
        exact ih (s', nI j, nI k) (β', nI j, nI k) ⟨⟨k27, k1⟩, kN, Or.inr ⟨j, k, hj, by omega, rfl, rfl, rfl, rfl⟩⟩
      · rw [if_neg (show ¬ nI p < 0 by rw [i_lt, nI_toInt (by omega)]; show ¬ (p : Int) < 0; omega)]
        by_cases hkk : nI k' ≤ nI k
        · rw [if_pos hkk, if_pos hkk]
          exact ih (s', nI p, nI k') (β', nI p, nI k') ⟨⟨k27, k1⟩, kN, Or.inr ⟨p, k', hp1, hk1, rfl, rfl, rfl, rfl⟩⟩
        · rw [if_neg hkk, if_neg hkk]
          exact ih (s', nI j, nI k) (β', nI j, nI k) ⟨⟨k27, k1⟩, kN, Or.inr ⟨j, k, hj, by omega, rfl, rfl, rfl, rfl⟩⟩
    · rw [if_neg hP, if_neg hP, if_pos (show (0 : Int32) = 0 from rfl), if_pos (show (-1 : Int32) < 0 by decide)]
      exact ih (s', x3, x4) (β', y3, y4) ⟨⟨k27, k1⟩, kN, hh⟩
  · rintro f g ⟨b, x3, x4⟩ ⟨β, y3, y4⟩ ⟨⟨hb1, hb2⟩, hN, hh⟩
    try dsimp only at hb1 hb2 hN hh ⊢
    have n200 : (200 : Int32) < nI (max (o + 1) 201) := (nI_ltS (n := 200) (by omega) (by omega)).mpr (by omega)
    rw [if_pos n200, if_pos n200]
    simp only [lt_n, end_eq]
    rcases hh with ⟨rfl, rfl, rfl⟩ | ⟨p, k', hp1, hk1, rfl, rfl, rfl, rfl⟩
    · rw [fin_no]
      exact ⟨-1, b, β, rfl, rfl, hb2, hN⟩
    · rw [fin_at β (by omega)]
      exact ⟨nI p, b, β, rfl, rfl, hb2, hN⟩
theorem s_bestOn : S_bestOn Rel := by
  intro σ τ a1 a2 h
  have R0 : Rel (su σ 1 0 (σ 1 0 + 1)) (su τ 4 0 (τ 4 0 + 1)) := R_tell h (by decide)
  obtain ⟨t1, t2⟩ := trial_g a1 a2
  by_cases h1 : wi a1 1 200 = 0
  · rw [if_pos h1] at t1 t2
    simp only [pX11_bestOn, pX12_bestOn, t1, t2, cr_s, tell_0, find_0, ci_s]
    exact ⟨_, _, _, rfl, rfl, R0⟩
  by_cases h2 : wi a2 0 9999 = 0
  · rw [if_neg h1, if_pos h2] at t1 t2
    simp only [pX11_bestOn, pX12_bestOn, t1, t2, cr_s, tell_0, find_0, ci_s]
    exact ⟨_, _, _, rfl, rfl, R0⟩
  rw [if_neg h1, if_neg h2] at t1 t2
  obtain ⟨n, hn, hn1, rfl⟩ := trial_of (b := a2) h1
  have ha : 0 ≤ a2.toInt := (wi_ok h2).1
  obtain ⟨r, s', τ', p1, p2, p3, p4⟩ := best_l h hn ha t2
  unfold pX11_bestOn
  rw [t1, cr_s, if_neg (by decide), p1, ci_s]
  exact both_end h p3 p4 p2
