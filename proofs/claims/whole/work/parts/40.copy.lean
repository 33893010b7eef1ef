/-! ===== copies of numbers ===== -/
theorem sub_toInt {a b : Int32} (ha : 0 ≤ a.toInt) (hb : 0 ≤ b.toInt) : (a - b).toInt = a.toInt - b.toInt := by
  have h1 := a.toInt_lt
  have h2 := b.toInt_lt
  rw [Int32.toInt_sub, Int.bmod_eq_of_le]
  · omega
  · omega
def rg (m a n : Int32) : Prop := 0 ≤ a.toInt ∧ 0 ≤ n.toInt ∧ a.toInt + n.toInt ≤ m.toInt
theorem range6 (s : SS) (a n : Int32) (h0 : 0 ≤ (s 0 1).toInt) : ∃ r, pX6_hasRange s a n = some r ∧ (r = 0 ↔ ¬ rg (s 0 1) a n) := by
  have z0 : (0 : Int32).toInt = 0 := rfl
  unfold pX6_hasRange rg
  simp only [lt_v]
  by_cases h1 : a < 0
  · rw [if_pos h1]
    rw [i_lt, z0] at h1
    exact ⟨0, rfl, ⟨fun _ hh => by omega, fun _ => rfl⟩⟩
  rw [if_neg h1]
  rw [i_lt, z0] at h1
  by_cases h2 : n < 0
  · rw [if_pos h2]
    rw [i_lt, z0] at h2
    exact ⟨0, rfl, ⟨fun _ hh => by omega, fun _ => rfl⟩⟩
  rw [if_neg h2]
  rw [i_lt, z0] at h2
  by_cases h3 : s 0 1 < a
  · rw [if_pos h3]
    rw [i_lt] at h3
    exact ⟨0, rfl, ⟨fun _ hh => by omega, fun _ => rfl⟩⟩
  rw [if_neg h3]
  rw [i_lt] at h3
  by_cases h4 : s 0 1 - a < n
  · rw [if_pos h4]
    rw [i_lt, sub_toInt h0 (by omega)] at h4
    exact ⟨0, rfl, ⟨fun _ hh => by omega, fun _ => rfl⟩⟩
  · rw [if_neg h4]
    rw [i_lt, sub_toInt h0 (by omega)] at h4
    exact ⟨1, rfl, ⟨fun hh => absurd hh (by decide), fun hh => absurd ⟨by omega, by omega, by omega⟩ hh⟩⟩
def cpK (σ : SS) (b d b1 d1 : Nat) (a2 a4 a5 : Int32) : Option (Int32 × SS) := q_cr (pX6_isMissing (q_sb σ b)) (fun (r9 : Int32) => (if r9 = 0 then q_cr (pX6_isMissing (q_sb σ d)) (fun (r15 : Int32) => (if r15 = 0 then (if (σ b 0) = (σ d 0) then q_cr (pX6_hasRange (q_sb σ b) a2 a5) (fun (r18 : Int32) => (if r18 = 0 then pX11_tell σ (-1000001) else q_cr (pX6_hasRange (q_sb σ d) a4 a5) (fun (r23 : Int32) => (if r23 = 0 then pX11_tell σ (-1000001) else q_ac σ b1 40 d1 40 a2 a4 a5 (fun (σ25 : SS) => some (a5, σ25)))))) else pX11_tell σ (-1000003)) else pX11_tell σ (-1000006))) else pX11_tell σ (-1000006)))
set_option maxHeartbeats 4000000 in
theorem copy_u (σ : SS) {k l : Nat} (hk : k < 4) (hl : l < 4) (a2 a4 a5 : Int32) : pX11_copy σ (nI k) a2 (nI l) a4 a5 = cpK σ (44 + 2 * k) (44 + 2 * l) (45 + 2 * k) (45 + 2 * l) a2 a4 a5 := by
  rcases (by omega : k = 0 ∨ k = 1 ∨ k = 2 ∨ k = 3) with rfl | rfl | rfl | rfl <;> rcases (by omega : l = 0 ∨ l = 1 ∨ l = 2 ∨ l = 3) with rfl | rfl | rfl | rfl <;> rfl
theorem copy_w {σ : SS} {a3 : Int32} (a1 a2 a4 a5 : Int32) (h : wi a1 0 3 = 0 ∨ wi a3 0 3 = 0) : pX11_copy σ a1 a2 a3 a4 a5 = pX11_tell σ (-1000001) := by
  unfold pX11_copy
  simp only [isSheet11, cr_s, lt_v, tell_0, ci_s]
  by_cases h1 : wi a1 0 3 = 0
  · simp only [if_pos h1]
  · have h3 : wi a3 0 3 = 0 := by
      rcases h with hh | hh
      · exact absurd hh h1
      · exact hh
    simp only [if_neg h1, if_pos h3]
theorem ac_i {R : Type} (σ : SS) (c0 c1 : Nat) {n0 n1 a b n : Nat} (k : SS → Option R) (h0 : a + n ≤ n0) (h1 : b + n ≤ n1) (hn : n0 + n1 < 2 ^ 31 := by omega) : q_ac σ c0 n0 c1 n1 (nI a) (nI b) (nI n) k = k (q_sc σ c1 (va_cpy (σ c0) (σ c1) a b n)) := by
  unfold q_ac
  rw [if_pos ⟨by rw [nI_toInt (by omega)]; omega, by rw [nI_toInt (by omega)]; omega, by rw [nI_toInt (by omega)]; omega, by rw [nI_toInt (by omega), nI_toInt (by omega)]; omega, by rw [nI_toInt (by omega), nI_toInt (by omega)]; omega⟩, nI_clamp (by omega), nI_clamp (by omega), nI_clamp (by omega)]
theorem carry_lp {τ : SS} {k l a b n : Nat} (hk : k < 4) (hl : l < 4) (ha : a + n ≤ 40) (hb : b + n ≤ 40) : ∃ c, q_lp (fun _ _ => none) (fun (c30 : SS → Int32 → Option (Int32 × SS)) (σ29 : SS) (x6_28 : Int32) => (if nI n ≤ x6_28 then q_lp (fun _ _ => none) (fun (c36 : SS → Int32 → Option (Int32 × SS)) (σ35 : SS) (x6_34 : Int32) => (if nI n ≤ x6_34 then some (nI n, σ35) else q_rd (σ35 11) 40 x6_34 (fun v40 => q_wr σ35 10 160 (((40 * nI l) + nI b) + x6_34) v40 (fun σ41 => c36 σ41 (x6_34 + 1))))) q_fu σ29 0 else q_rd (σ29 10) 160 (((40 * nI k) + nI a) + x6_28) (fun v42 => q_wr σ29 11 40 x6_28 v42 (fun σ43 => c30 σ43 (x6_28 + 1))))) q_fu τ 0 = some (nI n, q_sc (q_sc τ 11 c) 10 (va_cpy (τ 10) (τ 10) (40 * k + a) (40 * l + b) n)) := by
  have e40 : ∀ m x j : Nat, (40 : Int32) * nI m + nI x + nI j = nI (40 * m + x + j) := fun m x j => by rw [show (40 : Int32) = nI 40 from rfl, pk_mul, nI_add, nI_add]
  refine q_for (S := SS) (R := Int32 × SS) (fun (f : SS → Int32 → Option (Int32 × SS)) s i => f s i) (m := 0) (n := n) (by omega) (by omega) (fun j s => ∃ c, s = q_sc τ 11 c ∧ ∀ i, i < j → c i = τ 10 (40 * k + a + i)) (fun o => ∃ c, o = some (nI n, q_sc (q_sc τ 11 c) 10 (va_cpy (τ 10) (τ 10) (40 * k + a) (40 * l + b) n))) ?_ ?_ τ ⟨τ 11, (sc_self τ 11).symm, fun i hi => by omega⟩
  · rintro f j s hj1 hj2 ⟨c, rfl, hc⟩ ih
    try dsimp only
    rw [if_neg (by rw [nI_leS (by omega) (by omega)]; omega), e40, rd_n _ _ (by omega), wr_n _ _ _ _ (by omega), nI_s, sc_su]
    refine ih _ ⟨_, rfl, fun i hi => ?_⟩
    by_cases hij : i = j
    · subst hij; rw [upd_at]; rfl
    · rw [upd_ne hij]; exact hc i (by omega)
  · rintro f s ⟨c, rfl, hc⟩
    try dsimp only
    rw [if_pos (by rw [nI_leS (by omega) (by omega)]; omega)]
    refine ⟨c, ?_⟩
    refine q_for (S := SS) (R := Int32 × SS) (fun (f : SS → Int32 → Option (Int32 × SS)) s i => f s i) (m := 0) (n := n) (by omega) (by omega) (fun j s => s = q_sc (q_sc τ 11 c) 10 (va_cpy (τ 10) (τ 10) (40 * k + a) (40 * l + b) j)) (fun o => o = some (nI n, q_sc (q_sc τ 11 c) 10 (va_cpy (τ 10) (τ 10) (40 * k + a) (40 * l + b) n))) ?_ ?_ _ ?_
    · intro f2 j s hj1 hj2 hs ih
      subst hs
      try dsimp only
      rw [if_neg (by rw [nI_leS (by omega) (by omega)]; omega), rd_n _ _ (by omega), e40, wr_n _ _ _ _ (by omega), nI_s, sc_su]
      refine ih _ ?_
      congr 1
      funext i
      show upd _ (40 * l + b + j) (c j) i = _
      rw [hc j hj2]
      unfold va_cpy
      by_cases hij : i = 40 * l + b + j
      · subst hij
        rw [upd_at, if_pos (by omega), show 40 * l + b + j - (40 * l + b) = j by omega]
      · rw [upd_ne hij]
        by_cases hi2 : 40 * l + b ≤ i ∧ i < 40 * l + b + j
        · rw [if_pos hi2, if_pos (by omega)]
        · rw [if_neg hi2, if_neg (by omega)]
    · intro f2 s hs
      subst hs
      try dsimp only
      rw [if_pos (by rw [nI_leS (by omega) (by omega)]; omega)]
    · have : va_cpy (τ 10) (τ 10) (40 * k + a) (40 * l + b) 0 = τ 10 := funext (fun i => if_neg (by omega))
      rw [this]
      exact (sc_self (q_sc τ 11 c) 10).symm
theorem s_copy : S_copy Rel := by
  intro σ τ a1 a2 a3 a4 a5 h
  have R0 : Rel (su σ 1 0 (σ 1 0 + 1)) (su τ 4 0 (τ 4 0 + 1)) := R_tell h (by decide)
  have R2 : Rel (su σ 1 2 (σ 1 2 + 1)) (su τ 4 2 (τ 4 2 + 1)) := R_tell h (by decide)
  have R5 : Rel (su σ 1 5 (σ 1 5 + 1)) (su τ 4 5 (τ 4 5 + 1)) := R_tell h (by decide)
  by_cases h1 : wi a1 0 3 = 0
  · rw [copy_w _ _ _ _ (Or.inl h1)]
    simp only [pX12_copy, isSheet12, cr_s, lt_v, tell_0, find_0, ci_s, if_pos h1]
    exact ⟨_, _, _, rfl, rfl, R0⟩
  by_cases h2 : wi a3 0 3 = 0
  · rw [copy_w _ _ _ _ (Or.inr h2)]
    simp only [pX12_copy, isSheet12, cr_s, lt_v, tell_0, find_0, ci_s, if_neg h1, if_pos h2]
    exact ⟨_, _, _, rfl, rfl, R0⟩
  obtain ⟨k, rfl, hk⟩ := sh_of h1
  obtain ⟨l, rfl, hl⟩ := sh_of h2
  obtain ⟨r1, r2, r3, r4, r5⟩ := SR_get h.2.2.2.2.2 hk
  obtain ⟨s1, s2, s3, s4, s5⟩ := SR_get h.2.2.2.2.2 hl
  rw [copy_u σ hk hl]
  unfold cpK
  simp only [pX12_copy, isSheet12, missing6, cr_s, lt_v, tell_0, find_0, tell_2, find_2, tell_5, find_5, ci_s, if_neg h1, if_neg h2]
  have q0 : q_sb σ (44 + 2 * k) 0 0 = τ 8 k := r1
  have q1 : q_sb σ (44 + 2 * l) 0 0 = τ 8 l := s1
  rw [q0, q1, r1, s1]
  simp only [rd_n (τ 8) _ hk, rd_n (τ 8) _ hl, rd_n (τ 9) _ hk, rd_n (τ 9) _ hl]
  by_cases h3 : τ 8 k = 0
  · rw [if_pos h3, if_pos h3, if_neg (by decide)]
    exact ⟨_, _, _, rfl, rfl, R5⟩
  rw [if_neg h3, if_neg h3, if_pos rfl]
  by_cases h4 : τ 8 l = 0
  · rw [if_pos h4, if_pos h4, if_neg (by decide)]
    exact ⟨_, _, _, rfl, rfl, R5⟩
  rw [if_neg h4, if_neg h4, if_pos rfl]
  by_cases h5 : ¬ τ 8 k = τ 8 l
  · rw [if_neg h5, if_neg h5]
    exact ⟨_, _, _, rfl, rfl, R2⟩
  replace h5 := Decidable.not_not.mp h5
  rw [if_pos h5, if_pos h5]
  have z0 : (0 : Int32).toInt = 0 := rfl
  obtain ⟨x1, y1, y2⟩ := range6 (q_sb σ (44 + 2 * k)) a2 a5 (by show 0 ≤ (σ (44 + 2 * k) 1).toInt; rw [r3]; exact r4.1)
  obtain ⟨x2, u1, u2⟩ := range6 (q_sb σ (44 + 2 * l)) a4 a5 (by show 0 ≤ (σ (44 + 2 * l) 1).toInt; rw [s3]; exact s4.1)
  rw [show q_sb σ (44 + 2 * k) 0 1 = τ 9 k from r3] at y2
  rw [show q_sb σ (44 + 2 * l) 0 1 = τ 9 l from s3] at u2
  rw [y1, cr_s, u1, cr_s]
  unfold rg at y2 u2
  have bad : (x1 = 0 ∨ x2 = 0) → ∃ (r : Int32) (σ2 : SS) (τ2 : SS), (if x1 = 0 then some (-1000001, su σ 1 0 (σ 1 0 + 1)) else if x2 = 0 then some (-1000001, su σ 1 0 (σ 1 0 + 1)) else q_ac σ (45 + 2 * k) 40 (45 + 2 * l) 40 a2 a4 a5 (fun (σ25 : SS) => some (a5, σ25))) = some (r, σ2) ∧ some (-1000001, su τ 4 0 (τ 4 0 + 1)) = some (r, τ2) ∧ Rel σ2 τ2 := fun hx => by
    by_cases hx1 : x1 = 0
    · rw [if_pos hx1]; exact ⟨_, _, _, rfl, rfl, R0⟩
    · rw [if_neg hx1, if_pos (by rcases hx with hh | hh; exact absurd hh hx1; exact hh)]
      exact ⟨_, _, _, rfl, rfl, R0⟩
  by_cases g1 : a2 < 0
  · rw [if_pos g1]
    rw [i_lt, z0] at g1
    exact bad (Or.inl (y2.mpr (fun hh => by omega)))
  rw [if_neg g1]
  by_cases g2 : a4 < 0
  · rw [if_pos g2]
    rw [i_lt, z0] at g2
    exact bad (Or.inr (u2.mpr (fun hh => by omega)))
  rw [if_neg g2]
  by_cases g3 : a5 < 0
  · rw [if_pos g3]
    rw [i_lt, z0] at g3
    exact bad (Or.inl (y2.mpr (fun hh => by omega)))
  rw [if_neg g3]
  rw [i_lt, z0] at g1 g2 g3
  by_cases g4 : τ 9 k - a5 < a2
  · rw [if_pos g4]
    rw [i_lt, sub_toInt r4.1 (by omega)] at g4
    exact bad (Or.inl (y2.mpr (fun hh => by omega)))
  rw [if_neg g4]
  rw [i_lt, sub_toInt r4.1 (by omega)] at g4
  by_cases g5 : ¬ a4 ≤ τ 9 l - a5
  · rw [if_neg g5]
    rw [i_le, sub_toInt s4.1 (by omega)] at g5
    exact bad (Or.inr (u2.mpr (fun hh => by omega)))
  replace g5 := Decidable.not_not.mp g5
  rw [if_pos g5]
  rw [i_le, sub_toInt s4.1 (by omega)] at g5
  have nx1 : ¬ x1 = 0 := fun hh => (y2.mp hh) ⟨by omega, by omega, by omega⟩
  have nx2 : ¬ x2 = 0 := fun hh => (u2.mp hh) ⟨by omega, by omega, by omega⟩
  rw [if_neg nx1, if_neg nx2]
  obtain ⟨a, ha, rfl⟩ := num_of (a := a2) (n := 40) (by omega) (by omega)
  obtain ⟨b, hb, rfl⟩ := num_of (a := a4) (n := 40) (by omega) (by omega)
  obtain ⟨n, hn, rfl⟩ := num_of (a := a5) (n := 40) (by omega) (by omega)
  rw [nI_toInt (by omega), nI_toInt (by omega)] at g4 g5
  obtain ⟨c, hc⟩ := carry_lp (τ := τ) (k := k) (l := l) (a := a) (b := b) (n := n) hk hl (by omega) (by omega)
  rw [hc, ac_i _ _ _ _ (by omega) (by omega)]
  refine ⟨_, _, _, rfl, rfl, R_sh h (fun x hx => if_neg (by omega)) (fun x hx => (if_neg (by omega)).trans (if_neg (by omega))) (SR_mk (fun m hm => ?_))⟩
  obtain ⟨v1, v2, v3, v4, v5⟩ := SR_get h.2.2.2.2.2 hm
  rw [show q_sc σ (45 + 2 * l) (va_cpy (σ (45 + 2 * k)) (σ (45 + 2 * l)) a b n) (44 + 2 * m) = σ (44 + 2 * m) from if_neg (by omega)]
  refine ⟨v1, v2, v3, v4, fun i hi => ?_⟩
  show _ = va_cpy (τ 10) (τ 10) (40 * k + a) (40 * l + b) n (40 * m + i)
  by_cases hml : m = l
  · subst hml
    rw [show q_sc σ (45 + 2 * m) (va_cpy (σ (45 + 2 * k)) (σ (45 + 2 * m)) a b n) (45 + 2 * m) = va_cpy (σ (45 + 2 * k)) (σ (45 + 2 * m)) a b n from if_pos rfl]
    unfold va_cpy
    by_cases hi2 : b ≤ i ∧ i < b + n
    · rw [if_pos hi2, if_pos (by omega), r5 _ (by omega)]
      congr 1
      omega
    · rw [if_neg hi2, if_neg (by omega)]
      exact v5 i hi
  · rw [show q_sc σ (45 + 2 * l) (va_cpy (σ (45 + 2 * k)) (σ (45 + 2 * l)) a b n) (45 + 2 * m) = σ (45 + 2 * m) from if_neg (by omega)]
    unfold va_cpy
    rw [if_neg (by omega)]
    exact v5 i hi
/-! ===== two loops side by side ===== -/
theorem q_for2 {T1 T2 S1 S2 R1 R2 : Type} {bot1 : T1} {bot2 : T2} {st1 : T1 → T1} {st2 : T2 → T2} (ap1 : T1 → S1 → Int32 → Option R1) (ap2 : T2 → S2 → Int32 → Option R2) {m n : Nat} (hm : m ≤ n) (hn : n < 4000) (J : Nat → S1 → S2 → Prop) (Post : Option R1 → Option R2 → Prop) (step : ∀ (f : T1) (g : T2) (j : Nat) (s1 : S1) (s2 : S2), m ≤ j → j < n → J j s1 s2 → (∀ (s1' : S1) (s2' : S2), J (j + 1) s1' s2' → Post (ap1 f s1' (nI (j + 1))) (ap2 g s2' (nI (j + 1)))) → Post (ap1 (st1 f) s1 (nI j)) (ap2 (st2 g) s2 (nI j))) (last : ∀ (f : T1) (g : T2) (s1 : S1) (s2 : S2), J n s1 s2 → Post (ap1 (st1 f) s1 (nI n)) (ap2 (st2 g) s2 (nI n))) (s1 : S1) (s2 : S2) (h0 : J m s1 s2) : Post (ap1 (q_lp bot1 st1 q_fu) s1 (nI m)) (ap2 (q_lp bot2 st2 q_fu) s2 (nI m)) := by
  have aux : ∀ (N k j : Nat) (s1 : S1) (s2 : S2), j + k = n → m ≤ j → k < N → J j s1 s2 → Post (ap1 (q_lp bot1 st1 N) s1 (nI j)) (ap2 (q_lp bot2 st2 N) s2 (nI j)) := by
    intro N
    induction N with
    | zero => intro k j s1 s2 _ _ hk _; omega
    | succ N ih =>
      intro k j s1 s2 hj hmj hk hJ
      show Post (ap1 (st1 (q_lp bot1 st1 N)) s1 (nI j)) (ap2 (st2 (q_lp bot2 st2 N)) s2 (nI j))
      by_cases hjn : j = n
      · subst hjn; exact last _ _ s1 s2 hJ
      · exact step _ _ j s1 s2 hmj (by omega) hJ (fun s1' s2' hJ' => ih (k - 1) (j + 1) s1' s2' (by omega) (by omega) (by omega) hJ')
  exact aux q_fu (n - m) m s1 s2 (by omega) (Nat.le_refl m) (fu_lt (by omega)) h0
/-! ===== rains of a sheet ===== -/
def ldK (σ : SS) (b b1 : Nat) : Option (Int32 × SS) := q_cr (pX6_isMissing (q_sb σ b)) (fun (r4 : Int32) => (if r4 = 0 then q_lp (fun _ _ => none) (fun (c8 : SS → Int32 → Option (Int32 × SS)) (σ7 : SS) (x2_6 : Int32) => (if (σ7 b 1) ≤ x2_6 then some (x2_6, σ7) else q_rd (σ7 b1) 40 x2_6 (fun v13 => q_cr (pX11_within v13 0 99) (fun r16 => (if r16 = 0 then some (x2_6, σ7) else q_rd (σ7 b1) 40 x2_6 (fun v18 => q_cs (pX0_passMinute (q_sb (su σ7 3 6 v18) 3)) (fun (τ : SS) => (q_em (su σ7 3 6 v18) 3 0 13 τ)) (fun σ20 => c8 σ20 (x2_6 + 1)))))))) q_fu σ 0 else pX11_tell σ (-1000006)))
theorem load_u (σ : SS) {k : Nat} (hk : k < 4) : pX11_load σ (nI k) = ldK σ (44 + 2 * k) (45 + 2 * k) := by
  rcases (by omega : k = 0 ∨ k = 1 ∨ k = 2 ∨ k = 3) with rfl | rfl | rfl | rfl <;> rfl
theorem lacks12 (τ : SS) {k : Nat} (hk : k < 4) : pX12_lacks τ (nI k) = some (if τ 8 k = 0 then 5 else -1) := by
  unfold pX12_lacks
  simp only [isSheet12, cr_s, lt_v, if_neg (wi_in hk), rd_n (τ 8) _ hk]
  split <;> rfl
theorem lacks_w (τ : SS) {a : Int32} (h : wi a 0 3 = 0) : pX12_lacks τ a = some 0 := by
  unfold pX12_lacks
  simp only [isSheet12, cr_s, lt_v, if_pos h]
theorem R_min {σ τ : SS} (h : Rel σ τ) : ∃ c', pX0_passMinute (q_sb σ 3) = some c' ∧ pX12_goes τ = some (q_sc τ 1 (mGoes (τ 1))) ∧ Rel (q_em σ 3 0 13 c') (q_sc τ 1 (mGoes (τ 1))) := by
  obtain ⟨c', k1, k2, k3⟩ := minute0 (c := q_sb σ 3) h.1.1 h.1.2.1
  have ho := h.1.1.1
  refine ⟨c', k1, goes12 τ ho.1 (PO_rises ho) (by rw [min_17 ho]; exact ho.2.1), R_house h (HR_iter (σ := σ) (b := 2) 1 h.1 k2) (fun x hx => if_neg (by omega)) rfl rfl (fun x hx => if_neg (by omega))⟩
theorem s_load : S_load Rel := by
  intro σ τ a1 h
  by_cases h1 : wi a1 0 3 = 0
  · simp only [pX11_load, pX12_load, isSheet11, lacks_w τ h1, cr_s, tell_0, find_0, ci_s, if_pos h1]
    exact ⟨_, _, _, rfl, rfl, R_tell h (by decide)⟩
  obtain ⟨k, rfl, hk⟩ := sh_of h1
  obtain ⟨r1, r2, r3, r4, r5⟩ := SR_get h.2.2.2.2.2 hk
  rw [load_u σ hk]
  unfold ldK pX12_load
  have q0 : q_sb σ (44 + 2 * k) 0 0 = τ 8 k := r1
  rw [missing6, lacks12 τ hk, cr_s, cr_s, q0]
  by_cases h0 : τ 8 k = 0
  · rw [if_pos h0, if_pos h0, if_neg (by decide), if_neg (by decide), tell_5]
    simp only [find_5, ci_s]
    exact ⟨_, _, _, rfl, rfl, R_tell h (by decide)⟩
  rw [if_neg h0, if_neg h0, if_pos rfl, if_pos (by decide)]
  obtain ⟨n, hn, en⟩ := num_of (a := τ 9 k) (n := 40) r4.1 r4.2
  simp only [lt_v]
  refine q_for2 (S1 := SS) (S2 := SS) (R1 := Int32 × SS) (R2 := Int32 × SS) (fun (f : SS → Int32 → Option (Int32 × SS)) s i => f s i) (fun (f : SS → Int32 → Option (Int32 × SS)) s i => f s i) (m := 0) (n := n) (by omega) (by omega) (fun j s1 s2 => Rel s1 s2 ∧ s2 9 k = nI n) (fun o1 o2 => ∃ r σ2 τ2, o1 = some (r, σ2) ∧ o2 = some (r, τ2) ∧ Rel σ2 τ2) ?_ ?_ σ τ ⟨h, en⟩
  · rintro f g j s1 s2 hj1 hj2 ⟨hR, e9⟩ ih
    try dsimp only
    obtain ⟨u1, u2, u3, u4, u5⟩ := SR_get hR.2.2.2.2.2 hk
    have z5 := u5 j (by omega)
    rw [u3, rd_n (s2 9) _ hk, e9, if_neg (by rw [nI_leS (by omega) (by omega)]; omega), if_neg (by rw [nI_leS (by omega) (by omega)]; omega), rd_n _ _ (by omega), rd_n _ _ (by omega), show (40 : Int32) * nI k + nI j = nI (40 * k + j) by rw [show (40 : Int32) = nI 40 from rfl, pk_mul, nI_add], rd_n _ _ (by omega), rd_n _ _ (by omega), z5, within_eq, in_eq, cr_s, cr_s]
    by_cases hw : wi (s2 10 (40 * k + j)) 0 99 = 0
    · rw [if_pos hw, if_pos hw]
      exact ⟨_, _, _, rfl, rfl, hR⟩
    · rw [if_neg hw, if_neg hw, W1_0, ← su_sc]
      obtain ⟨c', p1, p2, p3⟩ := R_min (put_0 hR hw)
      rw [p1, p2, cs_s, cs_s, nI_s]
      exact ih _ _ ⟨p3, e9⟩
  · rintro f g s1 s2 ⟨hR, e9⟩
    try dsimp only
    obtain ⟨u1, u2, u3, u4, u5⟩ := SR_get hR.2.2.2.2.2 hk
    rw [u3, rd_n (s2 9) _ hk, e9, if_pos (by rw [nI_leS (by omega) (by omega)]; omega), if_pos (by rw [nI_leS (by omega) (by omega)]; omega)]
    exact ⟨_, _, _, rfl, rfl, hR⟩
/-! ===== the reader of sheets ===== -/
theorem misj3 {s : SS} {t : Nat → Int32} {n : Nat} (hO : Ok t) (hc : CRel (q_sb s 1) t) (hn : n ≤ 40) (e : s 28 1 = nI n) : ∃ r s', pX3_firstMisjudged s = some ((if r = -1 then 0 else r), s') ∧ Fst (fun m => ¬ mIter t m 2 = s 29 (m - 1)) 1 n r ∧ ∀ x, (x < 14 ∨ 28 ≤ x) → s' x = s x := by
  have hc' : CRel (q_sb (q_sb s 0) 1) t := by rw [sb_sb]; exact hc
  obtain ⟨s1, b1, b2, b3, b4⟩ := begin3 (s := q_sb s 0) hO hc'
  unfold pX3_firstMisjudged
  rw [b1, cs_s]
  have f1 : ∀ x, (x < 14 ∨ 28 ≤ x) → q_em s 0 0 28 s1 x = s x := fun x hx => by
    by_cases h28 : x < 28
    · have := em_in (σ := s) (τ := s1) (b := 0) (o := 0) (n := 28) x h28
      rw [Nat.zero_add] at this
      rw [this, b4 x (by omega)]
      show s (0 + x) = s x
      rw [Nat.zero_add]
    · exact em_out (by omega)
  have f2 : CRel (q_sb (q_em s 0 0 28 s1) 14) t := CR_congr (c' := q_sb s1 14) (fun i hi => by
    have := em_in (σ := s) (τ := s1) (b := 0) (o := 0) (n := 28) (14 + i) (by omega)
    rw [Nat.zero_add] at this
    exact this) b2
  refine q_for (S := SS) (R := Int32 × SS) (fun (f : SS → Int32 → Option (Int32 × SS)) s i => f s i) (m := 0) (n := n) (by omega) (by omega) (fun j b => CRel (q_sb b 14) (mIter t j) ∧ (∀ x, (x < 14 ∨ 28 ≤ x) → b x = s x) ∧ ∀ l, 1 ≤ l → l ≤ j → mIter t l 2 = s 29 (l - 1)) (fun o => ∃ r s', o = some ((if r = -1 then 0 else r), s') ∧ Fst (fun m => ¬ mIter t m 2 = s 29 (m - 1)) 1 n r ∧ ∀ x, (x < 14 ∨ 28 ≤ x) → s' x = s x) ?_ ?_ _ ⟨f2, f1, fun l h1 h2 => by omega⟩
  · rintro f j b hj1 hj2 ⟨hb1, hb2, hb3⟩ ih
    try dsimp only
    obtain ⟨c', q1, q2, q3⟩ := minute0 (Ok_iter hO j) hb1
    have e2 : q_em b 14 0 13 c' 14 8 = mIter t (j + 1) 2 := q2.1.2.2.1
    rw [hb2 28 (by omega), e, if_neg (by rw [nI_leS (by omega) (by omega)]; omega), q1, cs_s, rd_n _ _ (by omega), e2, show q_em b 14 0 13 c' 29 = s 29 by rw [em_out (by omega), hb2 29 (by omega)], nI_s]
    split
    · rename_i hc
      refine ih _ ⟨em14 q2, fun x hx => by rw [em_out (by omega), hb2 x hx], fun l h1 h2 => ?_⟩
      by_cases hl : l = j + 1
      · rw [hl]; exact hc
      · exact hb3 l h1 (by omega)
    · rename_i hc
      refine ⟨nI (j + 1), _, by rw [if_neg (nI_m1 (by omega)), show (1 : Int32) + nI j = nI (1 + j) from nI_add 1 j, Nat.add_comm 1 j], Or.inr ⟨j + 1, by omega, by omega, rfl, hc, fun l h1 h2 hn => hn (hb3 l h1 (by omega))⟩, fun x hx => by rw [em_out (by omega), hb2 x hx]⟩
  · rintro f b ⟨hb1, hb2, hb3⟩
    try dsimp only
    rw [hb2 28 (by omega), e, if_pos (by rw [nI_leS (by omega) (by omega)]; omega)]
    exact ⟨-1, _, by rw [if_pos rfl], Or.inl ⟨rfl, fun m h1 h2 hn => hn (hb3 m h1 h2)⟩, hb2⟩
theorem judge12 (τ : SS) (hO : Ok (τ 1)) {k n : Nat} (hk : k < 4) (hn : n ≤ 40) (e : τ 9 k = nI n) (h0 : ¬ τ 8 k = 0) : ∃ r q g, pX12_judge τ (nI k) = some ((if r = -1 then 0 else r), rs (nb τ) (nbk τ q) g) ∧ Fst (fun m => ¬ mIter (τ 1) m 2 = τ 10 (40 * k + (m - 1))) 1 n r := by
  unfold pX12_judge
  rw [lacks12 τ hk, cr_s, if_neg h0, if_pos (by decide), begin_rs, cs_s]
  refine q_lp_rel (S := SS × Int32 × Int32) (R := Int32 × SS) (fun (f : SS → Int32 → Int32 → Option (Int32 × SS)) s => f s.1 s.2.1 s.2.2) (fun m s => (∃ j, j ≤ n ∧ m = n - j + 1 ∧ s = (rs (nb τ) (mIter (τ 1) j) (τ 0 5), nI j, 1) ∧ ∀ l, 1 ≤ l → l ≤ j → mIter (τ 1) l 2 = τ 10 (40 * k + (l - 1))) ∨ (m = 0 ∧ ∃ j, j < n ∧ s = (rs (nb τ) (mIter (τ 1) (j + 1)) (τ 0 5), nI j, 0) ∧ (∀ l, 1 ≤ l → l ≤ j → mIter (τ 1) l 2 = τ 10 (40 * k + (l - 1))) ∧ ¬ mIter (τ 1) (j + 1) 2 = τ 10 (40 * k + j))) (fun o => ∃ r q g, o = some ((if r = -1 then 0 else r), rs (nb τ) (nbk τ q) g) ∧ Fst (fun m => ¬ mIter (τ 1) m 2 = τ 10 (40 * k + (m - 1))) 1 n r) ?_ q_fu (n + 1) (rs (nb τ) (τ 1) (τ 0 5), 0, 1) (Or.inl ⟨0, by omega, by omega, rfl, fun l h1 h2 => by omega⟩) (fu_lt (by omega))
  rintro f m s (⟨j, hj, hm, rfl, hl⟩ | ⟨hm, j, hj, rfl, hl, hp⟩) ih
  · dsimp only
    rw [rd_n _ _ hk, rs_no _ _ _ (by omega), show nb τ 9 = τ 9 from rfl, e]
    simp only [lt_v, back_rs, cs_s]
    by_cases hjn : j = n
    · subst hjn
      rw [if_pos (by rw [nI_leS (by omega) (by omega)]; omega), if_neg (by decide)]
      exact ⟨-1, _, _, by rw [if_pos rfl], Or.inl ⟨rfl, fun m h1 h2 hn => hn (hl m h1 h2)⟩⟩
    · rw [if_neg (by rw [nI_leS (by omega) (by omega)]; omega), if_neg (show ¬ (1 : Int32) = 0 by decide), goes_rs (nb τ) _ (Ok_iter hO j), cs_s, rs_1, Q1_2, show (40 : Int32) * nI k + nI j = nI (40 * k + j) by rw [show (40 : Int32) = nI 40 from rfl, pk_mul, nI_add], rd_n _ _ (by omega), rs_no _ _ _ (by omega), show nb τ 10 = τ 10 from rfl]
      split
      · rename_i hc
        rw [if_neg (show ¬ (1 : Int32) = 0 by decide), nI_s]
        refine ih (_, nI (j + 1), 1) (m - 1) (by omega) (Or.inl ⟨j + 1, by omega, by omega, rfl, fun l h1 h2 => ?_⟩)
        by_cases hlj : l = j + 1
        · rw [hlj]; exact hc
        · exact hl l h1 (by omega)
      · rename_i hc
        rw [if_pos trivial, Int32.add_zero]
        exact ih (_, nI j, 0) 0 (by omega) (Or.inr ⟨rfl, j, by omega, rfl, hl, hc⟩)
  · dsimp only
    rw [rd_n _ _ hk, rs_no _ _ _ (by omega), show nb τ 9 = τ 9 from rfl, e]
    simp only [lt_v, back_rs, cs_s]
    rw [if_neg (by rw [nI_leS (by omega) (by omega)]; omega), if_pos trivial, if_pos trivial]
    exact ⟨nI (j + 1), _, _, by rw [if_neg (nI_m1 (by omega)), show (1 : Int32) + nI j = nI (1 + j) from nI_add 1 j, Nat.add_comm 1 j], Or.inr ⟨j + 1, by omega, by omega, rfl, hp, fun l h1 h2 hn => hn (hl l h1 (by omega))⟩⟩
def jgK (σ : SS) (b : Nat) : Option (Int32 × SS) := q_cr (pX6_isMissing (q_sb σ b)) (fun (r4 : Int32) => (if r4 = 0 then q_ci (pX3_firstMisjudged (q_ap 1 (q_sb σ 52) (q_ap 13 (q_sb σ 3) (q_ap 14 (q_sb σ 53) (q_sb σ b))))) (fun (τ : SS) => (q_em (q_em (q_em (q_em σ 52 0 1 τ) 3 1 13 τ) 53 14 14 τ) b 28 2 τ)) (fun (r : Int32) (σ : SS) => some (r, σ)) else pX11_tell σ (-1000006)))
theorem judge_u (σ : SS) {k : Nat} (hk : k < 4) : pX11_judge σ (nI k) = jgK σ (44 + 2 * k) := by
  rcases (by omega : k = 0 ∨ k = 1 ∨ k = 2 ∨ k = 3) with rfl | rfl | rfl | rfl <;> rfl
theorem s_judge : S_judge Rel := by
  intro σ τ a1 h
  by_cases h1 : wi a1 0 3 = 0
  · simp only [pX11_judge, pX12_judge, isSheet11, lacks_w τ h1, cr_s, tell_0, find_0, ci_s, if_pos h1]
    exact ⟨_, _, _, rfl, rfl, R_tell h (by decide)⟩
  obtain ⟨k, rfl, hk⟩ := sh_of h1
  obtain ⟨r1, r2, r3, r4, r5⟩ := SR_get h.2.2.2.2.2 hk
  rw [judge_u σ hk]
  unfold jgK
  have q0 : q_sb σ (44 + 2 * k) 0 0 = τ 8 k := r1
  rw [missing6, cr_s, q0]
  by_cases h0 : τ 8 k = 0
  · rw [if_pos h0, if_neg (by decide), tell_5]
    unfold pX12_judge
    rw [lacks12 τ hk, cr_s, if_pos h0, if_neg (by decide)]
    simp only [find_5, ci_s]
    exact ⟨_, _, _, rfl, rfl, R_tell h (by decide)⟩
  rw [if_neg h0, if_pos rfl]
  obtain ⟨n, hn, en⟩ := num_of (a := τ 9 k) (n := 40) r4.1 r4.2
  obtain ⟨r', q, g, j1, j2⟩ := judge12 τ h.1.1 hk hn en h0
  generalize hs : q_ap 1 (q_sb σ 52) (q_ap 13 (q_sb σ 3) (q_ap 14 (q_sb σ 53) (q_sb σ (44 + 2 * k)))) = s
  have hsx : ∀ i, s (28 + i) = σ (44 + 2 * k + i) := fun i => by
    rw [← hs, show 28 + i = 1 + (13 + (14 + i)) by omega, ap_hi, ap_hi, ap_hi]
    rfl
  obtain ⟨r, s', p1, p2, p3⟩ := misj3 (s := s) h.1.1 (by rw [← hs]; exact CR_n3 h.1.2.1) hn (by rw [show s 28 = σ (44 + 2 * k + 0) from hsx 0, Nat.add_zero, r3, en])
  have hr : r = r' := by
    refine Fst_u p2 ?_
    rcases j2 with ⟨x1, x2⟩ | ⟨m, m1, m2, m3, m4, m5⟩
    · refine Or.inl ⟨x1, fun m g1 g2 => ?_⟩
      show ¬ ¬ mIter (τ 1) m 2 = s 29 (m - 1)
      rw [show s 29 = σ (44 + 2 * k + 1) from hsx 1, show 44 + 2 * k + 1 = 45 + 2 * k by omega, r5 (m - 1) (by omega)]
      exact x2 m g1 g2
    · refine Or.inr ⟨m, m1, m2, m3, ?_, fun l g1 g2 => ?_⟩
      · show ¬ mIter (τ 1) m 2 = s 29 (m - 1)
        rw [show s 29 = σ (44 + 2 * k + 1) from hsx 1, show 44 + 2 * k + 1 = 45 + 2 * k by omega, r5 (m - 1) (by omega)]
        exact m4
      · show ¬ ¬ mIter (τ 1) l 2 = s 29 (l - 1)
        rw [show s 29 = σ (44 + 2 * k + 1) from hsx 1, show 44 + 2 * k + 1 = 45 + 2 * k by omega, r5 (l - 1) (by omega)]
        exact m5 l g1 g2
  subst hr
  rw [p1, ci_s, j1]
  refine ⟨_, _, _, rfl, rfl, R_night h (em4 σ (q_ap 14 (q_sb σ 53) (q_sb σ (44 + 2 * k))) _ (by omega) (fun x hx => ?_) (fun i hi => ?_)) _ _⟩
  · rw [p3 x (by omega), ← hs]
  · rw [p3 _ (by omega), hsx i]
