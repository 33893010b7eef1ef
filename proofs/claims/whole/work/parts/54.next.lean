/-! ===== the reference's token ===== -/
def TT (τ : SS) (N : Nat) (bs : Nat → Int32) : Prop := τ 0 7 = nI N ∧ ∀ i, i < N → τ 5 i = bs i
def BB (N : Nat) (bs : Nat → Int32) : Prop := N ≤ 100 ∧ ∀ i, i < N → 0 ≤ (bs i).toInt ∧ (bs i).toInt ≤ 255
theorem byte12 {τ : SS} {N i : Nat} {bs : Nat → Int32} (hB : BB N bs) (h : TT τ N bs) (hi : i ≤ N) : pX12_byteAt τ (nI i) = some (if i < N then bs i else -1) := by
  have hN := hB.1
  unfold pX12_byteAt
  simp only [lt_n]
  rw [h.1]
  by_cases hl : i < N
  · rw [if_neg (by rw [nI_leS (by omega) (by omega)]; omega), if_pos hl, rd_n _ _ (by omega), h.2 i hl]
  · rw [if_pos (by rw [nI_leS (by omega) (by omega)]; omega), if_neg hl]
theorem TT_su {τ : SS} {N : Nat} {bs : Nat → Int32} (h : TT τ N bs) {j : Nat} (hj : j ≠ 7) (v : Int32) : TT (su τ 0 j v) N bs := by
  refine ⟨?_, h.2⟩
  show upd (τ 0) j v 7 = _
  rw [upd_ne (Ne.symm hj)]
  exact h.1
/-- what stays, of a state of the reference -/
def T0 (τ' τ : SS) : Prop := (∀ x, x ≠ 0 → τ' x = τ x) ∧ ∀ j, j ≠ 8 → j ≠ 9 → j ≠ 10 → j ≠ 11 → τ' 0 j = τ 0 j
theorem T0_su {a τ : SS} (h : T0 a τ) {j : Nat} (hj : j = 8 ∨ j = 9 ∨ j = 10 ∨ j = 11) (v : Int32) : T0 (su a 0 j v) τ := by
  refine ⟨fun x hx => (ud_ne _ _ _ hx).trans (h.1 x hx), fun k h8 h9 h10 h11 => ?_⟩
  show upd (a 0) j v k = _
  rw [upd_ne (by omega)]
  exact h.2 k h8 h9 h10 h11
theorem T0_TT {a τ : SS} {N : Nat} {bs : Nat → Int32} (h : T0 a τ) (ht : TT τ N bs) : TT a N bs := ⟨by rw [h.2 7 (by decide) (by decide) (by decide) (by decide)]; exact ht.1, fun i hi => by rw [h.1 5 (by decide)]; exact ht.2 i hi⟩
theorem T0_r (τ : SS) : T0 τ τ := ⟨fun _ _ => rfl, fun _ _ _ _ _ => rfl⟩
theorem m1_in (lo hi : Nat) (h : 0 < lo) (h2 : lo < 1000) : wi (-1) (nI lo) (nI hi) = 0 := by
  rw [wi_iff, nI_toInt (show lo < 2 ^ 31 by omega)]
  exact Or.inl (by show (-1 : Int) < lo; omega)
set_option maxHeartbeats 4000000 in
theorem nxt12 {τ : SS} {N p0 : Nat} {bs : Nat → Int32} (hB : BB N bs) (h : TT τ N bs) (hp0 : p0 ≤ N) (e8 : τ 0 8 = nI p0) {q : Nat} (hq : q = scan isBl bs (N - p0) p0) : ∃ τ', pX12_next τ = some τ' ∧ T0 τ' τ ∧ τ' 0 9 = tkT bs N q ∧ τ' 0 10 = nI q ∧ τ' 0 8 = nI (tkE bs N q) ∧ (tkT bs N q = 2 → τ' 0 11 = vR bs (N - q) q 0) := by
  have hN := hB.1
  have hqb := scan_le isBl bs (N - p0) p0
  unfold pX12_next
  generalize hPost : (fun (o : Option SS) => ∃ τ', o = some τ' ∧ T0 τ' τ ∧ τ' 0 9 = tkT bs N q ∧ τ' 0 10 = nI q ∧ τ' 0 8 = nI (tkE bs N q) ∧ (tkT bs N q = 2 → τ' 0 11 = vR bs (N - q) q 0)) = Post
  refine (congrFun hPost _).mpr ?_
  refine q_lp_rel (S := SS) (R := SS) (fun (f : SS → Option SS) s => f s) (fun k b => ∃ p, p + k = N ∧ T0 b τ ∧ b 0 8 = nI p ∧ scan isBl bs k p = q) Post ?_ q_fu (N - p0) τ ⟨p0, by omega, T0_r τ, e8, hq.symm⟩ (fu_lt (by omega))
  rintro F k b ⟨p, hp, b1, b3, b5⟩ ih
  try dsimp only
  have hb := T0_TT b1 h
  rw [b3, byte12 hB hb (by omega), cr_s]
  by_cases hbl : k ≠ 0 ∧ isBl (bs p) = true
  · obtain ⟨m, rfl⟩ : ∃ m, k = m + 1 := ⟨k - 1, by omega⟩
    rw [scan_s, if_pos hbl.2] at b5
    rw [if_pos (by rw [if_pos (show p < N by omega)]; exact isBl_w.mp hbl.2), lt_v, nI_s]
    exact ih _ m (by omega) ⟨p + 1, by omega, T0_su b1 (Or.inl rfl) _, rfl, b5⟩
  · have hpq : p = q := by
      by_cases hk : k = 0
      · subst hk
        exact b5
      · obtain ⟨m, rfl⟩ : ∃ m, k = m + 1 := ⟨k - 1, by omega⟩
        rw [scan_s, if_neg (fun hh => hbl ⟨hk, hh⟩)] at b5
        exact b5
    have n32 : ¬ (if p < N then bs p else -1) = 32 := fun hh => by
      by_cases hpN : p < N
      · rw [if_pos hpN] at hh
        exact hbl ⟨by omega, isBl_w.mpr hh⟩
      · rw [if_neg hpN] at hh
        exact absurd hh (by decide)
    subst hpq
    rw [if_neg n32, lt_v]
    have z := T0_su b1 (Or.inr (Or.inr (Or.inl rfl))) (nI p)
    have z8 : su b 0 10 (nI p) 0 8 = nI p := b3
    have z10 : su b 0 10 (nI p) 0 10 = nI p := rfl
    generalize su b 0 10 (nI p) = y at z z8 z10
    have hy := T0_TT z h
    rw [z8, byte12 hB hy (by omega), cr_s, lt_v]
    by_cases hpN : p < N
    · have hbp := hB.2 p hpN
      rw [if_pos hpN, if_pos (show (0 : Int32) ≤ bs p by rw [i_le]; exact hbp.1), in_eq, cr_s]
      by_cases hl : isL (bs p) = true
      · rw [if_neg (isL_w.mp hl), lt_v]
        refine q_lp_rel (S := SS) (R := SS) (fun (f : SS → Option SS) s => f s) (fun k c => ∃ r, r + k = N ∧ T0 c τ ∧ c 0 9 = 1 ∧ c 0 10 = nI p ∧ c 0 8 = nI r ∧ scan isL bs k r = scan isL bs (N - p) p) Post ?_ q_fu (N - p) (su y 0 9 1) ⟨p, by omega, T0_su z (Or.inr (Or.inl rfl)) _, rfl, z10, z8, rfl⟩ (fu_lt (by omega))
        rintro G k c ⟨r, hr, c1, c2, c3, c4, c5⟩ ih2
        try dsimp only
        have hc := T0_TT c1 h
        rw [c4, byte12 hB hc (by omega), cr_s, in_eq, cr_s]
        by_cases hgo : k ≠ 0 ∧ isL (bs r) = true
        · obtain ⟨m, rfl⟩ : ∃ m, k = m + 1 := ⟨k - 1, by omega⟩
          rw [scan_s, if_pos hgo.2] at c5
          rw [if_neg (by rw [if_pos (show r < N by omega)]; exact isL_w.mp hgo.2), lt_v, nI_s]
          exact ih2 _ m (by omega) ⟨r + 1, by omega, T0_su c1 (Or.inl rfl) _, c2, c3, rfl, c5⟩
        · have hrq : r = scan isL bs (N - p) p := by
            by_cases hk : k = 0
            · subst hk
              exact c5
            · obtain ⟨m, rfl⟩ : ∃ m, k = m + 1 := ⟨k - 1, by omega⟩
              rw [scan_s, if_neg (fun hh => hgo ⟨hk, hh⟩)] at c5
              exact c5
          have st : wi (if r < N then bs r else -1) 97 122 = 0 := by
            by_cases hrN : r < N
            · rw [if_pos hrN]
              exact Decidable.not_not.mp (fun hh => hgo ⟨by omega, isL_w.mpr hh⟩)
            · rw [if_neg hrN]
              exact m1_in 97 122 (by decide) (by decide)
          rw [if_pos st, ← hPost]
          unfold tkT tkE
          rw [if_pos hpN, if_pos hpN, if_pos hl, if_pos hl]
          exact ⟨c, rfl, c1, c2, c3, by rw [c4, hrq], fun hh => absurd hh (by decide)⟩
      · rw [if_pos (Decidable.not_not.mp (fun hh => hl (isL_w.mpr hh))), in_eq, cr_s]
        by_cases hd : isD (bs p) = true
        · rw [if_neg (isD_w.mp hd), lt_v, lt_v]
          refine q_lp_rel (S := SS) (R := SS) (fun (f : SS → Option SS) s => f s) (fun k c => ∃ r, r + k = N ∧ T0 c τ ∧ c 0 9 = 2 ∧ c 0 10 = nI p ∧ c 0 8 = nI r ∧ scan isD bs k r = scan isD bs (N - p) p ∧ vR bs k r (c 0 11) = vR bs (N - p) p 0) Post ?_ q_fu (N - p) (su (su y 0 9 2) 0 11 0) ⟨p, by omega, T0_su (T0_su z (Or.inr (Or.inl rfl)) _) (Or.inr (Or.inr (Or.inr rfl))) _, rfl, z10, z8, rfl, rfl⟩ (fu_lt (by omega))
          rintro G k c ⟨r, hr, c1, c2, c3, c4, c5, c6⟩ ih2
          try dsimp only
          have hc := T0_TT c1 h
          rw [c4, byte12 hB hc (by omega), cr_s, in_eq, cr_s]
          by_cases hgo : k ≠ 0 ∧ isD (bs r) = true
          · obtain ⟨m, rfl⟩ : ∃ m, k = m + 1 := ⟨k - 1, by omega⟩
            have ev : vR bs (m + 1) r (c 0 11) = if isD (bs r) = true then vR bs m (r + 1) (if c 0 11 ≤ 999 then 10 * c 0 11 + bs r - 48 else c 0 11) else c 0 11 := rfl
            rw [scan_s, if_pos hgo.2] at c5
            rw [ev, if_pos hgo.2] at c6
            rw [if_neg (by rw [if_pos (show r < N by omega)]; exact isD_w.mp hgo.2), if_pos (show r < N by omega)]
            simp only [cr_s, lt_n]
            by_cases h9 : c 0 11 ≤ 999
            · rw [if_pos h9] at c6
              rw [if_pos h9, show su c 0 11 (10 * c 0 11 + bs r - 48) 0 8 = nI r from c4, nI_s]
              exact ih2 _ m (by omega) ⟨r + 1, by omega, T0_su (T0_su c1 (Or.inr (Or.inr (Or.inr rfl))) _) (Or.inl rfl) _, c2, c3, rfl, c5, c6⟩
            · rw [if_neg h9] at c6
              rw [if_neg h9, show su c 0 11 (c 0 11) 0 8 = nI r from c4, nI_s]
              exact ih2 _ m (by omega) ⟨r + 1, by omega, T0_su (T0_su c1 (Or.inr (Or.inr (Or.inr rfl))) _) (Or.inl rfl) _, c2, c3, rfl, c5, c6⟩
          · have hrq : r = scan isD bs (N - p) p ∧ c 0 11 = vR bs (N - p) p 0 := by
              by_cases hk : k = 0
              · subst hk
                exact ⟨c5, c6⟩
              · obtain ⟨m, rfl⟩ : ∃ m, k = m + 1 := ⟨k - 1, by omega⟩
                have ev : vR bs (m + 1) r (c 0 11) = if isD (bs r) = true then vR bs m (r + 1) (if c 0 11 ≤ 999 then 10 * c 0 11 + bs r - 48 else c 0 11) else c 0 11 := rfl
                rw [scan_s, if_neg (fun hh => hgo ⟨hk, hh⟩)] at c5
                rw [ev, if_neg (fun hh => hgo ⟨hk, hh⟩)] at c6
                exact ⟨c5, c6⟩
            have st : wi (if r < N then bs r else -1) 48 57 = 0 := by
              by_cases hrN : r < N
              · rw [if_pos hrN]
                exact Decidable.not_not.mp (fun hh => hgo ⟨by omega, isD_w.mpr hh⟩)
              · rw [if_neg hrN]
                exact m1_in 48 57 (by decide) (by decide)
            rw [if_pos st, ← hPost]
            unfold tkT tkE
            rw [if_pos hpN, if_pos hpN, if_neg hl, if_neg hl, if_pos hd, if_pos hd]
            exact ⟨c, rfl, c1, c2, c3, by rw [c4, hrq.1], fun _ => hrq.2⟩
        · rw [if_pos (Decidable.not_not.mp (fun hh => hd (isD_w.mpr hh))), ← hPost]
          simp only [lt_n]
          unfold tkT tkE
          rw [if_pos hpN, if_pos hpN, if_neg hl, if_neg hl, if_neg hd, if_neg hd]
          by_cases h59 : bs p = 59
          · rw [if_pos h59, if_pos h59, show su y 0 9 3 0 8 = nI p from z8, nI_s]
            exact ⟨_, rfl, T0_su (T0_su z (Or.inr (Or.inl rfl)) _) (Or.inl rfl) _, rfl, z10, rfl, fun hh => absurd hh (by decide)⟩
          · rw [if_neg h59, if_neg h59, show su y 0 9 4 0 8 = nI p from z8, nI_s]
            exact ⟨_, rfl, T0_su (T0_su z (Or.inr (Or.inl rfl)) _) (Or.inl rfl) _, rfl, z10, rfl, fun hh => absurd hh (by decide)⟩
    · rw [if_neg hpN, if_neg (show ¬ (0 : Int32) ≤ -1 by decide), lt_v, ← hPost]
      unfold tkT tkE
      rw [if_neg hpN, if_neg hpN]
      exact ⟨_, rfl, T0_su z (Or.inr (Or.inl rfl)) _, rfl, z10, z8, fun hh => absurd hh (by decide)⟩
/-! ===== words ===== -/
def ln (d : Nat) : Nat := k_len.getD d 0
theorem ln_b : ∀ d, d < 10 → 2 ≤ ln d ∧ ln d ≤ 7 := by decide
/-- the token is a word -/
def Wd (bs : Nat → Int32) (t : Int32) (q e d : Nat) : Prop := t = 1 ∧ e = q + ln d ∧ ∀ i, i < ln d → bs (q + i) = k_ch d i
theorem eln {q e d : Nat} (hd : d < 10) (hq : q ≤ e) (he : e ≤ 100) : (nI e - nI q = k_ln d) ↔ e = q + ln d := by
  have h1 := ln_b d hd
  have h2 : k_ln d = nI (ln d) := rfl
  rw [h2, pk_sub hq, i_eq, nI_toInt (by omega), nI_toInt (by omega)]
  omega
theorem isw5 {s : SS} {N q e : Nat} {bs : Nat → Int32} {t : Int32} (hN : N ≤ 100) (h : TS s N bs) (e1 : s 0 1 = t) (e2 : s 0 2 = nI q) (e3 : s 0 3 = nI e) (hqe : q ≤ e) (he : e ≤ N) {d : Nat} (hd : d < 10) : ∃ r, pX5_isWord s d = some r ∧ (r = 0 ∨ r = 1) ∧ (r = 0 ↔ ¬ Wd bs t q e d) := by
  have hl := ln_b d hd
  unfold pX5_isWord
  rw [if_pos hd, lt_v, zz_b (Or.inl rfl), e1, e2, e3]
  by_cases ht : t = 1
  · rw [if_pos ht]
    by_cases hee : e = q + ln d
    · rw [if_pos ((eln hd hqe (by omega)).mpr hee)]
      refine q_for0 (m := 0) (n := ln d) (by omega) (by omega) (fun j => ∀ i, i < j → bs (q + i) = k_ch d i) (fun o => ∃ r, o = some r ∧ (r = 0 ∨ r = 1) ∧ (r = 0 ↔ ¬ Wd bs t q e d)) ?_ ?_ (fun i hi => by omega)
      · intro F j hj1 hj2 hJ ih
        rw [show k_ln d = nI (ln d) from rfl, if_neg (by rw [nI_leS (by omega) (by omega)]; omega), nI_add, rd_n _ _ (by omega), show k_len.getD d 0 = ln d from rfl, rd_n _ _ hj2 (by omega), h.2 (q + j) (by omega), nI_s]
        by_cases hc : bs (q + j) = k_ch d j
        · rw [if_pos hc]
          refine ih (fun i hi => ?_)
          by_cases hij : i = j
          · rw [hij]; exact hc
          · exact hJ i (by omega)
        · rw [if_neg hc]
          exact ⟨0, rfl, Or.inl rfl, fun _ hW => hc (hW.2.2 j hj2), fun _ => rfl⟩
      · intro F hJ
        rw [show k_ln d = nI (ln d) from rfl, if_pos (by rw [nI_leS (by omega) (by omega)]; omega), zz_b (Or.inr rfl)]
        exact ⟨1, rfl, Or.inr rfl, fun hh => absurd hh (by decide), fun hh => absurd ⟨ht, hee, hJ⟩ hh⟩
    · rw [if_neg (fun hh => hee ((eln hd hqe (by omega)).mp hh))]
      exact ⟨0, rfl, Or.inl rfl, fun _ hW => hee hW.2.1, fun _ => rfl⟩
  · rw [if_neg ht]
    exact ⟨0, rfl, Or.inl rfl, fun _ hW => ht hW.1, fun _ => rfl⟩
theorem isw12 {τ : SS} {N q e : Nat} {bs : Nat → Int32} {t : Int32} (hN : N ≤ 100) (h : TT τ N bs) (e1 : τ 0 9 = t) (e2 : τ 0 10 = nI q) (e3 : τ 0 8 = nI e) (hqe : q ≤ e) (he : e ≤ N) {d : Nat} (hd : d < 10) : ∃ r, pX12_isWord τ d = some r ∧ (r = 0 ∨ r = 1) ∧ (r = 0 ↔ ¬ Wd bs t q e d) := by
  have hl := ln_b d hd
  unfold pX12_isWord
  rw [if_pos hd, e1, e2, e3]
  have lp : ∀ y : Int32, (y = 0 ∨ y = 1) → (y = 1 → t = 1 ∧ e = q + ln d) → (y = 0 → ¬ Wd bs t q e d) → ∃ r, q_lp (fun _ _ => none) (fun (c5 : Int32 → Int32 → Option Int32) (x2_3 : Int32) (x3_4 : Int32) => q_lt (q_zz x2_3 (some x2_3)) (fun j8 => (if (k_ln d) ≤ x3_4 then j8 else (if x2_3 = (0 : Int32) then j8 else q_rd (τ 5) 100 (nI q + x3_4) (fun (v11 : Int32) => q_rd (k_ch d) (k_len.getD d 0) x3_4 (fun (v12 : Int32) => q_lt (fun (y13 : Int32) => c5 y13 (x3_4 + (1 : Int32))) (fun j14 => (if v11 = v12 then j14 (1 : Int32) else j14 (0 : Int32))))))))) q_fu y 0 = some r ∧ (r = 0 ∨ r = 1) ∧ (r = 0 ↔ ¬ Wd bs t q e d) := by
    intro y hy h1 h0
    refine q_for (S := Int32) (R := Int32) (fun (f : Int32 → Int32 → Option Int32) s i => f s i) (m := 0) (n := ln d) (by omega) (by omega) (fun j x => (x = 0 ∧ ¬ Wd bs t q e d) ∨ (x = 1 ∧ t = 1 ∧ e = q + ln d ∧ ∀ i, i < j → bs (q + i) = k_ch d i)) (fun o => ∃ r, o = some r ∧ (r = 0 ∨ r = 1) ∧ (r = 0 ↔ ¬ Wd bs t q e d)) ?_ ?_ y (by
      rcases hy with g | g
      · exact Or.inl ⟨g, h0 g⟩
      · exact Or.inr ⟨g, (h1 g).1, (h1 g).2, fun i hi => by omega⟩)
    · intro F j x hj1 hj2 hx ih
      try dsimp only
      rw [show k_ln d = nI (ln d) from rfl]
      simp only [lt_n]
      rw [if_neg (by rw [nI_leS (by omega) (by omega)]; omega)]
      rcases hx with ⟨rfl, hn⟩ | ⟨rfl, ht, hee, hJ⟩
      · rw [if_pos rfl, zz_b (Or.inl rfl)]
        exact ⟨0, rfl, Or.inl rfl, fun _ => hn, fun _ => rfl⟩
      · rw [if_neg (by decide), nI_add, rd_n _ _ (by omega), show k_len.getD d 0 = ln d from rfl, rd_n _ _ hj2 (by omega), h.2 (q + j) (by omega), nI_s]
        by_cases hc : bs (q + j) = k_ch d j
        · rw [if_pos hc]
          refine ih _ (Or.inr ⟨rfl, ht, hee, fun i hi => ?_⟩)
          by_cases hij : i = j
          · rw [hij]; exact hc
          · exact hJ i (by omega)
        · rw [if_neg hc]
          exact ih _ (Or.inl ⟨rfl, fun hW => hc (hW.2.2 j hj2)⟩)
    · intro F x hx
      try dsimp only
      rw [show k_ln d = nI (ln d) from rfl]
      simp only [lt_n]
      rw [if_pos (by rw [nI_leS (by omega) (by omega)]; omega)]
      rcases hx with ⟨rfl, hn⟩ | ⟨rfl, ht, hee, hJ⟩
      · rw [zz_b (Or.inl rfl)]
        exact ⟨0, rfl, Or.inl rfl, fun _ => hn, fun _ => rfl⟩
      · rw [zz_b (Or.inr rfl)]
        exact ⟨1, rfl, Or.inr rfl, fun hh => absurd hh (by decide), fun hh => absurd ⟨ht, hee, hJ⟩ hh⟩
  rw [lt_v, lt_v]
  by_cases ht : t = 1
  · rw [if_pos ht]
    by_cases hee : e = q + ln d
    · rw [if_pos ((eln hd hqe (by omega)).mpr hee)]
      exact lp 1 (Or.inr rfl) (fun _ => ⟨ht, hee⟩) (fun hh => absurd hh (by decide))
    · rw [if_neg (fun hh => hee ((eln hd hqe (by omega)).mp hh))]
      exact lp 0 (Or.inl rfl) (fun hh => absurd hh (by decide)) (fun _ hW => hee hW.2.1)
  · rw [if_neg ht]
    exact lp 0 (Or.inl rfl) (fun hh => absurd hh (by decide)) (fun _ hW => ht hW.1)
