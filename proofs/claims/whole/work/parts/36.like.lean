/-! ===== copies of rows ===== -/
theorem ac_n {R : Type} (σ : SS) (c0 c1 : Nat) {n0 n1 n : Nat} (k : SS → Option R) (h0 : n ≤ n0) (h1 : n ≤ n1) (hn : n < 2 ^ 31 := by omega) : q_ac σ c0 n0 c1 n1 0 0 (nI n) k = k (q_sc σ c1 (va_cpy (σ c0) (σ c1) 0 0 n)) := by
  unfold q_ac
  rw [if_pos ⟨by decide, by decide, by rw [nI_toInt hn]; omega, by rw [nI_toInt hn, show (0 : Int32).toInt = 0 from rfl]; omega, by rw [nI_toInt hn, show (0 : Int32).toInt = 0 from rfl]; omega⟩, nI_clamp hn]
  rfl
theorem cpy_lt {f g : Nat → Int32} {n k : Nat} (h : k < n) : va_cpy f g 0 0 n k = f k := by
  unfold va_cpy
  rw [if_pos (by omega), show 0 + (k - 0) = k by omega]
theorem em_out {σ τ : SS} {b o n c : Nat} (h : c < b ∨ b + n ≤ c) : q_em σ b o n τ c = σ c := if_neg (by omega)
theorem em_in {σ τ : SS} {b o n : Nat} (i : Nat) (h : i < n) : q_em σ b o n τ (b + i) = τ (o + i) := by
  unfold q_em
  rw [if_pos (by omega), show b + i - b = i by omega]
theorem ap_lo {n : Nat} {f g : SS} {c : Nat} (h : c < n) : q_ap n f g c = f c := if_pos h
theorem ap_hi {n : Nat} {f g : SS} (i : Nat) : q_ap n f g (n + i) = g i := by
  unfold q_ap
  rw [if_neg (by omega), show n + i - n = i by omega]
theorem em2 (s s' : SS) {b b' n : Nat} (hd : b + n ≤ b' ∨ b' + n ≤ b) (h : ∀ x, n ≤ x → s' x = q_ap n (q_sb s b) (q_sb s b') x) : (∀ x, (x < b ∨ b + n ≤ x) → q_em (q_em s b 0 n s') b' n n s' x = s x) ∧ ∀ i, i < n → q_em (q_em s b 0 n s') b' n n s' (b + i) = s' i := by
  constructor
  · intro x hx
    by_cases hx2 : b' ≤ x ∧ x < b' + n
    · obtain ⟨i, rfl⟩ : ∃ i, x = b' + i := ⟨x - b', by omega⟩
      rw [em_in i (by omega), h _ (by omega), ap_hi]
      rfl
    · rw [em_out (by omega), em_out (by omega)]
  · intro i hi
    rw [em_out (by omega), em_in i hi, Nat.zero_add]
theorem like10 {s : SS} {n : Nat} (hn : n ≤ 8) (e : s 5 0 = nI n) : ∃ s', pX10_becomeLike s = some s' ∧ s' 0 0 = nI n ∧ (∀ k, k < n → s' 1 k = s 6 k ∧ s' 2 k = s 7 k ∧ s' 3 k = s 8 k ∧ s' 4 k = s 9 k) ∧ ∀ x, 5 ≤ x → s' x = s x := by
  unfold pX10_becomeLike
  rw [lt_v, show su s 0 0 (s 5 0) 0 0 = nI n from e]
  rw [ac_n _ _ _ _ (by omega) (by omega)]
  rw [show q_sc (su s 0 0 (s 5 0)) 1 (va_cpy (su s 0 0 (s 5 0) 6) (su s 0 0 (s 5 0) 1) 0 0 n) 0 0 = nI n from e]
  rw [ac_n _ _ _ _ (by omega) (by omega)]
  generalize h2 : q_sc (q_sc (su s 0 0 (s 5 0)) 1 (va_cpy (su s 0 0 (s 5 0) 6) (su s 0 0 (s 5 0) 1) 0 0 n)) 2 _ = s2
  have a0 : s2 0 0 = nI n := by rw [← h2]; exact e
  have a1 : s2 1 = va_cpy (s 6) (s 1) 0 0 n := by rw [← h2]; rfl
  have a2 : s2 2 = va_cpy (s 7) (s 2) 0 0 n := by rw [← h2]; rfl
  have a3 : ∀ x, 3 ≤ x → s2 x = s x := fun x hx => by
    rw [← h2]
    exact (if_neg (by omega)).trans ((if_neg (by omega)).trans (if_neg (by omega)))
  rw [a0, ac_n _ _ _ _ (by omega) (by omega), show q_sc s2 3 (va_cpy (s2 8) (s2 3) 0 0 n) 0 0 = nI n from a0, ac_n _ _ _ _ (by omega) (by omega)]
  refine ⟨_, rfl, a0, fun k hk => ⟨?_, ?_, ?_, ?_⟩, fun x hx => ?_⟩
  · show s2 1 k = _
    rw [a1, cpy_lt hk]
  · show s2 2 k = _
    rw [a2, cpy_lt hk]
  · show va_cpy (s2 8) (s2 3) 0 0 n k = _
    rw [cpy_lt hk, a3 8 (by omega)]
  · show va_cpy (s2 9) (s2 4) 0 0 n k = _
    rw [cpy_lt hk, a3 9 (by omega)]
  · exact (if_neg (by omega)).trans ((if_neg (by omega)).trans (a3 x (by omega)))
theorem like9 {s : SS} {n : Nat} (hn : n ≤ 10) (e : s 4 0 = nI n) : ∃ s', pX9_becomeLike s = some s' ∧ s' 0 0 = nI n ∧ s' 0 4 = s 4 4 ∧ s' 0 5 = s 4 5 ∧ (∀ k, k < n → s' 1 k = s 5 k ∧ s' 2 k = s 6 k ∧ s' 3 k = s 7 k) ∧ ∀ x, 4 ≤ x → s' x = s x := by
  unfold pX9_becomeLike
  rw [lt_v, show su s 0 0 (s 4 0) 0 0 = nI n from e]
  rw [ac_n _ _ _ _ (by omega) (by omega)]
  generalize h2 : q_sc (su s 0 0 (s 4 0)) 1 _ = s2
  have a0 : s2 0 = upd (s 0) 0 (s 4 0) := by rw [← h2]; rfl
  have a00 : s2 0 0 = nI n := by rw [a0]; exact e
  have a1 : s2 1 = va_cpy (s 5) (s 1) 0 0 n := by rw [← h2]; rfl
  have a3 : ∀ x, 2 ≤ x → s2 x = s x := fun x hx => by
    rw [← h2]
    exact (if_neg (by omega)).trans (if_neg (by omega))
  rw [a00, ac_n _ _ _ _ (by omega) (by omega), show q_sc s2 2 (va_cpy (s2 6) (s2 2) 0 0 n) 0 0 = nI n from a00, ac_n _ _ _ _ (by omega) (by omega), lt_v, lt_v]
  refine ⟨_, rfl, a00, ?_, ?_, fun k hk => ⟨?_, ?_, ?_⟩, fun x hx => ?_⟩
  · show s2 4 4 = _
    rw [a3 4 (by omega)]
  · show s2 4 5 = _
    rw [a3 4 (by omega)]
  · show s2 1 k = _
    rw [a1, cpy_lt hk]
  · show va_cpy (s2 6) (s2 2) 0 0 n k = _
    rw [cpy_lt hk, a3 6 (by omega)]
  · show va_cpy (s2 7) (s2 3) 0 0 n k = _
    rw [cpy_lt hk, a3 7 (by omega)]
  · exact (if_neg (by omega)).trans ((if_neg (by omega)).trans ((if_neg (by omega)).trans ((if_neg (by omega)).trans (a3 x (by omega)))))
theorem like7 {s : SS} {n : Nat} (hn : n ≤ 6) (e : s 4 0 = nI n) : ∃ s', pX7_becomeLike s = some s' ∧ s' 0 0 = nI n ∧ (∀ k, k < n → s' 1 k = s 5 k) ∧ (∀ k, k < 12 * n → s' 2 k = s 6 k ∧ s' 3 k = s 7 k) ∧ ∀ x, 4 ≤ x → s' x = s x := by
  unfold pX7_becomeLike
  rw [lt_v, show su s 0 0 (s 4 0) 0 0 = nI n from e]
  rw [ac_n _ _ _ _ (by omega) (by omega)]
  generalize h2 : q_sc (su s 0 0 (s 4 0)) 1 _ = s2
  have a0 : s2 0 = upd (s 0) 0 (s 4 0) := by rw [← h2]; rfl
  have a00 : s2 0 0 = nI n := by rw [a0]; exact e
  have a1 : s2 1 = va_cpy (s 5) (s 1) 0 0 n := by rw [← h2]; rfl
  have a3 : ∀ x, 2 ≤ x → s2 x = s x := fun x hx => by
    rw [← h2]
    exact (if_neg (by omega)).trans (if_neg (by omega))
  have e12 : nI n * 12 = nI (12 * n) := by
    rw [Nat.mul_comm]
    exact pk_mul n 12
  rw [a00, e12, ac_n _ _ _ _ (by omega) (by omega), show q_sc s2 2 (va_cpy (s2 6) (s2 2) 0 0 (12 * n)) 0 0 = nI n from a00, e12, ac_n _ _ _ _ (by omega) (by omega)]
  refine ⟨_, rfl, a00, fun k hk => ?_, fun k hk => ⟨?_, ?_⟩, fun x hx => ?_⟩
  · show s2 1 k = _
    rw [a1, cpy_lt hk]
  · show va_cpy (s2 6) (s2 2) 0 0 (12 * n) k = _
    rw [cpy_lt hk, a3 6 (by omega)]
  · show va_cpy (s2 7) (s2 3) 0 0 (12 * n) k = _
    rw [cpy_lt hk, a3 7 (by omega)]
  · exact (if_neg (by omega)).trans ((if_neg (by omega)).trans (a3 x (by omega)))
theorem like4 {s : SS} {m : Nat} (hm : m ≤ 1000) (e : s 2 8 = nI m) (b5 : s 2 5 = 0 ∨ s 2 5 = 1) (b6 : s 2 6 = 0 ∨ s 2 6 = 1) (b7 : s 2 7 = 0 ∨ s 2 7 = 1) : ∃ s', pX4_becomeLike s = some s' ∧ (∀ j, j < 10 → s' 0 j = s 2 j) ∧ (∀ i, i < 40 → i < m → s' 1 i = s 3 i) ∧ ∀ x, 2 ≤ x → s' x = s x := by
  unfold pX4_becomeLike
  simp only [lt_v]
  generalize h5 : su (su (su (su (su s 0 0 (s 2 0)) 0 1 _) 0 2 _) 0 3 _) 0 4 _ = s5
  have f5 : ∀ x, 1 ≤ x → s5 x = s x := fun x hx => by
    rw [← h5]
    exact (if_neg (by omega)).trans ((if_neg (by omega)).trans ((if_neg (by omega)).trans ((if_neg (by omega)).trans (if_neg (by omega)))))
  have r0 : s5 0 0 = s 2 0 := by rw [← h5]; rfl
  have r1 : s5 0 1 = s 2 1 := by rw [← h5]; rfl
  have r2 : s5 0 2 = s 2 2 := by rw [← h5]; rfl
  have r3 : s5 0 3 = s 2 3 := by rw [← h5]; rfl
  have r4 : s5 0 4 = s 2 4 := by rw [← h5]; rfl
  rw [show s5 2 5 = s 2 5 by rw [f5 2 (by omega)], zz_b b5]
  rw [show su s5 0 5 (s 2 5) 2 6 = s 2 6 by rw [ud_ne _ _ _ (by omega), f5 2 (by omega)], zz_b b6]
  rw [show su (su s5 0 5 (s 2 5)) 0 6 (s 2 6) 2 7 = s 2 7 by rw [ud_ne _ _ _ (by omega), ud_ne _ _ _ (by omega), f5 2 (by omega)], zz_b b7]
  generalize h10 : su (su (su (su (su s5 0 5 _) 0 6 _) 0 7 _) 0 8 _) 0 9 _ = s10
  have f10 : ∀ x, 1 ≤ x → s10 x = s x := fun x hx => by
    rw [← h10]
    exact (if_neg (by omega)).trans ((if_neg (by omega)).trans ((if_neg (by omega)).trans ((if_neg (by omega)).trans ((if_neg (by omega)).trans (f5 x hx)))))
  have z8 : s5 2 8 = s 2 8 := by rw [f5 2 (by omega)]
  have z9 : s5 2 9 = s 2 9 := by rw [f5 2 (by omega)]
  have l := log4 (q_sb s10 2) hm (show s10 2 8 = nI m by rw [f10 2 (by omega), e])
  rw [l, cr_s, ac_n _ _ _ _ (by omega) (by omega)]
  refine ⟨_, rfl, fun j hj => ?_, fun i hi hi2 => ?_, fun x hx => (if_neg (by omega)).trans (f10 x (by omega))⟩
  · show s10 0 j = s 2 j
    rcases (by omega : j = 0 ∨ j = 1 ∨ j = 2 ∨ j = 3 ∨ j = 4 ∨ j = 5 ∨ j = 6 ∨ j = 7 ∨ j = 8 ∨ j = 9) with rfl | rfl | rfl | rfl | rfl | rfl | rfl | rfl | rfl | rfl
    · rw [← h10]; exact r0
    · rw [← h10]; exact r1
    · rw [← h10]; exact r2
    · rw [← h10]; exact r3
    · rw [← h10]; exact r4
    · rw [← h10]; rfl
    · rw [← h10]; rfl
    · rw [← h10]; rfl
    · rw [← h10]; exact z8
    · rw [← h10]; exact z9
  · show va_cpy (s10 3) (s10 1) 0 0 (min m 40) i = _
    rw [cpy_lt (by omega), f10 3 (by omega)]
theorem ap_sb_lo {s : SS} {n b b' x : Nat} (h : x < n) : q_ap n (q_sb s b) (q_sb s b') x = s (b + x) := ap_lo h
theorem ap_sb_hi {s : SS} {n b b' : Nat} (i : Nat) : q_ap n (q_sb s b) (q_sb s b') (n + i) = s (b' + i) := ap_hi i
set_option maxHeartbeats 4000000 in
theorem like0 {s : SS} {t : Nat → Int32} (hO : Ok t) (hc : CRel (q_sb s 13) t) : ∃ s', pX0_becomeLike s = some s' ∧ CRel s' t ∧ (∀ x, 13 ≤ x → s' x = s x) := by
  obtain ⟨⟨e0, e1, e2, e3, e4, e5, e6, e7, e8, e9, e10, e11, e12, e13, e14, e15, e16, e17, e19, e66⟩, c2, c3, ⟨c4, c5⟩, c6⟩ := hc
  obtain ⟨o1, o2, o3, o4, o5, o6, o7, o8, o9, o10⟩ := hO.1
  obtain ⟨n, hn, en⟩ := num_of (a := t 16) (n := 8) o1.1 o1.2
  obtain ⟨k, hk, ek⟩ := num_of (a := t 17) (n := 10) o2.1 o2.2
  obtain ⟨m, hm, em⟩ := num_of (a := t 9) (n := 1000) o4.1 o4.2
  have n16 : (t 16).toInt = n := by rw [en, nI_toInt (by omega)]
  have n17 : (t 17).toInt = k := by rw [ek, nI_toInt (by omega)]
  have n9 : (t 9).toInt = m := by rw [em, nI_toInt (by omega)]
  unfold pX0_becomeLike
  -- waters
  obtain ⟨a, ha, a0, a1, a2⟩ := like10 (s := q_ap 5 (q_sb s 1) (q_sb s 14)) hn (show q_ap 5 (q_sb s 1) (q_sb s 14) (5 + 0) 0 = nI n by rw [ap_sb_hi, ← en]; exact e16)
  obtain ⟨p1, p2⟩ := em2 s a (b := 1) (b' := 14) (n := 5) (by omega) a2
  rw [ha, cs_s]
  generalize q_em (q_em s 1 0 5 a) 14 5 5 a = s1 at p1 p2
  -- pump
  obtain ⟨b, hb, b1, b2, b3⟩ := like4 (s := q_ap 2 (q_sb s1 6) (q_sb s1 19)) hm (show q_ap 2 (q_sb s1 6) (q_sb s1 19) (2 + 0) 8 = nI m by rw [ap_sb_hi, p1 _ (by omega), ← em]; exact e9) (show q_ap 2 (q_sb s1 6) (q_sb s1 19) (2 + 0) 5 = 0 ∨ q_ap 2 (q_sb s1 6) (q_sb s1 19) (2 + 0) 5 = 1 by rw [ap_sb_hi, p1 _ (by omega), show s (19 + 0) 5 = t 14 from e14]; exact o7) (show q_ap 2 (q_sb s1 6) (q_sb s1 19) (2 + 0) 6 = 0 ∨ q_ap 2 (q_sb s1 6) (q_sb s1 19) (2 + 0) 6 = 1 by rw [ap_sb_hi, p1 _ (by omega), show s (19 + 0) 6 = ib (t 19) 2 from e66]; exact ib_01 _ _) (show q_ap 2 (q_sb s1 6) (q_sb s1 19) (2 + 0) 7 = 0 ∨ q_ap 2 (q_sb s1 6) (q_sb s1 19) (2 + 0) 7 = 1 by rw [ap_sb_hi, p1 _ (by omega), show s (19 + 0) 7 = t 10 from e10]; exact o9)
  obtain ⟨q1, q2⟩ := em2 s1 b (b := 6) (b' := 19) (n := 2) (by omega) b3
  rw [hb, cs_s]
  generalize q_em (q_em s1 6 0 2 b) 19 2 2 b = s2 at q1 q2
  -- things
  obtain ⟨c, hcc, d0, d4, d5, d1, d2⟩ := like9 (s := q_ap 4 (q_sb s2 8) (q_sb s2 21)) hk (show q_ap 4 (q_sb s2 8) (q_sb s2 21) (4 + 0) 0 = nI k by rw [ap_sb_hi, q1 _ (by omega), p1 _ (by omega), ← ek]; exact e17)
  obtain ⟨r1, r2⟩ := em2 s2 c (b := 8) (b' := 21) (n := 4) (by omega) d2
  rw [hcc, cs_s]
  generalize q_em (q_em s2 8 0 4 c) 21 4 4 c = s3 at r1 r2
  have far : ∀ x, 12 ≤ x → s3 x = s x := fun x hx => by rw [r1 x (by omega), q1 x (by omega), p1 x (by omega)]
  rw [show (4 : Int32) = nI 4 from rfl, ac_n _ _ _ _ (by omega) (by omega)]
  simp only [lt_v]
  generalize h4 : q_sc s3 12 _ = s4
  have far4 : ∀ x, 13 ≤ x → s4 x = s x := fun x hx => by rw [← h4]; exact (if_neg (by omega)).trans (far x (by omega))
  have lo4 : ∀ x, x < 12 → s4 x = s3 x := fun x hx => by rw [← h4]; exact if_neg (by omega)
  have e12' : ∀ w, w < 4 → s4 12 w = s 25 w := fun w hw => by
    rw [← h4]
    show va_cpy (s3 25) (s3 12) 0 0 4 w = _
    rw [cpy_lt hw, far 25 (by omega)]
  have z5 : su s4 0 4 (s4 13 4) 13 5 = t 15 := by rw [ud_ne _ _ _ (by omega), far4 13 (by omega)]; exact e15
  rw [zz_b (by rw [z5]; exact o8)]
  generalize h13 : su (su (su (su (su (su (su (su (su s4 0 4 _) 0 5 _) 0 6 _) 0 7 _) 0 8 _) 0 9 _) 0 10 _) 0 11 _) 0 12 _ = s13
  have f13 : ∀ x, 1 ≤ x → s13 x = s4 x := fun x hx => by
    rw [← h13]
    exact (if_neg (by omega)).trans ((if_neg (by omega)).trans ((if_neg (by omega)).trans ((if_neg (by omega)).trans ((if_neg (by omega)).trans ((if_neg (by omega)).trans ((if_neg (by omega)).trans ((if_neg (by omega)).trans (if_neg (by omega)))))))))
  have g4 : s13 0 4 = s4 13 4 := by rw [← h13]; rfl
  have g5 : s13 0 5 = s4 13 5 := by rw [← h13]; rfl
  have g6 : s13 0 6 = s4 13 6 := by rw [← h13]; rfl
  have g7 : s13 0 7 = s4 13 7 := by rw [← h13]; rfl
  have g8 : s13 0 8 = s4 13 8 := by rw [← h13]; rfl
  have g9 : s13 0 9 = s4 13 9 := by rw [← h13]; rfl
  have g10 : s13 0 10 = s4 13 10 := by rw [← h13]; rfl
  have g11 : s13 0 11 = s4 13 11 := by rw [← h13]; rfl
  rw [far4 13 (by omega)] at g4 g5 g6 g7 g8 g9 g10 g11
  have hP : ∀ j, j < 10 → s13 6 j = s 19 j := fun j hj => by
    rw [f13 6 (by omega), lo4 6 (by omega), r1 6 (by omega), show s2 6 = b 0 from q2 0 (by omega), b1 j hj, show q_ap 2 (q_sb s1 6) (q_sb s1 19) 2 = s1 (19 + 0) from ap_sb_hi 0, p1 _ (by omega)]
  have hL : ∀ i, i < 40 → i < m → s13 7 i = s 20 i := fun i hi hi2 => by
    rw [f13 7 (by omega), lo4 7 (by omega), r1 7 (by omega), show s2 7 = b 1 from q2 1 (by omega), b2 i hi hi2, show q_ap 2 (q_sb s1 6) (q_sb s1 19) 3 = s1 (19 + 1) from ap_sb_hi 1, p1 _ (by omega)]
  have hW : ∀ x, x < 5 → s13 (1 + x) = a x := fun x hx => by
    rw [f13 _ (by omega), lo4 _ (by omega), r1 _ (by omega), q1 _ (by omega), p2 x hx]
  have hT : ∀ x, x < 4 → s13 (8 + x) = c x := fun x hx => by
    rw [f13 _ (by omega), lo4 _ (by omega), r2 x hx]
  have hT4 : ∀ i, i < 4 → q_ap 4 (q_sb s2 8) (q_sb s2 21) (4 + i) = s (21 + i) := fun i hi => by rw [ap_sb_hi, q1 _ (by omega), p1 _ (by omega)]
  have hW4 : ∀ i, i < 5 → q_ap 5 (q_sb s 1) (q_sb s 14) (5 + i) = s (14 + i) := fun i hi => ap_sb_hi i
  refine ⟨s13, rfl, ⟨⟨?_, ?_, ?_, ?_, ?_, ?_, ?_, ?_, ?_, ?_, ?_, ?_, ?_, ?_, ?_, ?_, ?_, ?_, ?_, ?_⟩, fun i hi hi2 => ?_, fun w hw => ?_, ⟨fun w hw => ?_, fun w hw => ?_⟩, fun w hw => ?_⟩, fun x hx => (f13 x (by omega)).trans (far4 x hx)⟩
  · rw [g6]; exact e0
  · rw [g7]; exact e1
  · rw [g8]; exact e2
  · rw [hP 0 (by omega)]; exact e3
  · rw [hP 1 (by omega)]; exact e4
  · rw [hP 2 (by omega)]; exact e5
  · rw [hP 3 (by omega)]; exact e6
  · rw [hP 4 (by omega)]; exact e7
  · rw [g9]; exact e8
  · rw [hP 8 (by omega)]; exact e9
  · rw [hP 7 (by omega)]; exact e10
  · rw [g10]; exact e11
  · rw [hP 9 (by omega)]; exact e12
  · rw [g11]; exact e13
  · rw [hP 5 (by omega)]; exact e14
  · rw [g5]; exact e15
  · rw [show s13 1 = a 0 from hW 0 (by omega), a0, en]
  · rw [show s13 8 = c 0 from hT 0 (by omega), d0, ek]
  · rw [g4]; exact e19
  · rw [hP 6 (by omega)]; exact e66
  · rw [hL i hi (by omega)]; exact c2 i hi hi2
  · obtain ⟨u1, u2, u3, u4⟩ := a1 w (by omega)
    rw [show s13 2 = a 1 from hW 1 (by omega), show s13 3 = a 2 from hW 2 (by omega), show s13 4 = a 3 from hW 3 (by omega), show s13 5 = a 4 from hW 4 (by omega), u1, u2, u3, u4, show q_ap 5 (q_sb s 1) (q_sb s 14) 6 = s 15 from hW4 1 (by omega), show q_ap 5 (q_sb s 1) (q_sb s 14) 7 = s 16 from hW4 2 (by omega), show q_ap 5 (q_sb s 1) (q_sb s 14) 8 = s 17 from hW4 3 (by omega), show q_ap 5 (q_sb s 1) (q_sb s 14) 9 = s 18 from hW4 4 (by omega)]
    exact c3 w hw
  · obtain ⟨u1, u2, u3⟩ := d1 w (by omega)
    rw [show s13 8 = c 0 from hT 0 (by omega), show s13 9 = c 1 from hT 1 (by omega), show s13 10 = c 2 from hT 2 (by omega), show s13 11 = c 3 from hT 3 (by omega), d4, d5, u1, u2, u3, show q_ap 4 (q_sb s2 8) (q_sb s2 21) 4 = s 21 from hT4 0 (by omega), show q_ap 4 (q_sb s2 8) (q_sb s2 21) 5 = s 22 from hT4 1 (by omega), show q_ap 4 (q_sb s2 8) (q_sb s2 21) 6 = s 23 from hT4 2 (by omega), show q_ap 4 (q_sb s2 8) (q_sb s2 21) 7 = s 24 from hT4 3 (by omega)]
    exact c4 w hw
  · rw [show s13 8 = c 0 from hT 0 (by omega), d4, d5, show q_ap 4 (q_sb s2 8) (q_sb s2 21) 4 = s 21 from hT4 0 (by omega)]
    exact c5 w hw
  · rw [f13 12 (by omega), e12' w hw]
    exact c6 w hw
/-! ===== the reference's rows ===== -/
def mix (f g : Nat → Int32) : Nat → Int32 := fun k => if k < 307 then f k else g k
theorem mix_lo {f g : Nat → Int32} {k : Nat} (h : k < 307) : mix f g k = f k := if_pos h
theorem lay12 (σ : SS) : pX12_lay σ = some (q_sc σ 1 (mix (σ 0) (σ 1))) := by
  unfold pX12_lay
  refine q_for (S := SS) (R := SS) (fun (f : SS → Int32 → Option SS) s i => f s i) (m := 0) (n := 307) (by omega) (by omega) (fun j s => s = q_sc σ 1 (fun k => if k < j then σ 0 k else σ 1 k)) (fun r => r = some (q_sc σ 1 (mix (σ 0) (σ 1)))) ?_ ?_ σ ?_
  · intro f j s hj1 hj2 hs ih
    subst hs
    try dsimp only
    rw [if_neg (fun hh => by have := (nI_leS (n := 307) (by omega) (by omega)).mp hh; omega), rd_n _ _ (by omega), wr_n _ _ _ _ (by omega), nI_s, sc_su]
    refine ih _ ?_
    congr 1
    funext k
    show upd _ j (σ 0 j) k = _
    by_cases hk : k = j
    · subst hk; rw [upd_at, if_pos (by omega)]
    · rw [upd_ne hk]
      by_cases hk2 : k < j
      · rw [if_pos hk2, if_pos (by omega)]
      · rw [if_neg hk2, if_neg (by omega)]
  · intro f s hs
    subst hs
    rfl
  · rw [show (fun k => if k < 0 then σ 0 k else σ 1 k) = σ 1 from funext (fun k => if_neg (by omega)), sc_self]
theorem begin12 (τ : SS) : pX12_begin τ = some (q_sc τ 3 (mix (τ 1) (τ 3))) := by
  unfold pX12_begin
  rw [lay12, cs_s]
  congr 1
  funext x
  show (if 3 ≤ x ∧ x < 3 + 1 then q_sc (q_ap 1 (q_sb τ 1) (q_sb τ 3)) 1 _ (1 + (x - 3)) else if 1 ≤ x ∧ x < 1 + 1 then q_sc (q_ap 1 (q_sb τ 1) (q_sb τ 3)) 1 _ (0 + (x - 1)) else τ x) = if x = 3 then mix (τ 1) (τ 3) else τ x
  by_cases h3 : x = 3
  · subst h3; rfl
  · rw [if_neg (by omega), if_neg h3]
    by_cases h1 : x = 1
    · subst h1; rfl
    · rw [if_neg (by omega)]
theorem layBack12 (τ : SS) : pX12_layBack τ = some (q_sc τ 1 (mix (τ 3) (τ 1))) := by
  unfold pX12_layBack
  rw [lay12, cs_s]
  congr 1
  funext x
  show (if 1 ≤ x ∧ x < 1 + 1 then q_sc (q_ap 1 (q_sb τ 3) (q_sb τ 1)) 1 _ (1 + (x - 1)) else if 3 ≤ x ∧ x < 3 + 1 then q_sc (q_ap 1 (q_sb τ 3) (q_sb τ 1)) 1 _ (0 + (x - 3)) else τ x) = if x = 1 then mix (τ 3) (τ 1) else τ x
  by_cases h3 : x = 1
  · subst h3; rfl
  · rw [if_neg (by omega), if_neg h3]
    by_cases h1 : x = 3
    · subst h1; rfl
    · rw [if_neg (by omega)]
theorem HR_row {σ : SS} {b : Nat} {t t' : Nat → Int32} (ht : ∀ j, j < 307 → t' j = t j) (h : HRel σ b t) : HRel σ b t' := by
  obtain ⟨o, c, k, p, z⟩ := h
  refine ⟨Ok_lo (fun j hj => ht j (by omega)) o, CR_lo o.1 (fun _ _ => rfl) (fun j hj => ht j (by omega)) c, KR_mid o.1 (fun _ _ => rfl) (ht 18 (by omega)) (fun j h1 h2 => ht j (by omega)) k, fun j hj => ?_, ?_⟩
  · rw [ht _ (by omega), ht 16 (by omega)]
    exact p j hj
  · rw [ht 20 (by omega)]
    exact z
/-- nights change nothing that counts -/
theorem R_same {σ σ' τ τ' : SS} (h : Rel σ τ) (hx : ∀ x, x < 52 → σ' x = σ x) (ht : ∀ j, j < 307 → τ' 1 j = τ 1 j) (e3 : τ' 0 3 = τ 0 3) (e7 : τ' 0 7 = τ 0 7) (et : ∀ x, (x = 2 ∨ x = 4 ∨ x = 5 ∨ (8 ≤ x ∧ x ≤ 10)) → τ' x = τ x) : Rel σ' τ' :=
  R_house h (HR_row ht (HR_far h.1 (fun i hi => hx _ (by omega)))) (fun x hx2 => hx x (by omega)) e3 e7 et
theorem begin3 {s : SS} {t : Nat → Int32} (hO : Ok t) (hc : CRel (q_sb s 1) t) : ∃ s', pX3_begin s = some s' ∧ CRel (q_sb s' 14) t ∧ s' 14 12 = 0 ∧ ∀ x, (x < 14 ∨ 27 ≤ x) → s' x = s x := by
  unfold pX3_begin
  obtain ⟨a, a1, a2, a3⟩ := like0 (s := q_ap 13 (q_sb s 14) (q_sb s 1)) hO (CR_congr (fun x hx => ap_hi x) hc)
  obtain ⟨p1, p2⟩ := em2 s a (b := 14) (b' := 1) (n := 13) (by omega) a3
  rw [a1, cs_s, lt_v]
  refine ⟨_, rfl, ?_, rfl, fun x hx => ?_⟩
  · have e : ∀ x, x < 13 → x ≠ 0 → q_sb (su (q_em (q_em s 14 0 13 a) 1 13 13 a) 14 12 0) 14 x = a x := fun x hx h0 => by
      show su _ 14 12 0 (14 + x) = _
      rw [ud_ne _ _ _ (by omega), p2 x hx]
    have e0 : ∀ j, j ≠ 12 → q_sb (su (q_em (q_em s 14 0 13 a) 1 13 13 a) 14 12 0) 14 0 j = a 0 j := fun j hj => by
      show upd (q_em (q_em s 14 0 13 a) 1 13 13 a 14) 12 0 j = _
      rw [upd_ne hj, show q_em (q_em s 14 0 13 a) 1 13 13 a 14 = a 0 from p2 0 (by omega)]
    unfold CRel CRs CRl CRw CRt CRc at a2 ⊢
    simp only [e 1 (by omega) (by omega), e 2 (by omega) (by omega), e 3 (by omega) (by omega), e 4 (by omega) (by omega), e 5 (by omega) (by omega), e 6 (by omega) (by omega), e 7 (by omega) (by omega), e 8 (by omega) (by omega), e 9 (by omega) (by omega), e 10 (by omega) (by omega), e 11 (by omega) (by omega), e 12 (by omega) (by omega), e0 4 (by omega), e0 5 (by omega), e0 6 (by omega), e0 7 (by omega), e0 8 (by omega), e0 9 (by omega), e0 10 (by omega), e0 11 (by omega)]
    exact a2
  · rw [ud_ne _ _ _ (by omega)]
    exact p1 x (by omega)
/-! ===== image, undo ===== -/
theorem HR_sb {σ : SS} {b : Nat} {t : Nat → Int32} : HRel (q_sb σ b) 0 t ↔ HRel σ b t := by
  unfold HRel
  rw [sb_sb, sb_sb]
  exact Iff.rfl
set_option maxHeartbeats 4000000 in
theorem like2 {s : SS} {t : Nat → Int32} (h : HRel s 19 t) : ∃ s', pX2_becomeLike s = some s' ∧ HRel s' 0 t ∧ (∀ x, 19 ≤ x → s' x = s x) := by
  obtain ⟨hO, hc, ⟨hk0, hk⟩, hp, hz⟩ := h
  have o3 := hO.1.2.2.1
  obtain ⟨n, hn, en⟩ := num_of (a := t 18) (n := 6) o3.1 o3.2
  have n18 : (t 18).toInt = n := by rw [en, nI_toInt (by omega)]
  unfold pX2_becomeLike
  obtain ⟨a, a1, a2, a3⟩ := like0 (s := q_ap 13 (q_sb s 1) (q_sb s 20)) hO (CR_congr (fun x hx => ap_hi x) hc)
  obtain ⟨p1, p2⟩ := em2 s a (b := 1) (b' := 20) (n := 13) (by omega) a3
  rw [a1, cs_s]
  generalize q_em (q_em s 1 0 13 a) 20 13 13 a = s1 at p1 p2
  obtain ⟨b, b1, b2, b3, b4, b5⟩ := like7 (s := q_ap 4 (q_sb s1 14) (q_sb s1 33)) hn (show q_ap 4 (q_sb s1 14) (q_sb s1 33) (4 + 0) 0 = nI n by rw [ap_sb_hi, p1 _ (by omega), ← en]; exact hk0)
  obtain ⟨q1, q2⟩ := em2 s1 b (b := 14) (b' := 33) (n := 4) (by omega) b5
  rw [b1, cs_s]
  generalize q_em (q_em s1 14 0 4 b) 33 4 4 b = s2 at q1 q2
  rw [show (10 : Int32) = nI 10 from rfl, ac_n _ _ _ _ (by omega) (by omega), lt_v]
  have far : ∀ x, 18 ≤ x → s2 x = s x := fun x hx => by rw [q1 x (by omega), p1 x (by omega)]
  have hA : ∀ i, i < 4 → q_ap 4 (q_sb s1 14) (q_sb s1 33) (4 + i) = s (33 + i) := fun i hi => by rw [ap_sb_hi, p1 _ (by omega)]
  generalize h3 : su (q_sc s2 18 _) 0 3 _ = s3
  have f3 : ∀ x, x ≠ 0 → x ≠ 18 → s3 x = s2 x := fun x hx hx2 => by rw [← h3]; exact (if_neg hx).trans (if_neg hx2)
  refine ⟨s3, rfl, ⟨hO, CR_congr (c' := a) (fun x hx => ?_) a2, ⟨?_, fun y hy => ?_⟩, fun j hj => ?_, ?_⟩, fun x hx => ?_⟩
  · show s3 (0 + 1 + x) = a x
    rw [f3 _ (by omega) (by omega), q1 _ (by omega), Nat.zero_add, p2 x hx]
  · show s3 14 0 = t 18
    rw [f3 14 (by omega) (by omega), show s2 14 = b 0 from q2 0 (by omega), b2, en]
  · obtain ⟨k1, k2, k3⟩ := hk y hy
    have k1 : s 34 y = _ := k1
    have hy' : y < n := by omega
    show s3 15 y = _ ∧ _ ∧ ∀ i : Nat, _ → s3 16 (12 * y + i) = _ ∧ s3 17 (12 * y + i) = _ ∧ _
    rw [f3 15 (by omega) (by omega), f3 16 (by omega) (by omega), f3 17 (by omega) (by omega), show s2 15 = b 1 from q2 1 (by omega), show s2 16 = b 2 from q2 2 (by omega), show s2 17 = b 3 from q2 3 (by omega), b3 y hy', show q_ap 4 (q_sb s1 14) (q_sb s1 33) 5 = s 34 from hA 1 (by omega)]
    refine ⟨k1, k2, fun i hi => ?_⟩
    obtain ⟨v1, v2⟩ := b4 (12 * y + i) (by omega)
    rw [v1, v2, show q_ap 4 (q_sb s1 14) (q_sb s1 33) 6 = s 35 from hA 2 (by omega), show q_ap 4 (q_sb s1 14) (q_sb s1 33) 7 = s 36 from hA 3 (by omega)]
    exact k3 i hi
  · have e : s3 18 j = s 37 j := by
      rw [← h3]
      show va_cpy (s2 37) (s2 18) 0 0 10 j = _
      rw [cpy_lt hj, far 37 (by omega)]
    show s3 18 j = _ ∧ _
    rw [e]
    exact hp j hj
  · rw [← h3]
    show s2 19 3 = t 20
    rw [far 19 (by omega)]
    exact hz
  · rw [f3 x (by omega) (by omega), far x (by omega)]
theorem s_image : S_image Rel := by
  intro σ τ h
  obtain ⟨hH, hk, hkk, hF, hT, hS⟩ := id h
  obtain ⟨a, a1, a2, a3⟩ := like2 (s := q_ap 19 (q_sb σ 21) (q_sb σ 2)) (t := τ 1) (HR_sb.mp (by
    have : q_sb (q_ap 19 (q_sb σ 21) (q_sb σ 2)) 19 = q_sb σ 2 := funext (fun x => ap_hi x)
    rw [this]
    exact HR_sb.mpr hH))
  obtain ⟨p1, p2⟩ := em2 σ a (b := 21) (b' := 2) (n := 19) (by omega) a3
  simp only [pX11_image, pX12_image, lay12, cs_s, lt_v]
  rw [a1, cs_s, zz_b (Or.inr rfl), zz_b (Or.inr rfl)]
  refine ⟨_, _, _, rfl, rfl, ?_, ⟨rfl, Or.inr rfl⟩, fun _ => ?_, fun i hi => ?_, ?_, ?_⟩
  · exact HR_far hH (fun i hi => by rw [ud_ne _ _ _ (by omega), p1 _ (by omega)])
  · refine HR_row (t := τ 1) (fun j hj => mix_lo hj) (HR_sb.mp ?_)
    refine HR_far a2 (fun i hi => ?_)
    show su _ 0 3 1 (21 + (0 + i)) = a (0 + i)
    rw [ud_ne _ _ _ (by omega), p2 _ (by omega)]
  · rw [ud_ne _ _ _ (by omega), p1 _ (by omega)]
    exact hF i hi
  · rw [ud_ne _ _ _ (by omega), p1 _ (by omega), ud_ne _ _ _ (by omega), p1 _ (by omega)]
    exact hT
  · unfold SRel
    rw [ud_ne _ _ _ (by omega), p1 _ (by omega), ud_ne _ _ _ (by omega), p1 _ (by omega), ud_ne _ _ _ (by omega), p1 _ (by omega), ud_ne _ _ _ (by omega), p1 _ (by omega), ud_ne _ _ _ (by omega), p1 _ (by omega), ud_ne _ _ _ (by omega), p1 _ (by omega), ud_ne _ _ _ (by omega), p1 _ (by omega), ud_ne _ _ _ (by omega), p1 _ (by omega)]
    exact hS
theorem s_undo : S_undo Rel := by
  intro σ τ h
  obtain ⟨hH, hk, hkk, hF, hT, hS⟩ := id h
  have R3 : Rel (su σ 1 3 (σ 1 3 + 1)) (su τ 4 3 (τ 4 3 + 1)) := R_tell h (by decide)
  simp only [pX11_undo, pX12_undo, tell_3, find_3, ci_s, lay12, cs_s]
  rw [hk.1]
  by_cases h0 : τ 0 3 = 0
  · rw [if_pos h0, if_pos h0]
    exact ⟨_, _, _, rfl, rfl, R3⟩
  · rw [if_neg h0, if_neg h0]
    have hK := hkk (by rcases hk.2 with h1 | h1; exact absurd h1 h0; exact h1)
    obtain ⟨a, a1, a2, a3⟩ := like2 (s := q_sb σ 2) (t := τ 2) (HR_sb.mp (by rw [sb_sb]; exact HR_sb.mpr hK))
    rw [a1, cs_s, Q1_8]
    have far : ∀ x, (x < 2 ∨ 21 ≤ x) → q_em σ 2 0 38 a x = σ x := fun x hx => by
      by_cases h40 : x < 40
      · rcases hx with hx | hx
        · exact em_out (by omega)
        · obtain ⟨i, rfl⟩ : ∃ i, x = 2 + i := ⟨x - 2, by omega⟩
          rw [em_in i (by omega), Nat.zero_add, a3 i (by omega)]
          rfl
      · exact em_out (by omega)
    refine ⟨τ 2 8, _, _, ?_, rfl, R_house h (HR_row (t := τ 2) (fun j hj => mix_lo hj) (HR_sb.mp ?_)) (fun x hx => far x (by omega)) rfl rfl (fun x hx => ?_)⟩
    · have : a 1 9 = τ 2 8 := a2.2.1.1.2.2.2.2.2.2.2.2.1
      show some (a 1 9, _) = _
      rw [this]
    · refine HR_far a2 (fun i hi => ?_)
      show q_em σ 2 0 38 a (2 + (0 + i)) = a (0 + i)
      rw [em_in _ (by omega), Nat.zero_add]
    · show q_em (q_em τ 2 0 1 _) 1 1 1 _ x = τ x
      by_cases h2 : x = 2
      · subst h2; rfl
      · rw [em_out (by omega), em_out (by omega)]
