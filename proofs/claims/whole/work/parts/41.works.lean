/-! ===== small numbers by their bits ===== -/
theorem sm_bits {x : Int32} {n : Nat} (h : ∀ i, n ≤ i → bt x i = false) : ∃ m, m < 2 ^ n ∧ x = nI m := by
  refine ⟨x.toBitVec.toNat, Nat.lt_pow_two_of_testBit _ (fun i hi => h i hi), ?_⟩
  apply Int32.toBitVec_inj.mp
  show x.toBitVec = BitVec.ofNat 32 x.toBitVec.toNat
  rw [BitVec.ofNat_toNat, BitVec.setWidth_eq]
theorem lt_if {α : Type} (B : Int32 → α) (c : Prop) [Decidable c] (x y : Int32) : q_lt B (fun j => if c then j x else j y) = B (if c then x else y) := by
  show (if c then B x else B y) = _
  split <;> rfl
theorem lt_i2 {α β : Type} (B : β → α) (c : Prop) [Decidable c] (x y : β) : q_lt B (fun j => if c then j x else j y) = B (if c then x else y) := by
  show (if c then B x else B y) = _
  split <;> rfl
/-! ===== draws ===== -/
def dz (z : Int32) : Int32 := z * 1103515245 + 12345
def dr (z : Int32) : Int32 := (Int32.toUInt32 z >>> (Int32.toUInt32 8 &&& Int32.toUInt32 31)).toInt32
theorem dr_n (z : Int32) : ∃ m, m < 2 ^ 24 ∧ dr z = nI m := by
  refine sm_bits (fun i hi => ?_)
  have e : bt (dr z) i = bt z (8 + i) := b_ushr 8 (by omega) z i
  rw [e]
  exact b_big (by omega)
theorem dr_rest (z : Int32) {d : Nat} (h0 : 0 < d) (hd : d < 1000) : ∃ m, m < d ∧ dr z - dr z / nI d * nI d = nI m := by
  obtain ⟨m, hm, e⟩ := dr_n z
  refine ⟨m % d, Nat.mod_lt _ h0, ?_⟩
  have h1 : m / d * d ≤ m := Nat.div_mul_le_self m d
  rw [e, pk_div (by omega) h0 (by omega), pk_mul, pk_sub h1]
  congr 1
  have := Nat.div_add_mod m d
  rw [Nat.mul_comm] at this
  omega
theorem draw_c {R : Type} (σ : SS) (k : Int32 → SS → Option R) : q_ci (pX2_draw (q_sb σ 2)) (fun (τ : SS) => (q_em σ 2 0 19 τ)) k = k (dr (dz (σ 2 3))) (su σ 2 3 (dz (σ 2 3))) := by
  show k (dr (dz (σ 2 3))) (q_em σ 2 0 19 (su (q_sb σ 2) 0 3 (dz (σ 2 3)))) = _
  rw [em_su _ _ _ _ (by decide), em_self]
theorem draw_t {R : Type} (τ : SS) (k : Int32 → SS → Option R) : q_ci (pX12_draw τ) (fun (τ : SS) => τ) k = k (dr (dz (τ 1 20))) (su τ 1 20 (dz (τ 1 20))) := rfl
theorem R_z {σ τ : SS} (h : Rel σ τ) (v : Int32) : Rel (su σ 2 3 v) (su τ 1 20 v) := by
  obtain ⟨hH, hk, hkk, hF, hT, hS⟩ := id h
  obtain ⟨e0, e1, e2, e3, e4, e5, e6, e7, e8, e9, e10, e11, e12, e13, e14, e15, e16, e17, e19, e66⟩ := R_sc h
  exact ⟨HR_mk hH (fun j hj => upd_ne (by omega)) rfl rfl rfl (Int.le_refl _) (fun i hi => if_neg (by omega)) hH.1.1 ⟨e0, e1, e2, e3, e4, e5, e6, e7, e8, e9, e10, e11, e12, e13, e14, e15, e16, e17, e19, e66⟩ rfl, hk, hkk, hF, hT, hS⟩
def mOd (t : Nat → Int32) (rain y : Int32) : Nat → Int32 := upd (upd t 0 rain) 14 (if y = 0 then t 14 else 0)
theorem Ok_od {t : Nat → Int32} (h : Ok t) {rain : Int32} (y : Int32) (hr : 0 ≤ rain.toInt ∧ rain.toInt ≤ 99) : Ok (mOd t rain y) := by
  obtain ⟨o1, o2, o3, o4, o5, o6, o7, o8, o9, o10, o11, o12, o13, o14⟩ := id h.1
  refine Ok_mk h ⟨o1, o2, o3, o4, o5, o6, ?_, o8, o9, o10, hr, o12, o13, o14⟩ rfl rfl (fun j hj => (upd_ne (by omega)).trans (upd_ne (by omega)))
  show (if y = 0 then t 14 else 0) = 0 ∨ (if y = 0 then t 14 else 0) = 1
  split
  · exact o7
  · exact Or.inl rfl
theorem od_0 {t : Nat → Int32} {rain y : Int32} (hy : y = 0) : mOd t rain y = upd t 0 rain := by
  unfold mOd
  rw [if_pos hy]
  exact upd_self (upd t 0 rain) 14
theorem rises3 {s : SS} {t : Nat → Int32} (hO : Ok t) (hc : CRel (q_sb s 1) t) {rain y a : Int32} (hr : 0 ≤ rain.toInt ∧ rain.toInt ≤ 99) (hy : y = 0 ∨ y = 1) (ha : 0 ≤ a.toInt) {n : Nat} (hn : n ≤ 200) : ∃ s', pX3_risesAbove s rain y (nI n) a = some (if mTop 0 (mOd t rain y) n ≤ a then 0 else 1, s') ∧ ∀ x, x < 14 → s' x = s x := by
  obtain ⟨s1, b1, b2, b3, b4⟩ := begin3 hO hc
  have hO2 := Ok_od hO y hr
  have ti := top_iff ha (mOd t rain y) n
  unfold pX3_risesAbove
  rw [b1, cs_s]
  simp only [lt_v]
  have lp : ∀ b : SS, CRel (q_sb b 14) (mOd t rain y) → (∀ x, x < 14 → b x = s x) → ∃ s', q_lp (fun _ _ => none) (fun (c7 : SS → Int32 → Option (Int32 × SS)) (σ6 : SS) (x5_5 : Int32) => (if nI n ≤ x5_5 then q_zz 0 (some ((0 : Int32), σ6)) else q_cs (pX0_passMinute (q_sb σ6 14)) (fun (τ : SS) => (q_em σ6 14 0 13 τ)) (fun σ11 => (if (σ11 14 8) ≤ a then c7 σ11 (x5_5 + 1) else q_zz 1 (some ((1 : Int32), σ11)))))) q_fu b 0 = some (if mTop 0 (mOd t rain y) n ≤ a then 0 else 1, s') ∧ ∀ x, x < 14 → s' x = s x := by
    intro b hb1 hb2
    refine q_for (S := SS) (R := Int32 × SS) (fun (f : SS → Int32 → Option (Int32 × SS)) s i => f s i) (m := 0) (n := n) (by omega) (by omega) (fun j b => CRel (q_sb b 14) (mIter (mOd t rain y) j) ∧ (∀ x, x < 14 → b x = s x) ∧ ∀ l, 1 ≤ l → l ≤ j → mIter (mOd t rain y) l 2 ≤ a) (fun o => ∃ s', o = some (if mTop 0 (mOd t rain y) n ≤ a then 0 else 1, s') ∧ ∀ x, x < 14 → s' x = s x) ?_ ?_ b ⟨hb1, hb2, fun l h1 h2 => by omega⟩
    · rintro f j b hj1 hj2 ⟨hb1, hb2, hb3⟩ ih
      try dsimp only
      obtain ⟨c', q1, q2, q3⟩ := minute0 (Ok_iter hO2 j) hb1
      have e2 : q_em b 14 0 13 c' 14 8 = mIter (mOd t rain y) (j + 1) 2 := q2.1.2.2.1
      rw [if_neg (by rw [nI_leS (by omega) (by omega)]; omega), q1, cs_s, e2, nI_s]
      split
      · rename_i hc
        refine ih _ ⟨em14 q2, fun x hx => by rw [em_out (by omega), hb2 x hx], fun l h1 h2 => ?_⟩
        by_cases hl : l = j + 1
        · rw [hl]; exact hc
        · exact hb3 l h1 (by omega)
      · rename_i hc
        rw [zz_b (Or.inr rfl), if_neg (fun hh => hc (ti.mp hh (j + 1) (by omega) (by omega)))]
        exact ⟨_, rfl, fun x hx => by rw [em_out (by omega), hb2 x hx]⟩
    · rintro f b ⟨hb1, hb2, hb3⟩
      try dsimp only
      rw [if_pos (by rw [nI_leS (by omega) (by omega)]; omega), zz_b (Or.inl rfl), if_pos (ti.mpr hb3)]
      exact ⟨_, rfl, hb2⟩
  obtain ⟨e0, e1, e2, e3, e4, e5, e6, e7, e8, e9, e10, e11, e12, e13, e14, e15, e16, e17, e19, e66⟩ := id b2.1
  have c1 : CRel (q_sb (su s1 14 6 rain) 14) (upd t 0 rain) := by
    refine CR_sc b2 ⟨rfl, e1, e2, e3, e4, e5, e6, e7, e8, e9, e10, e11, e12, e13, e14, e15, e16, e17, e19, e66⟩ (fun x hx _ => ?_) rfl rfl rfl (fun j hj => upd_ne (by omega))
    show su s1 14 6 rain (14 + x) = s1 (14 + x)
    exact ud_ne _ _ _ (by omega)
  rcases hy with rfl | rfl
  · rw [if_pos rfl]
    exact lp _ (by rw [od_0 rfl]; exact c1) (fun x hx => by rw [ud_ne _ _ _ (by omega), b4 x (by omega)])
  · rw [if_neg (by decide), zz_b (Or.inl rfl)]
    refine lp _ ?_ (fun x hx => by rw [ud_ne _ _ _ (by omega), ud_ne _ _ _ (by omega), b4 x (by omega)])
    refine CR_sc c1 ⟨rfl, e1, e2, e3, e4, e5, e6, e7, e8, e9, e10, e11, e12, e13, rfl, e15, e16, e17, e19, e66⟩ (fun x _ hx => ?_) rfl rfl rfl (fun j hj => upd_ne (by omega))
    show su (su s1 14 6 rain) 20 5 0 (14 + x) = su s1 14 6 rain (14 + x)
    exact ud_ne _ _ _ (by omega)
/-! ===== works ===== -/
def mBuild (t : Nat → Int32) (k : Nat) : Nat → Int32 :=
  if k = 1 then upd (upd t 19 (t 19 ||| ((1 : Int32) <<< (nI k &&& 31)))) 15 0
  else if k = 3 then upd (upd t 19 (t 19 ||| ((1 : Int32) <<< (nI k &&& 31)))) 7 (if t 7 + 240 ≤ 999 then t 7 + 240 else 999)
  else upd t 19 (t 19 ||| ((1 : Int32) <<< (nI k &&& 31)))
theorem or_15 : ∀ m, m < 16 → ∀ k, k < 4 → 0 ≤ (nI m ||| ((1 : Int32) <<< (nI k &&& 31))).toInt ∧ (nI m ||| ((1 : Int32) <<< (nI k &&& 31))).toInt ≤ 15 := by decide +kernel
theorem built_b {t : Nat → Int32} (h : Ok t) {k : Nat} (hk : k < 4) : 0 ≤ (t 19 ||| ((1 : Int32) <<< (nI k &&& 31))).toInt ∧ (t 19 ||| ((1 : Int32) <<< (nI k &&& 31))).toInt ≤ 15 := by
  have o6 := h.1.2.2.2.2.2.1
  obtain ⟨m, hm, e⟩ := num_of (a := t 19) (n := 15) o6.1 o6.2
  rw [e]
  exact or_15 m (by omega) k hk
theorem Ok_build {t : Nat → Int32} (h : Ok t) {k : Nat} (hk : k < 4) : Ok (mBuild t k) := by
  obtain ⟨o1, o2, o3, o4, o5, o6, o7, o8, o9, o10, o11, o12, o13, o14⟩ := id h.1
  have hb := built_b h hk
  unfold mBuild
  split
  · exact Ok_mk h ⟨o1, o2, o3, o4, o5, hb, o7, Or.inl rfl, o9, o10, o11, o12, o13, o14⟩ rfl rfl (fun j hj => (upd_ne (by omega)).trans (upd_ne (by omega)))
  split
  · exact Ok_mk h ⟨o1, o2, o3, o4, o5, hb, o7, o8, o9, o10, o11, o12, o13, o14⟩ rfl rfl (fun j hj => (upd_ne (by omega)).trans (upd_ne (by omega)))
  · exact Ok_mk h ⟨o1, o2, o3, o4, o5, hb, o7, o8, o9, o10, o11, o12, o13, o14⟩ rfl rfl (fun j hj => upd_ne (by omega))
theorem build_no (t : Nat → Int32) (k : Nat) {j : Nat} (hj : (16 ≤ j ∧ j ≠ 19) ∨ j = 9) : mBuild t k j = t j := by
  unfold mBuild
  split
  · exact (upd_ne (by omega)).trans (upd_ne (by omega))
  split
  · exact (upd_ne (by omega)).trans (upd_ne (by omega))
  · exact upd_ne (by omega)
theorem cells_if (a : Int32) : (if a < 999 then a else 999) = if a ≤ 999 then a else 999 := by
  by_cases h : a < 999
  · rw [if_pos h, if_pos (by rw [i_le]; rw [i_lt] at h; omega)]
  · rw [if_neg h]
    split
    · rename_i h2
      rw [i_lt] at h
      rw [i_le] at h2
      exact i_eq.mpr (by omega)
    · rfl
theorem construct0 {c : SS} {t : Nat → Int32} (hc : CRel c t) {k : Nat} (hk : k < 4) : ∃ c', pX0_construct c (nI k) = some c' ∧ CRel c' (mBuild t k) ∧ c' 0 12 = c 0 12 := by
  obtain ⟨e0, e1, e2, e3, e4, e5, e6, e7, e8, e9, e10, e11, e12, e13, e14, e15, e16, e17, e19, e66⟩ := id hc.1
  have hi1 : ∀ (v : Int32) (j : Nat), 21 ≤ j → upd t 19 v j = t j := fun v j hj => upd_ne (by omega)
  have hi2 : ∀ (v : Int32) (l : Nat) (w : Int32) (j : Nat), l < 21 → 21 ≤ j → upd (upd t 19 v) l w j = t j := fun v l w j hl hj => (upd_ne (by omega)).trans (upd_ne (by omega))
  unfold pX0_construct
  simp only [lt_v]
  rw [e19]
  have keep : k ≠ 2 → c 6 6 = ib (t 19 ||| ((1 : Int32) <<< (nI k &&& 31))) 2 := fun h => by
    rw [or_bit _ (by omega), if_neg (by omega)]; exact e66
  rcases (by omega : k = 0 ∨ k = 1 ∨ k = 2 ∨ k = 3) with rfl | rfl | rfl | rfl
  · refine ⟨_, rfl, CR_sc (t' := upd t 19 (t 19 ||| ((1 : Int32) <<< (nI 0 &&& 31)))) hc ⟨e0, e1, e2, e3, e4, e5, e6, e7, e8, e9, e10, e11, e12, e13, e14, e15, e16, e17, rfl, keep (by decide)⟩ (fun x hx _ => ud_ne _ _ _ hx) rfl rfl rfl (hi1 _), rfl⟩
  · rw [if_pos (show nI 1 = (1 : Int32) from rfl), zz_b (Or.inl rfl)]
    refine ⟨_, rfl, CR_sc (t' := upd (upd t 19 (t 19 ||| ((1 : Int32) <<< (nI 1 &&& 31)))) 15 0) hc ⟨e0, e1, e2, e3, e4, e5, e6, e7, e8, e9, e10, e11, e12, e13, e14, rfl, e16, e17, rfl, keep (by decide)⟩ (fun x hx _ => (ud_ne _ _ _ hx).trans (ud_ne _ _ _ hx)) rfl rfl rfl (fun j hj => hi2 _ 15 _ j (by decide) hj), rfl⟩
  · rw [if_neg (show ¬ nI 2 = (1 : Int32) by decide), if_pos (show nI 2 = (2 : Int32) from rfl), zz_b (Or.inr rfl)]
    refine ⟨_, rfl, CR_sc (t' := upd t 19 (t 19 ||| ((1 : Int32) <<< (nI 2 &&& 31)))) hc ⟨e0, e1, e2, e3, e4, e5, e6, e7, e8, e9, e10, e11, e12, e13, e14, e15, e16, e17, rfl, ?_⟩ (fun x hx hx2 => (ud_ne _ _ _ hx2).trans (ud_ne _ _ _ hx)) rfl rfl rfl (hi1 _), rfl⟩
    show (1 : Int32) = ib (t 19 ||| ((1 : Int32) <<< (nI 2 &&& 31))) 2
    rw [or_bit _ (by omega), if_pos rfl]
  · rw [if_neg (show ¬ nI 3 = (1 : Int32) by decide), if_neg (show ¬ nI 3 = (2 : Int32) by decide), if_pos (show nI 3 = (3 : Int32) from rfl)]
    refine ⟨_, rfl, CR_sc (t' := upd (upd t 19 (t 19 ||| ((1 : Int32) <<< (nI 3 &&& 31)))) 7 (if t 7 + 240 ≤ 999 then t 7 + 240 else 999)) hc ⟨e0, e1, e2, e3, e4, e5, e6, ?_, e8, e9, e10, e11, e12, e13, e14, e15, e16, e17, rfl, keep (by decide)⟩ (fun x hx hx2 => (ud_ne _ _ _ hx2).trans (ud_ne _ _ _ hx)) rfl rfl rfl (fun j hj => hi2 _ 7 _ j (by decide) hj), rfl⟩
    show (if c 6 4 + 240 < 999 then c 6 4 + 240 else 999) = if t 7 + 240 ≤ 999 then t 7 + 240 else 999
    rw [e7, cells_if]
theorem builds_rs (τ : SS) (r : Nat → Int32) (g : Int32) {k : Nat} (hk : k < 4) : pX12_builds (rs τ r g) (nI k) = some (rs τ (mBuild r k) g) := by
  unfold pX12_builds
  simp only [Q1_19, W1_19, rs_W, rs_1, lt_v, W1_15, Q1_7, W1_7]
  rcases (by omega : k = 0 ∨ k = 1 ∨ k = 2 ∨ k = 3) with rfl | rfl | rfl | rfl
  · rfl
  · rfl
  · rfl
  · rw [if_neg (show ¬ nI 3 = (1 : Int32) by decide), if_pos (show nI 3 = (3 : Int32) from rfl)]
    show (if r 7 + 240 ≤ 999 then some (rs τ (upd (upd r 19 _) 7 (r 7 + 240)) g) else some (rs τ (upd (upd r 19 _) 7 999) g)) = some (rs τ (upd (upd r 19 _) 7 (if r 7 + 240 ≤ 999 then r 7 + 240 else 999)) g)
    split <;> rfl
theorem s_build : S_build Rel := by
  intro σ τ a1 h
  have R4 : Rel (su σ 1 4 (σ 1 4 + 1)) (su τ 4 4 (τ 4 4 + 1)) := R_tell h (by decide)
  simp only [pX11_build, pX12_build, within_eq, in_eq, cr_s, tell_0, find_0, tell_4, find_4, ci_s]
  by_cases h1 : wi a1 0 3 = 0
  · simp only [if_pos h1]
    exact ⟨_, _, _, rfl, rfl, R_tell h (by decide)⟩
  simp only [if_neg h1]
  obtain ⟨k, rfl, hk⟩ := sh_of h1
  have e19 : σ 3 4 = τ 1 19 := h.1.2.1.1.2.2.2.2.2.2.2.2.2.2.2.2.2.2.2.2.2.2.1
  rw [has0 (q_sb σ 3) (by omega), has12 τ (by omega), cr_s, cr_s, show q_sb σ 3 0 4 = τ 1 19 from e19]
  by_cases h2 : ib (τ 1 19) k = 0
  · rw [if_pos h2, if_pos h2]
    obtain ⟨c', p1, p2, p3⟩ := construct0 (c := q_sb σ 3) h.1.2.1 hk
    have b1 := builds_rs τ (τ 1) (τ 0 5) hk
    rw [rs_self] at b1
    rw [p1, b1, cs_s, cs_s, Q1_19]
    refine ⟨mBuild (τ 1) k 19, _, _, ?_, rfl, R_house h (HR_cell (b := 2) h.1 (Ok_build h.1.1 hk) p2 (fun j hj => build_no _ _ (by omega)) (build_no _ _ (by omega)) (build_no _ _ (by omega)) (build_no _ _ (by omega))) (fun x hx => if_neg (by omega)) rfl rfl (fun x hx => rs_no _ _ _ (by omega))⟩
    have : c' 0 4 = mBuild (τ 1) k 19 := p2.1.2.2.2.2.2.2.2.2.2.2.2.2.2.2.2.2.2.2.1
    show some (c' 0 4, _) = _
    rw [this]
  · rw [if_neg h2, if_neg h2]
    exact ⟨_, _, _, rfl, rfl, R4⟩
/-! ===== how many ===== -/
def mLs (x : Int32) : Nat → Int32
  | 0 => 0
  | k + 1 => mLs x k + ib x k
theorem bc_all : ∀ m, m < 1024 → pJ6_bitCount_0f7a4 (nI m) = some (mLs (nI m) 10) := by decide +kernel
theorem mLs_up {x : Int32} {n : Nat} (h : ∀ k, n ≤ k → ib x k = 0) : ∀ d, mLs x (n + d) = mLs x n
  | 0 => rfl
  | d + 1 => by
    show mLs x (n + d) + ib x (n + d) = _
    rw [h _ (by omega), Int32.add_zero, mLs_up h d]
theorem bit_f {x : Int32} {k : Nat} (h : ib x k = 0) : bt x k = false := by
  rw [ib_bt] at h
  cases hb : bt x k with
  | false => rfl
  | true => rw [hb] at h; exact absurd h (by decide)
theorem s_count : S_count Rel := by
  intro σ τ a1 h
  obtain ⟨e0, e1, e2, e3, e4, e5, e6, e7, e8, e9, e10, e11, e12, e13, e14, e15, e16, e17, e19, e66⟩ := R_sc h
  have o4 := h.1.1.1.2.2.2.1
  have o2 := h.1.1.1.2.1
  obtain ⟨s, hs, es⟩ := num_of (a := τ 1 9) (n := 1000) o4.1 o4.2
  have l4 := log4 (q_sb σ 9) hs (show σ 9 8 = nI s by rw [e9, es])
  have l12 := log12 τ hs es
  have e18 : σ 16 0 = τ 1 18 := h.1.2.2.1.1
  have e20 : σ 2 3 = τ 1 20 := h.1.2.2.2.2
  have e07 : σ 40 1 = τ 0 7 := h.2.2.2.2.1.1
  simp only [pX11_count, pX12_count, l4, l12, cr_s, Q1_16, Q1_17, Q1_18, Q1_19, Q1_20, e16, e17, e18, e19, e20, e07, tell_0, find_0, ci_s]
  by_cases h0 : a1 = 0
  · rw [if_pos h0, if_pos h0]; exact ⟨_, _, _, rfl, rfl, h⟩
  rw [if_neg h0, if_neg h0]
  by_cases h1 : a1 = 1
  · rw [if_pos h1, if_pos h1]; exact ⟨_, _, _, rfl, rfl, h⟩
  rw [if_neg h1, if_neg h1]
  by_cases h2 : a1 = 2
  · rw [if_pos h2, if_pos h2]; exact ⟨_, _, _, rfl, rfl, h⟩
  rw [if_neg h2, if_neg h2]
  by_cases h3 : a1 = 3
  · rw [if_pos h3, if_pos h3]; exact ⟨_, _, _, rfl, rfl, h⟩
  rw [if_neg h3, if_neg h3]
  by_cases h4 : a1 = 4
  · rw [if_pos h4, if_pos h4]; exact ⟨_, _, _, rfl, rfl, h⟩
  rw [if_neg h4, if_neg h4]
  by_cases h5 : a1 = 5
  · rw [if_pos h5, if_pos h5]; exact ⟨_, _, _, rfl, rfl, h⟩
  rw [if_neg h5, if_neg h5]
  by_cases h6 : a1 = 6
  · rw [if_pos h6, if_pos h6]; exact ⟨_, _, _, rfl, rfl, h⟩
  rw [if_neg h6, if_neg h6]
  by_cases h7 : a1 = 7
  · rw [if_pos h7, if_pos h7]
    obtain ⟨n, hn, en⟩ := num_of (a := τ 1 17) (n := 10) o2.1 o2.2
    obtain ⟨d1, d2⟩ := h.1.2.1.2.2.2.1
    have n17 : (τ 1 17).toInt = n := by rw [en, nI_toInt (by omega)]
    have z : ∀ k, n ≤ k → ib (σ 11 4) k = 0 := fun k hk => (d2 k (by omega)).1
    obtain ⟨m, hm, em⟩ := sm_bits (x := σ 11 4) (n := 10) (fun i hi => bit_f (z i (by omega)))
    have bc : pJ6_bitCount_0f7a4 (σ 11 4) = some (mLs (σ 11 4) n) := by
      have := mLs_up z (10 - n)
      rw [show n + (10 - n) = 10 by omega] at this
      rw [← this, em]
      exact bc_all m hm
    rw [bc, cr_s]
    refine ⟨_, _, _, rfl, ?_, h⟩
    refine q_for (S := Int32) (R := Int32 × SS) (fun (f : Int32 → Int32 → Option (Int32 × SS)) s i => f s i) (m := 0) (n := n) (by omega) (by omega) (fun j s => s = mLs (σ 11 4) j) (fun r => r = some (mLs (σ 11 4) n, τ)) ?_ ?_ 0 rfl
    · intro f j s hj1 hj2 hs ih
      subst hs
      try dsimp only
      have r4 : ib (σ 11 4) j = _ := (d1 j (by omega)).2.2.2.1
      rw [en, if_neg (by rw [nI_leS (by omega) (by omega)]; omega), ti_3 τ (by omega), cr_s, lt_v, nI_s]
      exact ih _ (by rw [← r4]; rfl)
    · intro f s hs
      subst hs
      try dsimp only
      rw [en, if_pos (by rw [nI_leS (by omega) (by omega)]; omega)]
  · rw [if_neg h7, if_neg h7]
    exact ⟨_, _, _, rfl, rfl, R_tell h (by decide)⟩
/-! ===== the tape ===== -/
theorem byte_b (x : Int32) : 0 ≤ (x &&& 255).toInt ∧ (x &&& 255).toInt ≤ 255 := by
  obtain ⟨m, hm, e⟩ := sm_bits (x := x &&& 255) (n := 8) (fun i hi => by rw [b_and, b_255, decide_eq_false (by omega), Bool.and_false])
  rw [e, nI_toInt (by omega)]
  omega
theorem byte_eq (x : Int32) {k : Nat} (hk : k < 4) : ((Int32.toUInt32 x >>> (Int32.toUInt32 (8 * nI k) &&& Int32.toUInt32 31)).toInt32 &&& 255) = ((x >>> ((8 * nI k) &&& 31)) &&& 255) := by
  rw [show (8 : Int32) * nI k = nI (8 * k) from pk_mul 8 k]
  apply b_ext
  intro i hi
  rw [b_and, b_and, b_255, b_ushr (8 * k) (by omega), b_sshr (8 * k) (by omega) x hi]
  by_cases h8 : i < 8
  · rw [if_pos (by omega)]
  · rw [decide_eq_false h8, Bool.and_false, Bool.and_false]
theorem T_add {y bs : Nat → Int32} {τ : SS} {m : Nat} (h : TRel y bs τ) (hm : τ 0 7 = nI m) (h1 : m < 100) {v : Int32} (hv : 0 ≤ v.toInt ∧ v.toInt ≤ 255) : TRel (upd y 1 (nI (m + 1))) (upd bs m v) (su (su τ 5 m v) 0 7 (nI (m + 1))) := by
  obtain ⟨t1, t2, t3⟩ := h
  rw [hm, nI_toInt (by omega)] at t3
  refine ⟨rfl, ?_, fun i hi => ?_⟩
  · show 0 ≤ (nI (m + 1)).toInt ∧ (nI (m + 1)).toInt ≤ 100
    rw [nI_toInt (by omega)]
    omega
  · have hi : (i : Int) < (nI (m + 1)).toInt := hi
    rw [nI_toInt (by omega)] at hi
    show upd bs m v i = upd (τ 5) m v i ∧ 0 ≤ (upd (τ 5) m v i).toInt ∧ (upd (τ 5) m v i).toInt ≤ 255
    by_cases him : i = m
    · subst him; rw [upd_at, upd_at]; exact ⟨rfl, hv⟩
    · rw [upd_ne him, upd_ne him]; exact t3 i (by omega)
theorem R_tp {σ σ' τ τ' : SS} (h : Rel σ τ) (ex : ∀ x, (x < 40 ∨ 42 ≤ x) → σ' x = σ x) (e3 : τ' 0 3 = τ 0 3) (et : ∀ x, x ≠ 0 → x ≠ 5 → τ' x = τ x) (hT : TRel (σ' 40) (σ' 41) τ') : Rel σ' τ' := by
  obtain ⟨h1, h2, h3, h4, -, h6⟩ := h
  refine ⟨?_, ?_, ?_, ?_, hT, ?_⟩
  · rw [et 1 (by decide) (by decide)]
    exact HR_far h1 (fun i hi => ex _ (by omega))
  · rw [ex 0 (by omega), e3]
    exact h2
  · rw [e3, et 2 (by decide) (by decide)]
    exact fun h0 => HR_far (h3 h0) (fun i hi => ex _ (by omega))
  · intro i hi
    rw [ex 1 (by omega), et 4 (by decide) (by decide)]
    exact h4 i hi
  · unfold SRel shRel
    rw [ex 44 (by omega), ex 45 (by omega), ex 46 (by omega), ex 47 (by omega), ex 48 (by omega), ex 49 (by omega), ex 50 (by omega), ex 51 (by omega), et 8 (by decide) (by decide), et 9 (by decide) (by decide), et 10 (by decide) (by decide)]
    exact h6
theorem down1 (k : Nat) : nI (k + 1) + -1 = nI k := by
  have : nI (k + 1) + -1 = nI (k + 1) - nI 1 := by
    rw [Int32.sub_eq_add_neg]
    rfl
  rw [this, pk_sub (by omega)]
  rfl
theorem down0 : nI 0 + -1 = (-1 : Int32) := by decide
theorem feed_lp (a1 : Int32) : ∀ (k m N : Nat) (s : SS) (τ : SS), k ≤ 4 → m + k ≤ 100 → τ 0 7 = nI m → TRel (s 0) (s 1) τ → k < N → ∃ s' τ', q_lp (fun _ _ => none) (fun (c4 : SS → Int32 → Option SS) (σ3 : SS) (x3_2 : Int32) => (if x3_2 < 0 then some σ3 else q_wr σ3 1 100 (σ3 0 1) ((Int32.toUInt32 a1 >>> (Int32.toUInt32 (8 * x3_2) &&& Int32.toUInt32 31)).toInt32 &&& 255) (fun σ8 => c4 (su σ8 0 1 ((σ8 0 1) + 1)) (x3_2 + -1)))) N s (nI k + -1) = some s' ∧ q_lp (fun _ _ => none) (fun (c7 : SS → Int32 → Option (Int32 × SS)) (σ6 : SS) (x3_5 : Int32) => (if x3_5 < 0 then some ((σ6 0 7), σ6) else q_wr σ6 5 100 (σ6 0 7) ((a1 >>> ((8 * x3_5) &&& 31)) &&& 255) (fun σ11 => c7 (su σ11 0 7 ((σ11 0 7) + 1)) (x3_5 + -1)))) N τ (nI k + -1) = some (nI (m + k), τ') ∧ s' 0 1 = nI (m + k) ∧ TRel (s' 0) (s' 1) τ' ∧ (∀ x, 2 ≤ x → s' x = s x) ∧ τ' 0 3 = τ 0 3 ∧ (∀ x, x ≠ 0 → x ≠ 5 → τ' x = τ x)
  | 0, m, N, s, τ, _, hm, e7, hT, hN => by
    obtain ⟨M, rfl⟩ : ∃ M, N = M + 1 := ⟨N - 1, by omega⟩
    refine ⟨s, τ, rfl, ?_, ?_, hT, fun _ _ => rfl, rfl, fun _ _ _ => rfl⟩
    · show some (τ 0 7, τ) = _
      rw [e7]
      rfl
    · rw [hT.1, e7]
      rfl
  | k + 1, m, N, s, τ, hk, hm, e7, hT, hN => by
    obtain ⟨M, rfl⟩ : ∃ M, N = M + 1 := ⟨N - 1, by omega⟩
    have es : s 0 1 = nI m := by rw [hT.1, e7]
    have hv := byte_b (a1 >>> ((8 * nI k) &&& 31))
    have hT2 := T_add hT e7 (by omega) hv
    obtain ⟨s', τ', p1, p2, p3, p4, p5, p6, p7⟩ := feed_lp a1 k (m + 1) M (su (su s 1 m ((a1 >>> ((8 * nI k) &&& 31)) &&& 255)) 0 1 (nI (m + 1))) (su (su τ 5 m ((a1 >>> ((8 * nI k) &&& 31)) &&& 255)) 0 7 (nI (m + 1))) (by omega) (by omega) rfl hT2 (by omega)
    refine ⟨s', τ', ?_, ?_, ?_, p4, fun x hx => ?_, p6, fun x h0 h5 => ?_⟩
    · rw [← p1, down1]
      show (if nI k < 0 then _ else q_wr s 1 100 (s 0 1) _ _) = _
      rw [if_neg (by rw [i_lt, nI_toInt (by omega)]; show ¬ (k : Int) < 0; omega), es, wr_n _ _ _ _ (by omega), byte_eq a1 (by omega), show su s 1 m ((a1 >>> ((8 * nI k) &&& 31)) &&& 255) 0 1 = nI m from es, nI_s]
    · rw [show m + (k + 1) = m + 1 + k by omega, ← p2, down1]
      show (if nI k < 0 then _ else q_wr τ 5 100 (τ 0 7) _ _) = _
      rw [if_neg (by rw [i_lt, nI_toInt (by omega)]; show ¬ (k : Int) < 0; omega), e7, wr_n _ _ _ _ (by omega), show su τ 5 m ((a1 >>> ((8 * nI k) &&& 31)) &&& 255) 0 7 = nI m from e7, nI_s]
    · rw [show m + (k + 1) = m + 1 + k by omega]; exact p3
    · rw [p5 x hx, ud_ne _ _ _ (by omega), ud_ne _ _ _ (by omega)]
    · rw [p7 x h0 h5, ud_ne _ _ _ (by omega), ud_ne _ _ _ (by omega)]
