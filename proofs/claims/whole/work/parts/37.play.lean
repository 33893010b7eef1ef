/-! ===== the reference's state with another row and another greatest ===== -/
def rs (τ : SS) (r : Nat → Int32) (g : Int32) : SS := q_sc (q_sc τ 1 r) 0 (upd (τ 0) 5 g)
theorem rs_1 (τ : SS) (r : Nat → Int32) (g : Int32) : rs τ r g 1 = r := rfl
theorem rs_g (τ : SS) (r : Nat → Int32) (g : Int32) : rs τ r g 0 5 = g := rfl
theorem rs_no (τ : SS) (r : Nat → Int32) (g : Int32) {x : Nat} (h : 2 ≤ x) : rs τ r g x = τ x := (if_neg (by omega)).trans (if_neg (by omega))
theorem rs_W (τ : SS) (r r' : Nat → Int32) (g : Int32) : q_sc (rs τ r g) 1 r' = rs τ r' g := by
  funext x
  show (if x = 1 then r' else if x = 0 then upd (τ 0) 5 g else if x = 1 then r else τ x) = if x = 0 then upd (τ 0) 5 g else if x = 1 then r' else τ x
  by_cases h1 : x = 1
  · subst h1; rfl
  · rw [if_neg h1, if_neg h1, if_neg h1]
theorem rs_su (τ : SS) (r : Nat → Int32) (g : Int32) (k : Nat) (v : Int32) : su (rs τ r g) 1 k v = rs τ (upd r k v) g := by
  rw [su_sc, rs_W]
  rfl
theorem upd_upd (t : Nat → Int32) (k : Nat) (v w : Int32) : upd (upd t k v) k w = upd t k w := by
  funext x
  unfold upd
  split <;> rfl
theorem rs_rs (τ : SS) (r r' : Nat → Int32) (g g' : Int32) : q_sc (q_sc (rs τ r g) 1 r') 0 (upd (rs τ r g 0) 5 g') = rs τ r' g' := by
  rw [rs_W, show rs τ r g 0 = upd (τ 0) 5 g from rfl, upd_upd]
  funext x
  show (if x = 0 then upd (τ 0) 5 g' else if x = 0 then upd (τ 0) 5 g else if x = 1 then r' else τ x) = if x = 0 then upd (τ 0) 5 g' else if x = 1 then r' else τ x
  by_cases h1 : x = 0
  · rw [if_pos h1, if_pos h1]
  · rw [if_neg h1, if_neg h1, if_neg h1]
theorem rs_go (τ : SS) (r : Nat → Int32) (g : Int32) (n : Nat) : mGo (rs τ r g) n = rs τ (mIter r n) (mTop g r n) := rs_rs τ r _ g _
theorem rs_top (τ : SS) (r : Nat → Int32) (g g' : Int32) : su (rs τ r g) 0 5 g' = rs τ r g' := by
  rw [su_sc, show rs τ r g 0 = upd (τ 0) 5 g from rfl, upd_upd]
  funext x
  show (if x = 0 then upd (τ 0) 5 g' else if x = 0 then upd (τ 0) 5 g else if x = 1 then r else τ x) = if x = 0 then upd (τ 0) 5 g' else if x = 1 then r else τ x
  by_cases h1 : x = 0
  · rw [if_pos h1, if_pos h1]
  · rw [if_neg h1, if_neg h1, if_neg h1]
theorem upd_self (t : Nat → Int32) (k : Nat) : upd t k (t k) = t := by
  funext x
  unfold upd
  split
  · rename_i h; rw [h]
  · rfl
theorem rs_self (τ : SS) : rs τ (τ 1) (τ 0 5) = τ := by
  unfold rs
  rw [sc_self, upd_self, sc_self]
theorem goes_rs (τ : SS) {r : Nat → Int32} (g : Int32) (hO : Ok r) : pX12_goes (rs τ r g) = some (rs τ (mGoes r) g) := by
  have ho := hO.1
  rw [goes12 (rs τ r g) ho.1 (PO_rises ho) (by rw [show rs τ r g 1 = r from rfl, min_17 ho]; exact ho.2.1), rs_W]
  rfl
theorem goesOn_rs (τ : SS) {r : Nat → Int32} (g : Int32) (hO : Ok r) {n : Nat} (hn : n < 5000) : pX12_goesOn (rs τ r g) (nI n) = some (rs τ (mIter r n) (mTop g r n)) := by
  rw [iter12 (rs τ r g) hO hn, rs_go]
/-! ===== deeds ===== -/
theorem nI_le_big {n m : Nat} (hn : n < 2 ^ 31) (hm : m < 2 ^ 31) : nI n ≤ nI m ↔ n ≤ m := by
  rw [i_le, nI_toInt hn, nI_toInt hm]
  omega
theorem nI_lt_big {n m : Nat} (hn : n < 2 ^ 31) (hm : m < 2 ^ 31) : nI n < nI m ↔ n < m := by
  rw [i_lt, nI_toInt hn, nI_toInt hm]
  omega
def mDeed (t : Nat → Int32) (d v : Int32) : Nat → Int32 :=
  if d = 0 then upd t 0 v else if d = 1 then mIter t v.toNatClampNeg else if d = 2 then upd t 14 v else if d = 3 then upd t 15 (if ib (t 19) 1 = 0 then v else 0) else if d = 4 then upd t 7 v else upd t 2 (if t 2 ≤ v then 0 else t 2 - v)
def mDt (g : Int32) (t : Nat → Int32) (d v : Int32) : Int32 := if d = 1 then mTop g t v.toNatClampNeg else g
def mPl (D V : Nat → Int32) (t : Nat → Int32) : Nat → Nat → Int32
  | 0 => t
  | i + 1 => mDeed (mPl D V t i) (D i) (V i)
def mPt (D V : Nat → Int32) (g : Int32) (t : Nat → Int32) : Nat → Int32
  | 0 => g
  | i + 1 => mDt (mPt D V g t i) (mPl D V t i) (D i) (V i)
theorem Ok_mk {t t' : Nat → Int32} (h : Ok t) (hs : OkS t') (h16 : t' 16 = t 16) (h17 : t' 17 = t 17) (hi : ∀ j, 21 ≤ j → t' j = t j) : Ok t' := by
  obtain ⟨o1, o2, o3, o4⟩ := h
  refine ⟨hs, fun w hw => ?_, fun k hk => ?_, fun w hw => ?_⟩
  · rw [h16] at hw
    rw [hi (65 + 4 * w) (by omega), hi (66 + 4 * w) (by omega), hi (67 + 4 * w) (by omega)]
    exact o2 w hw
  · rw [h17] at hk
    rw [hi (97 + 5 * k) (by omega), hi (98 + 5 * k) (by omega), hi (100 + 5 * k) (by omega), hi (101 + 5 * k) (by omega)]
    exact o3 k hk
  · rw [hi (21 + w) (by omega)]
    exact o4 w hw
theorem ib_if {x : Int32} {k : Nat} {v : Int32} (h : v = 0 ∨ v = 1) : (if ib x k = 0 then v else 0) = 0 ∨ (if ib x k = 0 then v else 0) = 1 := by
  split
  · exact h
  · exact Or.inl rfl
theorem bail_b {d v : Int32} (h : 0 ≤ d.toInt ∧ d.toInt ≤ 9999) (hv : 0 ≤ v.toInt ∧ v.toInt ≤ 999) : (0 ≤ (if d ≤ v then 0 else d - v).toInt ∧ (if d ≤ v then 0 else d - v).toInt ≤ 9999) ∧ (if (0 : Int32) < d - v then d - v else 0) = if d ≤ v then 0 else d - v := by
  obtain ⟨a, ha, rfl⟩ := n_of (n := 9999) h.1 h.2
  obtain ⟨b, hb, rfl⟩ := n_of (n := 999) hv.1 hv.2
  by_cases hab : a ≤ b
  · rw [if_pos ((nI_le_big (by omega) (by omega)).mpr hab), if_neg (by rw [i_lt, pk_sub_toInt (by omega) (by omega), show (0 : Int32).toInt = 0 from rfl]; omega)]
    exact ⟨by decide, rfl⟩
  · rw [if_neg (fun hh => hab ((nI_le_big (by omega) (by omega)).mp hh)), pk_sub (by omega), if_pos (by rw [i_lt, nI_toInt (by omega), show (0 : Int32).toInt = 0 from rfl]; omega), nI_toInt (by omega)]
    exact ⟨by omega, rfl⟩
theorem Ok_deed {t : Nat → Int32} (h : Ok t) {d v : Int32} (hd : dOk d v) : Ok (mDeed t d v) := by
  obtain ⟨o1, o2, o3, o4, o5, o6, o7, o8, o9, o10, o11, o12, o13, o14⟩ := id h.1
  obtain ⟨d0, d1, d2, d3, d4, d5⟩ := hd
  unfold mDeed
  split
  · rename_i hh
    exact Ok_mk h ⟨o1, o2, o3, o4, o5, o6, o7, o8, o9, o10, d4 hh, o12, o13, o14⟩ rfl rfl (fun j hj => upd_ne (by omega))
  split
  · exact Ok_iter h _
  split
  · rename_i hh
    exact Ok_mk h ⟨o1, o2, o3, o4, o5, o6, d2 hh, o8, o9, o10, o11, o12, o13, o14⟩ rfl rfl (fun j hj => upd_ne (by omega))
  split
  · rename_i hh
    exact Ok_mk h ⟨o1, o2, o3, o4, o5, o6, o7, ib_if (d3 hh), o9, o10, o11, o12, o13, o14⟩ rfl rfl (fun j hj => upd_ne (by omega))
  split
  · exact Ok_mk h ⟨o1, o2, o3, o4, o5, o6, o7, o8, o9, o10, o11, o12, o13, o14⟩ rfl rfl (fun j hj => upd_ne (by omega))
  · rename_i h0 h1 h2 h3 h4
    have h5 : d = 5 := by
      rw [i_eq] at h0 h1 h2 h3 h4 ⊢
      rw [show (0 : Int32).toInt = 0 from rfl] at h0
      rw [show (1 : Int32).toInt = 1 from rfl] at h1
      rw [show (2 : Int32).toInt = 2 from rfl] at h2
      rw [show (3 : Int32).toInt = 3 from rfl] at h3
      rw [show (4 : Int32).toInt = 4 from rfl] at h4
      rw [show (5 : Int32).toInt = 5 from rfl]
      omega
    exact Ok_mk h ⟨o1, o2, o3, o4, o5, o6, o7, o8, o9, o10, o11, o12, (bail_b o13 (d5 h5)).1, o14⟩ rfl rfl (fun j hj => upd_ne (by omega))
theorem deed_no {t : Nat → Int32} (h : Ok t) (d v : Int32) {j : Nat} (hj : (16 ≤ j ∧ j < 25) ∨ 147 ≤ j) : mDeed t d v j = t j := by
  unfold mDeed
  split
  · exact upd_ne (by omega)
  split
  · exact iter_no h (by omega) (by omega) (by omega) (by omega) _
  split
  · exact upd_ne (by omega)
  split
  · exact upd_ne (by omega)
  split
  · exact upd_ne (by omega)
  · exact upd_ne (by omega)
theorem Ok_pl {D V t : Nat → Int32} (h : Ok t) : ∀ i, (∀ l, l < i → dOk (D l) (V l)) → Ok (mPl D V t i)
  | 0, _ => h
  | i + 1, hd => Ok_deed (Ok_pl h i (fun l hl => hd l (by omega))) (hd i (by omega))
theorem pl_no {D V t : Nat → Int32} (h : Ok t) {j : Nat} (hj : (16 ≤ j ∧ j < 25) ∨ 147 ≤ j) : ∀ i, (∀ l, l < i → dOk (D l) (V l)) → mPl D V t i j = t j
  | 0, _ => rfl
  | i + 1, hd => (deed_no (Ok_pl h i (fun l hl => hd l (by omega))) _ _ hj).trans (pl_no h hj i (fun l hl => hd l (by omega)))
/-- scalars of a cellar have changed, and nothing else -/
theorem CR_sc {c c' : SS} {t t' : Nat → Int32} (h : CRel c t) (hs : CRs c' t') (hx : ∀ x, x ≠ 0 → x ≠ 6 → c' x = c x) (h9 : t' 9 = t 9) (h16 : t' 16 = t 16) (h17 : t' 17 = t 17) (hi : ∀ j, 21 ≤ j → t' j = t j) : CRel c' t' := by
  obtain ⟨-, c2, c3, ⟨c4, c5⟩, c6⟩ := h
  refine ⟨hs, fun i hi1 hi2 => ?_, fun w hw => ?_, ⟨fun w hw => ?_, fun w hw => ?_⟩, fun w hw => ?_⟩
  · rw [h9] at hi2
    rw [hx 7 (by decide) (by decide), hi _ (by omega)]
    exact c2 i hi1 hi2
  · rw [h16] at hw
    rw [hx 2 (by decide) (by decide), hx 3 (by decide) (by decide), hx 4 (by decide) (by decide), hx 5 (by decide) (by decide), hi (65 + 4 * w) (by omega), hi (66 + 4 * w) (by omega), hi (67 + 4 * w) (by omega), hi (68 + 4 * w) (by omega)]
    exact c3 w hw
  · rw [h17] at hw
    rw [hx 8 (by decide) (by decide), hx 9 (by decide) (by decide), hx 10 (by decide) (by decide), hx 11 (by decide) (by decide), hi (97 + 5 * w) (by omega), hi (98 + 5 * w) (by omega), hi (99 + 5 * w) (by omega), hi (100 + 5 * w) (by omega), hi (101 + 5 * w) (by omega)]
    exact c4 w hw
  · rw [h17] at hw
    rw [hx 8 (by decide) (by decide)]
    exact c5 w hw
  · rw [hx 12 (by decide) (by decide), hi (21 + w) (by omega)]
    exact c6 w hw
theorem one_01 {v : Int32} (h : v = 0 ∨ v = 1) : (if v = 1 then (1 : Int32) else 0) = v := by
  rcases h with rfl | rfl <;> rfl
/-- a deed that isn't a wait -/
theorem undergo0 {c : SS} {t : Nat → Int32} (hO : Ok t) (hc : CRel c t) {d v : Int32} (hd : dOk d v) (h1 : ¬ d = 1) : ∃ c', pX0_undergo c d v = some c' ∧ CRel c' (mDeed t d v) ∧ c' 0 12 = c 0 12 := by
  obtain ⟨e0, e1, e2, e3, e4, e5, e6, e7, e8, e9, e10, e11, e12, e13, e14, e15, e16, e17, e19, e66⟩ := id hc.1
  obtain ⟨d0, -, d2, d3, d4, d5⟩ := hd
  have hi : ∀ (k : Nat) (v : Int32), k < 21 → ∀ j, 21 ≤ j → upd t k v j = t j := fun k v hk j hj => upd_ne (by omega)
  unfold pX0_undergo mDeed
  simp only [lt_v]
  by_cases g0 : d = 0
  · rw [if_pos g0, if_pos g0]
    exact ⟨_, rfl, CR_sc hc ⟨rfl, e1, e2, e3, e4, e5, e6, e7, e8, e9, e10, e11, e12, e13, e14, e15, e16, e17, e19, e66⟩ (fun x hx _ => ud_ne _ _ _ hx) rfl rfl rfl (hi 0 v (by decide)), rfl⟩
  rw [if_neg g0, if_neg g0, if_neg h1, if_neg h1]
  by_cases g2 : d = 2
  · rw [if_pos g2, if_pos g2]
    have hv := d2 g2
    have key : (if v = 1 then q_zz (1 : Int32) (some (su c 6 5 1)) else q_zz (0 : Int32) (some (su c 6 5 0))) = some (su c 6 5 v) := by
      rcases hv with rfl | rfl <;> rfl
    rw [key]
    exact ⟨_, rfl, CR_sc hc ⟨e0, e1, e2, e3, e4, e5, e6, e7, e8, e9, e10, e11, e12, e13, rfl, e15, e16, e17, e19, e66⟩ (fun x _ hx => ud_ne _ _ _ hx) rfl rfl rfl (hi 14 v (by decide)), rfl⟩
  rw [if_neg g2, if_neg g2]
  by_cases g3 : d = 3
  · rw [if_pos g3, if_pos g3]
    have hv := d3 g3
    have hh : pX0_has c 1 = some (ib (t 19) 1) := by rw [← e19]; exact has0 c (k := 1) (by decide)
    have key : (if v = 1 then q_cr (pX0_has c 1) (fun r17 => if r17 = 0 then q_zz (1 : Int32) (some (su c 0 5 1)) else q_zz (0 : Int32) (some (su c 0 5 0))) else q_zz (0 : Int32) (some (su c 0 5 0))) = some (su c 0 5 (if ib (t 19) 1 = 0 then v else 0)) := by
      rw [hh, cr_s]
      rcases hv with rfl | rfl
      · rw [if_neg (by decide)]
        split <;> rfl
      · rw [if_pos rfl]
        split <;> rfl
    rw [key]
    exact ⟨_, rfl, CR_sc hc ⟨e0, e1, e2, e3, e4, e5, e6, e7, e8, e9, e10, e11, e12, e13, e14, rfl, e16, e17, e19, e66⟩ (fun x hx _ => ud_ne _ _ _ hx) rfl rfl rfl (hi 15 _ (by decide)), rfl⟩
  rw [if_neg g3, if_neg g3]
  by_cases g4 : d = 4
  · rw [if_pos g4, if_pos g4]
    exact ⟨_, rfl, CR_sc hc ⟨e0, e1, e2, e3, e4, e5, e6, rfl, e8, e9, e10, e11, e12, e13, e14, e15, e16, e17, e19, e66⟩ (fun x _ hx => ud_ne _ _ _ hx) rfl rfl rfl (hi 7 v (by decide)), rfl⟩
  rw [if_neg g4, if_neg g4]
  have h5 : d = 5 := by
    rw [i_eq] at g0 h1 g2 g3 g4 ⊢
    rw [show (0 : Int32).toInt = 0 from rfl] at g0
    rw [show (1 : Int32).toInt = 1 from rfl] at h1
    rw [show (2 : Int32).toInt = 2 from rfl] at g2
    rw [show (3 : Int32).toInt = 3 from rfl] at g3
    rw [show (4 : Int32).toInt = 4 from rfl] at g4
    rw [show (5 : Int32).toInt = 5 from rfl]
    omega
  rw [if_pos h5, e2, (bail_b hO.1.2.2.2.2.2.2.2.2.2.2.2.2.1 (d5 h5)).2]
  exact ⟨_, rfl, CR_sc hc ⟨e0, e1, rfl, e3, e4, e5, e6, e7, e8, e9, e10, e11, e12, e13, e14, e15, e16, e17, e19, e66⟩ (fun x hx _ => ud_ne _ _ _ hx) rfl rfl rfl (hi 2 _ (by decide)), rfl⟩
theorem mul12 (y : Nat) : nI y * 12 = nI (12 * y) := by
  rw [Nat.mul_comm]
  exact pk_mul y 12
set_option maxHeartbeats 4000000 in
theorem perf7 {s : SS} {t : Nat → Int32} {y L : Nat} {D V : Nat → Int32} (hO : Ok t) (hc : CRel (q_sb s 4) t) (hy : y < 6) (hL : L ≤ 12) (h1 : s 1 y = nI L) (h2 : ∀ i, i < L → s 2 (12 * y + i) = D i ∧ s 3 (12 * y + i) = V i ∧ dOk (D i) (V i)) : ∃ s', pX7_perform s (nI y) = some s' ∧ CRel (q_sb s' 4) (mPl D V t L) ∧ s' 4 12 = mPt D V (s 4 12) t L ∧ ∀ x, (x < 4 ∨ 17 ≤ x) → s' x = s x := by
  unfold pX7_perform
  rw [mul12, lt_v]
  refine q_for (S := SS) (R := SS) (fun (f : SS → Int32 → Option SS) s i => f s i) (m := 12 * y) (n := 12 * y + L) (by omega) (by omega) (fun j a => CRel (q_sb a 4) (mPl D V t (j - 12 * y)) ∧ a 4 12 = mPt D V (s 4 12) t (j - 12 * y) ∧ ∀ x, (x < 4 ∨ 17 ≤ x) → a x = s x) (fun r => ∃ s', r = some s' ∧ CRel (q_sb s' 4) (mPl D V t L) ∧ s' 4 12 = mPt D V (s 4 12) t L ∧ ∀ x, (x < 4 ∨ 17 ≤ x) → s' x = s x) ?_ ?_ s ?_
  · rintro f j a hj1 hj2 ⟨ha1, ha2, ha3⟩ ih
    try dsimp only
    obtain ⟨i, rfl⟩ : ∃ i, j = 12 * y + i := ⟨j - 12 * y, by omega⟩
    have hi : i < L := by omega
    rw [show 12 * y + i - 12 * y = i by omega] at ha1 ha2
    obtain ⟨w1, w2, w3⟩ := h2 i hi
    have hOi : Ok (mPl D V t i) := Ok_pl hO i (fun l hl => (h2 l (by omega)).2.2)
    rw [rd_n _ _ hy, ha3 1 (by omega), h1, nI_add, if_neg (by rw [nI_leS (by omega) (by omega)]; omega), rd_n _ _ (by omega), ha3 2 (by omega), w1, lt_v]
    have nx : ∀ b : SS, CRel (q_sb b 4) (mPl D V t (i + 1)) → b 4 12 = mPt D V (s 4 12) t (i + 1) → (∀ x, (x < 4 ∨ 17 ≤ x) → b x = s x) → (∃ s', f b (nI (12 * y + i + 1)) = some s' ∧ CRel (q_sb s' 4) (mPl D V t L) ∧ s' 4 12 = mPt D V (s 4 12) t L ∧ ∀ x, (x < 4 ∨ 17 ≤ x) → s' x = s x) := fun b hb1 hb2 hb3 => by
      refine ih b ⟨?_, ?_, hb3⟩
      · rw [show 12 * y + i + 1 - 12 * y = i + 1 by omega]; exact hb1
      · rw [show 12 * y + i + 1 - 12 * y = i + 1 by omega]; exact hb2
    have pl1 : mPl D V t (i + 1) = mDeed (mPl D V t i) (D i) (V i) := rfl
    have pt1 : mPt D V (s 4 12) t (i + 1) = mDt (mPt D V (s 4 12) t i) (mPl D V t i) (D i) (V i) := rfl
    by_cases hw : D i = 1
    · have hv := w3.2.1 hw
      have ev := nI_self (x := V i) (by omega)
      have hcl := cl_toInt (x := V i) (by omega)
      have pl2 : mPl D V t (i + 1) = mIter (mPl D V t i) (V i).toNatClampNeg := by
        rw [pl1]
        unfold mDeed
        rw [hw]
        rfl
      have pt2 : mPt D V (s 4 12) t (i + 1) = mTop (mPt D V (s 4 12) t i) (mPl D V t i) (V i).toNatClampNeg := by
        rw [pt1]
        unfold mDt
        rw [if_pos hw]
      rw [if_pos hw, rd_n _ _ (by omega), ha3 3 (by omega), w2, ← ev]
      generalize (V i).toNatClampNeg = n at hcl pl2 pt2
      refine q_for (S := SS) (R := SS) (fun (f : SS → Int32 → Option SS) s i => f s i) (m := 0) (n := n) (by omega) (by omega) (fun j b => CRel (q_sb b 4) (mIter (mPl D V t i) j) ∧ b 4 12 = mTop (mPt D V (s 4 12) t i) (mPl D V t i) j ∧ ∀ x, (x < 4 ∨ 17 ≤ x) → b x = s x) (fun r => ∃ s', r = some s' ∧ CRel (q_sb s' 4) (mPl D V t L) ∧ s' 4 12 = mPt D V (s 4 12) t L ∧ ∀ x, (x < 4 ∨ 17 ≤ x) → s' x = s x) ?_ ?_ a ⟨ha1, ha2, ha3⟩
      · rintro f2 k b hk1 hk2 ⟨hb1, hb2, hb3⟩ ih2
        try dsimp only
        obtain ⟨c', q1, q2, q3⟩ := minute0 (Ok_iter hOi k) hb1
        rw [if_neg (by rw [nI_leS (by omega) (by omega)]; omega), q1, cs_s, nI_s]
        refine ih2 _ ⟨CR_congr (c' := c') (fun x hx => ?_) q2, ?_, fun x hx => ?_⟩
        · show q_em b 4 0 13 c' (4 + x) = c' x
          rw [em_in x hx, Nat.zero_add]
        · show c' 0 12 = _
          rw [q3, show q_sb b 4 0 12 = b 4 12 from rfl, hb2]
          rfl
        · rw [em_out (by omega), hb3 x hx]
      · rintro f2 b ⟨hb1, hb2, hb3⟩
        try dsimp only
        rw [if_pos (by rw [nI_leS (by omega) (by omega)]; omega), rd_n _ _ (by omega), rd_n _ _ (by omega), hb3 2 (by omega), hb3 3 (by omega), w1, hw]
        rw [show pX0_undergo (q_sb b 4) 1 (s 3 (12 * y + i)) = some (q_sb b 4) from rfl, cs_s, em_self, nI_s]
        exact nx b (by rw [pl2]; exact hb1) (by rw [pt2]; exact hb2) hb3
    · obtain ⟨c', q1, q2, q3⟩ := undergo0 hOi ha1 w3 hw
      rw [if_neg hw]
      refine q_for (S := SS) (R := SS) (fun (f : SS → Int32 → Option SS) s i => f s i) (m := 0) (n := 0) (by omega) (by omega) (fun j b => b = a) (fun r => ∃ s', r = some s' ∧ CRel (q_sb s' 4) (mPl D V t L) ∧ s' 4 12 = mPt D V (s 4 12) t L ∧ ∀ x, (x < 4 ∨ 17 ≤ x) → s' x = s x) (fun f2 k b hk1 hk2 => by omega) ?_ a rfl
      intro f2 b hb
      subst hb
      try dsimp only
      rw [if_pos (by decide), rd_n _ _ (by omega), rd_n _ _ (by omega), ha3 2 (by omega), ha3 3 (by omega), w1, w2, q1, cs_s, nI_s]
      refine nx _ ?_ ?_ (fun x hx => ?_)
      · rw [pl1]
        refine CR_congr (c' := c') (fun x hx => ?_) q2
        show q_em b 4 0 13 c' (4 + x) = c' x
        rw [em_in x hx, Nat.zero_add]
      · show c' 0 12 = _
        rw [q3, show q_sb b 4 0 12 = b 4 12 from rfl, ha2, pt1]
        unfold mDt
        rw [if_neg hw]
      · rw [em_out (by omega), ha3 x hx]
  · rintro f a ⟨ha1, ha2, ha3⟩
    try dsimp only
    rw [show 12 * y + L - 12 * y = L by omega] at ha1 ha2
    rw [rd_n _ _ hy, ha3 1 (by omega), h1, nI_add, if_pos (by rw [nI_leS (by omega) (by omega)]; omega)]
    exact ⟨a, rfl, ha1, ha2, ha3⟩
  · rw [show 12 * y - 12 * y = 0 by omega]
    exact ⟨hc, rfl, fun _ _ => rfl⟩
theorem has_rs (τ : SS) (r : Nat → Int32) (g : Int32) : pX12_has (rs τ r g) 1 = some (ib (r 19) 1) := has12 (rs τ r g) (k := 1) (by decide)
set_option maxHeartbeats 4000000 in
theorem plays12 (τ : SS) {r : Nat → Int32} (g : Int32) {y L : Nat} {D V : Nat → Int32} (hO : Ok r) (hy : y < 6) (hL : L ≤ 12) (h1 : r (147 + 25 * y) = nI L) (h2 : ∀ i, i < L → r (148 + 25 * y + 2 * i) = D i ∧ r (149 + 25 * y + 2 * i) = V i ∧ dOk (D i) (V i)) : pX12_plays (rs τ r g) (nI y) = some (rs τ (mPl D V r L) (mPt D V g r L)) := by
  unfold pX12_plays
  rw [show (147 : Int32) + 25 * nI y = nI (147 + 25 * y) by rw [show (147 : Int32) = nI 147 from rfl, show (25 : Int32) = nI 25 from rfl, pk_mul, nI_add], lt_v]
  refine q_for (S := SS) (R := SS) (fun (f : SS → Int32 → Option SS) s i => f s i) (m := 0) (n := L) (by omega) (by omega) (fun j a => a = rs τ (mPl D V r j) (mPt D V g r j)) (fun o => o = some (rs τ (mPl D V r L) (mPt D V g r L))) ?_ ?_ _ rfl
  · intro f i a hi1 hi ha ih
    subst ha
    try dsimp only
    have hdl : ∀ l, l < i → dOk (D l) (V l) := fun l hl => (h2 l (by omega)).2.2
    have hOi : Ok (mPl D V r i) := Ok_pl hO i hdl
    obtain ⟨w1, w2, w3⟩ := h2 i hi
    have n1 : mPl D V r i (147 + 25 * y) = nI L := by rw [pl_no hO (by omega) i hdl, h1]
    have n2 : mPl D V r i (148 + 25 * y + 2 * i) = D i := by rw [pl_no hO (by omega) i hdl, w1]
    have n3 : mPl D V r i (149 + 25 * y + 2 * i) = V i := by rw [pl_no hO (by omega) i hdl, w2]
    have a2 : nI (147 + 25 * y) + 2 + 2 * nI i = nI (149 + 25 * y + 2 * i) := by
      rw [show (2 : Int32) = nI 2 from rfl, nI_add, pk_mul, nI_add, show 147 + 25 * y + 2 + 2 * i = 149 + 25 * y + 2 * i by omega]
    have a1 : nI (147 + 25 * y) + 1 + 2 * nI i = nI (148 + 25 * y + 2 * i) := by
      rw [show (1 : Int32) = nI 1 from rfl, show (2 : Int32) = nI 2 from rfl, nI_add, pk_mul, nI_add, show 147 + 25 * y + 1 + 2 * i = 148 + 25 * y + 2 * i by omega]
    rw [rs_1, rd_n _ _ (by omega), n1, if_neg (by rw [nI_leS (by omega) (by omega)]; omega), a2, a1, rd_n _ _ (by omega), rd_n _ _ (by omega), n2, n3, lt_v, nI_s]
    have pl1 : mPl D V r (i + 1) = mDeed (mPl D V r i) (D i) (V i) := rfl
    have pt1 : mPt D V g r (i + 1) = mDt (mPt D V g r i) (mPl D V r i) (D i) (V i) := rfl
    have fin : ∀ q : Nat → Int32, q = mPl D V r (i + 1) → ¬ D i = 1 → f (rs τ q (mPt D V g r i)) (nI (i + 1)) = some (rs τ (mPl D V r L) (mPt D V g r L)) := fun q hq hn => ih _ (by
      rw [hq, pt1]
      unfold mDt
      rw [if_neg hn])
    unfold mDeed at pl1
    by_cases g0 : D i = 0
    · rw [if_pos g0, W1_0, rs_W]
      exact fin _ (by rw [pl1, if_pos g0]; rfl) (by rw [g0]; decide)
    rw [if_neg g0]
    rw [if_neg g0] at pl1
    by_cases gw : D i = 1
    · have hv := w3.2.1 gw
      have ev := nI_self (x := V i) (by omega)
      have hcl := cl_toInt (x := V i) (by omega)
      rw [if_pos gw]
      conv => lhs; rw [← ev]
      rw [goesOn_rs τ _ hOi (by omega), cs_s]
      refine ih _ ?_
      rw [pl1, if_pos gw, pt1]
      unfold mDt
      rw [if_pos gw]
    rw [if_neg gw]
    rw [if_neg gw] at pl1
    by_cases g2 : D i = 2
    · rw [if_pos g2, W1_14, rs_W]
      exact fin _ (by rw [pl1, if_pos g2]; rfl) gw
    rw [if_neg g2]
    rw [if_neg g2] at pl1
    by_cases g3 : D i = 3
    · rw [if_pos g3, has_rs, cr_s]
      simp only [lt_v, W1_15, rs_W]
      rw [if_pos g3] at pl1
      split
      · rename_i hc
        exact fin _ (by rw [pl1, if_pos hc]; rfl) gw
      · rename_i hc
        exact fin _ (by rw [pl1, if_neg hc]; rfl) gw
    rw [if_neg g3]
    rw [if_neg g3] at pl1
    by_cases g4 : D i = 4
    · rw [if_pos g4, W1_7, rs_W]
      exact fin _ (by rw [pl1, if_pos g4]; rfl) gw
    rw [if_neg g4]
    rw [if_neg g4] at pl1
    simp only [Q1_2, lt_v, W1_2, rs_W, rs_1]
    split
    · rename_i hc
      exact fin _ (by rw [pl1, if_pos hc]) gw
    · rename_i hc
      exact fin _ (by rw [pl1, if_neg hc]) gw
  · intro f a ha
    subst ha
    try dsimp only
    rw [rs_1, rd_n _ _ (by omega), pl_no hO (by omega) L (fun l hl => (h2 l hl).2.2), h1, if_pos (by rw [nI_leS (by omega) (by omega)]; omega)]
