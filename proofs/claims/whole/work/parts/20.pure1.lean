/-! ===== plain facts about the pure programs ===== -/
theorem q_lp_rel {T S R : Type} {bot : T} {st : T → T} (ap : T → S → Option R) (I : Nat → S → Prop) (Post : Option R → Prop) (h : ∀ (f : T) (k : Nat) (s : S), I k s → (∀ (s' : S) (k' : Nat), k' < k → I k' s' → Post (ap f s')) → Post (ap (st f) s)) : ∀ (n k : Nat) (s : S), I k s → k < n → Post (ap (q_lp bot st n) s)
  | 0, k, s, _, hk => absurd hk (Nat.not_lt_zero k)
  | n + 1, k, s, hI, hk => h (q_lp bot st n) k s hI (fun s' k' hk' hI' => q_lp_rel ap I Post h n k' s' hI' (by omega))
theorem fu_lt {k : Nat} (h : k < 5000) : k < q_fu := h
theorem cr_s {R : Type} (x : Int32) (k : Int32 → Option R) : q_cr (some x) k = k x := rfl
theorem ci_s {R : Type} (x : Int32) (τ : SS) (emb : SS → SS) (k : Int32 → SS → Option R) : q_ci (some (x, τ)) emb k = k x (emb τ) := rfl
theorem cs_s {R : Type} (τ : SS) (emb : SS → SS) (k : SS → Option R) : q_cs (some τ) emb k = k (emb τ) := rfl
theorem lt_v {α β : Type} (x : α) (k : α → β) : q_lt x k = k x := rfl
theorem zz_b {R : Type} {v : Int32} (h : v = 0 ∨ v = 1) (k : Option R) : q_zz v k = k := if_pos h
theorem nI_lit (n : Nat) : (OfNat.ofNat n : Int32) = nI n := rfl
theorem rd_n {R : Type} (f : Nat → Int32) {n m : Nat} (k : Int32 → Option R) (h : m < n) (hn : n < 2 ^ 31 := by decide) : q_rd f n (nI m) k = k (f m) := by
  unfold q_rd
  rw [if_pos (by rw [nI_toInt (by omega)]; omega), nI_clamp (by omega)]
theorem wr_n {R : Type} (σ : SS) (c : Nat) {n m : Nat} (v : Int32) (k : SS → Option R) (h : m < n) (hn : n < 2 ^ 31 := by decide) : q_wr σ c n (nI m) v k = k (su σ c m v) := by
  unfold q_wr
  rw [if_pos (by rw [nI_toInt (by omega)]; omega), nI_clamp (by omega)]
theorem rd_i {R : Type} (f : Nat → Int32) {n : Nat} {i : Int32} (k : Int32 → Option R) (h0 : 0 ≤ i.toInt) (h : i.toInt < n) : q_rd f n i k = k (f i.toNatClampNeg) := if_pos ⟨h0, h⟩
theorem wr_i {R : Type} (σ : SS) (c : Nat) {n : Nat} {i : Int32} (v : Int32) (k : SS → Option R) (h0 : 0 ≤ i.toInt) (h : i.toInt < n) : q_wr σ c n i v k = k (su σ c i.toNatClampNeg v) := if_pos ⟨h0, h⟩
/-- a small number is its nat -/
theorem nI_self {x : Int32} (h : 0 ≤ x.toInt) : nI x.toNatClampNeg = x := by
  apply Int32.toInt_inj.mp
  have h1 : x.toInt < 2147483648 := by have := x.toInt_lt; exact this
  show (nI x.toInt.toNat).toInt = x.toInt
  rw [nI_toInt (show x.toInt.toNat < 2 ^ 31 by omega)]
  exact Int.toNat_of_nonneg h
theorem cl_toInt {x : Int32} (h : 0 ≤ x.toInt) : ((x.toNatClampNeg : Nat) : Int) = x.toInt := Int.toNat_of_nonneg h
theorem i_eq {a b : Int32} : a = b ↔ a.toInt = b.toInt := Int32.toInt_inj.symm
theorem i_lt {a b : Int32} : a < b ↔ a.toInt < b.toInt := Int32.lt_iff_toInt_lt
theorem i_le {a b : Int32} : a ≤ b ↔ a.toInt ≤ b.toInt := Int32.le_iff_toInt_le
/-- the guard that both sides use -/
def wi (a b c : Int32) : Int32 := if a < b then 0 else if c < a then 0 else 1
theorem wi_01 (a b c : Int32) : wi a b c = 0 ∨ wi a b c = 1 := by
  unfold wi
  split
  · exact Or.inl rfl
  · split
    · exact Or.inl rfl
    · exact Or.inr rfl
theorem wi_ok {a b c : Int32} (h : ¬ wi a b c = 0) : b.toInt ≤ a.toInt ∧ a.toInt ≤ c.toInt := by
  unfold wi at h
  split at h
  · exact absurd rfl h
  · split at h
    · exact absurd rfl h
    · rename_i h1 h2
      rw [i_lt] at h1 h2
      omega
theorem wi_no {a b c : Int32} (h : wi a b c = 0) : a.toInt < b.toInt ∨ c.toInt < a.toInt := by
  unfold wi at h
  split at h
  · rename_i h1; exact Or.inl (i_lt.mp h1)
  · split at h
    · rename_i h1; exact Or.inr (i_lt.mp h1)
    · cases h
theorem wi_iff (a b c : Int32) : wi a b c = 0 ↔ (a.toInt < b.toInt ∨ c.toInt < a.toInt) := ⟨wi_no, fun h => by
  rcases wi_01 a b c with h1 | h1
  · exact h1
  · have h2 := wi_ok (a := a) (b := b) (c := c) (by rw [h1]; decide)
    omega⟩
theorem within_eq (a b c : Int32) : pX11_within a b c = some (wi a b c) := by
  unfold pX11_within wi
  simp only [lt_v]
  split
  · rfl
  · split <;> rfl
theorem in_eq (a b c : Int32) : pX12_in a b c = some (wi a b c) := by
  unfold pX12_in wi
  simp only [lt_v]
  split
  · rfl
  · split <;> rfl
theorem tell_0 (σ : SS) : pX11_tell σ (-1000001) = some (-1000001, su σ 1 0 (σ 1 0 + 1)) := rfl
theorem tell_1 (σ : SS) : pX11_tell σ (-1000002) = some (-1000002, su σ 1 1 (σ 1 1 + 1)) := rfl
theorem tell_2 (σ : SS) : pX11_tell σ (-1000003) = some (-1000003, su σ 1 2 (σ 1 2 + 1)) := rfl
theorem tell_3 (σ : SS) : pX11_tell σ (-1000004) = some (-1000004, su σ 1 3 (σ 1 3 + 1)) := rfl
theorem tell_4 (σ : SS) : pX11_tell σ (-1000005) = some (-1000005, su σ 1 4 (σ 1 4 + 1)) := rfl
theorem tell_5 (σ : SS) : pX11_tell σ (-1000006) = some (-1000006, su σ 1 5 (σ 1 5 + 1)) := rfl
theorem tell_6 (σ : SS) : pX11_tell σ (-1000007) = some (-1000007, su σ 1 6 (σ 1 6 + 1)) := rfl
theorem find_0 (σ : SS) : pX12_finding σ 0 = some (-1000001, su σ 4 0 (σ 4 0 + 1)) := rfl
theorem find_1 (σ : SS) : pX12_finding σ 1 = some (-1000002, su σ 4 1 (σ 4 1 + 1)) := rfl
theorem find_2 (σ : SS) : pX12_finding σ 2 = some (-1000003, su σ 4 2 (σ 4 2 + 1)) := rfl
theorem find_3 (σ : SS) : pX12_finding σ 3 = some (-1000004, su σ 4 3 (σ 4 3 + 1)) := rfl
theorem find_4 (σ : SS) : pX12_finding σ 4 = some (-1000005, su σ 4 4 (σ 4 4 + 1)) := rfl
theorem find_5 (σ : SS) : pX12_finding σ 5 = some (-1000006, su σ 4 5 (σ 4 5 + 1)) := rfl
theorem find_6 (σ : SS) : pX12_finding σ 6 = some (-1000007, su σ 4 6 (σ 4 6 + 1)) := rfl
/-! ===== the relation ===== -/
def ib (x : Int32) (k : Nat) : Int32 := if x.toBitVec.getLsbD k then 1 else 0
/-- what the numbers of a row keep to -/
def OkS (t : Nat → Int32) : Prop := (0 ≤ (t 16).toInt ∧ (t 16).toInt ≤ 8) ∧ (0 ≤ (t 17).toInt ∧ (t 17).toInt ≤ 10) ∧ (0 ≤ (t 18).toInt ∧ (t 18).toInt ≤ 6) ∧ (0 ≤ (t 9).toInt ∧ (t 9).toInt ≤ 1000) ∧ (t 6).toInt ≤ 999 ∧ (0 ≤ (t 19).toInt ∧ (t 19).toInt ≤ 15) ∧ (t 14 = 0 ∨ t 14 = 1) ∧ (t 15 = 0 ∨ t 15 = 1) ∧ (t 10 = 0 ∨ t 10 = 1) ∧ (0 ≤ (t 4).toInt ∧ (t 4).toInt ≤ 998) ∧ (0 ≤ (t 0).toInt ∧ (t 0).toInt ≤ 99) ∧ (0 ≤ (t 1).toInt ∧ (t 1).toInt ≤ 999) ∧ (0 ≤ (t 2).toInt ∧ (t 2).toInt ≤ 9999) ∧ (0 ≤ (t 5).toInt ∧ (t 5).toInt ≤ 99)
def OkW (t : Nat → Int32) : Prop := ∀ w : Nat, (w : Int) < (t 16).toInt → (0 ≤ (t (65 + 4 * w)).toInt ∧ (t (65 + 4 * w)).toInt ≤ 6) ∧ (0 ≤ (t (66 + 4 * w)).toInt ∧ (t (66 + 4 * w)).toInt ≤ 99) ∧ (0 ≤ (t (67 + 4 * w)).toInt ∧ (t (67 + 4 * w)).toInt ≤ 999)
def OkT (t : Nat → Int32) : Prop := ∀ k : Nat, (k : Int) < (t 17).toInt → (1 ≤ (t (97 + 5 * k)).toInt ∧ (t (97 + 5 * k)).toInt ≤ 99) ∧ (1 ≤ (t (98 + 5 * k)).toInt ∧ (t (98 + 5 * k)).toInt ≤ 60) ∧ (t (100 + 5 * k) = 0 ∨ t (100 + 5 * k) = 1) ∧ (t (101 + 5 * k) = 0 ∨ t (101 + 5 * k) = 1)
def OkC (t : Nat → Int32) : Prop := ∀ w : Nat, w < 4 → 0 ≤ (t (21 + w)).toInt ∧ (t (21 + w)).toInt ≤ 999
def Ok (t : Nat → Int32) : Prop := OkS t ∧ OkW t ∧ OkT t ∧ OkC t
def CRs (c : SS) (t : Nat → Int32) : Prop := c 0 6 = t 0 ∧ c 0 7 = t 1 ∧ c 0 8 = t 2 ∧ c 6 0 = t 3 ∧ c 6 1 = t 4 ∧ c 6 2 = t 5 ∧ c 6 3 = t 6 ∧ c 6 4 = t 7 ∧ c 0 9 = t 8 ∧ c 6 8 = t 9 ∧ c 6 7 = t 10 ∧ c 0 10 = t 11 ∧ c 6 9 = t 12 ∧ c 0 11 = t 13 ∧ c 6 5 = t 14 ∧ c 0 5 = t 15 ∧ c 1 0 = t 16 ∧ c 8 0 = t 17 ∧ c 0 4 = t 19 ∧ c 6 6 = ib (t 19) 2
def CRl (c : SS) (t : Nat → Int32) : Prop := ∀ i : Nat, i < 40 → (i : Int) < (t 9).toInt → c 7 i = t (25 + i)
def CRw (c : SS) (t : Nat → Int32) : Prop := ∀ w : Nat, (w : Int) < (t 16).toInt → c 2 w = t (65 + 4 * w) ∧ c 3 w = t (66 + 4 * w) ∧ c 4 w = t (67 + 4 * w) ∧ c 5 w = t (68 + 4 * w)
def CRt (c : SS) (t : Nat → Int32) : Prop := (∀ k : Nat, (k : Int) < (t 17).toInt → c 9 k = t (97 + 5 * k) ∧ c 10 k = t (98 + 5 * k) ∧ c 11 k = t (99 + 5 * k) ∧ ib (c 8 4) k = t (100 + 5 * k) ∧ ib (c 8 5) k = t (101 + 5 * k)) ∧ (∀ k : Nat, (t 17).toInt ≤ (k : Int) → ib (c 8 4) k = 0 ∧ ib (c 8 5) k = 0)
def CRc (c : SS) (t : Nat → Int32) : Prop := ∀ w : Nat, w < 4 → c 12 w = t (21 + w)
def CRel (c : SS) (t : Nat → Int32) : Prop := CRs c t ∧ CRl c t ∧ CRw c t ∧ CRt c t ∧ CRc c t
/-- a deed and its number -/
def dOk (d v : Int32) : Prop := (0 ≤ d.toInt ∧ d.toInt ≤ 5) ∧ (d = 1 → 1 ≤ v.toInt ∧ v.toInt ≤ 60) ∧ (d = 2 → v = 0 ∨ v = 1) ∧ (d = 3 → v = 0 ∨ v = 1) ∧ (d = 0 → 0 ≤ v.toInt ∧ v.toInt ≤ 99) ∧ (d = 5 → 0 ≤ v.toInt ∧ v.toInt ≤ 999)
def KRel (k : SS) (t : Nat → Int32) : Prop := k 0 0 = t 18 ∧ ∀ y : Nat, (y : Int) < (t 18).toInt → k 1 y = t (147 + 25 * y) ∧ (1 ≤ (t (147 + 25 * y)).toInt ∧ (t (147 + 25 * y)).toInt ≤ 12) ∧ ∀ i : Nat, (i : Int) < (t (147 + 25 * y)).toInt → k 2 (12 * y + i) = t (148 + 25 * y + 2 * i) ∧ k 3 (12 * y + i) = t (149 + 25 * y + 2 * i) ∧ dOk (t (148 + 25 * y + 2 * i)) (t (149 + 25 * y + 2 * i))
def PRel (s : Nat → Int32) (t : Nat → Int32) : Prop := ∀ j : Nat, j < 10 → s j = t (297 + j) ∧ -1 ≤ (t (297 + j)).toInt ∧ (t (297 + j)).toInt < (t 16).toInt
def HRel (σ : SS) (b : Nat) (t : Nat → Int32) : Prop := Ok t ∧ CRel (q_sb σ (b + 1)) t ∧ KRel (q_sb σ (b + 14)) t ∧ PRel (σ (b + 18)) t ∧ σ b 3 = t 20
def TRel (y bs : Nat → Int32) (τ : SS) : Prop := y 1 = τ 0 7 ∧ (0 ≤ (τ 0 7).toInt ∧ (τ 0 7).toInt ≤ 100) ∧ ∀ i : Nat, (i : Int) < (τ 0 7).toInt → bs i = τ 5 i ∧ 0 ≤ (τ 5 i).toInt ∧ (τ 5 i).toInt ≤ 255
def shRel (o ns : Nat → Int32) (k : Nat) (τ : SS) : Prop := o 0 = τ 8 k ∧ (τ 8 k = 0 ∨ τ 8 k = 8 ∨ τ 8 k = 16 ∨ τ 8 k = 32) ∧ o 1 = τ 9 k ∧ (0 ≤ (τ 9 k).toInt ∧ (τ 9 k).toInt ≤ 40) ∧ ∀ i : Nat, i < 40 → ns i = τ 10 (40 * k + i)
def SRel (σ τ : SS) : Prop := shRel (σ 44) (σ 45) 0 τ ∧ shRel (σ 46) (σ 47) 1 τ ∧ shRel (σ 48) (σ 49) 2 τ ∧ shRel (σ 50) (σ 51) 3 τ
def FRel (σ τ : SS) : Prop := ∀ i : Nat, i < 7 → σ 1 i = τ 4 i
def Rel (σ τ : SS) : Prop := HRel σ 2 (τ 1) ∧ (σ 0 3 = τ 0 3 ∧ (τ 0 3 = 0 ∨ τ 0 3 = 1)) ∧ (τ 0 3 = 1 → HRel σ 21 (τ 2)) ∧ FRel σ τ ∧ TRel (σ 40) (σ 41) τ ∧ SRel σ τ
theorem R_tell {σ τ : SS} (h : Rel σ τ) {k : Nat} (hk : k < 7) : Rel (su σ 1 k (σ 1 k + 1)) (su τ 4 k (τ 4 k + 1)) := by
  obtain ⟨h1, h2, h3, h4, h5, h6⟩ := h
  refine ⟨h1, h2, h3, fun i hi => ?_, h5, h6⟩
  show upd (σ 1) k (σ 1 k + 1) i = upd (τ 4) k (τ 4 k + 1) i
  unfold upd
  rw [h4 k hk, h4 i hi]
theorem upd_ne {t : Nat → Int32} {k j : Nat} {v : Int32} (h : j ≠ k) : upd t k v j = t j := if_neg h
theorem upd_at {t : Nat → Int32} {k : Nat} {v : Int32} : upd t k v k = v := if_pos rfl
/-- scalars have changed, and nothing else -/
theorem HR_mk {σ σ' : SS} {b : Nat} {t t' : Nat → Int32} (h : HRel σ b t) (hhi : ∀ j, 21 ≤ j → t' j = t j) (h16 : t' 16 = t 16) (h17 : t' 17 = t 17) (h18 : t' 18 = t 18) (h9 : (t' 9).toInt ≤ (t 9).toInt) (hc : ∀ i, ((3 ≤ i ∧ i ≤ 6) ∨ (8 ≤ i ∧ i ≤ 18)) → σ' (b + i) = σ (b + i)) (hok : OkS t') (hcs : CRs (q_sb σ' (b + 1)) t') (hz : σ' b 3 = t' 20) : HRel σ' b t' := by
  obtain ⟨⟨o1, o2, o3, o4⟩, ⟨c1, c2, c3, c4, c5⟩, k, p, z⟩ := h
  have f : ∀ i, ((2 ≤ i ∧ i ≤ 5) ∨ (7 ≤ i ∧ i ≤ 17)) → q_sb σ' (b + 1) i = q_sb σ (b + 1) i := fun i hi => by
    have := hc (1 + i) (by omega)
    unfold q_sb
    rw [Nat.add_assoc]
    exact this
  have f2 : ∀ i, i ≤ 3 → q_sb σ' (b + 14) i = q_sb σ (b + 14) i := fun i hi => by
    have := hc (14 + i) (by omega)
    unfold q_sb
    rw [Nat.add_assoc]
    exact this
  refine ⟨⟨hok, fun w hw => ?_, fun w hw => ?_, fun w hw => ?_⟩, ⟨hcs, fun i hi hi2 => ?_, fun w hw => ?_, ⟨fun w hw => ?_, fun w hw => ?_⟩, fun w hw => ?_⟩, ⟨?_, fun y hy => ?_⟩, fun j hj => ?_, hz⟩
  · rw [h16] at hw
    rw [hhi (65 + 4 * w) (by omega), hhi (66 + 4 * w) (by omega), hhi (67 + 4 * w) (by omega)]
    exact o2 w hw
  · rw [h17] at hw
    rw [hhi _ (by omega), hhi _ (by omega), hhi _ (by omega), hhi _ (by omega)]
    exact o3 w hw
  · rw [hhi _ (by omega)]
    exact o4 w hw
  · rw [f 7 (by omega), hhi _ (by omega)]
    exact c2 i hi (by omega)
  · rw [h16] at hw
    rw [f 2 (by omega), f 3 (by omega), f 4 (by omega), f 5 (by omega), hhi _ (by omega), hhi _ (by omega), hhi _ (by omega), hhi _ (by omega)]
    exact c3 w hw
  · rw [h17] at hw
    rw [f 8 (by omega), f 9 (by omega), f 10 (by omega), f 11 (by omega), hhi _ (by omega), hhi _ (by omega), hhi _ (by omega), hhi _ (by omega), hhi _ (by omega)]
    exact c4.1 w hw
  · rw [h17] at hw
    rw [f 8 (by omega)]
    exact c4.2 w hw
  · rw [f 12 (by omega), hhi _ (by omega)]
    exact c5 w hw
  · rw [f2 0 (by omega), h18]
    exact k.1
  · rw [h18] at hy
    obtain ⟨k1, k2, k3⟩ := k.2 y hy
    rw [f2 1 (by omega), f2 2 (by omega), f2 3 (by omega), hhi _ (by omega)]
    refine ⟨k1, k2, fun i hi => ?_⟩
    rw [hhi _ (by omega), hhi _ (by omega)]
    exact k3 i hi
  · have := hc 18 (by omega)
    rw [this, hhi _ (by omega), h16]
    exact p j hj
