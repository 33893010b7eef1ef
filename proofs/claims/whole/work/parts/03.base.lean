/-! ===== the state: a number by cell and place; the words of the pure programs ===== -/
abbrev SS : Type := Nat → Nat → Int32
def su (σ : SS) (c j : Nat) (v : Int32) : SS := fun c' => if c' = c then upd (σ c) j v else σ c'
def q_lt {α β : Type} (x : α) (k : α → β) : β := k x
def q_rd {R : Type} (f : Nat → Int32) (n : Nat) (i : Int32) (k : Int32 → Option R) : Option R := if 0 ≤ i.toInt ∧ i.toInt < (n : Int) then k (f i.toNatClampNeg) else none
def q_wr {R : Type} (σ : SS) (c n : Nat) (i v : Int32) (k : SS → Option R) : Option R := if 0 ≤ i.toInt ∧ i.toInt < (n : Int) then k (su σ c i.toNatClampNeg v) else none
def q_zz {R : Type} (v : Int32) (k : Option R) : Option R := if v = 0 ∨ v = 1 then k else none
def q_lp {T : Type} (bot : T) (st : T → T) : Nat → T
  | 0 => bot
  | n + 1 => st (q_lp bot st n)
def q_fu : Nat := 5000
def q_sb (σ : SS) (b : Nat) : SS := fun c => σ (b + c)
def q_ap (n : Nat) (f g : SS) : SS := fun c => if c < n then f c else g (c - n)
def q_em (σ : SS) (b o n : Nat) (τ : SS) : SS := fun c => if b ≤ c ∧ c < b + n then τ (o + (c - b)) else σ c
def q_cr {R : Type} (o : Option Int32) (k : Int32 → Option R) : Option R := match o with
  | none => none
  | some x => k x
def q_ci {R : Type} (o : Option (Int32 × SS)) (emb : SS → SS) (k : Int32 → SS → Option R) : Option R := match o with
  | none => none
  | some x => k x.1 (emb x.2)
def q_cs {R : Type} (o : Option SS) (emb : SS → SS) (k : SS → Option R) : Option R := match o with
  | none => none
  | some x => k (emb x)
def q_sc (σ : SS) (c : Nat) (f : Nat → Int32) : SS := fun c' => if c' = c then f else σ c'
/-- System.arraycopy between two rows of the state -/
def q_ac {R : Type} (σ : SS) (c0 n0 c1 n1 : Nat) (sp dp n : Int32) (k : SS → Option R) : Option R := if 0 ≤ sp.toInt ∧ 0 ≤ dp.toInt ∧ 0 ≤ n.toInt ∧ sp.toInt + n.toInt ≤ (n0 : Int) ∧ dp.toInt + n.toInt ≤ (n1 : Int) then k (q_sc σ c1 (va_cpy (σ c0) (σ c1) sp.toNatClampNeg dp.toNatClampNeg n.toNatClampNeg)) else none
theorem q_rd_o {R : Type} {f : Nat → Int32} {n : Nat} {i : Int32} {k : Int32 → Option R} {r : R} (h : q_rd f n i k = some r) : vp_in i n ∧ k (f i.toNatClampNeg) = some r := by
  unfold q_rd at h
  split at h
  · rename_i c; exact ⟨vp_in_iff.mpr c, h⟩
  · cases h
theorem q_wr_o {R : Type} {σ : SS} {c n : Nat} {i v : Int32} {k : SS → Option R} {r : R} (h : q_wr σ c n i v k = some r) : vp_in i n ∧ k (su σ c i.toNatClampNeg v) = some r := by
  unfold q_wr at h
  split at h
  · rename_i c; exact ⟨vp_in_iff.mpr c, h⟩
  · cases h
theorem q_zz_o {R : Type} {v : Int32} {k : Option R} {r : R} (h : q_zz v k = some r) : (v = 0 ∨ v = 1) ∧ k = some r := by
  unfold q_zz at h
  split at h
  · rename_i c; exact ⟨c, h⟩
  · cases h
theorem q_zz_n {v : Int32} (h : v = 0 ∨ v = 1) : narrow .boolean (.int v) = .int v ∧ fits .boolean (.int v) = true := by
  rcases h with rfl | rfl <;> exact ⟨rfl, rfl⟩
theorem q_cr_o {R : Type} {o : Option Int32} {k : Int32 → Option R} {r : R} (h : q_cr o k = some r) : ∃ x, o = some x ∧ k x = some r := by
  cases o with
  | none => cases h
  | some x => exact ⟨x, rfl, h⟩
theorem q_ci_o {R : Type} {o : Option (Int32 × SS)} {emb : SS → SS} {k : Int32 → SS → Option R} {r : R} (h : q_ci o emb k = some r) : ∃ x τ, o = some (x, τ) ∧ k x (emb τ) = some r := by
  cases o with
  | none => cases h
  | some x => exact ⟨x.1, x.2, rfl, h⟩
theorem q_cs_o {R : Type} {o : Option SS} {emb : SS → SS} {k : SS → Option R} {r : R} (h : q_cs o emb k = some r) : ∃ τ, o = some τ ∧ k (emb τ) = some r := by
  cases o with
  | none => cases h
  | some x => exact ⟨x, rfl, h⟩
theorem q_lt_go {α R : Type} {x : α} {k : α → Option R} {r : R} {G : Prop} (h : q_lt x k = some r) (g : ∀ y, y = x → k y = some r → G) : G := g x rfl h
theorem q_lp_go {T R : Type} {bot : T} {st : T → T} {n : Nat} {G : Prop} {f : T → Option R} {r : R} (h : f (q_lp bot st n) = some r) (g : ∀ y, y = st → f (q_lp bot y n) = some r → G) : G := g st rfl h
/-! ===== the constants: static rows, nest links, texts ===== -/
def k_above : Nat → Int32 := fun j => ([-1, 0, 0, 2, 1, 0, 4] : List Int32).getD j 0
def k_least : Nat → Int32 := fun j => ([0, 0, 0, 1, 0, 1, 1, 0] : List Int32).getD j 0
def k_most : Nat → Int32 := fun j => ([99, 999, 9999, 999, 998, 99, 999, 999] : List Int32).getD j 0
def k_ldeed : Nat → Int32 := fun j => ([0, 1, 0, 0, 0, 0] : List Int32).getD j 0
def k_mdeed : Nat → Int32 := fun j => ([99, 60, 1, 1, 999, 999] : List Int32).getD j 0
def k_len : List Nat := [4, 4, 7, 4, 7, 4, 2, 3, 6, 5]
def k_byt : List (List Int32) := [[114, 97, 105, 110], [119, 97, 105, 116], [99, 117, 114, 114, 101, 110, 116], [102, 108, 97, 112], [98, 97, 116, 116, 101, 114, 121], [98, 97, 105, 108], [111, 110], [111, 102, 102], [115, 116, 105, 99, 107, 115], [115, 104, 117, 116, 115]]
abbrev ZT : Type := (Nat → Nat) × (Nat → Nat) × (Nat → Nat)
def ZS (n : String) (t N : Nat) (f : Nat → Int32) (A : Nat → Prop) (U : State) (H : Heap) : Prop := va_Z RX11 n "[I" (.ref t) A U H ∧ va_T .int t N (fun j => .int (f j)) A U H
def NW (U : State) : Prop := va_Nw (.fieldLinkNest RX0 122 RX11 "MOST_SET" "[I" RX11) U ∧ va_Nw (.fieldLinkNest RX5 85 RX11 "LEAST_OF_DEED" "[I" RX11) U ∧ va_Nw (.fieldLinkNest RX5 89 RX11 "MOST_OF_DEED" "[I" RX11) U ∧ va_Nw (.fieldLinkNest RX10 28 RX11 "KIND_ABOVE" "[I" RX11) U ∧ va_Nw (.methodLinkNest RX5 92 yX11_within RX11) U ∧ va_Nw (.methodLinkNest RX8 19 yX11_within RX11) U ∧ va_Nw (.methodLinkNest RX11 25 yX8_init RX11) U ∧ va_Nw (.methodLinkNest RX11 73 yX6_init RX11) U ∧ va_Nw (.methodLinkNest RX0 11 yX10_init RX11) U ∧ va_Nw (.methodLinkNest RX0 20 yX4_init RX11) U ∧ va_Nw (.methodLinkNest RX0 27 yX9_init RX11) U ∧ va_Nw (.methodLinkNest RX2 11 yX0_init RX11) U ∧ va_Nw (.methodLinkNest RX2 20 yX7_init RX11) U ∧ va_Nw (.methodLinkNest RX3 11 yX0_init RX11) U
def k_ref (adK : Nat → Nat) (i i5 i12 : Nat) (tx : String) (U : State) : Prop := vk_R RX5 i5 tx (adK i) U ∧ vk_R RX12 i12 tx (adK i) U
def ZR (adK : Nat → Nat) (U : State) : Prop := k_ref adK 0 58 151 "rain" U ∧ k_ref adK 1 60 159 "wait" U ∧ k_ref adK 2 62 161 "current" U ∧ k_ref adK 3 64 171 "flap" U ∧ k_ref adK 4 66 177 "battery" U ∧ k_ref adK 5 68 179 "bail" U ∧ k_ref adK 6 70 163 "on" U ∧ k_ref adK 7 72 165 "off" U ∧ k_ref adK 8 78 173 "sticks" U ∧ k_ref adK 9 80 175 "shuts" U
def ZJ (A : Nat → Prop) (U : State) (H : Heap) : Prop := va_Z RJ0 "COMPACT_STRINGS" "Z" (.int 1) A U H ∧ va_Zq RJ3 "SIOOBE_FORMATTER" "Ljava/util/function/BiFunction;" A U H
def ZK (z : ZT) (A : Nat → Prop) (U : State) (H : Heap) : Prop := ZS "KIND_ABOVE" (z.1 0) 7 k_above A U H ∧ ZS "LEAST_SET" (z.1 1) 8 k_least A U H ∧ ZS "MOST_SET" (z.1 2) 8 k_most A U H ∧ ZS "LEAST_OF_DEED" (z.1 3) 6 k_ldeed A U H ∧ ZS "MOST_OF_DEED" (z.1 4) 6 k_mdeed A U H ∧ NW U ∧ vk_S 10 k_len k_byt z.2.1 z.2.2 A U H ∧ ZR z.2.1 U ∧ ZJ A U H
theorem ZS.go {n : String} {t N : Nat} {f : Nat → Int32} {A B : Nat → Prop} {s U : State} {H H1 : Heap} (hW : s.vm.Alike U.vm) (hAB : ∀ q, B q → A q) (hk : ∀ a : Nat, a < H.size → ¬ A a → H1[a]? = H[a]?) (h : ZS n t N f A s H) : ZS n t N f B U H1 :=
  ⟨((va_Z.moved hW h.1).kept hk).narrow hAB, ((va_T.moved hW h.2).kept hk).narrow hAB⟩
theorem NW.go {s U : State} (hW : s.WarmedH U.vm) (h : NW s) : NW U := by
  obtain ⟨h1, h2, h3, h4, h5, h6, h7, h8, h9, h10, h11, h12, h13, h14⟩ := h
  exact ⟨va_Nw.warmF hW h1, va_Nw.warmF hW h2, va_Nw.warmF hW h3, va_Nw.warmF hW h4, va_Nw.warmM hW h5, va_Nw.warmM hW h6, va_Nw.warmM hW h7, va_Nw.warmM hW h8, va_Nw.warmM hW h9, va_Nw.warmM hW h10, va_Nw.warmM hW h11, va_Nw.warmM hW h12, va_Nw.warmM hW h13, va_Nw.warmM hW h14⟩
theorem NW.same {s U : State} (hW : s.vm = U.vm) (h : NW s) : NW U := by
  obtain ⟨h1, h2, h3, h4, h5, h6, h7, h8, h9, h10, h11, h12, h13, h14⟩ := h
  exact ⟨va_Nw.same rfl hW h1, va_Nw.same rfl hW h2, va_Nw.same rfl hW h3, va_Nw.same rfl hW h4, va_Nw.same rfl hW h5, va_Nw.same rfl hW h6, va_Nw.same rfl hW h7, va_Nw.same rfl hW h8, va_Nw.same rfl hW h9, va_Nw.same rfl hW h10, va_Nw.same rfl hW h11, va_Nw.same rfl hW h12, va_Nw.same rfl hW h13, va_Nw.same rfl hW h14⟩
theorem k_ref.go {adK : Nat → Nat} {i i5 i12 : Nat} {tx : String} {s U : State} (hW : s.WarmedH U.vm) (h : k_ref adK i i5 i12 tx s) : k_ref adK i i5 i12 tx U := ⟨vk_R.warm hW h.1, vk_R.warm hW h.2⟩
theorem k_ref.same {adK : Nat → Nat} {i i5 i12 : Nat} {tx : String} {s U : State} (hW : U.vm = s.vm) (h : k_ref adK i i5 i12 tx s) : k_ref adK i i5 i12 tx U := ⟨vk_R.same hW h.1, vk_R.same hW h.2⟩
theorem ZR.go {adK : Nat → Nat} {s U : State} (hW : s.WarmedH U.vm) (h : ZR adK s) : ZR adK U := by
  obtain ⟨h1, h2, h3, h4, h5, h6, h7, h8, h9, h10⟩ := h
  exact ⟨k_ref.go hW h1, k_ref.go hW h2, k_ref.go hW h3, k_ref.go hW h4, k_ref.go hW h5, k_ref.go hW h6, k_ref.go hW h7, k_ref.go hW h8, k_ref.go hW h9, k_ref.go hW h10⟩
theorem ZR.same {adK : Nat → Nat} {s U : State} (hW : U.vm = s.vm) (h : ZR adK s) : ZR adK U := by
  obtain ⟨h1, h2, h3, h4, h5, h6, h7, h8, h9, h10⟩ := h
  exact ⟨k_ref.same hW h1, k_ref.same hW h2, k_ref.same hW h3, k_ref.same hW h4, k_ref.same hW h5, k_ref.same hW h6, k_ref.same hW h7, k_ref.same hW h8, k_ref.same hW h9, k_ref.same hW h10⟩
theorem ZK.go {z : ZT} {A B : Nat → Prop} {s U : State} {H H1 : Heap} (hW : s.WarmedH U.vm) (hAB : ∀ q, B q → A q) (hk : ∀ a : Nat, a < H.size → ¬ A a → H1[a]? = H[a]?) (h : ZK z A s H) : ZK z B U H1 := by
  obtain ⟨h1, h2, h3, h4, h5, h6, h7, h8, h9, h10⟩ := h
  exact ⟨h1.go hW.alike hAB hk, h2.go hW.alike hAB hk, h3.go hW.alike hAB hk, h4.go hW.alike hAB hk, h5.go hW.alike hAB hk, h6.go hW, ((vk_S.moved hW.alike h7).kept hk).narrow hAB, h8.go hW, ((va_Z.moved hW.alike h9).kept hk).narrow hAB, ((va_Zq.moved hW.alike h10).kept hk).narrow hAB⟩
theorem ZK.same {z : ZT} {A : Nat → Prop} {s U : State} {H : Heap} (hW : U.vm = s.vm) (h : ZK z A s H) : ZK z A U H := by
  obtain ⟨h1, h2, h3, h4, h5, h6, h7, h8, h9, h10⟩ := h
  have ha : s.vm.Alike U.vm := by rw [hW]; exact Vm.Alike.refl s.vm
  exact ⟨h1.go ha (fun _ h => h) (fun _ _ _ => rfl), h2.go ha (fun _ h => h) (fun _ _ _ => rfl), h3.go ha (fun _ h => h) (fun _ _ _ => rfl), h4.go ha (fun _ h => h) (fun _ _ _ => rfl), h5.go ha (fun _ h => h) (fun _ _ _ => rfl), h6.same hW.symm, vk_S.moved ha h7, h8.same hW, va_Z.moved ha h9, va_Zq.moved ha h10⟩
/-! ===== worlds behind a call ===== -/
def q_ix : List Nat → Nat → Option Nat
  | [], _ => none
  | a :: l, k => if a = k then some 0 else (q_ix l k).map (fun j => j + 1)
theorem q_ix_n : ∀ (l : List Nat) (k : Nat), q_ix l k = none → k ∉ l
  | [], _, _ => fun h => by cases h
  | a :: l, k, h => by
    unfold q_ix at h
    split at h
    · cases h
    · rename_i hak
      intro hm
      rcases List.mem_cons.mp hm with h1 | h1
      · exact hak h1.symm
      · cases hq : q_ix l k with
        | none => exact q_ix_n l k hq h1
        | some j => rw [hq] at h; cases h
theorem q_ix_s : ∀ (l : List Nat) (k j : Nat), q_ix l k = some j → j < l.length
  | [], _, _, h => by cases h
  | a :: l, k, j, h => by
    unfold q_ix at h
    split at h
    · cases h; exact Nat.succ_pos _
    · cases hq : q_ix l k with
      | none => rw [hq] at h; cases h
      | some i =>
        rw [hq] at h
        cases h
        exact Nat.succ_lt_succ (q_ix_s l k i hq)
/-- the caller's world behind a call: by the plan ps each cell is kept (none) or is the callee's cell j -/
def q_mix : va_W → List (Option Nat) → va_W → va_W
  | x :: ws, none :: ps, w => x :: q_mix ws ps w
  | x :: ws, some j :: ps, w => w.getD j x :: q_mix ws ps w
  | ws, _, _ => ws
theorem q_mix_at : ∀ (ws : va_W) (ps : List (Option Nat)) (w : va_W) (k : Nat) (q : Nat × va_E), (q_mix ws ps w)[k]? = some q → (∃ j x, ps[k]? = some (some j) ∧ q = w.getD j x) ∨ ((ps[k]? = some none ∨ ps.length ≤ k) ∧ ws[k]? = some q)
  | [], [], w, k, q, h => Or.inr ⟨Or.inr (Nat.zero_le _), h⟩
  | [], p :: ps, w, k, q, h => by cases p <;> cases h
  | x :: ws, [], w, k, q, h => Or.inr ⟨Or.inr (Nat.zero_le _), h⟩
  | x :: ws, none :: ps, w, 0, q, h => Or.inr ⟨Or.inl rfl, h⟩
  | x :: ws, none :: ps, w, k + 1, q, h => by
    rcases q_mix_at ws ps w k q h with h1 | ⟨h1, h2⟩
    · exact Or.inl h1
    · exact Or.inr ⟨h1.imp id Nat.succ_le_succ, h2⟩
  | x :: ws, some j :: ps, w, 0, q, h => Or.inl ⟨j, x, rfl, (Option.some.inj h).symm⟩
  | x :: ws, some j :: ps, w, k + 1, q, h => by
    rcases q_mix_at ws ps w k q h with h1 | ⟨h1, h2⟩
    · exact Or.inl h1
    · exact Or.inr ⟨h1.imp id Nat.succ_le_succ, h2⟩
theorem q_D {A : Nat → Prop} {ws ws' : va_W} (h : ws'.map (fun q => q.1) = ws.map (fun q => q.1)) (hD : va_D A ws) : va_D A ws' := by
  have at' : ∀ (i : Nat) (q : Nat × va_E), ws'[i]? = some q → ∃ q', ws[i]? = some q' ∧ q'.1 = q.1 := by
    intro i q hq
    have h1 : (ws'.map (fun q => q.1))[i]? = some q.1 := by rw [List.getElem?_map, hq]; rfl
    rw [h, List.getElem?_map] at h1
    cases hw : ws[i]? with
    | none => rw [hw] at h1; cases h1
    | some z => rw [hw] at h1; exact ⟨z, rfl, Option.some.inj h1⟩
  refine ⟨fun i j x y hx hy hxy => ?_, fun k q hk => ?_⟩
  · obtain ⟨x', h1, h2⟩ := at' i x hx
    obtain ⟨y', h3, h4⟩ := at' j y hy
    exact hD.1 i j x' y' h1 h3 (by rw [h2, h4, hxy])
  · obtain ⟨q', h1, h2⟩ := at' k q hk
    rw [← h2]
    exact hD.2 k q' h1
theorem q_at {ws w : va_W} {is : List Nat} (hin : is.map (fun i => ws[i]?) = w.map some) {j : Nat} {q : Nat × va_E} (hj : w[j]? = some q) : ∃ i, is[j]? = some i ∧ ws[i]? = some q := by
  have h1 : (is.map (fun i => ws[i]?))[j]? = some (some q) := by rw [hin, List.getElem?_map, hj]; rfl
  rw [List.getElem?_map] at h1
  cases hi : is[j]? with
  | none => rw [hi] at h1; cases h1
  | some i => rw [hi] at h1; exact ⟨i, rfl, Option.some.inj h1⟩
theorem q_keep {A : Nat → Prop} {D : va_G} {cl : List vw_C} {ws w : va_W} {is : List Nat} {H H1 : Heap} (hP : va_P D cl ws H) (hD : va_D A ws) (hin : is.map (fun i => ws[i]?) = w.map some) (hk : ∀ q : Nat, q < H.size → ¬ va_A w H.size q → H1[q]? = H[q]?) {k : Nat} {q : Nat × va_E} (hk' : ws[k]? = some q) (hm : k ∉ is) : va_at D cl q H1 := by
  refine (hP k q hk').kept (hk q.1 (hP k q hk').lt (fun h => ?_))
  rcases h with ⟨j, e, hj⟩ | h
  · obtain ⟨i, h1, h2⟩ := q_at hin hj
    have hki : k = i := hD.1 k i q (q.1, e) hk' h2 rfl
    subst hki
    exact hm (List.mem_of_getElem? h1)
  · exact absurd (hP k q hk').lt (Nat.not_lt.mpr h)
theorem q_after {A : Nat → Prop} {D : va_G} {cl : List vw_C} {ws w w' ws' : va_W} {is : List Nat} {ps : List (Option Nat)} {H H1 : Heap} (hP : va_P D cl ws H) (hD : va_D A ws) (hin : is.map (fun i => ws[i]?) = w.map some) (hps : ps = (List.range ps.length).map (fun k => q_ix is k)) (hpl : ws.length ≤ ps.length) (hlen : is.length = w'.length) (hput : q_mix ws ps w' = ws') (hk : ∀ q : Nat, q < H.size → ¬ va_A w H.size q → H1[q]? = H[q]?) (hP1 : va_P D cl w' H1) : va_P D cl ws' H1 := by
  subst hput
  intro k q hq
  have hpk : ∀ z, ps[k]? = some z → z = q_ix is k := fun z hz => by
    rw [hps, List.getElem?_map] at hz
    cases hr : (List.range ps.length)[k]? with
    | none => rw [hr] at hz; cases hz
    | some i =>
      rw [hr] at hz
      have : i = k := by
        have h1 := List.getElem?_eq_some_iff.mp hr
        obtain ⟨h2, h3⟩ := h1
        rw [List.getElem_range] at h3
        exact h3.symm
      subst this
      exact (Option.some.inj hz).symm
  rcases q_mix_at ws ps w' k q hq with ⟨j, x, h1, h2⟩ | ⟨h1, h2⟩
  · have hj : j < w'.length := by
      rw [← hlen]
      exact q_ix_s is k j (hpk _ h1).symm
    refine hP1 j q ?_
    rw [h2, List.getD_eq_getElem?_getD, List.getElem?_eq_getElem hj]
    rfl
  · refine q_keep hP hD hin hk h2 ?_
    rcases h1 with h1 | h1
    · exact q_ix_n is k (hpk _ h1).symm
    · exact absurd (List.getElem?_eq_some_iff.mp h2).1 (by omega)
theorem q_afterR {A : Nat → Prop} {D : va_G} {cl : List vw_C} {ws w : va_W} {is : List Nat} {H H1 : Heap} (hP : va_P D cl ws H) (hD : va_D A ws) (hin : is.map (fun i => ws[i]?) = w.map some) (hk : ∀ q : Nat, q < H.size → ¬ va_A w H.size q → H1[q]? = H[q]?) (hP1 : va_P D cl w H1) : va_P D cl ws H1 := by
  intro k q hq
  by_cases hm : k ∈ is
  · obtain ⟨j, hj⟩ := List.getElem?_of_mem hm
    have h1 : (is.map (fun i => ws[i]?))[j]? = some (some q) := by rw [List.getElem?_map, hj]; show some (ws[k]?) = _; rw [hq]
    rw [hin, List.getElem?_map] at h1
    cases hw : w[j]? with
    | none => rw [hw] at h1; cases h1
    | some z =>
      rw [hw] at h1
      have : z = q := Option.some.inj (Option.some.inj h1)
      subst this
      exact hP1 j z hw
  · exact q_keep hP hD hin hk hq hm
theorem q_subP {D : va_G} {cl : List vw_C} {ws w : va_W} {is : List Nat} {H : Heap} (hP : va_P D cl ws H) (hin : is.map (fun i => ws[i]?) = w.map some) : va_P D cl w H := fun _ _ hj => by
  obtain ⟨i, -, h2⟩ := q_at hin hj
  exact hP i _ h2
/-! ===== contracts ===== -/
def q_pre (D : va_G) (tys : List (ClassId × FieldType)) (zz : ZT) (w : va_W) (sz : Nat) (U : State) : Prop := U.heap.size = sz ∧ va_P D vwCl w U.heap ∧ va_K D vwCl tys U ∧ va_D (fun _ => True) w ∧ ZK zz (va_A w sz) U U.heap
/-- from the world w the method comes to the world w' (the same cells) with the answer ρ -/
def CI (l : Launch) (y : MethodName) (wds : List Cond) (rm : Room) (D : va_G) (tys : List (ClassId × FieldType)) (zz : ZT) (av : List Value) (w w' : va_W) (ρ : Int32) : Prop := ∀ sz : Nat, Met l y wds rm (va_Pc av (q_pre D tys zz w sz)) (va_Qi (fun r (_ : Unit) => r = ρ) (fun _ t => va_P D vwCl w' t.heap) (va_A w sz)) 0 0 (va_A w sz)
def CV (l : Launch) (y : MethodName) (wds : List Cond) (rm : Room) (D : va_G) (tys : List (ClassId × FieldType)) (zz : ZT) (av : List Value) (w w' : va_W) : Prop := ∀ sz : Nat, Met l y wds rm (va_Pc av (q_pre D tys zz w sz)) (va_Qv (fun (_ : Unit) => True) (fun _ t => va_P D vwCl w' t.heap) (va_A w sz)) 0 0 (va_A w sz)
theorem q_blind {D : va_G} {tys : List (ClassId × FieldType)} {zz : ZT} {w : va_W} {sz : Nat} {av : List Value} : FrameBlind (va_Pc av (q_pre D tys zz w sz)) := fun a U g mk q => by
  obtain ⟨q0, q1, q2, q3, q4, q5⟩ := q
  exact ⟨q0, q1, q2, va_K.moved (u := U) (U := U.calling g mk a) (Vm.Alike.refl U.vm) q3, q4, ZK.same (s := U) (U := U.calling g mk a) rfl q5⟩
theorem q_preU {D : va_G} {tys : List (ClassId × FieldType)} {zz : ZT} {ws w : va_W} {A : Nat → Prop} {s : State} {H : Heap} {locs : List Loc} {is : List Nat} (hK : va_K D vwCl tys s) (hZ : ZK zz A s s.heap) (hA : ∀ q, s.heap.size ≤ q → A q) (hP : va_P D vwCl ws H) (hD : va_D A ws) (hS : va_S A s.heap H locs) (hnd : va_nd is = true) (hin : is.map (fun i => ws[i]?) = w.map some) (U : State) (hU : U.heap = H) (hW : s.WarmedH U.vm) : q_pre D tys zz w H.size U := by
  have hF := va_free hD hS hA is hin
  refine ⟨by rw [hU], by rw [hU]; exact q_subP hP hin, va_K.moved hW.alike hK, (hD.sub is hnd hin).weaken (fun _ _ _ _ => trivial), ?_⟩
  rw [hU]
  exact ZK.go hW hF hS.2.1 hZ
theorem q_ofI {l : Launch} {y : MethodName} {wds wds' : List Cond} {rm : Room} {D : va_G} {tys : List (ClassId × FieldType)} {zz : ZT} {av : List Value} {w w' : va_W} {ρ : Int32} {cc : ByteArray} {maxL : Nat} {ty : FieldType} (hy : plainName y.cls = true) (hw : wds = Cond.code y cc maxL (some ty) :: wds') (hlen : (lg_sl av).length ≤ maxL)
    (body : ∀ (p : Program) (e : Env) (s : State) (m : MethodId) (below : List Frame) (meth : Method) (c : Code) (Q : State → Prop) (A : Nat → Prop) (ls : Array Slot), p.tables.exec = Jvm.exec → c.code = cc → c.maxLocals = maxL → s.vm.findClass y.cls = some m.cls → (∀ w ∈ wds, w.before av.toArray s = true) → va_K D vwCl tys s → ZK zz A s s.heap → (∀ q, s.heap.size ≤ q → A q) → va_P D vwCl w s.heap → va_D A w → va_S A s.heap s.heap [] → lv_has ls maxL (lv_args 0 av) →
      (∀ (pc : Nat) (H : Heap) (locs : List Loc) (ls : Array Slot), decode cc pc = .ok (.ireturn, 1) → narrow ty (.int ρ) = .int ρ → va_P D vwCl w' H → va_S A s.heap H locs → W p l e rm s m av.toArray below meth c H locs 0 0 Q (F0 m pc ls [.int ρ])) →
      W p l e rm s m av.toArray below meth c s.heap [] 0 0 Q (F0 m 0 ls [])) : CI l y wds rm D tys zz av w w' ρ := by
  intro sz
  refine Met.ofW (cc := cc) (maxL := maxL) (ret := some ty) hy hw ?_
  intro p e s m args below meth c s₁ B hml hv
  obtain ⟨rfl, hsz, hP, hK, hD0, hZ⟩ := hv
  subst hsz
  have hts := atoms_spec (ws := wds) B.pre
  rw [lg_entry_eq]
  refine body p e s m below meth c _ (va_A w s.heap.size) _ B.exec B.bytes hml (findClass_of_methodNamed B.named) hts hK hZ (fun q h => Or.inr h) hP hD0.self va_S.rf (lv_entry av hlen) ?_
  intro pc H locs ls hd hn hP' hS
  have hlocks := B.notSynchronized
  exact W.zret B.exec B.bytes B.returns hn (fun t ht hW => ⟨⟨ρ, (), rfl, rfl, by show va_P D vwCl w' t.heap; rw [ht]; exact hP'⟩, hS.F ht⟩) hS.2.2 hd
theorem q_ofV {l : Launch} {y : MethodName} {wds wds' : List Cond} {rm : Room} {D : va_G} {tys : List (ClassId × FieldType)} {zz : ZT} {av : List Value} {w w' : va_W} {cc : ByteArray} {maxL : Nat} (hy : plainName y.cls = true) (hw : wds = Cond.code y cc maxL none :: wds') (hlen : (lg_sl av).length ≤ maxL)
    (body : ∀ (p : Program) (e : Env) (s : State) (m : MethodId) (below : List Frame) (meth : Method) (c : Code) (Q : State → Prop) (A : Nat → Prop) (ls : Array Slot), p.tables.exec = Jvm.exec → c.code = cc → c.maxLocals = maxL → s.vm.findClass y.cls = some m.cls → (∀ w ∈ wds, w.before av.toArray s = true) → va_K D vwCl tys s → ZK zz A s s.heap → (∀ q, s.heap.size ≤ q → A q) → va_P D vwCl w s.heap → va_D A w → va_S A s.heap s.heap [] → lv_has ls maxL (lv_args 0 av) →
      (∀ (pc : Nat) (H : Heap) (locs : List Loc) (ls : Array Slot), decode cc pc = .ok (.return_, 1) → va_P D vwCl w' H → va_S A s.heap H locs → W p l e rm s m av.toArray below meth c H locs 0 0 Q (F0 m pc ls [])) →
      W p l e rm s m av.toArray below meth c s.heap [] 0 0 Q (F0 m 0 ls [])) : CV l y wds rm D tys zz av w w' := by
  intro sz
  refine Met.ofW (cc := cc) (maxL := maxL) (ret := none) hy hw ?_
  intro p e s m args below meth c s₁ B hml hv
  obtain ⟨rfl, hsz, hP, hK, hD0, hZ⟩ := hv
  subst hsz
  have hts := atoms_spec (ws := wds) B.pre
  rw [lg_entry_eq]
  refine body p e s m below meth c _ (va_A w s.heap.size) _ B.exec B.bytes hml (findClass_of_methodNamed B.named) hts hK hZ (fun q h => Or.inr h) hP hD0.self va_S.rf (lv_entry av hlen) ?_
  intro pc H locs ls hd hP' hS
  have hlocks := B.notSynchronized
  exact W.vret B.exec B.bytes B.returns (fun t ht hW => ⟨⟨(), rfl, trivial, by show va_P D vwCl w' t.heap; rw [ht]; exact hP'⟩, hS.F ht⟩) hS.2.2 hd
/-! ===== rows that go with the pure program ===== -/
section QR
variable {p : Program} {l : Launch} {e : Env} {R : Room} {s : State} {m : MethodId} {args : Array Value} {below : List Frame} {meth : Method} {c : Code} {H : Heap} {locs : List Loc} {cells slots : Nat} {Q : State → Prop}
variable {cc : ByteArray} {pc : Nat} {ls : Array Slot} {rest st0 : List Value} {D : va_G} {tys : List (ClassId × FieldType)} {A : Nat → Prop} {a : Nat} {Rt : Type} {r : Rt} {wf : SS → va_W} {σ : SS} {zz : ZT}
theorem w_iald (hexec : p.tables.exec = Jvm.exec) (hb : c.code = cc) (hK : va_K D vwCl tys s) (hP : va_P D vwCl (wf σ) H) (q0 t0 : Nat) {cA : ClassId} {n : Nat} {f : Nat → Int32} (ha : (wf σ)[q0]? = some (a, .inl (cA, n, .inl f))) (ht : tys[t0]? = some (cA, .int)) {i : Int32} {k : Int32 → Option Rt} (hf : q_rd f n i k = some r) (hdg : decode cc pc = .ok (.iaload, 1))
    (kk : ∀ v : Int32, k v = some r → W p l e R s m args below meth c H locs cells slots Q (F0 m (pc + 1) ls (.int v :: rest))) : W p l e R s m args below meth c H locs cells slots Q (F0 m pc ls (.int i :: .ref a :: rest)) :=
  va_iald hexec hb hK hP q0 t0 ha ht (q_rd_o hf).1 hdg (kk _ (q_rd_o hf).2)
theorem w_zald (hexec : p.tables.exec = Jvm.exec) (hb : c.code = cc) (hK : va_K D vwCl tys s) (hP : va_P D vwCl (wf σ) H) (q0 t0 : Nat) {cA : ClassId} {n : Nat} {f : Nat → Int32} (ha : (wf σ)[q0]? = some (a, .inl (cA, n, .inl f))) (ht : tys[t0]? = some (cA, .boolean)) {i : Int32} {k : Int32 → Option Rt} (hf : q_rd f n i k = some r) (hdg : decode cc pc = .ok (.baload, 1))
    (kk : ∀ v : Int32, k v = some r → W p l e R s m args below meth c H locs cells slots Q (F0 m (pc + 1) ls (.int v :: rest))) : W p l e R s m args below meth c H locs cells slots Q (F0 m pc ls (.int i :: .ref a :: rest)) :=
  va_zald hexec hb hK hP q0 t0 ha ht (q_rd_o hf).1 hdg (kk _ (q_rd_o hf).2)
theorem w_tald (hexec : p.tables.exec = Jvm.exec) (hb : c.code = cc) {n : String} {N : Nat} {f : Nat → Int32} (hT : ZS n a N f A s s.heap) (hS : va_S A s.heap H locs) {i : Int32} {k : Int32 → Option Rt} (hf : q_rd f N i k = some r) (hdg : decode cc pc = .ok (.iaload, 1))
    (kk : ∀ v : Int32, k v = some r → W p l e R s m args below meth c H locs cells slots Q (F0 m (pc + 1) ls (.int v :: rest))) : W p l e R s m args below meth c H locs cells slots Q (F0 m pc ls (.int i :: .ref a :: rest)) :=
  va_ti hexec hb hT.2 hS (q_rd_o hf).1 rfl hdg (kk _ (q_rd_o hf).2)
theorem w_iast (hexec : p.tables.exec = Jvm.exec) (hb : c.code = cc) (hK : va_K D vwCl tys s) (hP : va_P D vwCl (wf σ) H) (hD : va_D A (wf σ)) (hS : va_S A s.heap H locs) (q0 t0 : Nat) {cid : Nat} {cA : ClassId} {n : Nat} {f : Nat → Int32} (ha : (wf σ)[q0]? = some (a, .inl (cA, n, .inl f))) (ht : tys[t0]? = some (cA, .int)) {i x : Int32} {k : SS → Option Rt} (hf : q_wr σ cid n i x k = some r) (hset : ∀ j : Nat, (wf σ).set q0 (a, .inl (cA, n, .inl (upd f j x))) = wf (su σ cid j x)) (hdg : decode cc pc = .ok (.iastore, 1))
    (kk : ∀ (σ' : SS) (H1 : Heap) (locs1 : List Loc), k σ' = some r → va_P D vwCl (wf σ') H1 → va_D A (wf σ') → va_S A s.heap H1 locs1 → W p l e R s m args below meth c H1 locs1 cells slots Q (F0 m (pc + 1) ls rest)) : W p l e R s m args below meth c H locs cells slots Q (F0 m pc ls (.int x :: .int i :: .ref a :: rest)) := by
  refine va_iast hexec hb hK hP hD hS q0 t0 ha ht (q_wr_o hf).1 hdg (fun H1 locs1 h1 h2 h3 => ?_)
  rw [hset] at h1 h2
  exact kk _ H1 locs1 (q_wr_o hf).2 h1 h2 h3
theorem q_narZ {v : Int32} (h : v = 0 ∨ v = 1) : vp_nar .boolean v = v := by
  rcases h with rfl | rfl <;> rfl
theorem w_zast (hexec : p.tables.exec = Jvm.exec) (hb : c.code = cc) (hK : va_K D vwCl tys s) (hP : va_P D vwCl (wf σ) H) (hD : va_D A (wf σ)) (hS : va_S A s.heap H locs) (q0 t0 : Nat) {cid : Nat} {cA : ClassId} {n : Nat} {f : Nat → Int32} (ha : (wf σ)[q0]? = some (a, .inl (cA, n, .inl f))) (ht : tys[t0]? = some (cA, .boolean)) {i x : Int32} {k : SS → Option Rt} (hf : q_zz x (q_wr σ cid n i x k) = some r) (hset : ∀ j : Nat, (wf σ).set q0 (a, .inl (cA, n, .inl (upd f j x))) = wf (su σ cid j x)) (hdg : decode cc pc = .ok (.bastore, 1))
    (kk : ∀ (σ' : SS) (H1 : Heap) (locs1 : List Loc), k σ' = some r → va_P D vwCl (wf σ') H1 → va_D A (wf σ') → va_S A s.heap H1 locs1 → W p l e R s m args below meth c H1 locs1 cells slots Q (F0 m (pc + 1) ls rest)) : W p l e R s m args below meth c H locs cells slots Q (F0 m pc ls (.int x :: .int i :: .ref a :: rest)) := by
  obtain ⟨hz, hf⟩ := q_zz_o hf
  refine va_zast hexec hb hK hP hD hS q0 t0 ha ht (q_wr_o hf).1 hdg (fun H1 locs1 h1 h2 h3 => ?_)
  rw [q_narZ hz, hset] at h1 h2
  exact kk _ H1 locs1 (q_wr_o hf).2 h1 h2 h3
theorem w_put (hexec : p.tables.exec = Jvm.exec) (hb : c.code = cc) {own ref C : String} {T : u_T} {N ci index : Nat} {Ts : List Cond} (hts : ∀ w ∈ Ts, w.before args s = true) (hin : ∀ w ∈ u_ws C T N, w ∈ Ts) (ty0 : Nat → FieldType) (hty : ∀ k, k < N → parseFieldDescriptor (T k).2.2.1 = some (ty0 k)) (hnm : ∀ a, a < N → ∀ b, b < N → a ≠ b → (T a).2.1 ≠ (T b).2.1) (hown : s.vm.findClass own = some m.cls) (hK : va_K D vwCl tys s) (hP : va_P D vwCl (wf σ) H) (hD : va_D A (wf σ)) (hS : va_S A s.heap H locs) (q0 : Nat) {cid : Nat} {fs : List Value} (he : (wf σ)[q0]? = some (a, .inr (ci, fs))) (hc : vwCl[ci]? = some (C, T, N)) (k : Nat) (hk : k < N) (hlink : (Cond.fieldLink own index ref (T k).2.1 (T k).2.2.1).before args s = true) (hsame : ∀ x, s.fieldFound? (T k).1 (T k).2.1 (T k).2.2.1 = some x → s.fieldFound? ref (T k).2.1 (T k).2.2.1 = some x) (hfin : (T k).2.2.2 = false) {x : Int32} (hd : parseFieldDescriptor (T k).2.2.1 = some .int) (hl : k < fs.length)
    {kc : SS → Option Rt} (hf : q_lt (su σ cid k x) kc = some r) (hset : (wf σ).set q0 (a, .inr (ci, fs.set k (.int x))) = wf (su σ cid k x)) (hdg : decode cc pc = .ok (.putfield index, 3))
    (kk : ∀ (σ' : SS) (H1 : Heap) (locs1 : List Loc), kc σ' = some r → va_P D vwCl (wf σ') H1 → va_D A (wf σ') → va_S A s.heap H1 locs1 → W p l e R s m args below meth c H1 locs1 cells slots Q (F0 m (pc + 3) ls rest)) : W p l e R s m args below meth c H locs cells slots Q (F0 m pc ls (.int x :: .ref a :: rest)) := by
  refine va_put hexec hb hts hin ty0 hty hnm hown hK hP hD hS q0 he hc k hk hlink hsame hfin hd rfl rfl hl hdg (fun H1 locs1 h1 h2 h3 => ?_)
  rw [hset] at h1 h2
  exact kk _ H1 locs1 hf h1 h2 h3
theorem w_putZ (hexec : p.tables.exec = Jvm.exec) (hb : c.code = cc) {own ref C : String} {T : u_T} {N ci index : Nat} {Ts : List Cond} (hts : ∀ w ∈ Ts, w.before args s = true) (hin : ∀ w ∈ u_ws C T N, w ∈ Ts) (ty0 : Nat → FieldType) (hty : ∀ k, k < N → parseFieldDescriptor (T k).2.2.1 = some (ty0 k)) (hnm : ∀ a, a < N → ∀ b, b < N → a ≠ b → (T a).2.1 ≠ (T b).2.1) (hown : s.vm.findClass own = some m.cls) (hK : va_K D vwCl tys s) (hP : va_P D vwCl (wf σ) H) (hD : va_D A (wf σ)) (hS : va_S A s.heap H locs) (q0 : Nat) {cid : Nat} {fs : List Value} (he : (wf σ)[q0]? = some (a, .inr (ci, fs))) (hc : vwCl[ci]? = some (C, T, N)) (k : Nat) (hk : k < N) (hlink : (Cond.fieldLink own index ref (T k).2.1 (T k).2.2.1).before args s = true) (hsame : ∀ x, s.fieldFound? (T k).1 (T k).2.1 (T k).2.2.1 = some x → s.fieldFound? ref (T k).2.1 (T k).2.2.1 = some x) (hfin : (T k).2.2.2 = false) {x : Int32} (hd : parseFieldDescriptor (T k).2.2.1 = some .boolean) (hl : k < fs.length)
    {kc : SS → Option Rt} (hf : q_zz x (q_lt (su σ cid k x) kc) = some r) (hset : (wf σ).set q0 (a, .inr (ci, fs.set k (.int x))) = wf (su σ cid k x)) (hdg : decode cc pc = .ok (.putfield index, 3))
    (kk : ∀ (σ' : SS) (H1 : Heap) (locs1 : List Loc), kc σ' = some r → va_P D vwCl (wf σ') H1 → va_D A (wf σ') → va_S A s.heap H1 locs1 → W p l e R s m args below meth c H1 locs1 cells slots Q (F0 m (pc + 3) ls rest)) : W p l e R s m args below meth c H locs cells slots Q (F0 m pc ls (.int x :: .ref a :: rest)) := by
  obtain ⟨hz, hf⟩ := q_zz_o hf
  refine va_put hexec hb hts hin ty0 hty hnm hown hK hP hD hS q0 he hc k hk hlink hsame hfin hd (q_zz_n hz).1 (q_zz_n hz).2 hl hdg (fun H1 locs1 h1 h2 h3 => ?_)
  rw [hset] at h1 h2
  exact kk _ H1 locs1 hf h1 h2 h3
theorem w_copy (hexec : p.tables.exec = Jvm.exec) (hb : c.code = cc) (hml : c.maxLocals = ls.size) {own : String} {index : Nat} (hown : s.vm.findClass own = some m.cls) (hlink : (Cond.methodLink own index arraycopyName).before args s = true) (hnat : (Cond.native arraycopyName).before args s = true) (hstat : (Cond.static arraycopyName).before args s = true) (hini : (Cond.initialized "java/lang/System").before args s = true)
    (hK : va_K D vwCl tys s) (hP : va_P D vwCl (wf σ) H) (hD : va_D A (wf σ)) (hS : va_S A s.heap H locs) (q0 q1 t0 : Nat) {a0 : Nat} {c0 : ClassId} {i0 i1 n0 n1 : Nat} (ha0 : (wf σ)[q0]? = some (a0, .inl (c0, n0, .inl (σ i0)))) (ha1 : (wf σ)[q1]? = some (a, .inl (c0, n1, .inl (σ i1)))) (ht0 : tys[t0]? = some (c0, .int))
    {sp dp n : Int32} {kc : SS → Option Rt} (hf : q_ac σ i0 n0 i1 n1 sp dp n kc = some r) (hset : ∀ g, (wf σ).set q1 (a, .inl (c0, n1, .inl g)) = wf (q_sc σ i1 g)) (hframes : 1 ≤ R.frames) (hlocals : (rest.map fun v => v.category).sum + (nativeFrameWords "java/lang/System" "arraycopy" 5 + 11) ≤ R.locals) (hdg : decode cc pc = .ok (.invokestatic index, 3))
    (kk : ∀ (σ' : SS) (H1 : Heap) (locs1 : List Loc), kc σ' = some r → va_P D vwCl (wf σ') H1 → va_D A (wf σ') → va_S A s.heap H1 locs1 → W p l e R s m args below meth c H1 locs1 cells slots Q (F0 m (pc + 3) ls rest)) : W p l e R s m args below meth c H locs cells slots Q (F0 m pc ls (.int n :: .int dp :: .ref a :: .int sp :: .ref a0 :: rest)) := by
  unfold q_ac at hf
  split at hf
  · rename_i hq
    obtain ⟨g1, g2, g3, g4, g5⟩ := hq
    have nl : ∀ {z : Int32}, 0 ≤ z.toInt → ¬ z < 0 := fun {z} h1 h2 => by
      have := Int32.lt_iff_toInt_lt.mp h2
      rw [show (0 : Int32).toInt = 0 from rfl] at this
      omega
    have nn : ∀ {z : Int32}, 0 ≤ z.toInt → ((z.toNatClampNeg : Nat) : Int) = z.toInt := fun {z} h1 => Int.toNat_of_nonneg h1
    have e1 := nn g1
    have e2 := nn g2
    have e3 := nn g3
    refine va_copyi hexec hb hml hown hlink hnat hstat hini hK hP hD hS q0 q1 t0 t0 (ty := .int) ha0 ha1 ht0 ht0 rfl (nl g1) (nl g2) (nl g3) (by omega) (by omega) (fun _ _ => rfl) hframes hlocals hdg (fun H1 locs1 h1 h2 h3 => ?_)
    rw [hset] at h1 h2
    exact kk _ H1 locs1 hf h1 h2 h3
  · cases hf
/-- behind a call -/
theorem q_coreI {w w' ws ws' : va_W} {is : List Nat} {ρ : Int32} {av : Array Value} (hr : va_Run p l e R s m args below meth c H locs cells slots 0 0 (F0 m pc ls st0) rest (va_Qi (fun r (_ : Unit) => r = ρ) (fun _ t => va_P D vwCl w' t.heap) (va_A w H.size) av) (va_A w H.size)) (hA : ∀ q, s.heap.size ≤ q → A q) (hP : va_P D vwCl ws H) (hD : va_D A ws) (hS : va_S A s.heap H locs) (hin : is.map (fun i => ws[i]?) = w.map some) {ps : List (Option Nat)} (hps : ps = (List.range ps.length).map (fun k => q_ix is k)) (hpl : ws.length ≤ ps.length) (hlen : is.length = w'.length) (hput : q_mix ws ps w' = ws') (had : ws'.map (fun q => q.1) = ws.map (fun q => q.1))
    (kk : ∀ (H1 : Heap) (locs1 : List Loc), va_P D vwCl ws' H1 → va_D A ws' → va_S A s.heap H1 locs1 → W p l e R s m args below meth c H1 locs1 cells slots Q (F0 m (pc + 3) ls (.int ρ :: rest))) : W p l e R s m args below meth c H locs cells slots Q (F0 m pc ls st0) := by
  have hF := va_free hD hS hA is hin
  refine va_calli hr hS (fun q _ h => hF q h) hF (fun r u t H1 locs1 ht hvm hw hB hz1 hk1 hS1 => ?_)
  rw [hw]
  rw [ht] at hB
  exact kk H1 locs1 (q_after hP hD hin hps hpl hlen hput hk1 hB) (q_D had hD) hS1
theorem q_coreV {w w' ws ws' : va_W} {is : List Nat} {av : Array Value} (hr : va_Run p l e R s m args below meth c H locs cells slots 0 0 (F0 m pc ls st0) rest (va_Qv (fun (_ : Unit) => True) (fun _ t => va_P D vwCl w' t.heap) (va_A w H.size) av) (va_A w H.size)) (hA : ∀ q, s.heap.size ≤ q → A q) (hP : va_P D vwCl ws H) (hD : va_D A ws) (hS : va_S A s.heap H locs) (hin : is.map (fun i => ws[i]?) = w.map some) {ps : List (Option Nat)} (hps : ps = (List.range ps.length).map (fun k => q_ix is k)) (hpl : ws.length ≤ ps.length) (hlen : is.length = w'.length) (hput : q_mix ws ps w' = ws') (had : ws'.map (fun q => q.1) = ws.map (fun q => q.1))
    (kk : ∀ (H1 : Heap) (locs1 : List Loc), va_P D vwCl ws' H1 → va_D A ws' → va_S A s.heap H1 locs1 → W p l e R s m args below meth c H1 locs1 cells slots Q (F0 m (pc + 3) ls rest)) : W p l e R s m args below meth c H locs cells slots Q (F0 m pc ls st0) := by
  have hF := va_free hD hS hA is hin
  refine va_callv hr hS (fun q _ h => hF q h) hF (fun u t H1 locs1 ht hvm hw hB hz1 hk1 hS1 => ?_)
  rw [ht] at hB
  exact kk H1 locs1 (q_after hP hD hin hps hpl hlen hput hk1 hB) (q_D had hD) hS1
theorem q_coreR {w ws : va_W} {is : List Nat} {ρ : Int32} {av : Array Value} (hr : va_Run p l e R s m args below meth c H locs cells slots 0 0 (F0 m pc ls st0) rest (va_Qi (fun r (_ : Unit) => r = ρ) (fun _ t => va_P D vwCl w t.heap) (va_A w H.size) av) (va_A w H.size)) (hA : ∀ q, s.heap.size ≤ q → A q) (hP : va_P D vwCl ws H) (hD : va_D A ws) (hS : va_S A s.heap H locs) (hin : is.map (fun i => ws[i]?) = w.map some)
    (kk : ∀ (H1 : Heap) (locs1 : List Loc), va_P D vwCl ws H1 → va_D A ws → va_S A s.heap H1 locs1 → W p l e R s m args below meth c H1 locs1 cells slots Q (F0 m (pc + 3) ls (.int ρ :: rest))) : W p l e R s m args below meth c H locs cells slots Q (F0 m pc ls st0) := by
  have hF := va_free hD hS hA is hin
  refine va_calli hr hS (fun q _ h => hF q h) hF (fun r u t H1 locs1 ht hvm hw hB hz1 hk1 hS1 => ?_)
  rw [hw]
  rw [ht] at hB
  exact kk H1 locs1 (q_afterR hP hD hin hk1 hB) hD hS1
variable {own C : String} {index maxL nL n ci : Nat} {y : MethodName} {bytes : ByteArray} {ret : Option FieldType} {wds Ts : List Cond} {rm : Room} {As : List Value} {b : Nat} {wc : SS → va_W} {σc : SS} {fs : List Value} {qc : vw_C}
theorem q_cVi {o : Option (Int32 × SS)} {emb : SS → SS} {k : Int32 → SS → Option Rt} (S : CallFix p m c cc nL s args Ts own) (hK : va_K D vwCl tys s) (hZ : ZK zz A s s.heap) (hA : ∀ q, s.heap.size ≤ q → A q) (hP : va_P D vwCl (wf σ) H) (hD : va_D A (wf σ)) (hS : va_S A s.heap H locs) (hf : q_ci o emb k = some r) (hC : ∀ (x : Int32) (τ : SS), o = some (x, τ) → CI l y wds rm D tys zz (.ref b :: As) (wc σc) (wc τ) x) (cw : CallW R s args own C index y bytes maxL ret wds rm 0 0 n) (is : List Nat) (hnd : va_nd is = true) (hin : is.map (fun i => (wf σ)[i]?) = (wc σc).map some) (ps : List (Option Nat)) (hps : ps = (List.range ps.length).map (fun k => q_ix is k)) (hpl : (wf σ).length ≤ ps.length) (hput : ∀ τ : SS, q_mix (wf σ) ps (wc τ) = wf (emb τ)) (hlen : ∀ τ : SS, is.length = (wc τ).length) (had : ∀ τ : SS, (wf (emb τ)).map (fun q => q.1) = (wf σ).map (fun q => q.1)) (he : (wc σc)[0]? = some (b, .inr (ci, fs))) (hc : vwCl[ci]? = some qc) (hqC : qc.1 = C) (hn : As.length = n) (hsize : ls.size = nL) (hst : st0 = As.reverse ++ .ref b :: rest) (hW : (rest.map fun v => v.category).sum ≤ 8) (hdg : decode cc pc = .ok (.invokevirtual index, 3)) (hroom : cells ≤ R.cells ∧ slots ≤ R.slots)
    (kk : ∀ (x : Int32) (σ' : SS) (H1 : Heap) (locs1 : List Loc), k x σ' = some r → va_P D vwCl (wf σ') H1 → va_D A (wf σ') → va_S A s.heap H1 locs1 → W p l e R s m args below meth c H1 locs1 cells slots Q (F0 m (pc + 3) ls (.int x :: rest))) : W p l e R s m args below meth c H locs cells slots Q (F0 m pc ls st0) := by
  obtain ⟨x, τ, ho, hf⟩ := q_ci_o hf
  subst hst
  refine q_coreI (va_runV S (hC x τ ho H.size) cw ⟨q_blind, by rw [← hqC]; exact va_recv hK (q_subP hP hin) hc he, fun U hU hW => ⟨rfl, q_preU hK hZ hA hP hD hS hnd hin U hU hW⟩⟩ rfl hn hsize rfl (lv_room hW) hdg hroom) hA hP hD hS hin hps hpl (hlen τ) (hput τ) (had τ) (fun H1 locs1 h1 h2 h3 => kk x _ H1 locs1 hf h1 h2 h3)
theorem q_cVr {o : Option Int32} {k : Int32 → Option Rt} (S : CallFix p m c cc nL s args Ts own) (hK : va_K D vwCl tys s) (hZ : ZK zz A s s.heap) (hA : ∀ q, s.heap.size ≤ q → A q) (hP : va_P D vwCl (wf σ) H) (hD : va_D A (wf σ)) (hS : va_S A s.heap H locs) (hf : q_cr o k = some r) (hC : ∀ (x : Int32), o = some x → CI l y wds rm D tys zz (.ref b :: As) (wc σc) (wc σc) x) (cw : CallW R s args own C index y bytes maxL ret wds rm 0 0 n) (is : List Nat) (hnd : va_nd is = true) (hin : is.map (fun i => (wf σ)[i]?) = (wc σc).map some) (he : (wc σc)[0]? = some (b, .inr (ci, fs))) (hc : vwCl[ci]? = some qc) (hqC : qc.1 = C) (hn : As.length = n) (hsize : ls.size = nL) (hst : st0 = As.reverse ++ .ref b :: rest) (hW : (rest.map fun v => v.category).sum ≤ 8) (hdg : decode cc pc = .ok (.invokevirtual index, 3)) (hroom : cells ≤ R.cells ∧ slots ≤ R.slots)
    (kk : ∀ (x : Int32) (H1 : Heap) (locs1 : List Loc), k x = some r → va_P D vwCl (wf σ) H1 → va_D A (wf σ) → va_S A s.heap H1 locs1 → W p l e R s m args below meth c H1 locs1 cells slots Q (F0 m (pc + 3) ls (.int x :: rest))) : W p l e R s m args below meth c H locs cells slots Q (F0 m pc ls st0) := by
  obtain ⟨x, ho, hf⟩ := q_cr_o hf
  subst hst
  refine q_coreR (va_runV S (hC x ho H.size) cw ⟨q_blind, by rw [← hqC]; exact va_recv hK (q_subP hP hin) hc he, fun U hU hW => ⟨rfl, q_preU hK hZ hA hP hD hS hnd hin U hU hW⟩⟩ rfl hn hsize rfl (lv_room hW) hdg hroom) hA hP hD hS hin (fun H1 locs1 h1 h2 h3 => kk x H1 locs1 hf h1 h2 h3)
theorem q_cVv {o : Option SS} {emb : SS → SS} {k : SS → Option Rt} (S : CallFix p m c cc nL s args Ts own) (hK : va_K D vwCl tys s) (hZ : ZK zz A s s.heap) (hA : ∀ q, s.heap.size ≤ q → A q) (hP : va_P D vwCl (wf σ) H) (hD : va_D A (wf σ)) (hS : va_S A s.heap H locs) (hf : q_cs o emb k = some r) (hC : ∀ (τ : SS), o = some τ → CV l y wds rm D tys zz (.ref b :: As) (wc σc) (wc τ)) (cw : CallW R s args own C index y bytes maxL ret wds rm 0 0 n) (is : List Nat) (hnd : va_nd is = true) (hin : is.map (fun i => (wf σ)[i]?) = (wc σc).map some) (ps : List (Option Nat)) (hps : ps = (List.range ps.length).map (fun k => q_ix is k)) (hpl : (wf σ).length ≤ ps.length) (hput : ∀ τ : SS, q_mix (wf σ) ps (wc τ) = wf (emb τ)) (hlen : ∀ τ : SS, is.length = (wc τ).length) (had : ∀ τ : SS, (wf (emb τ)).map (fun q => q.1) = (wf σ).map (fun q => q.1)) (he : (wc σc)[0]? = some (b, .inr (ci, fs))) (hc : vwCl[ci]? = some qc) (hqC : qc.1 = C) (hn : As.length = n) (hsize : ls.size = nL) (hst : st0 = As.reverse ++ .ref b :: rest) (hW : (rest.map fun v => v.category).sum ≤ 8) (hdg : decode cc pc = .ok (.invokevirtual index, 3)) (hroom : cells ≤ R.cells ∧ slots ≤ R.slots)
    (kk : ∀ (σ' : SS) (H1 : Heap) (locs1 : List Loc), k σ' = some r → va_P D vwCl (wf σ') H1 → va_D A (wf σ') → va_S A s.heap H1 locs1 → W p l e R s m args below meth c H1 locs1 cells slots Q (F0 m (pc + 3) ls rest)) : W p l e R s m args below meth c H locs cells slots Q (F0 m pc ls st0) := by
  obtain ⟨τ, ho, hf⟩ := q_cs_o hf
  subst hst
  refine q_coreV (va_runV S (hC τ ho H.size) cw ⟨q_blind, by rw [← hqC]; exact va_recv hK (q_subP hP hin) hc he, fun U hU hW => ⟨rfl, q_preU hK hZ hA hP hD hS hnd hin U hU hW⟩⟩ rfl hn hsize rfl (lv_room hW) hdg hroom) hA hP hD hS hin hps hpl (hlen τ) (hput τ) (had τ) (fun H1 locs1 h1 h2 h3 => kk _ H1 locs1 hf h1 h2 h3)
theorem q_cSr {o : Option Int32} {k : Int32 → Option Rt} (S : CallFix p m c cc nL s args Ts own) (hK : va_K D vwCl tys s) (hZ : ZK zz A s s.heap) (hA : ∀ q, s.heap.size ≤ q → A q) (hP : va_P D vwCl (wf σ) H) (hD : va_D A (wf σ)) (hS : va_S A s.heap H locs) (hf : q_cr o k = some r) (hC : ∀ (x : Int32), o = some x → CI l y wds rm D tys zz As [] [] x) (cw : CallB R s args own index y bytes maxL ret wds rm 0 0 n ∧ (Cond.static y).before args s = true) (hn : As.length = n) (hsize : ls.size = nL) (hst : st0 = As.reverse ++ rest) (hW : (rest.map fun v => v.category).sum ≤ 8) (hdg : decode cc pc = .ok (.invokestatic index, 3)) (hroom : cells ≤ R.cells ∧ slots ≤ R.slots)
    (kk : ∀ (x : Int32) (H1 : Heap) (locs1 : List Loc), k x = some r → va_P D vwCl (wf σ) H1 → va_D A (wf σ) → va_S A s.heap H1 locs1 → W p l e R s m args below meth c H1 locs1 cells slots Q (F0 m (pc + 3) ls (.int x :: rest))) : W p l e R s m args below meth c H locs cells slots Q (F0 m pc ls st0) := by
  obtain ⟨x, ho, hf⟩ := q_cr_o hf
  subst hst
  have hin : ([] : List Nat).map (fun i => (wf σ)[i]?) = ([] : va_W).map some := rfl
  refine q_coreR (va_runS S (hC x ho H.size) cw ⟨q_blind, fun U hU hW => ⟨rfl, q_preU hK hZ hA hP hD hS rfl hin U hU hW⟩⟩ rfl hn hsize rfl (lv_room hW) hdg hroom) hA hP hD hS hin (fun H1 locs1 h1 h2 h3 => kk x H1 locs1 hf h1 h2 h3)
theorem q_cNr {host : String} {o : Option Int32} {k : Int32 → Option Rt} (S : CallFix p m c cc nL s args Ts own) (hK : va_K D vwCl tys s) (hZ : ZK zz A s s.heap) (hA : ∀ q, s.heap.size ≤ q → A q) (hP : va_P D vwCl (wf σ) H) (hD : va_D A (wf σ)) (hS : va_S A s.heap H locs) (hf : q_cr o k = some r) (hC : ∀ (x : Int32), o = some x → CI l y wds rm D tys zz As [] [] x) (cw : va_CN R s args own index y host bytes maxL ret wds rm 0 0 n ∧ (Cond.static y).before args s = true ∧ True) (hn : As.length = n) (hsize : ls.size = nL) (hst : st0 = As.reverse ++ rest) (hW : (rest.map fun v => v.category).sum ≤ 8) (hdg : decode cc pc = .ok (.invokestatic index, 3)) (hroom : cells ≤ R.cells ∧ slots ≤ R.slots)
    (kk : ∀ (x : Int32) (H1 : Heap) (locs1 : List Loc), k x = some r → va_P D vwCl (wf σ) H1 → va_D A (wf σ) → va_S A s.heap H1 locs1 → W p l e R s m args below meth c H1 locs1 cells slots Q (F0 m (pc + 3) ls (.int x :: rest))) : W p l e R s m args below meth c H locs cells slots Q (F0 m pc ls st0) := by
  obtain ⟨x, ho, hf⟩ := q_cr_o hf
  subst hst
  have hin : ([] : List Nat).map (fun i => (wf σ)[i]?) = ([] : va_W).map some := rfl
  refine q_coreR (va_runSN S (hC x ho H.size) cw ⟨q_blind, fun U hU hW => ⟨rfl, q_preU hK hZ hA hP hD hS rfl hin U hU hW⟩⟩ rfl hn hsize rfl (lv_room hW) hdg hroom) hA hP hD hS hin (fun H1 locs1 h1 h2 h3 => kk x H1 locs1 hf h1 h2 h3)
theorem q_cSv {o : Option SS} {emb : SS → SS} {k : SS → Option Rt} (S : CallFix p m c cc nL s args Ts own) (hK : va_K D vwCl tys s) (hZ : ZK zz A s s.heap) (hA : ∀ q, s.heap.size ≤ q → A q) (hP : va_P D vwCl (wf σ) H) (hD : va_D A (wf σ)) (hS : va_S A s.heap H locs) (hf : q_cs o emb k = some r) (hC : ∀ (τ : SS), o = some τ → CV l y wds rm D tys zz As (wc σc) (wc τ)) (cw : CallB R s args own index y bytes maxL ret wds rm 0 0 n ∧ (Cond.static y).before args s = true) (is : List Nat) (hnd : va_nd is = true) (hin : is.map (fun i => (wf σ)[i]?) = (wc σc).map some) (ps : List (Option Nat)) (hps : ps = (List.range ps.length).map (fun k => q_ix is k)) (hpl : (wf σ).length ≤ ps.length) (hput : ∀ τ : SS, q_mix (wf σ) ps (wc τ) = wf (emb τ)) (hlen : ∀ τ : SS, is.length = (wc τ).length) (had : ∀ τ : SS, (wf (emb τ)).map (fun q => q.1) = (wf σ).map (fun q => q.1)) (hn : As.length = n) (hsize : ls.size = nL) (hst : st0 = As.reverse ++ rest) (hW : (rest.map fun v => v.category).sum ≤ 8) (hdg : decode cc pc = .ok (.invokestatic index, 3)) (hroom : cells ≤ R.cells ∧ slots ≤ R.slots)
    (kk : ∀ (σ' : SS) (H1 : Heap) (locs1 : List Loc), k σ' = some r → va_P D vwCl (wf σ') H1 → va_D A (wf σ') → va_S A s.heap H1 locs1 → W p l e R s m args below meth c H1 locs1 cells slots Q (F0 m (pc + 3) ls rest)) : W p l e R s m args below meth c H locs cells slots Q (F0 m pc ls st0) := by
  obtain ⟨τ, ho, hf⟩ := q_cs_o hf
  subst hst
  refine q_coreV (va_runS S (hC τ ho H.size) cw ⟨q_blind, fun U hU hW => ⟨rfl, q_preU hK hZ hA hP hD hS hnd hin U hU hW⟩⟩ rfl hn hsize rfl (lv_room hW) hdg hroom) hA hP hD hS hin hps hpl (hlen τ) (hput τ) (had τ) (fun H1 locs1 h1 h2 h3 => kk _ H1 locs1 hf h1 h2 h3)
end QR
/-! ===== switches ===== -/
theorem q_ne {x k : Int32} {z : Int} (h : ¬ x = k) (hz : k.toInt = z) : x.toInt ≠ z := fun h1 => h (Int32.toInt_inj.mp (by rw [h1, hz]))
abbrev K3 (cI cZ cS : ClassId) : List (ClassId × FieldType) := [(cI, .int), (cZ, .boolean), (cS, .object RX6)]
def q_s0 : SS := fun _ _ => 0
theorem q_no {R : Type} {r : R} {G : Prop} (h : (none : Option R) = some r) : G := by cases h
theorem q_lt_at {α R : Type} {x y : α} {k : α → Option R} {r : R} (e : y = x) (h : q_lt x k = some r) : k y = some r := by
  subst e
  exact h
