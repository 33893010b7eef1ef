/-! ===== texts: String.length, String.charAt of the constants, by hand ===== -/
def k_ln (t : Nat) : Int32 := Int32.ofNat (k_len.getD t 0)
def k_ch (t : Nat) : Nat → Int32 := fun j => (k_byt.getD t []).getD j 0
def q_wd (x : Int32) : Nat := if x = 0 then 0 else if x = 1 then 1 else if x = 2 then 2 else if x = 3 then 3 else if x = 4 then 4 else 5
theorem k_ch_c : ∀ t, t < 10 → ∀ j, j < k_len.getD t 0 → ((k_ch t j &&& 255).toUInt32 % 65536).toInt32 = k_ch t j := by decide +kernel
section QT
variable {p : Program} {l : Launch} {e : Env} {R : Room} {s : State} {m : MethodId} {args : Array Value} {below : List Frame} {meth : Method} {c : Code} {H : Heap} {locs : List Loc} {cells slots : Nat} {Q : State → Prop}
variable {cc : ByteArray} {pc : Nat} {ls : Array Slot} {rest st0 : List Value} {D : va_G} {tys : List (ClassId × FieldType)} {A : Nat → Prop} {a : Nat} {Rt : Type} {r : Rt} {wf : SS → va_W} {σ : SS} {zz : ZT}
variable {own C : String} {index maxL nL n : Nat} {y : MethodName} {bytes : ByteArray} {ret : Option FieldType} {wds Ts : List Cond} {rm : Room} {As : List Value} {b : Nat} {ρ : Int32}
theorem q_cT (S : CallFix p m c cc nL s args Ts own) (hK : va_K D vwCl tys s) (hZ : ZK zz A s s.heap) (hA : ∀ q, s.heap.size ≤ q → A q) (hP : va_P D vwCl (wf σ) H) (hD : va_D A (wf σ)) (hS : va_S A s.heap H locs) (hC : CI l y wds rm D tys zz (.ref b :: As) [] [] ρ) (cw : CallW R s args own C index y bytes maxL ret wds rm 0 0 n) (hrecv : ∃ cell : Cell, H[b]? = some cell ∧ cell.vm.isStatics = false ∧ s.vm.findClass C = some cell.cls) (hn : As.length = n) (hsize : ls.size = nL) (hst : st0 = As.reverse ++ .ref b :: rest) (hW : (rest.map fun v => v.category).sum ≤ 8) (hdg : decode cc pc = .ok (.invokevirtual index, 3)) (hroom : cells ≤ R.cells ∧ slots ≤ R.slots)
    (kk : ∀ (H1 : Heap) (locs1 : List Loc), va_P D vwCl (wf σ) H1 → va_D A (wf σ) → va_S A s.heap H1 locs1 → W p l e R s m args below meth c H1 locs1 cells slots Q (F0 m (pc + 3) ls (.int ρ :: rest))) : W p l e R s m args below meth c H locs cells slots Q (F0 m pc ls st0) := by
  subst hst
  have hin : ([] : List Nat).map (fun i => (wf σ)[i]?) = ([] : va_W).map some := rfl
  exact q_coreR (va_runV S (hC H.size) cw ⟨q_blind, hrecv, fun U hU hW => ⟨rfl, q_preU hK hZ hA hP hD hS rfl hin U hU hW⟩⟩ rfl hn hsize rfl (lv_room hW) hdg hroom) hA hP hD hS hin kk
theorem q_cU (S : CallFix p m c cc nL s args Ts own) (hK : va_K D vwCl tys s) (hZ : ZK zz A s s.heap) (hA : ∀ q, s.heap.size ≤ q → A q) (hP : va_P D vwCl (wf σ) H) (hD : va_D A (wf σ)) (hS : va_S A s.heap H locs) (hC : CI l y wds rm D tys zz As [] [] ρ) (cw : CallB R s args own index y bytes maxL ret wds rm 0 0 n ∧ (Cond.static y).before args s = true) (hn : As.length = n) (hsize : ls.size = nL) (hst : st0 = As.reverse ++ rest) (hW : (rest.map fun v => v.category).sum ≤ 8) (hdg : decode cc pc = .ok (.invokestatic index, 3)) (hroom : cells ≤ R.cells ∧ slots ≤ R.slots)
    (kk : ∀ (H1 : Heap) (locs1 : List Loc), va_P D vwCl (wf σ) H1 → va_D A (wf σ) → va_S A s.heap H1 locs1 → W p l e R s m args below meth c H1 locs1 cells slots Q (F0 m (pc + 3) ls (.int ρ :: rest))) : W p l e R s m args below meth c H locs cells slots Q (F0 m pc ls st0) := by
  subst hst
  have hin : ([] : List Nat).map (fun i => (wf σ)[i]?) = ([] : va_W).map some := rfl
  exact q_coreR (va_runS S (hC H.size) cw ⟨q_blind, fun U hU hW => ⟨rfl, q_preU hK hZ hA hP hD hS rfl hin U hU hW⟩⟩ rfl hn hsize rfl (lv_room hW) hdg hroom) hA hP hD hS hin kk
theorem q_cUv (S : CallFix p m c cc nL s args Ts own) (hK : va_K D vwCl tys s) (hZ : ZK zz A s s.heap) (hA : ∀ q, s.heap.size ≤ q → A q) (hP : va_P D vwCl (wf σ) H) (hD : va_D A (wf σ)) (hS : va_S A s.heap H locs) (hC : CV l y wds rm D tys zz As [] []) (cw : CallB R s args own index y bytes maxL ret wds rm 0 0 n ∧ (Cond.static y).before args s = true) (hn : As.length = n) (hsize : ls.size = nL) (hst : st0 = As.reverse ++ rest) (hW : (rest.map fun v => v.category).sum ≤ 8) (hdg : decode cc pc = .ok (.invokestatic index, 3)) (hroom : cells ≤ R.cells ∧ slots ≤ R.slots)
    (kk : ∀ (H1 : Heap) (locs1 : List Loc), va_P D vwCl (wf σ) H1 → va_D A (wf σ) → va_S A s.heap H1 locs1 → W p l e R s m args below meth c H1 locs1 cells slots Q (F0 m (pc + 3) ls rest)) : W p l e R s m args below meth c H locs cells slots Q (F0 m pc ls st0) := by
  subst hst
  have hin : ([] : List Nat).map (fun i => (wf σ)[i]?) = ([] : va_W).map some := rfl
  have hF := va_free hD hS hA [] hin
  refine va_callv (va_runS S (hC H.size) cw ⟨q_blind, fun U hU hW => ⟨rfl, q_preU hK hZ hA hP hD hS rfl hin U hU hW⟩⟩ rfl hn hsize rfl (lv_room hW) hdg hroom) hS (fun q _ h => hF q h) hF (fun u t H1 locs1 ht hvm hw hB hz1 hk1 hS1 => ?_)
  rw [ht] at hB
  exact kk H1 locs1 (q_afterR hP hD hin hk1 hB) hD hS1
def CR (l : Launch) (y : MethodName) (wds : List Cond) (rm : Room) (D : va_G) (tys : List (ClassId × FieldType)) (zz : ZT) (av : List Value) (ra : Nat) : Prop := ∀ sz : Nat, Met l y wds rm (va_Pc av (q_pre D tys zz [] sz)) (va_Qr (fun (_ : Unit) => True) (fun _ q t => q = ra ∧ va_P D vwCl [] t.heap) (va_A [] sz)) 0 0 (va_A [] sz)
theorem q_cW {ra : Nat} (S : CallFix p m c cc nL s args Ts own) (hK : va_K D vwCl tys s) (hZ : ZK zz A s s.heap) (hA : ∀ q, s.heap.size ≤ q → A q) (hP : va_P D vwCl (wf σ) H) (hD : va_D A (wf σ)) (hS : va_S A s.heap H locs) (hC : CR l y wds rm D tys zz As ra) (cw : CallB R s args own index y bytes maxL ret wds rm 0 0 n ∧ (Cond.static y).before args s = true) (hn : As.length = n) (hsize : ls.size = nL) (hst : st0 = As.reverse ++ rest) (hW : (rest.map fun v => v.category).sum ≤ 8) (hdg : decode cc pc = .ok (.invokestatic index, 3)) (hroom : cells ≤ R.cells ∧ slots ≤ R.slots)
    (kk : ∀ (H1 : Heap) (locs1 : List Loc), va_P D vwCl (wf σ) H1 → va_D A (wf σ) → va_S A s.heap H1 locs1 → W p l e R s m args below meth c H1 locs1 cells slots Q (F0 m (pc + 3) ls (.ref ra :: rest))) : W p l e R s m args below meth c H locs cells slots Q (F0 m pc ls st0) := by
  subst hst
  have hin : ([] : List Nat).map (fun i => (wf σ)[i]?) = ([] : va_W).map some := rfl
  have hF := va_free hD hS hA [] hin
  refine va_callr (va_runS S (hC H.size) cw ⟨q_blind, fun U hU hW => ⟨rfl, q_preU hK hZ hA hP hD hS rfl hin U hU hW⟩⟩ rfl hn hsize rfl (lv_room hW) hdg hroom) hS (fun q _ h => hF q h) hF (fun u q t H1 locs1 ht hvm hw hB hz1 hk1 hS1 => ?_)
  obtain ⟨hq, hB⟩ := hB
  rw [ht] at hB
  rw [hq]
  exact kk H1 locs1 (q_afterR hP hD hin hk1 hB) hD hS1
theorem q_cTc {k : Int32 → Option Rt} {t N : Nat} {i : Int32} (S : CallFix p m c cc nL s args Ts own) (hK : va_K D vwCl tys s) (hZ : ZK zz A s s.heap) (hA : ∀ q, s.heap.size ≤ q → A q) (hP : va_P D vwCl (wf σ) H) (hD : va_D A (wf σ)) (hS : va_S A s.heap H locs) (hf : q_rd (k_ch t) N i k = some r) (hC : vp_in i N → CI l y wds rm D tys zz (.ref b :: As) [] [] (k_ch t i.toNatClampNeg)) (cw : CallW R s args own C index y bytes maxL ret wds rm 0 0 n) (hrecv : ∃ cell : Cell, H[b]? = some cell ∧ cell.vm.isStatics = false ∧ s.vm.findClass C = some cell.cls) (hn : As.length = n) (hsize : ls.size = nL) (hst : st0 = As.reverse ++ .ref b :: rest) (hW : (rest.map fun v => v.category).sum ≤ 8) (hdg : decode cc pc = .ok (.invokevirtual index, 3)) (hroom : cells ≤ R.cells ∧ slots ≤ R.slots)
    (kk : ∀ (x : Int32) (H1 : Heap) (locs1 : List Loc), k x = some r → va_P D vwCl (wf σ) H1 → va_D A (wf σ) → va_S A s.heap H1 locs1 → W p l e R s m args below meth c H1 locs1 cells slots Q (F0 m (pc + 3) ls (.int x :: rest))) : W p l e R s m args below meth c H locs cells slots Q (F0 m pc ls st0) :=
  q_cT S hK hZ hA hP hD hS (hC (q_rd_o hf).1) cw hrecv hn hsize hst hW hdg hroom (fun H1 locs1 h1 h2 h3 => kk _ H1 locs1 (q_rd_o hf).2 h1 h2 h3)
end QT
abbrev rmJa : Room := { frames := 0, cells := 0, slots := 0, locals := 0 }
abbrev rmJb : Room := { frames := 1, cells := 0, slots := 0, locals := 30 }
abbrev rmJc : Room := { frames := 2, cells := 0, slots := 0, locals := 60 }
abbrev rmJd : Room := { frames := 3, cells := 0, slots := 0, locals := 90 }
set_option maxRecDepth 100000 in
theorem kJ0_coder (l : Launch) (D : va_G) (cI cZ cS : ClassId) (zz : ZT) (t : Nat) (ht : t < 10) : CI l yJ0_coder_7d493 wsJ0_coder_7d493 rmJa D (K3 cI cZ cS) zz [.ref (zz.2.1 t)] [] [] 0 := by
  refine q_ofI (cc := cJ0_coder_7d493) (maxL := 1) (ty := .byte) (by decide) rfl (Nat.le_of_ble_eq_true rfl) ?_
  intro p e s m below meth c Q A ls hx hb hml hown hts hK hZ hA hP hD hS hl hret
  have hl : lv_has ls 1 [(0, .ref (zz.2.1 t))] := hl
  have hE := hZ.2.2.2.2.2.2.1.1 t ht
  refine va_gets hx hb hZ.2.2.2.2.2.2.2.2.1 hS hown (hts _ (List.mem_of_getElem? (i := 1) rfl)) (fun _ h9 => h9) dJ0_coder_7d493_0 ?_
  refine lv_if_eq (tgt := 13) hx hb dJ0_coder_7d493_3 (by decide) (fun h => absurd h (by decide)) (fun _ => ?_)
  refine lv_aload_n hx hb dJ0_coder_7d493_6 rfl (lv_at hl 0 rfl) ?_
  refine vk_getf hx hb hE.2.1 hS hown (hts _ (List.mem_of_getElem? (i := 2) rfl)) (fun _ h9 => h9) dJ0_coder_7d493_7 ?_
  refine lv_goto (tgt := 14) hx hb dJ0_coder_7d493_10 (by decide) ?_
  exact hret _ _ _ _ dJ0_coder_7d493_14 rfl hP hS
set_option maxRecDepth 100000 in
theorem kJ0_isLatin1 (l : Launch) (D : va_G) (cI cZ cS : ClassId) (zz : ZT) (t : Nat) (ht : t < 10) : CI l yJ0_isLatin1_aae02 wsJ0_isLatin1_aae02 rmJa D (K3 cI cZ cS) zz [.ref (zz.2.1 t)] [] [] 1 := by
  refine q_ofI (cc := cJ0_isLatin1_aae02) (maxL := 1) (ty := .boolean) (by decide) rfl (Nat.le_of_ble_eq_true rfl) ?_
  intro p e s m below meth c Q A ls hx hb hml hown hts hK hZ hA hP hD hS hl hret
  have hl : lv_has ls 1 [(0, .ref (zz.2.1 t))] := hl
  have hE := hZ.2.2.2.2.2.2.1.1 t ht
  refine va_gets hx hb hZ.2.2.2.2.2.2.2.2.1 hS hown (hts _ (List.mem_of_getElem? (i := 1) rfl)) (fun _ h9 => h9) dJ0_isLatin1_aae02_0 ?_
  refine lv_if_eq (tgt := 17) hx hb dJ0_isLatin1_aae02_3 (by decide) (fun h => absurd h (by decide)) (fun _ => ?_)
  refine lv_aload_n hx hb dJ0_isLatin1_aae02_6 rfl (lv_at hl 0 rfl) ?_
  refine vk_getf hx hb hE.2.1 hS hown (hts _ (List.mem_of_getElem? (i := 2) rfl)) (fun _ h9 => h9) dJ0_isLatin1_aae02_7 ?_
  refine lv_if_ne (tgt := 17) hx hb dJ0_isLatin1_aae02_10 (by decide) (fun h => absurd rfl h) (fun _ => ?_)
  refine lv_iconst (v := 1) hx hb dJ0_isLatin1_aae02_13 (by decide) ?_
  refine lv_goto (tgt := 18) hx hb dJ0_isLatin1_aae02_14 (by decide) ?_
  exact hret _ _ _ _ dJ0_isLatin1_aae02_18 rfl hP hS
set_option maxRecDepth 100000 in
theorem kJ0_length (l : Launch) (D : va_G) (cI cZ cS : ClassId) (zz : ZT) (t : Nat) (ht : t < 10) : CI l yJ0_length_8abf5 wsJ0_length_8abf5 rmJb D (K3 cI cZ cS) zz [.ref (zz.2.1 t)] [] [] (k_ln t) := by
  refine q_ofI (cc := cJ0_length_8abf5) (maxL := 1) (ty := .int) (by decide) rfl (Nat.le_of_ble_eq_true rfl) ?_
  intro p e s m below meth c Q A ls hx hb hml hown hts hK hZ hA hP hD hS hl hret
  have hl : lv_has ls 1 [(0, .ref (zz.2.1 t))] := hl
  have hE := hZ.2.2.2.2.2.2.1.1 t ht
  refine lv_aload_n hx hb dJ0_length_8abf5_0 rfl (lv_at hl 0 rfl) ?_
  refine vk_getf hx hb hE.2.2.1 hS hown (hts _ (List.mem_of_getElem? (i := 1) rfl)) (fun _ h9 => h9) dJ0_length_8abf5_1 ?_
  refine va_tlen (v := k_ln t) hx hb hE.2.2.2 hS rfl dJ0_length_8abf5_4 ?_
  refine lv_aload_n hx hb dJ0_length_8abf5_5 rfl (lv_at hl 0 rfl) ?_
  refine q_cT (wf := fun _ => []) (σ := q_s0) (rest := [.int (k_ln t)]) ⟨hx, hb, hml, hown, hts⟩ hK hZ hA hP hD hS (kJ0_coder l D cI cZ cS zz t ht) (cwV 0 hts gJ0_length_8abf5_J0_coder_7d493 rfl rfl rfl (by decide +kernel) ⟨Nat.le_of_ble_eq_true rfl, Nat.le_of_ble_eq_true rfl⟩) (vk_recv hZ.2.2.2.2.2.2.1 ht hS) rfl (hl.1) rfl (Nat.le_of_ble_eq_true rfl) dJ0_length_8abf5_6 ⟨Nat.zero_le _, Nat.zero_le _⟩ (fun H locs hP hD hS => ?_)
  refine lv_ishr hx hb dJ0_length_8abf5_9 ?_
  refine W.eq (g2 := F0 m 10 ls [.int (k_ln t)]) (by rw [sb_shr0]) ?_
  exact hret _ _ _ _ dJ0_length_8abf5_10 rfl hP hS
set_option maxRecDepth 100000 in
theorem kJ3_checkIndex (l : Launch) (D : va_G) (cI cZ cS : ClassId) (zz : ZT) (i n : Int32) (v : Value) (hv : v = .null ∨ ∃ t, v = .ref t) (h0 : ¬ i < 0) (h1 : i < n) : CI l yJ3_checkIndex_8e157 wsJ3_checkIndex_8e157 rmJa D (K3 cI cZ cS) zz [.int i, .int n, v] [] [] i := by
  have hlv : (lg_sl [.int i, .int n, v]).length ≤ 3 := by rcases hv with rfl | ⟨t, rfl⟩ <;> exact Nat.le_of_ble_eq_true rfl
  refine q_ofI (cc := cJ3_checkIndex_8e157) (maxL := 3) (ty := .int) (by decide) rfl hlv ?_
  intro p e s m below meth c Q A ls hx hb hml hown hts hK hZ hA hP hD hS hl hret
  have hl : lv_has ls 3 [(0, .int i), (1, .int n)] := by rcases hv with rfl | ⟨t, rfl⟩ <;> exact lv_sub hl [0, 1] rfl
  refine lv_iload_n hx hb dJ3_checkIndex_8e157_0 rfl (lv_at hl 0 rfl) ?_
  refine lv_if_lt (tgt := 9) hx hb dJ3_checkIndex_8e157_1 (by decide) (fun h => absurd h h0) (fun _ => ?_)
  refine lv_iload_n hx hb dJ3_checkIndex_8e157_4 rfl (lv_at hl 0 rfl) ?_
  refine lv_iload_n hx hb dJ3_checkIndex_8e157_5 rfl (lv_at hl 1 rfl) ?_
  refine lv_icmp_lt (tgt := 16) hx hb dJ3_checkIndex_8e157_6 (by decide) (fun _ => ?_) (fun h => absurd h1 h)
  refine lv_iload_n hx hb dJ3_checkIndex_8e157_16 rfl (lv_at hl 0 rfl) ?_
  exact hret _ _ _ _ dJ3_checkIndex_8e157_17 rfl hP hS
set_option maxRecDepth 100000 in
theorem kJ0_checkIndex (l : Launch) (D : va_G) (cI cZ cS : ClassId) (zz : ZT) (i n : Int32) (h0 : ¬ i < 0) (h1 : i < n) : CV l yJ0_checkIndex_df160 wsJ0_checkIndex_df160 rmJb D (K3 cI cZ cS) zz [.int i, .int n] [] [] := by
  refine q_ofV (cc := cJ0_checkIndex_df160) (maxL := 2) (by decide) rfl (Nat.le_of_ble_eq_true rfl) ?_
  intro p e s m below meth c Q A ls hx hb hml hown hts hK hZ hA hP hD hS hl hret
  have hl : lv_has ls 2 [(0, .int i), (1, .int n)] := hl
  refine lv_iload_n hx hb dJ0_checkIndex_df160_0 rfl (lv_at hl 0 rfl) ?_
  refine lv_iload_n hx hb dJ0_checkIndex_df160_1 rfl (lv_at hl 1 rfl) ?_
  have fin : ∀ (v : Value), (v = .null ∨ ∃ t, v = .ref t) → W p l e rmJb s m ([.int i, .int n] : List Value).toArray below meth c s.heap [] 0 0 Q (F0 m 5 ls [v, .int n, .int i]) := fun v hv => by
    refine q_cU (wf := fun _ => []) (σ := q_s0) (rest := []) ⟨hx, hb, hml, hown, hts⟩ hK hZ hA hP hD hS (kJ3_checkIndex l D cI cZ cS zz i n v hv h0 h1) (va_cwS 3 hts gJ0_checkIndex_df160_J3_checkIndex_8e157 rfl rfl rfl (by decide +kernel) ⟨Nat.le_of_ble_eq_true rfl, Nat.le_of_ble_eq_true rfl⟩) rfl (hl.1) rfl (Nat.le_of_ble_eq_true rfl) dJ0_checkIndex_df160_5 ⟨Nat.zero_le _, Nat.zero_le _⟩ (fun H locs hP hD hS => ?_)
    refine lv_pop hx hb dJ0_checkIndex_df160_8 rfl ?_
    exact hret _ _ _ _ dJ0_checkIndex_df160_9 hP hS
  rcases hZ.2.2.2.2.2.2.2.2.2 with hq | ⟨t, hq⟩
  · refine va_gets hx hb hq hS hown (hts _ (List.mem_of_getElem? (i := 1) rfl)) (fun _ h9 => h9) dJ0_checkIndex_df160_2 ?_
    exact fin _ (Or.inl rfl)
  · refine va_gets hx hb hq hS hown (hts _ (List.mem_of_getElem? (i := 1) rfl)) (fun _ h9 => h9) dJ0_checkIndex_df160_2 ?_
    exact fin _ (Or.inr ⟨t, rfl⟩)
theorem k_len_lt : ∀ t, t < 10 → k_len.getD t 0 < 8 := by decide +kernel
theorem k_in_lt {t : Nat} {i : Int32} (ht : t < 10) (h : vp_in i (k_len.getD t 0)) : ¬ i < 0 ∧ i < k_ln t := by
  have h2 := vp_in_iff.mp h
  have h3 := k_len_lt t ht
  refine ⟨fun h4 => ?_, ?_⟩
  · have h5 := Int32.lt_iff_toInt_lt.mp h4
    rw [show (0 : Int32).toInt = 0 from rfl] at h5
    omega
  · refine Int32.lt_iff_toInt_lt.mpr ?_
    have h5 : (k_ln t).toInt = (k_len.getD t 0 : Int) := nI_toInt (show k_len.getD t 0 < 2 ^ 31 by omega)
    rw [h5]
    exact h2.2
set_option maxRecDepth 100000 in
theorem kJ1_charAt (l : Launch) (D : va_G) (cI cZ cS : ClassId) (zz : ZT) (t : Nat) (ht : t < 10) (i : Int32) (hi : vp_in i (k_len.getD t 0)) : CI l yJ1_charAt_3b067 wsJ1_charAt_3b067 rmJc D (K3 cI cZ cS) zz [.ref (zz.2.2 t), .int i] [] [] (k_ch t i.toNatClampNeg) := by
  refine q_ofI (cc := cJ1_charAt_3b067) (maxL := 2) (ty := .char) (by decide) rfl (Nat.le_of_ble_eq_true rfl) ?_
  intro p e s m below meth c Q A ls hx hb hml hown hts hK hZ hA hP hD hS hl hret
  have hl : lv_has ls 2 [(0, .ref (zz.2.2 t)), (1, .int i)] := hl
  have hE := hZ.2.2.2.2.2.2.1.1 t ht
  have hj : i.toNatClampNeg < k_len.getD t 0 := by
    have h2 := vp_in_iff.mp hi
    show i.toInt.toNat < _
    omega
  refine lv_iload_n hx hb dJ1_charAt_3b067_0 rfl (lv_at hl 1 rfl) ?_
  refine lv_aload_n hx hb dJ1_charAt_3b067_1 rfl (lv_at hl 0 rfl) ?_
  refine va_tlen (v := k_ln t) hx hb hE.2.2.2 hS rfl dJ1_charAt_3b067_2 ?_
  refine q_cUv (wf := fun _ => []) (σ := q_s0) (rest := []) ⟨hx, hb, hml, hown, hts⟩ hK hZ hA hP hD hS (kJ0_checkIndex l D cI cZ cS zz i (k_ln t) (k_in_lt ht hi).1 (k_in_lt ht hi).2) (va_cwS 2 hts gJ1_charAt_3b067_J0_checkIndex_df160 rfl rfl rfl (by decide +kernel) ⟨Nat.le_of_ble_eq_true rfl, Nat.le_of_ble_eq_true rfl⟩) rfl (hl.1) rfl (Nat.le_of_ble_eq_true rfl) dJ1_charAt_3b067_3 ⟨Nat.zero_le _, Nat.zero_le _⟩ (fun H locs hP hD hS => ?_)
  refine lv_aload_n hx hb dJ1_charAt_3b067_6 rfl (lv_at hl 0 rfl) ?_
  refine lv_iload_n hx hb dJ1_charAt_3b067_7 rfl (lv_at hl 1 rfl) ?_
  refine va_tb hx hb hE.2.2.2 hS hi rfl dJ1_charAt_3b067_8 ?_
  refine lv_sipush (v := 255) hx hb dJ1_charAt_3b067_9 (by decide) ?_
  refine lv_iand hx hb dJ1_charAt_3b067_12 ?_
  refine lv_i2c hx hb dJ1_charAt_3b067_13 (k_ch_c t ht _ hj) ?_
  exact hret _ _ _ _ dJ1_charAt_3b067_14 (by rw [← k_ch_c t ht _ hj]; exact pk_nc _) hP hS
set_option maxRecDepth 100000 in
theorem kJ0_charAt (l : Launch) (D : va_G) (cI cZ cS : ClassId) (zz : ZT) (t : Nat) (ht : t < 10) (i : Int32) (hi : vp_in i (k_len.getD t 0)) : CI l yJ0_charAt_5068e wsJ0_charAt_5068e rmJd D (K3 cI cZ cS) zz [.ref (zz.2.1 t), .int i] [] [] (k_ch t i.toNatClampNeg) := by
  refine q_ofI (cc := cJ0_charAt_5068e) (maxL := 2) (ty := .char) (by decide) rfl (Nat.le_of_ble_eq_true rfl) ?_
  intro p e s m below meth c Q A ls hx hb hml hown hts hK hZ hA hP hD hS hl hret
  have hl : lv_has ls 2 [(0, .ref (zz.2.1 t)), (1, .int i)] := hl
  have hE := hZ.2.2.2.2.2.2.1.1 t ht
  have hj : i.toNatClampNeg < k_len.getD t 0 := by
    have h2 := vp_in_iff.mp hi
    show i.toInt.toNat < _
    omega
  refine lv_aload_n hx hb dJ0_charAt_5068e_0 rfl (lv_at hl 0 rfl) ?_
  refine q_cT (wf := fun _ => []) (σ := q_s0) (rest := []) ⟨hx, hb, hml, hown, hts⟩ hK hZ hA hP hD hS (kJ0_isLatin1 l D cI cZ cS zz t ht) (cwV 0 hts gJ0_charAt_5068e_J0_isLatin1_aae02 rfl rfl rfl (by decide +kernel) ⟨Nat.le_of_ble_eq_true rfl, Nat.le_of_ble_eq_true rfl⟩) (vk_recv hZ.2.2.2.2.2.2.1 ht hS) rfl (hl.1) rfl (Nat.le_of_ble_eq_true rfl) dJ0_charAt_5068e_1 ⟨Nat.zero_le _, Nat.zero_le _⟩ (fun H locs hP hD hS => ?_)
  refine lv_if_eq (tgt := 16) hx hb dJ0_charAt_5068e_4 (by decide) (fun h => absurd h (by decide)) (fun _ => ?_)
  refine lv_aload_n hx hb dJ0_charAt_5068e_7 rfl (lv_at hl 0 rfl) ?_
  refine vk_getf hx hb hE.2.2.1 hS hown (hts _ (List.mem_of_getElem? (i := 1) rfl)) (fun _ h9 => h9) dJ0_charAt_5068e_8 ?_
  refine lv_iload_n hx hb dJ0_charAt_5068e_11 rfl (lv_at hl 1 rfl) ?_
  refine q_cU (wf := fun _ => []) (σ := q_s0) (rest := []) ⟨hx, hb, hml, hown, hts⟩ hK hZ hA hP hD hS (kJ1_charAt l D cI cZ cS zz t ht i hi) (va_cwS 2 hts gJ0_charAt_5068e_J1_charAt_3b067 rfl rfl rfl (by decide +kernel) ⟨Nat.le_of_ble_eq_true rfl, Nat.le_of_ble_eq_true rfl⟩) rfl (hl.1) rfl (Nat.le_of_ble_eq_true rfl) dJ0_charAt_5068e_12 ⟨Nat.zero_le _, Nat.zero_le _⟩ (fun H locs hP hD hS => ?_)
  exact hret _ _ _ _ dJ0_charAt_5068e_15 (by rw [← k_ch_c t ht _ hj]; exact pk_nc _) hP hS
abbrev rmX5_wordOf : Room := { frames := 0, cells := 0, slots := 0, locals := 0 }
set_option maxRecDepth 100000 in
set_option maxHeartbeats 4000000 in
theorem kX5_wordOf (l : Launch) (D : va_G) (cI cZ cS : ClassId) (zz : ZT) (a1 : Int32) : CR l yX5_wordOf wsX5_wordOf rmX5_wordOf D (K3 cI cZ cS) zz [.int a1] (zz.2.1 (q_wd a1)) := by
  intro sz
  refine Met.ofW (cc := cX5_wordOf) (maxL := 1) (ret := some (.object "java/lang/String")) (by decide) rfl ?_
  intro p e s m args below meth c s₁ B hml hv
  obtain ⟨rfl, hsz, hP, hK, hD0, hZ⟩ := hv
  subst hsz
  have hown : s.vm.findClass RX5 = some m.cls := findClass_of_methodNamed B.named
  have hx := B.exec
  have hb := B.bytes
  rw [lg_entry_eq]
  have hl := lv_entry ([.int a1]) (n := 1) (Nat.le_of_ble_eq_true rfl)
  generalize (lg_sl ([.int a1]) ++ List.replicate (1 - (lg_sl ([.int a1])).length) Slot.unset).toArray = ls at hl ⊢
  have hl : lv_has ls 1 [(0, .int a1)] := hl
  have hS : va_S (va_A [] s.heap.size) s.heap s.heap [] := va_S.rf
  have hlocks := B.notSynchronized
  have fin : ∀ (pc k : Nat), decode cX5_wordOf pc = .ok (.areturn, 1) → q_wd a1 = k → W p l e rmX5_wordOf s m ([.int a1] : List Value).toArray below meth c s.heap [] 0 0 (MQ below (va_Qr (fun (_ : Unit) => True) (fun _ q t => q = zz.2.1 (q_wd a1) ∧ va_P D vwCl [] t.heap) (va_A [] s.heap.size)) ([.int a1] : List Value).toArray s 0 0 (va_A [] s.heap.size)) (F0 m pc ls [.ref (zz.2.1 k)]) := fun pc k hd hk => by
    subst hk
    exact W.aret hx hb B.returns (Or.inl ⟨_, rfl⟩) (Or.inr ⟨_, rfl⟩) (fun t ht hW => ⟨⟨(), _, rfl, trivial, rfl, by show va_P D vwCl [] t.heap; rw [ht]; exact hP⟩, hS.F ht⟩) hS.2.2 hd
  refine lv_iload_n hx hb dX5_wordOf_0 rfl (lv_at hl 0 rfl) ?_
  have hR := hZ.2.2.2.2.2.2.2.1
  by_cases h0 : a1 = 0
  · refine lv_tableIn (tgt := 36) hx hb dX5_wordOf_1 (by rw [h0]; decide) (by rw [h0]; decide) (by rw [h0]; rfl) (by decide) ?_
    refine va_ldcS hx hb hown hR.1.1 dX5_wordOf_36 ?_
    exact fin 38 0 dX5_wordOf_38 (by rw [h0]; rfl)
  by_cases h1 : a1 = 1
  · refine lv_tableIn (tgt := 39) hx hb dX5_wordOf_1 (by rw [h1]; decide) (by rw [h1]; decide) (by rw [h1]; rfl) (by decide) ?_
    refine va_ldcS hx hb hown hR.2.1.1 dX5_wordOf_39 ?_
    exact fin 41 1 dX5_wordOf_41 (by rw [h1]; rfl)
  by_cases h2 : a1 = 2
  · refine lv_tableIn (tgt := 42) hx hb dX5_wordOf_1 (by rw [h2]; decide) (by rw [h2]; decide) (by rw [h2]; rfl) (by decide) ?_
    refine va_ldcS hx hb hown hR.2.2.1.1 dX5_wordOf_42 ?_
    exact fin 44 2 dX5_wordOf_44 (by rw [h2]; rfl)
  by_cases h3 : a1 = 3
  · refine lv_tableIn (tgt := 45) hx hb dX5_wordOf_1 (by rw [h3]; decide) (by rw [h3]; decide) (by rw [h3]; rfl) (by decide) ?_
    refine va_ldcS hx hb hown hR.2.2.2.1.1 dX5_wordOf_45 ?_
    exact fin 47 3 dX5_wordOf_47 (by rw [h3]; rfl)
  by_cases h4 : a1 = 4
  · refine lv_tableIn (tgt := 48) hx hb dX5_wordOf_1 (by rw [h4]; decide) (by rw [h4]; decide) (by rw [h4]; rfl) (by decide) ?_
    refine va_ldcS hx hb hown hR.2.2.2.2.1.1 dX5_wordOf_48 ?_
    exact fin 50 4 dX5_wordOf_50 (by rw [h4]; rfl)
  refine lv_tableOut (tgt := 51) hx hb dX5_wordOf_1 (by have := q_ne h0 (z := 0) rfl; have := q_ne h1 (z := 1) rfl; have := q_ne h2 (z := 2) rfl; have := q_ne h3 (z := 3) rfl; have := q_ne h4 (z := 4) rfl; omega) (by decide) ?_
  refine va_ldcS hx hb hown hR.2.2.2.2.2.1.1 dX5_wordOf_51 ?_
  exact fin 53 5 dX5_wordOf_53 (by simp [q_wd, h0, h1, h2, h3, h4])
