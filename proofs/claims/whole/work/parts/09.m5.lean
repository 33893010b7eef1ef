def pX12_finding (σ : SS) (a1 : Int32) : Option (Int32 × SS) := q_rd (σ 4) 7 a1 (fun (v1 : Int32) => q_wr σ 4 7 a1 (v1 + (1 : Int32)) (fun (σ2 : SS) => some (((-1000001 : Int32) - a1), σ2)))
theorem fwX12_finding_X12 : ∀ w ∈ wsX120, w ∈ wsX12_finding := fun _ h => List.mem_cons_of_mem _ (List.mem_append_right _ h)
abbrev rmX12_finding : Room := { frames := 0, cells := 0, slots := 0, locals := 0 }
set_option maxHeartbeats 4000000 in
set_option maxRecDepth 100000 in
theorem kX12_finding (l : Launch) (D : va_G) (cI cZ cS : ClassId) (zz : ZT) (ad : Nat → Nat) (σ : SS) (a1 : Int32) (rr : Int32) (σr : SS) (hf : pX12_finding σ a1 = some (rr, σr)) : CI l yX12_finding wsX12_finding rmX12_finding D (K3 cI cZ cS) zz [.ref (ad 0), .int a1] (wX12 cI cZ cS ad σ) (wX12 cI cZ cS ad σr) rr := by
  refine q_ofI (cc := cX12_finding) (maxL := 2) (ty := .int) (by decide) rfl (Nat.le_of_ble_eq_true rfl) ?_
  intro p e s m below meth c Q A ls hx hb hml hown hts hK hZ hA hP hD hS hl hret
  have hl : lv_has ls 2 [(0, .ref (ad 0)), (1, .int a1)] := hl
  unfold pX12_finding at hf
  refine lv_aload_n hx hb dX12_finding_0 rfl (lv_at hl 0 rfl) ?_
  refine va_get (D := D) (ci := 12) (C := RX12) (T := TX12) (N := 19) hx hb hts fwX12_finding_X12 hown hK hP 0 rfl rfl 4 (by decide) (hts _ (List.mem_of_getElem? (i := 1) rfl)) (fun _ h9 => h9) rfl dX12_finding_1 ?_
  refine lv_iload_n hx hb dX12_finding_4 rfl (lv_at hl 1 rfl) ?_
  refine lv_dup2_11 hx hb dX12_finding_5 rfl rfl ?_
  refine w_iald (wf := (wX12 cI cZ cS ad)) hx hb hK hP 4 0 rfl rfl hf dX12_finding_6 (fun v1 hf => ?_)
  refine lv_iconst (v := 1) hx hb dX12_finding_7 (by decide) ?_
  refine lv_iadd hx hb dX12_finding_8 ?_
  refine w_iast (wf := (wX12 cI cZ cS ad)) (cid := 4) hx hb hK hP hD hS 4 0 rfl rfl hf (fun _ => rfl) dX12_finding_9 (fun σ2 H locs hf hP hD hS => ?_)
  refine lv_ldc (v := -1000001) hx hb hown (hts _ (List.mem_of_getElem? (i := 2) rfl)) dX12_finding_10 ?_
  refine lv_iload_n hx hb dX12_finding_12 rfl (lv_at hl 1 rfl) ?_
  refine lv_isub hx hb dX12_finding_13 ?_
  obtain ⟨hi1, hi2⟩ := Prod.mk.inj (Option.some.inj hf)
  subst hi1
  subst hi2
  exact hret _ _ _ _ dX12_finding_14 rfl hP hS
def pX12_in (a1 : Int32) (a2 : Int32) (a3 : Int32) : Option Int32 := q_lt (fun (y1 : Int32) => q_zz y1 (some y1)) (fun j2 => q_lt (j2 (0 : Int32)) (fun j3 => (if a1 < a2 then j3 else (if a3 < a1 then j3 else j2 (1 : Int32)))))
abbrev rmX12_in : Room := { frames := 0, cells := 0, slots := 0, locals := 0 }
set_option maxHeartbeats 4000000 in
set_option maxRecDepth 100000 in
theorem kX12_in (l : Launch) (D : va_G) (cI cZ cS : ClassId) (zz : ZT) (a1 : Int32) (a2 : Int32) (a3 : Int32) (rr : Int32) (hf : pX12_in a1 a2 a3 = some rr) : CI l yX12_in wsX12_in rmX12_in D (K3 cI cZ cS) zz [.int a1, .int a2, .int a3] [] [] rr := by
  refine q_ofI (cc := cX12_in) (maxL := 3) (ty := .boolean) (by decide) rfl (Nat.le_of_ble_eq_true rfl) ?_
  intro p e s m below meth c Q A ls hx hb hml hown hts hK hZ hA hP hD hS hl hret
  have hl : lv_has ls 3 [(0, .int a1), (1, .int a2), (2, .int a3)] := hl
  unfold pX12_in at hf
  refine lv_iload_n hx hb dX12_in_0 rfl (lv_at hl 0 rfl) ?_
  refine lv_iload_n hx hb dX12_in_1 rfl (lv_at hl 1 rfl) ?_
  refine q_lt_go hf (fun j2 ej2 hf => ?_)
  have Jj2 : ∀ (y1 : Int32) (H : Heap) (locs : List Loc) (ls : Array Slot), va_P D vwCl ([] : va_W) H → va_D A ([] : va_W) → va_S A s.heap H locs → lv_has ls 3 [] → j2 y1 = some rr → W p l e rmX12_in s m ([.int a1, .int a2, .int a3] : List Value).toArray below meth c H locs 0 0 Q (F0 m 15 ls [.int y1]) := by
    intro y1 H locs ls hP hD hS hl hf
    have hf := (congrFun ej2 y1).symm.trans hf
    obtain ⟨hz, hf⟩ := q_zz_o hf
    have hi1 := Option.some.inj hf
    subst hi1
    exact hret _ _ _ _ dX12_in_15 (q_zz_n hz).1 hP hS
  refine q_lt_go hf (fun j3 ej3 hf => ?_)
  have Jj3 : ∀ (H : Heap) (locs : List Loc) (ls : Array Slot), va_P D vwCl ([] : va_W) H → va_D A ([] : va_W) → va_S A s.heap H locs → lv_has ls 3 [] → j3 = some rr → W p l e rmX12_in s m ([.int a1, .int a2, .int a3] : List Value).toArray below meth c H locs 0 0 Q (F0 m 14 ls []) := by
    intro  H locs ls hP hD hS hl hf
    have hf := ej3.symm.trans hf
    refine lv_iconst (v := 0) hx hb dX12_in_14 (by decide) ?_
    exact Jj2 (0 : Int32) _ _ _ hP hD hS (lv_sub hl [] rfl) hf
  refine lv_icmp_lt (tgt := 14) hx hb dX12_in_2 (by decide) (fun h4 => ?_) (fun h4 => ?_)
  · have hf := (if_pos h4).symm.trans hf
    exact Jj3  _ _ _ hP hD hS (lv_sub hl [] rfl) hf
  · have hf := (if_neg h4).symm.trans hf
    refine lv_iload_n hx hb dX12_in_5 rfl (lv_at hl 0 rfl) ?_
    refine lv_iload_n hx hb dX12_in_6 rfl (lv_at hl 2 rfl) ?_
    refine lv_icmp_gt (tgt := 14) hx hb dX12_in_7 (by decide) (fun h5 => ?_) (fun h5 => ?_)
    · have hf := (if_pos h5).symm.trans hf
      exact Jj3  _ _ _ hP hD hS (lv_sub hl [] rfl) hf
    · have hf := (if_neg h5).symm.trans hf
      refine lv_iconst (v := 1) hx hb dX12_in_10 (by decide) ?_
      refine lv_goto (tgt := 15) hx hb dX12_in_11 (by decide) ?_
      exact Jj2 (1 : Int32) _ _ _ hP hD hS (lv_sub hl [] rfl) hf
def pX12_lay (σ : SS) : Option SS := q_lp (fun _ _ => none) (fun (c3 : SS → Int32 → Option SS) (σ2 : SS) (x2_1 : Int32) => (if (307 : Int32) ≤ x2_1 then some σ2 else q_rd (σ2 0) 307 x2_1 (fun (v7 : Int32) => q_wr σ2 1 307 x2_1 v7 (fun (σ8 : SS) => c3 σ8 (x2_1 + (1 : Int32)))))) q_fu σ (0 : Int32)
abbrev rmX12_lay : Room := { frames := 0, cells := 0, slots := 0, locals := 0 }
set_option maxHeartbeats 4000000 in
set_option maxRecDepth 100000 in
theorem kX12_lay (l : Launch) (D : va_G) (cI cZ cS : ClassId) (zz : ZT) (ad : Nat → Nat) (σ : SS) (σr : SS) (hf : pX12_lay σ = some σr) : CV l yX12_lay wsX12_lay rmX12_lay D (K3 cI cZ cS) zz [.ref (ad 0), .ref (ad 1)] (wA307_A307 cI cZ cS ad σ) (wA307_A307 cI cZ cS ad σr) := by
  refine q_ofV (cc := cX12_lay) (maxL := 3) (by decide) rfl (Nat.le_of_ble_eq_true rfl) ?_
  intro p e s m below meth c Q A ls hx hb hml hown hts hK hZ hA hP hD hS hl hret
  have hl : lv_has ls 3 [(0, .ref (ad 0)), (1, .ref (ad 1))] := hl
  unfold pX12_lay at hf
  refine lv_iconst (v := 0) hx hb dX12_lay_0 (by decide) ?_
  refine lv_istore_n (lv' := [(2, .int (0 : Int32)), (0, .ref (ad 0)), (1, .ref (ad 1))]) hx hb dX12_lay_1 rfl hl (by decide) rfl (fun ls hl => ?_)
  refine q_lp_go (f := fun (zf : SS → Int32 → Option SS) => zf σ (0 : Int32)) hf (fun z4 ez4 hf => ?_)
  have Lz4 : ∀ (n5 : Nat) (σ2 : SS) (x2_1 : Int32) (H : Heap) (locs : List Loc) (ls : Array Slot), va_P D vwCl ((wA307_A307 cI cZ cS ad) σ2) H → va_D A ((wA307_A307 cI cZ cS ad) σ2) → va_S A s.heap H locs → lv_has ls 3 [(0, .ref (ad 0)), (1, .ref (ad 1)), (2, .int x2_1)] → q_lp (fun _ _ => none) z4 n5 σ2 x2_1 = some σr → W p l e rmX12_lay s m ([.ref (ad 0), .ref (ad 1)] : List Value).toArray below meth c H locs 0 0 Q (F0 m 2 ls []) := by
    intro n5
    induction n5 with
    | zero => exact fun _ _ _ _ _ _ _ _ _ hf => q_no hf
    | succ n5 ihz4 =>
      intro σ2 x2_1 H locs ls hP hD hS hl hf
      have hf := (congrFun (congrFun (congrFun ez4 (q_lp (fun _ _ => none) z4 n5)) σ2) x2_1).symm.trans hf
      refine lv_iload_n hx hb dX12_lay_2 rfl (lv_at hl 2 rfl) ?_
      refine lv_sipush (v := 307) hx hb dX12_lay_3 (by decide) ?_
      refine lv_icmp_ge (tgt := 21) hx hb dX12_lay_6 (by decide) (fun h6 => ?_) (fun h6 => ?_)
      · have hf := (if_pos h6).symm.trans hf
        have hi1 := Option.some.inj hf
        subst hi1
        exact hret _ _ _ _ dX12_lay_21 hP hS
      · have hf := (if_neg h6).symm.trans hf
        refine lv_aload_n hx hb dX12_lay_9 rfl (lv_at hl 1 rfl) ?_
        refine lv_iload_n hx hb dX12_lay_10 rfl (lv_at hl 2 rfl) ?_
        refine lv_aload_n hx hb dX12_lay_11 rfl (lv_at hl 0 rfl) ?_
        refine lv_iload_n hx hb dX12_lay_12 rfl (lv_at hl 2 rfl) ?_
        refine w_iald (wf := (wA307_A307 cI cZ cS ad)) hx hb hK hP 0 0 rfl rfl hf dX12_lay_13 (fun v7 hf => ?_)
        refine w_iast (wf := (wA307_A307 cI cZ cS ad)) (cid := 1) hx hb hK hP hD hS 1 0 rfl rfl hf (fun _ => rfl) dX12_lay_14 (fun σ8 H locs hf hP hD hS => ?_)
        refine lv_iinc (v := (x2_1 + (1 : Int32))) (lv' := [(2, .int (x2_1 + (1 : Int32))), (0, .ref (ad 0)), (1, .ref (ad 1))]) hx hb dX12_lay_15 hl (k := 2) rfl rfl (by decide) rfl (fun ls hl => ?_)
        refine lv_goto (tgt := 2) hx hb dX12_lay_18 (by decide) ?_
        exact ihz4 σ8 (x2_1 + (1 : Int32)) _ _ _ hP hD hS (lv_sub hl [1, 2, 0] rfl) hf
  exact Lz4 q_fu σ (0 : Int32) _ _ _ hP hD hS (lv_sub hl [1, 2, 0] rfl) hf
def pX12_begin (σ : SS) : Option SS := q_cs (pX12_lay (q_ap 1 (q_sb σ 1) (q_sb σ 3))) (fun (τ : SS) => (q_em (q_em σ 1 0 1 τ) 3 1 1 τ)) (fun (σ1 : SS) => some σ1)
theorem fwX12_begin_X12 : ∀ w ∈ wsX120, w ∈ wsX12_begin := fun _ h => List.mem_cons_of_mem _ (List.mem_append_right _ h)
abbrev rmX12_begin : Room := { frames := 1, cells := 0, slots := 0, locals := 22 }
set_option maxHeartbeats 4000000 in
set_option maxRecDepth 100000 in
theorem kX12_begin (l : Launch) (D : va_G) (cI cZ cS : ClassId) (zz : ZT) (ad : Nat → Nat) (σ : SS) (σr : SS) (hf : pX12_begin σ = some σr) : CV l yX12_begin wsX12_begin rmX12_begin D (K3 cI cZ cS) zz [.ref (ad 0)] (wX12 cI cZ cS ad σ) (wX12 cI cZ cS ad σr) := by
  refine q_ofV (cc := cX12_begin) (maxL := 1) (by decide) rfl (Nat.le_of_ble_eq_true rfl) ?_
  intro p e s m below meth c Q A ls hx hb hml hown hts hK hZ hA hP hD hS hl hret
  have hl : lv_has ls 1 [(0, .ref (ad 0))] := hl
  unfold pX12_begin at hf
  refine lv_aload_n hx hb dX12_begin_0 rfl (lv_at hl 0 rfl) ?_
  refine va_get (D := D) (ci := 12) (C := RX12) (T := TX12) (N := 19) hx hb hts fwX12_begin_X12 hown hK hP 0 rfl rfl 0 (by decide) (hts _ (List.mem_of_getElem? (i := 1) rfl)) (fun _ h9 => h9) rfl dX12_begin_1 ?_
  refine lv_aload_n hx hb dX12_begin_4 rfl (lv_at hl 0 rfl) ?_
  refine va_get (D := D) (ci := 12) (C := RX12) (T := TX12) (N := 19) hx hb hts fwX12_begin_X12 hown hK hP 0 rfl rfl 2 (by decide) (hts _ (List.mem_of_getElem? (i := 2) rfl)) (fun _ h9 => h9) rfl dX12_begin_5 ?_
  refine q_cSv (wf := (wX12 cI cZ cS ad)) (wc := wA307_A307 cI cZ cS (fun i => ad (if i < 1 then 1 + i else 3 + (i - 1)))) (rest := []) ⟨hx, hb, hml, hown, hts⟩ hK hZ hA hP hD hS hf (fun x ho => kX12_lay l D cI cZ cS zz (fun i => ad (if i < 1 then 1 + i else 3 + (i - 1))) (q_ap 1 (q_sb σ 1) (q_sb σ 3)) x ho) (va_cwS 2 hts gX12_begin_X12_lay rfl rfl rfl ndX12_lay.2 ⟨Nat.le_of_ble_eq_true rfl, Nat.le_of_ble_eq_true rfl⟩) [1, 3] rfl rfl [none, some 0, none, some 1, none, none, none, none, none, none, none, none] (by decide +kernel) (Nat.le_of_ble_eq_true rfl) (fun _ => rfl) (fun _ => rfl) (fun _ => rfl) rfl (hl.1) rfl (Nat.le_of_ble_eq_true rfl) dX12_begin_8 ⟨Nat.zero_le _, Nat.zero_le _⟩ (fun σ1 H locs hf hP hD hS => ?_)
  have hi1 := Option.some.inj hf
  subst hi1
  exact hret _ _ _ _ dX12_begin_11 hP hS
def pX12_layBack (σ : SS) : Option SS := q_cs (pX12_lay (q_ap 1 (q_sb σ 3) (q_sb σ 1))) (fun (τ : SS) => (q_em (q_em σ 3 0 1 τ) 1 1 1 τ)) (fun (σ1 : SS) => some σ1)
theorem fwX12_layBack_X12 : ∀ w ∈ wsX120, w ∈ wsX12_layBack := fun _ h => List.mem_cons_of_mem _ (List.mem_append_right _ h)
abbrev rmX12_layBack : Room := { frames := 1, cells := 0, slots := 0, locals := 22 }
set_option maxHeartbeats 4000000 in
set_option maxRecDepth 100000 in
theorem kX12_layBack (l : Launch) (D : va_G) (cI cZ cS : ClassId) (zz : ZT) (ad : Nat → Nat) (σ : SS) (σr : SS) (hf : pX12_layBack σ = some σr) : CV l yX12_layBack wsX12_layBack rmX12_layBack D (K3 cI cZ cS) zz [.ref (ad 0)] (wX12 cI cZ cS ad σ) (wX12 cI cZ cS ad σr) := by
  refine q_ofV (cc := cX12_layBack) (maxL := 1) (by decide) rfl (Nat.le_of_ble_eq_true rfl) ?_
  intro p e s m below meth c Q A ls hx hb hml hown hts hK hZ hA hP hD hS hl hret
  have hl : lv_has ls 1 [(0, .ref (ad 0))] := hl
  unfold pX12_layBack at hf
  refine lv_aload_n hx hb dX12_layBack_0 rfl (lv_at hl 0 rfl) ?_
  refine va_get (D := D) (ci := 12) (C := RX12) (T := TX12) (N := 19) hx hb hts fwX12_layBack_X12 hown hK hP 0 rfl rfl 2 (by decide) (hts _ (List.mem_of_getElem? (i := 1) rfl)) (fun _ h9 => h9) rfl dX12_layBack_1 ?_
  refine lv_aload_n hx hb dX12_layBack_4 rfl (lv_at hl 0 rfl) ?_
  refine va_get (D := D) (ci := 12) (C := RX12) (T := TX12) (N := 19) hx hb hts fwX12_layBack_X12 hown hK hP 0 rfl rfl 0 (by decide) (hts _ (List.mem_of_getElem? (i := 2) rfl)) (fun _ h9 => h9) rfl dX12_layBack_5 ?_
  refine q_cSv (wf := (wX12 cI cZ cS ad)) (wc := wA307_A307 cI cZ cS (fun i => ad (if i < 1 then 3 + i else 1 + (i - 1)))) (rest := []) ⟨hx, hb, hml, hown, hts⟩ hK hZ hA hP hD hS hf (fun x ho => kX12_lay l D cI cZ cS zz (fun i => ad (if i < 1 then 3 + i else 1 + (i - 1))) (q_ap 1 (q_sb σ 3) (q_sb σ 1)) x ho) (va_cwS 2 hts gX12_layBack_X12_lay rfl rfl rfl ndX12_lay.2 ⟨Nat.le_of_ble_eq_true rfl, Nat.le_of_ble_eq_true rfl⟩) [3, 1] rfl rfl [none, some 1, none, some 0, none, none, none, none, none, none, none, none] (by decide +kernel) (Nat.le_of_ble_eq_true rfl) (fun _ => rfl) (fun _ => rfl) (fun _ => rfl) rfl (hl.1) rfl (Nat.le_of_ble_eq_true rfl) dX12_layBack_8 ⟨Nat.zero_le _, Nat.zero_le _⟩ (fun σ1 H locs hf hP hD hS => ?_)
  have hi1 := Option.some.inj hf
  subst hi1
  exact hret _ _ _ _ dX12_layBack_11 hP hS
def pX12_has (σ : SS) (a1 : Int32) : Option Int32 := q_rd (σ 1) 307 (19 : Int32) (fun (v1 : Int32) => q_lt (fun (y2 : Int32) => q_zz y2 (some y2)) (fun j3 => (if ((v1 >>> (a1 &&& (31 : Int32))) &&& (1 : Int32)) = (1 : Int32) then j3 (1 : Int32) else j3 (0 : Int32))))
theorem fwX12_has_X12 : ∀ w ∈ wsX120, w ∈ wsX12_has := fun _ h => List.mem_cons_of_mem _ (List.mem_append_right _ h)
abbrev rmX12_has : Room := { frames := 0, cells := 0, slots := 0, locals := 0 }
set_option maxHeartbeats 4000000 in
set_option maxRecDepth 100000 in
theorem kX12_has (l : Launch) (D : va_G) (cI cZ cS : ClassId) (zz : ZT) (ad : Nat → Nat) (σ : SS) (a1 : Int32) (rr : Int32) (hf : pX12_has σ a1 = some rr) : CI l yX12_has wsX12_has rmX12_has D (K3 cI cZ cS) zz [.ref (ad 0), .int a1] (wX12 cI cZ cS ad σ) (wX12 cI cZ cS ad σ) rr := by
  refine q_ofI (cc := cX12_has) (maxL := 2) (ty := .boolean) (by decide) rfl (Nat.le_of_ble_eq_true rfl) ?_
  intro p e s m below meth c Q A ls hx hb hml hown hts hK hZ hA hP hD hS hl hret
  have hl : lv_has ls 2 [(0, .ref (ad 0)), (1, .int a1)] := hl
  unfold pX12_has at hf
  refine lv_aload_n hx hb dX12_has_0 rfl (lv_at hl 0 rfl) ?_
  refine va_get (D := D) (ci := 12) (C := RX12) (T := TX12) (N := 19) hx hb hts fwX12_has_X12 hown hK hP 0 rfl rfl 0 (by decide) (hts _ (List.mem_of_getElem? (i := 1) rfl)) (fun _ h9 => h9) rfl dX12_has_1 ?_
  refine lv_bipush (v := 19) hx hb dX12_has_4 (by decide) ?_
  refine w_iald (wf := (wX12 cI cZ cS ad)) hx hb hK hP 1 0 rfl rfl hf dX12_has_6 (fun v1 hf => ?_)
  refine lv_iload_n hx hb dX12_has_7 rfl (lv_at hl 1 rfl) ?_
  refine lv_ishr hx hb dX12_has_8 ?_
  refine lv_iconst (v := 1) hx hb dX12_has_9 (by decide) ?_
  refine lv_iand hx hb dX12_has_10 ?_
  refine lv_iconst (v := 1) hx hb dX12_has_11 (by decide) ?_
  refine q_lt_go hf (fun j3 ej3 hf => ?_)
  have Jj3 : ∀ (y2 : Int32) (H : Heap) (locs : List Loc) (ls : Array Slot), va_P D vwCl ((wX12 cI cZ cS ad) σ) H → va_D A ((wX12 cI cZ cS ad) σ) → va_S A s.heap H locs → lv_has ls 2 [] → j3 y2 = some rr → W p l e rmX12_has s m ([.ref (ad 0), .int a1] : List Value).toArray below meth c H locs 0 0 Q (F0 m 20 ls [.int y2]) := by
    intro y2 H locs ls hP hD hS hl hf
    have hf := (congrFun ej3 y2).symm.trans hf
    obtain ⟨hz, hf⟩ := q_zz_o hf
    have hi1 := Option.some.inj hf
    subst hi1
    exact hret _ _ _ _ dX12_has_20 (q_zz_n hz).1 hP hS
  refine lv_icmp_ne (tgt := 19) hx hb dX12_has_12 (by decide) (fun h4 => ?_) (fun h4 => ?_)
  · have hf := (if_neg h4).symm.trans hf
    refine lv_iconst (v := 0) hx hb dX12_has_19 (by decide) ?_
    exact Jj3 (0 : Int32) _ _ _ hP hD hS (lv_sub hl [] rfl) hf
  · have hf := (if_pos h4).symm.trans hf
    refine lv_iconst (v := 1) hx hb dX12_has_15 (by decide) ?_
    refine lv_goto (tgt := 20) hx hb dX12_has_16 (by decide) ?_
    exact Jj3 (1 : Int32) _ _ _ hP hD hS (lv_sub hl [] rfl) hf
def pX12_isWater (σ : SS) (a1 : Int32) : Option Int32 := q_rd (σ 1) 307 (16 : Int32) (fun (v1 : Int32) => q_cr (pX12_in a1 (0 : Int32) (v1 - (1 : Int32))) (fun (r2 : Int32) => q_zz r2 (some r2)))
theorem fwX12_isWater_X12 : ∀ w ∈ wsX120, w ∈ wsX12_isWater := fun _ h => List.mem_cons_of_mem _ (List.mem_append_right _ h)
abbrev rmX12_isWater : Room := { frames := 1, cells := 0, slots := 0, locals := 22 }
set_option maxHeartbeats 4000000 in
set_option maxRecDepth 100000 in
theorem kX12_isWater (l : Launch) (D : va_G) (cI cZ cS : ClassId) (zz : ZT) (ad : Nat → Nat) (σ : SS) (a1 : Int32) (rr : Int32) (hf : pX12_isWater σ a1 = some rr) : CI l yX12_isWater wsX12_isWater rmX12_isWater D (K3 cI cZ cS) zz [.ref (ad 0), .int a1] (wX12 cI cZ cS ad σ) (wX12 cI cZ cS ad σ) rr := by
  refine q_ofI (cc := cX12_isWater) (maxL := 2) (ty := .boolean) (by decide) rfl (Nat.le_of_ble_eq_true rfl) ?_
  intro p e s m below meth c Q A ls hx hb hml hown hts hK hZ hA hP hD hS hl hret
  have hl : lv_has ls 2 [(0, .ref (ad 0)), (1, .int a1)] := hl
  unfold pX12_isWater at hf
  refine lv_iload_n hx hb dX12_isWater_0 rfl (lv_at hl 1 rfl) ?_
  refine lv_iconst (v := 0) hx hb dX12_isWater_1 (by decide) ?_
  refine lv_aload_n hx hb dX12_isWater_2 rfl (lv_at hl 0 rfl) ?_
  refine va_get (D := D) (ci := 12) (C := RX12) (T := TX12) (N := 19) hx hb hts fwX12_isWater_X12 hown hK hP 0 rfl rfl 0 (by decide) (hts _ (List.mem_of_getElem? (i := 1) rfl)) (fun _ h9 => h9) rfl dX12_isWater_3 ?_
  refine lv_bipush (v := 16) hx hb dX12_isWater_6 (by decide) ?_
  refine w_iald (wf := (wX12 cI cZ cS ad)) hx hb hK hP 1 0 rfl rfl hf dX12_isWater_8 (fun v1 hf => ?_)
  refine lv_iconst (v := 1) hx hb dX12_isWater_9 (by decide) ?_
  refine lv_isub hx hb dX12_isWater_10 ?_
  refine q_cSr (wf := (wX12 cI cZ cS ad)) (rest := []) ⟨hx, hb, hml, hown, hts⟩ hK hZ hA hP hD hS hf (fun x ho => kX12_in l D cI cZ cS zz a1 (0 : Int32) (v1 - (1 : Int32)) x ho) (va_cwS 3 hts gX12_isWater_X12_in rfl rfl rfl ndX12_in.2 ⟨Nat.le_of_ble_eq_true rfl, Nat.le_of_ble_eq_true rfl⟩) rfl (hl.1) rfl (Nat.le_of_ble_eq_true rfl) dX12_isWater_11 ⟨Nat.zero_le _, Nat.zero_le _⟩ (fun r2 H locs hf hP hD hS => ?_)
  obtain ⟨hz, hf⟩ := q_zz_o hf
  have hi1 := Option.some.inj hf
  subst hi1
  exact hret _ _ _ _ dX12_isWater_14 (q_zz_n hz).1 hP hS
def pX12_its (σ : SS) (a1 : Int32) (a2 : Int32) : Option Int32 := q_rd (σ 1) 307 (((65 : Int32) + ((4 : Int32) * a1)) + a2) (fun (v1 : Int32) => some v1)
theorem fwX12_its_X12 : ∀ w ∈ wsX120, w ∈ wsX12_its := fun _ h => List.mem_cons_of_mem _ (List.mem_append_right _ h)
abbrev rmX12_its : Room := { frames := 0, cells := 0, slots := 0, locals := 0 }
set_option maxHeartbeats 4000000 in
set_option maxRecDepth 100000 in
theorem kX12_its (l : Launch) (D : va_G) (cI cZ cS : ClassId) (zz : ZT) (ad : Nat → Nat) (σ : SS) (a1 : Int32) (a2 : Int32) (rr : Int32) (hf : pX12_its σ a1 a2 = some rr) : CI l yX12_its wsX12_its rmX12_its D (K3 cI cZ cS) zz [.ref (ad 0), .int a1, .int a2] (wX12 cI cZ cS ad σ) (wX12 cI cZ cS ad σ) rr := by
  refine q_ofI (cc := cX12_its) (maxL := 3) (ty := .int) (by decide) rfl (Nat.le_of_ble_eq_true rfl) ?_
  intro p e s m below meth c Q A ls hx hb hml hown hts hK hZ hA hP hD hS hl hret
  have hl : lv_has ls 3 [(0, .ref (ad 0)), (1, .int a1), (2, .int a2)] := hl
  unfold pX12_its at hf
  refine lv_aload_n hx hb dX12_its_0 rfl (lv_at hl 0 rfl) ?_
  refine va_get (D := D) (ci := 12) (C := RX12) (T := TX12) (N := 19) hx hb hts fwX12_its_X12 hown hK hP 0 rfl rfl 0 (by decide) (hts _ (List.mem_of_getElem? (i := 1) rfl)) (fun _ h9 => h9) rfl dX12_its_1 ?_
  refine lv_bipush (v := 65) hx hb dX12_its_4 (by decide) ?_
  refine lv_iconst (v := 4) hx hb dX12_its_6 (by decide) ?_
  refine lv_iload_n hx hb dX12_its_7 rfl (lv_at hl 1 rfl) ?_
  refine lv_imul hx hb dX12_its_8 ?_
  refine lv_iadd hx hb dX12_its_9 ?_
  refine lv_iload_n hx hb dX12_its_10 rfl (lv_at hl 2 rfl) ?_
  refine lv_iadd hx hb dX12_its_11 ?_
  refine w_iald (wf := (wX12 cI cZ cS ad)) hx hb hK hP 1 0 rfl rfl hf dX12_its_12 (fun v1 hf => ?_)
  have hi1 := Option.some.inj hf
  subst hi1
  exact hret _ _ _ _ dX12_its_13 rfl hP hS
def pX12_water (σ : SS) (a1 : Int32) (a2 : Int32) (a3 : Int32) : Option (Int32 × SS) := q_cr (pX12_in a1 (0 : Int32) (6 : Int32)) (fun (r1 : Int32) => q_lt (q_ci (pX12_finding σ (0 : Int32)) (fun (τ : SS) => τ) (fun (r4 : Int32) (σ3 : SS) => some (r4, σ3))) (fun j2 => (if r1 = (0 : Int32) then j2 else q_cr (pX12_in a2 (1 : Int32) (99 : Int32)) (fun (r6 : Int32) => (if r6 = (0 : Int32) then j2 else q_cr (pX12_in a3 (0 : Int32) (999 : Int32)) (fun (r8 : Int32) => (if r8 = (0 : Int32) then j2 else q_rd (σ 1) 307 (16 : Int32) (fun (v10 : Int32) => (if v10 = (8 : Int32) then q_ci (pX12_finding σ (1 : Int32)) (fun (τ : SS) => τ) (fun (r22 : Int32) (σ21 : SS) => some (r22, σ21)) else q_rd (σ 1) 307 (16 : Int32) (fun (v12 : Int32) => q_lt ((65 : Int32) + ((4 : Int32) * v12)) (fun x4_13 => q_wr σ 1 307 (x4_13 + (0 : Int32)) a1 (fun (σ14 : SS) => q_wr σ14 1 307 (x4_13 + (1 : Int32)) a2 (fun (σ15 : SS) => q_wr σ15 1 307 (x4_13 + (2 : Int32)) a3 (fun (σ16 : SS) => q_wr σ16 1 307 (x4_13 + (3 : Int32)) (0 : Int32) (fun (σ17 : SS) => q_rd (σ17 1) 307 (16 : Int32) (fun (v18 : Int32) => q_wr σ17 1 307 (16 : Int32) (v18 + (1 : Int32)) (fun (σ19 : SS) => q_rd (σ19 1) 307 (16 : Int32) (fun (v20 : Int32) => some ((v20 - (1 : Int32)), σ19)))))))))))))))))))
theorem fwX12_water_X12 : ∀ w ∈ wsX120, w ∈ wsX12_water := fun _ h => List.mem_cons_of_mem _ (List.mem_append_right _ h)
abbrev rmX12_water : Room := { frames := 1, cells := 0, slots := 0, locals := 22 }
set_option maxHeartbeats 4000000 in
set_option maxRecDepth 100000 in
theorem kX12_water (l : Launch) (D : va_G) (cI cZ cS : ClassId) (zz : ZT) (ad : Nat → Nat) (σ : SS) (a1 : Int32) (a2 : Int32) (a3 : Int32) (rr : Int32) (σr : SS) (hf : pX12_water σ a1 a2 a3 = some (rr, σr)) : CI l yX12_water wsX12_water rmX12_water D (K3 cI cZ cS) zz [.ref (ad 0), .int a1, .int a2, .int a3] (wX12 cI cZ cS ad σ) (wX12 cI cZ cS ad σr) rr := by
  refine q_ofI (cc := cX12_water) (maxL := 5) (ty := .int) (by decide) rfl (Nat.le_of_ble_eq_true rfl) ?_
  intro p e s m below meth c Q A ls hx hb hml hown hts hK hZ hA hP hD hS hl hret
  have hl : lv_has ls 5 [(0, .ref (ad 0)), (1, .int a1), (2, .int a2), (3, .int a3)] := hl
  unfold pX12_water at hf
  refine lv_iload_n hx hb dX12_water_0 rfl (lv_at hl 1 rfl) ?_
  refine lv_iconst (v := 0) hx hb dX12_water_1 (by decide) ?_
  refine lv_bipush (v := 6) hx hb dX12_water_2 (by decide) ?_
  refine q_cSr (wf := (wX12 cI cZ cS ad)) (rest := []) ⟨hx, hb, hml, hown, hts⟩ hK hZ hA hP hD hS hf (fun x ho => kX12_in l D cI cZ cS zz a1 (0 : Int32) (6 : Int32) x ho) (va_cwS 3 hts gX12_water_X12_in rfl rfl rfl ndX12_in.2 ⟨Nat.le_of_ble_eq_true rfl, Nat.le_of_ble_eq_true rfl⟩) rfl (hl.1) rfl (Nat.le_of_ble_eq_true rfl) dX12_water_4 ⟨Nat.zero_le _, Nat.zero_le _⟩ (fun r1 H locs hf hP hD hS => ?_)
  refine q_lt_go hf (fun j2 ej2 hf => ?_)
  have Jj2 : ∀ (H : Heap) (locs : List Loc) (ls : Array Slot), va_P D vwCl ((wX12 cI cZ cS ad) σ) H → va_D A ((wX12 cI cZ cS ad) σ) → va_S A s.heap H locs → lv_has ls 5 [(0, .ref (ad 0))] → j2 = some (rr, σr) → W p l e rmX12_water s m ([.ref (ad 0), .int a1, .int a2, .int a3] : List Value).toArray below meth c H locs 0 0 Q (F0 m 31 ls []) := by
    intro  H locs ls hP hD hS hl hf
    have hf := ej2.symm.trans hf
    refine lv_aload_n hx hb dX12_water_31 rfl (lv_at hl 0 rfl) ?_
    refine lv_iconst (v := 0) hx hb dX12_water_32 (by decide) ?_
    refine q_cVi (wf := (wX12 cI cZ cS ad)) (wc := wX12 cI cZ cS ad) (rest := []) ⟨hx, hb, hml, hown, hts⟩ hK hZ hA hP hD hS hf (fun x τ ho => kX12_finding l D cI cZ cS zz ad σ (0 : Int32) x τ ho) (cwV 1 hts gX12_water_X12_finding rfl rfl rfl ndX12_finding ⟨Nat.le_of_ble_eq_true rfl, Nat.le_of_ble_eq_true rfl⟩) [0, 1, 2, 3, 4, 5, 6, 7, 8, 9, 10, 11] rfl rfl [some 0, some 1, some 2, some 3, some 4, some 5, some 6, some 7, some 8, some 9, some 10, some 11] (by decide +kernel) (Nat.le_of_ble_eq_true rfl) (fun _ => rfl) (fun _ => rfl) (fun _ => rfl) rfl rfl rfl rfl (hl.1) rfl (Nat.le_of_ble_eq_true rfl) dX12_water_33 ⟨Nat.zero_le _, Nat.zero_le _⟩ (fun r4 σ3 H locs hf hP hD hS => ?_)
    obtain ⟨hi1, hi2⟩ := Prod.mk.inj (Option.some.inj hf)
    subst hi1
    subst hi2
    exact hret _ _ _ _ dX12_water_36 rfl hP hS
  refine lv_if_eq (tgt := 31) hx hb dX12_water_7 (by decide) (fun h5 => ?_) (fun h5 => ?_)
  · have hf := (if_pos h5).symm.trans hf
    exact Jj2  _ _ _ hP hD hS (lv_sub hl [0] rfl) hf
  · have hf := (if_neg h5).symm.trans hf
    refine lv_iload_n hx hb dX12_water_10 rfl (lv_at hl 2 rfl) ?_
    refine lv_iconst (v := 1) hx hb dX12_water_11 (by decide) ?_
    refine lv_bipush (v := 99) hx hb dX12_water_12 (by decide) ?_
    refine q_cSr (wf := (wX12 cI cZ cS ad)) (rest := []) ⟨hx, hb, hml, hown, hts⟩ hK hZ hA hP hD hS hf (fun x ho => kX12_in l D cI cZ cS zz a2 (1 : Int32) (99 : Int32) x ho) (va_cwS 3 hts gX12_water_X12_in rfl rfl rfl ndX12_in.2 ⟨Nat.le_of_ble_eq_true rfl, Nat.le_of_ble_eq_true rfl⟩) rfl (hl.1) rfl (Nat.le_of_ble_eq_true rfl) dX12_water_14 ⟨Nat.zero_le _, Nat.zero_le _⟩ (fun r6 H locs hf hP hD hS => ?_)
    refine lv_if_eq (tgt := 31) hx hb dX12_water_17 (by decide) (fun h7 => ?_) (fun h7 => ?_)
    · have hf := (if_pos h7).symm.trans hf
      exact Jj2  _ _ _ hP hD hS (lv_sub hl [0] rfl) hf
    · have hf := (if_neg h7).symm.trans hf
      refine lv_iload_n hx hb dX12_water_20 rfl (lv_at hl 3 rfl) ?_
      refine lv_iconst (v := 0) hx hb dX12_water_21 (by decide) ?_
      refine lv_sipush (v := 999) hx hb dX12_water_22 (by decide) ?_
      refine q_cSr (wf := (wX12 cI cZ cS ad)) (rest := []) ⟨hx, hb, hml, hown, hts⟩ hK hZ hA hP hD hS hf (fun x ho => kX12_in l D cI cZ cS zz a3 (0 : Int32) (999 : Int32) x ho) (va_cwS 3 hts gX12_water_X12_in rfl rfl rfl ndX12_in.2 ⟨Nat.le_of_ble_eq_true rfl, Nat.le_of_ble_eq_true rfl⟩) rfl (hl.1) rfl (Nat.le_of_ble_eq_true rfl) dX12_water_25 ⟨Nat.zero_le _, Nat.zero_le _⟩ (fun r8 H locs hf hP hD hS => ?_)
      refine lv_if_ne (tgt := 37) hx hb dX12_water_28 (by decide) (fun h9 => ?_) (fun h9 => ?_)
      · have hf := (if_neg h9).symm.trans hf
        refine lv_aload_n hx hb dX12_water_37 rfl (lv_at hl 0 rfl) ?_
        refine va_get (D := D) (ci := 12) (C := RX12) (T := TX12) (N := 19) hx hb hts fwX12_water_X12 hown hK hP 0 rfl rfl 0 (by decide) (hts _ (List.mem_of_getElem? (i := 1) rfl)) (fun _ h9 => h9) rfl dX12_water_38 ?_
        refine lv_bipush (v := 16) hx hb dX12_water_41 (by decide) ?_
        refine w_iald (wf := (wX12 cI cZ cS ad)) hx hb hK hP 1 0 rfl rfl hf dX12_water_43 (fun v10 hf => ?_)
        refine lv_bipush (v := 8) hx hb dX12_water_44 (by decide) ?_
        refine lv_icmp_ne (tgt := 55) hx hb dX12_water_46 (by decide) (fun h11 => ?_) (fun h11 => ?_)
        · have hf := (if_neg h11).symm.trans hf
          refine lv_bipush (v := 65) hx hb dX12_water_55 (by decide) ?_
          refine lv_iconst (v := 4) hx hb dX12_water_57 (by decide) ?_
          refine lv_aload_n hx hb dX12_water_58 rfl (lv_at hl 0 rfl) ?_
          refine va_get (D := D) (ci := 12) (C := RX12) (T := TX12) (N := 19) hx hb hts fwX12_water_X12 hown hK hP 0 rfl rfl 0 (by decide) (hts _ (List.mem_of_getElem? (i := 1) rfl)) (fun _ h9 => h9) rfl dX12_water_59 ?_
          refine lv_bipush (v := 16) hx hb dX12_water_62 (by decide) ?_
          refine w_iald (wf := (wX12 cI cZ cS ad)) hx hb hK hP 1 0 rfl rfl hf dX12_water_64 (fun v12 hf => ?_)
          refine lv_imul hx hb dX12_water_65 ?_
          refine lv_iadd hx hb dX12_water_66 ?_
          refine lv_topi (fun x4_13 ex4_13 => ?_)
          have hf := q_lt_at ex4_13 hf
          refine lv_istore (lv' := [(4, .int x4_13), (0, .ref (ad 0)), (1, .int a1), (2, .int a2), (3, .int a3)]) hx hb dX12_water_67 hl (by decide) rfl (fun ls hl => ?_)
          refine lv_aload_n hx hb dX12_water_69 rfl (lv_at hl 1 rfl) ?_
          refine va_get (D := D) (ci := 12) (C := RX12) (T := TX12) (N := 19) hx hb hts fwX12_water_X12 hown hK hP 0 rfl rfl 0 (by decide) (hts _ (List.mem_of_getElem? (i := 1) rfl)) (fun _ h9 => h9) rfl dX12_water_70 ?_
          refine lv_iload hx hb dX12_water_73 (lv_at hl 0 rfl) ?_
          refine lv_iconst (v := 0) hx hb dX12_water_75 (by decide) ?_
          refine lv_iadd hx hb dX12_water_76 ?_
          refine lv_iload_n hx hb dX12_water_77 rfl (lv_at hl 2 rfl) ?_
          refine w_iast (wf := (wX12 cI cZ cS ad)) (cid := 1) hx hb hK hP hD hS 1 0 rfl rfl hf (fun _ => rfl) dX12_water_78 (fun σ14 H locs hf hP hD hS => ?_)
          refine lv_aload_n hx hb dX12_water_79 rfl (lv_at hl 1 rfl) ?_
          refine va_get (D := D) (ci := 12) (C := RX12) (T := TX12) (N := 19) hx hb hts fwX12_water_X12 hown hK hP 0 rfl rfl 0 (by decide) (hts _ (List.mem_of_getElem? (i := 1) rfl)) (fun _ h9 => h9) rfl dX12_water_80 ?_
          refine lv_iload hx hb dX12_water_83 (lv_at hl 0 rfl) ?_
          refine lv_iconst (v := 1) hx hb dX12_water_85 (by decide) ?_
          refine lv_iadd hx hb dX12_water_86 ?_
          refine lv_iload_n hx hb dX12_water_87 rfl (lv_at hl 3 rfl) ?_
          refine w_iast (wf := (wX12 cI cZ cS ad)) (cid := 1) hx hb hK hP hD hS 1 0 rfl rfl hf (fun _ => rfl) dX12_water_88 (fun σ15 H locs hf hP hD hS => ?_)
          refine lv_aload_n hx hb dX12_water_89 rfl (lv_at hl 1 rfl) ?_
          refine va_get (D := D) (ci := 12) (C := RX12) (T := TX12) (N := 19) hx hb hts fwX12_water_X12 hown hK hP 0 rfl rfl 0 (by decide) (hts _ (List.mem_of_getElem? (i := 1) rfl)) (fun _ h9 => h9) rfl dX12_water_90 ?_
          refine lv_iload hx hb dX12_water_93 (lv_at hl 0 rfl) ?_
          refine lv_iconst (v := 2) hx hb dX12_water_95 (by decide) ?_
          refine lv_iadd hx hb dX12_water_96 ?_
          refine lv_iload_n hx hb dX12_water_97 rfl (lv_at hl 4 rfl) ?_
          refine w_iast (wf := (wX12 cI cZ cS ad)) (cid := 1) hx hb hK hP hD hS 1 0 rfl rfl hf (fun _ => rfl) dX12_water_98 (fun σ16 H locs hf hP hD hS => ?_)
          refine lv_aload_n hx hb dX12_water_99 rfl (lv_at hl 1 rfl) ?_
          refine va_get (D := D) (ci := 12) (C := RX12) (T := TX12) (N := 19) hx hb hts fwX12_water_X12 hown hK hP 0 rfl rfl 0 (by decide) (hts _ (List.mem_of_getElem? (i := 1) rfl)) (fun _ h9 => h9) rfl dX12_water_100 ?_
          refine lv_iload hx hb dX12_water_103 (lv_at hl 0 rfl) ?_
          refine lv_iconst (v := 3) hx hb dX12_water_105 (by decide) ?_
          refine lv_iadd hx hb dX12_water_106 ?_
          refine lv_iconst (v := 0) hx hb dX12_water_107 (by decide) ?_
          refine w_iast (wf := (wX12 cI cZ cS ad)) (cid := 1) hx hb hK hP hD hS 1 0 rfl rfl hf (fun _ => rfl) dX12_water_108 (fun σ17 H locs hf hP hD hS => ?_)
          refine lv_aload_n hx hb dX12_water_109 rfl (lv_at hl 1 rfl) ?_
          refine va_get (D := D) (ci := 12) (C := RX12) (T := TX12) (N := 19) hx hb hts fwX12_water_X12 hown hK hP 0 rfl rfl 0 (by decide) (hts _ (List.mem_of_getElem? (i := 1) rfl)) (fun _ h9 => h9) rfl dX12_water_110 ?_
          refine lv_bipush (v := 16) hx hb dX12_water_113 (by decide) ?_
          refine lv_dup2_11 hx hb dX12_water_115 rfl rfl ?_
          refine w_iald (wf := (wX12 cI cZ cS ad)) hx hb hK hP 1 0 rfl rfl hf dX12_water_116 (fun v18 hf => ?_)
          refine lv_iconst (v := 1) hx hb dX12_water_117 (by decide) ?_
          refine lv_iadd hx hb dX12_water_118 ?_
          refine w_iast (wf := (wX12 cI cZ cS ad)) (cid := 1) hx hb hK hP hD hS 1 0 rfl rfl hf (fun _ => rfl) dX12_water_119 (fun σ19 H locs hf hP hD hS => ?_)
          refine lv_aload_n hx hb dX12_water_120 rfl (lv_at hl 1 rfl) ?_
          refine va_get (D := D) (ci := 12) (C := RX12) (T := TX12) (N := 19) hx hb hts fwX12_water_X12 hown hK hP 0 rfl rfl 0 (by decide) (hts _ (List.mem_of_getElem? (i := 1) rfl)) (fun _ h9 => h9) rfl dX12_water_121 ?_
          refine lv_bipush (v := 16) hx hb dX12_water_124 (by decide) ?_
          refine w_iald (wf := (wX12 cI cZ cS ad)) hx hb hK hP 1 0 rfl rfl hf dX12_water_126 (fun v20 hf => ?_)
          refine lv_iconst (v := 1) hx hb dX12_water_127 (by decide) ?_
          refine lv_isub hx hb dX12_water_128 ?_
          obtain ⟨hi1, hi2⟩ := Prod.mk.inj (Option.some.inj hf)
          subst hi1
          subst hi2
          exact hret _ _ _ _ dX12_water_129 rfl hP hS
        · have hf := (if_pos h11).symm.trans hf
          refine lv_aload_n hx hb dX12_water_49 rfl (lv_at hl 0 rfl) ?_
          refine lv_iconst (v := 1) hx hb dX12_water_50 (by decide) ?_
          refine q_cVi (wf := (wX12 cI cZ cS ad)) (wc := wX12 cI cZ cS ad) (rest := []) ⟨hx, hb, hml, hown, hts⟩ hK hZ hA hP hD hS hf (fun x τ ho => kX12_finding l D cI cZ cS zz ad σ (1 : Int32) x τ ho) (cwV 1 hts gX12_water_X12_finding rfl rfl rfl ndX12_finding ⟨Nat.le_of_ble_eq_true rfl, Nat.le_of_ble_eq_true rfl⟩) [0, 1, 2, 3, 4, 5, 6, 7, 8, 9, 10, 11] rfl rfl [some 0, some 1, some 2, some 3, some 4, some 5, some 6, some 7, some 8, some 9, some 10, some 11] (by decide +kernel) (Nat.le_of_ble_eq_true rfl) (fun _ => rfl) (fun _ => rfl) (fun _ => rfl) rfl rfl rfl rfl (hl.1) rfl (Nat.le_of_ble_eq_true rfl) dX12_water_51 ⟨Nat.zero_le _, Nat.zero_le _⟩ (fun r22 σ21 H locs hf hP hD hS => ?_)
          obtain ⟨hi1, hi2⟩ := Prod.mk.inj (Option.some.inj hf)
          subst hi1
          subst hi2
          exact hret _ _ _ _ dX12_water_54 rfl hP hS
      · have hf := (if_pos h9).symm.trans hf
        exact Jj2  _ _ _ hP hD hS (lv_sub hl [0] rfl) hf
def pX12_halfBy (σ : SS) (a1 : Int32) : Option Int32 := q_cr (pX12_has σ (0 : Int32)) (fun (r1 : Int32) => q_lt (fun (y2 : Int32) => some y2) (fun j3 => (if r1 = (0 : Int32) then j3 a1 else j3 (a1 / (2 : Int32)))))
abbrev rmX12_halfBy : Room := { frames := 1, cells := 0, slots := 0, locals := 21 }
set_option maxHeartbeats 4000000 in
set_option maxRecDepth 100000 in
theorem kX12_halfBy (l : Launch) (D : va_G) (cI cZ cS : ClassId) (zz : ZT) (ad : Nat → Nat) (σ : SS) (a1 : Int32) (rr : Int32) (hf : pX12_halfBy σ a1 = some rr) : CI l yX12_halfBy wsX12_halfBy rmX12_halfBy D (K3 cI cZ cS) zz [.ref (ad 0), .int a1] (wX12 cI cZ cS ad σ) (wX12 cI cZ cS ad σ) rr := by
  refine q_ofI (cc := cX12_halfBy) (maxL := 2) (ty := .int) (by decide) rfl (Nat.le_of_ble_eq_true rfl) ?_
  intro p e s m below meth c Q A ls hx hb hml hown hts hK hZ hA hP hD hS hl hret
  have hl : lv_has ls 2 [(0, .ref (ad 0)), (1, .int a1)] := hl
  unfold pX12_halfBy at hf
  refine lv_aload_n hx hb dX12_halfBy_0 rfl (lv_at hl 0 rfl) ?_
  refine lv_iconst (v := 0) hx hb dX12_halfBy_1 (by decide) ?_
  refine q_cVr (wf := (wX12 cI cZ cS ad)) (wc := wX12 cI cZ cS ad) (rest := []) ⟨hx, hb, hml, hown, hts⟩ hK hZ hA hP hD hS hf (fun x ho => kX12_has l D cI cZ cS zz ad σ (0 : Int32) x ho) (cwV 1 hts gX12_halfBy_X12_has rfl rfl rfl ndX12_has ⟨Nat.le_of_ble_eq_true rfl, Nat.le_of_ble_eq_true rfl⟩) [0, 1, 2, 3, 4, 5, 6, 7, 8, 9, 10, 11] rfl rfl rfl rfl rfl rfl (hl.1) rfl (Nat.le_of_ble_eq_true rfl) dX12_halfBy_2 ⟨Nat.zero_le _, Nat.zero_le _⟩ (fun r1 H locs hf hP hD hS => ?_)
  refine q_lt_go hf (fun j3 ej3 hf => ?_)
  have Jj3 : ∀ (y2 : Int32) (H : Heap) (locs : List Loc) (ls : Array Slot), va_P D vwCl ((wX12 cI cZ cS ad) σ) H → va_D A ((wX12 cI cZ cS ad) σ) → va_S A s.heap H locs → lv_has ls 2 [] → j3 y2 = some rr → W p l e rmX12_halfBy s m ([.ref (ad 0), .int a1] : List Value).toArray below meth c H locs 0 0 Q (F0 m 15 ls [.int y2]) := by
    intro y2 H locs ls hP hD hS hl hf
    have hf := (congrFun ej3 y2).symm.trans hf
    have hi1 := Option.some.inj hf
    subst hi1
    exact hret _ _ _ _ dX12_halfBy_15 rfl hP hS
  refine lv_if_eq (tgt := 14) hx hb dX12_halfBy_5 (by decide) (fun h4 => ?_) (fun h4 => ?_)
  · have hf := (if_pos h4).symm.trans hf
    refine lv_iload_n hx hb dX12_halfBy_14 rfl (lv_at hl 1 rfl) ?_
    exact Jj3 a1 _ _ _ hP hD hS (lv_sub hl [] rfl) hf
  · have hf := (if_neg h4).symm.trans hf
    refine lv_iload_n hx hb dX12_halfBy_8 rfl (lv_at hl 1 rfl) ?_
    refine lv_iconst (v := 2) hx hb dX12_halfBy_9 (by decide) ?_
    refine lv_idiv hx hb dX12_halfBy_10 (by decide) ?_
    refine lv_goto (tgt := 15) hx hb dX12_halfBy_11 (by decide) ?_
    exact Jj3 (a1 / (2 : Int32)) _ _ _ hP hD hS (lv_sub hl [] rfl) hf
def pX12_comes (σ : SS) (a1 : Int32) : Option Int32 := q_cr (pX12_its σ a1 (1 : Int32)) (fun (r1 : Int32) => q_rd (σ 1) 307 (1 : Int32) (fun (v2 : Int32) => q_lt ((r1 * v2) / (100 : Int32)) (fun x3_3 => q_rd (σ 1) 307 (0 : Int32) (fun (v4 : Int32) => q_cr (pX12_its σ a1 (2 : Int32)) (fun (r5 : Int32) => q_lt (v4 - r5) (fun x4_6 => q_lt (fun (y7 : Int32) => q_cr (pX12_its σ a1 (0 : Int32)) (fun (r9 : Int32) => (if r9 = (1 : Int32) then q_cr (pX12_halfBy σ x3_3) (fun (r11 : Int32) => some r11) else (if r9 = (2 : Int32) then some y7 else (if r9 = (3 : Int32) then q_rd (σ 1) 307 (15 : Int32) (fun (v14 : Int32) => q_lt (fun (y15 : Int32) => some y15) (fun j16 => (if v14 = (1 : Int32) then j16 y7 else j16 (0 : Int32)))) else (if r9 = (4 : Int32) then q_cr (pX12_halfBy σ (x3_3 / (2 : Int32))) (fun (r19 : Int32) => some r19) else (if r9 = (5 : Int32) then q_rd (σ 1) 307 (8 : Int32) (fun (v21 : Int32) => q_cr (pX12_its σ a1 (2 : Int32)) (fun (r22 : Int32) => q_lt (fun (y23 : Int32) => some y23) (fun j24 => (if v21 < r22 then j24 (0 : Int32) else j24 r1)))) else (if r9 = (6 : Int32) then q_cr (pX12_halfBy σ (x3_3 / (2 : Int32))) (fun (r27 : Int32) => q_cr (pX12_has σ (0 : Int32)) (fun (r28 : Int32) => q_lt (fun (y29 : Int32) => some (r27 + y29)) (fun j30 => (if r28 = (0 : Int32) then j30 (0 : Int32) else j30 r1)))) else some r1)))))))) (fun j8 => (if x4_6 ≤ (0 : Int32) then j8 (0 : Int32) else j8 (r1 * x4_6)))))))))
theorem fwX12_comes_X12 : ∀ w ∈ wsX120, w ∈ wsX12_comes := fun _ h => List.mem_cons_of_mem _ (List.mem_append_right _ h)
abbrev rmX12_comes : Room := { frames := 2, cells := 0, slots := 0, locals := 42 }
set_option maxHeartbeats 4000000 in
set_option maxRecDepth 100000 in
theorem kX12_comes (l : Launch) (D : va_G) (cI cZ cS : ClassId) (zz : ZT) (ad : Nat → Nat) (σ : SS) (a1 : Int32) (rr : Int32) (hf : pX12_comes σ a1 = some rr) : CI l yX12_comes wsX12_comes rmX12_comes D (K3 cI cZ cS) zz [.ref (ad 0), .int a1] (wX12 cI cZ cS ad σ) (wX12 cI cZ cS ad σ) rr := by
  refine q_ofI (cc := cX12_comes) (maxL := 6) (ty := .int) (by decide) rfl (Nat.le_of_ble_eq_true rfl) ?_
  intro p e s m below meth c Q A ls hx hb hml hown hts hK hZ hA hP hD hS hl hret
  have hl : lv_has ls 6 [(0, .ref (ad 0)), (1, .int a1)] := hl
  unfold pX12_comes at hf
  refine lv_aload_n hx hb dX12_comes_0 rfl (lv_at hl 0 rfl) ?_
  refine lv_iload_n hx hb dX12_comes_1 rfl (lv_at hl 1 rfl) ?_
  refine lv_iconst (v := 1) hx hb dX12_comes_2 (by decide) ?_
  refine q_cVr (wf := (wX12 cI cZ cS ad)) (wc := wX12 cI cZ cS ad) (rest := []) ⟨hx, hb, hml, hown, hts⟩ hK hZ hA hP hD hS hf (fun x ho => kX12_its l D cI cZ cS zz ad σ a1 (1 : Int32) x ho) (cwV 2 hts gX12_comes_X12_its rfl rfl rfl ndX12_its ⟨Nat.le_of_ble_eq_true rfl, Nat.le_of_ble_eq_true rfl⟩) [0, 1, 2, 3, 4, 5, 6, 7, 8, 9, 10, 11] rfl rfl rfl rfl rfl rfl (hl.1) rfl (Nat.le_of_ble_eq_true rfl) dX12_comes_3 ⟨Nat.zero_le _, Nat.zero_le _⟩ (fun r1 H locs hf hP hD hS => ?_)
  refine lv_istore_n (lv' := [(2, .int r1), (0, .ref (ad 0)), (1, .int a1)]) hx hb dX12_comes_6 rfl hl (by decide) rfl (fun ls hl => ?_)
  refine lv_iload_n hx hb dX12_comes_7 rfl (lv_at hl 0 rfl) ?_
  refine lv_aload_n hx hb dX12_comes_8 rfl (lv_at hl 1 rfl) ?_
  refine va_get (D := D) (ci := 12) (C := RX12) (T := TX12) (N := 19) hx hb hts fwX12_comes_X12 hown hK hP 0 rfl rfl 0 (by decide) (hts _ (List.mem_of_getElem? (i := 1) rfl)) (fun _ h9 => h9) rfl dX12_comes_9 ?_
  refine lv_iconst (v := 1) hx hb dX12_comes_12 (by decide) ?_
  refine w_iald (wf := (wX12 cI cZ cS ad)) hx hb hK hP 1 0 rfl rfl hf dX12_comes_13 (fun v2 hf => ?_)
  refine lv_imul hx hb dX12_comes_14 ?_
  refine lv_bipush (v := 100) hx hb dX12_comes_15 (by decide) ?_
  refine lv_idiv hx hb dX12_comes_17 (by decide) ?_
  refine lv_topi (fun x3_3 ex3_3 => ?_)
  have hf := q_lt_at ex3_3 hf
  refine lv_istore_n (lv' := [(3, .int x3_3), (2, .int r1), (0, .ref (ad 0)), (1, .int a1)]) hx hb dX12_comes_18 rfl hl (by decide) rfl (fun ls hl => ?_)
  refine lv_aload_n hx hb dX12_comes_19 rfl (lv_at hl 2 rfl) ?_
  refine va_get (D := D) (ci := 12) (C := RX12) (T := TX12) (N := 19) hx hb hts fwX12_comes_X12 hown hK hP 0 rfl rfl 0 (by decide) (hts _ (List.mem_of_getElem? (i := 1) rfl)) (fun _ h9 => h9) rfl dX12_comes_20 ?_
  refine lv_iconst (v := 0) hx hb dX12_comes_23 (by decide) ?_
  refine w_iald (wf := (wX12 cI cZ cS ad)) hx hb hK hP 1 0 rfl rfl hf dX12_comes_24 (fun v4 hf => ?_)
  refine lv_aload_n hx hb dX12_comes_25 rfl (lv_at hl 2 rfl) ?_
  refine lv_iload_n hx hb dX12_comes_26 rfl (lv_at hl 3 rfl) ?_
  refine lv_iconst (v := 2) hx hb dX12_comes_27 (by decide) ?_
  refine q_cVr (wf := (wX12 cI cZ cS ad)) (wc := wX12 cI cZ cS ad) (rest := [.int v4]) ⟨hx, hb, hml, hown, hts⟩ hK hZ hA hP hD hS hf (fun x ho => kX12_its l D cI cZ cS zz ad σ a1 (2 : Int32) x ho) (cwV 2 hts gX12_comes_X12_its rfl rfl rfl ndX12_its ⟨Nat.le_of_ble_eq_true rfl, Nat.le_of_ble_eq_true rfl⟩) [0, 1, 2, 3, 4, 5, 6, 7, 8, 9, 10, 11] rfl rfl rfl rfl rfl rfl (hl.1) rfl (Nat.le_of_ble_eq_true rfl) dX12_comes_28 ⟨Nat.zero_le _, Nat.zero_le _⟩ (fun r5 H locs hf hP hD hS => ?_)
  refine lv_isub hx hb dX12_comes_31 ?_
  refine lv_topi (fun x4_6 ex4_6 => ?_)
  have hf := q_lt_at ex4_6 hf
  refine lv_istore (lv' := [(4, .int x4_6), (3, .int x3_3), (2, .int r1), (0, .ref (ad 0)), (1, .int a1)]) hx hb dX12_comes_32 hl (by decide) rfl (fun ls hl => ?_)
  refine lv_iload hx hb dX12_comes_34 (lv_at hl 0 rfl) ?_
  refine q_lt_go hf (fun j8 ej8 hf => ?_)
  have Jj8 : ∀ (y7 : Int32) (H : Heap) (locs : List Loc) (ls : Array Slot), va_P D vwCl ((wX12 cI cZ cS ad) σ) H → va_D A ((wX12 cI cZ cS ad) σ) → va_S A s.heap H locs → lv_has ls 6 [(0, .ref (ad 0)), (1, .int a1), (2, .int r1), (3, .int x3_3)] → j8 y7 = some rr → W p l e rmX12_comes s m ([.ref (ad 0), .int a1] : List Value).toArray below meth c H locs 0 0 Q (F0 m 47 ls [.int y7]) := by
    intro y7 H locs ls hP hD hS hl hf
    have hf := (congrFun ej8 y7).symm.trans hf
    refine lv_istore (lv' := [(5, .int y7), (0, .ref (ad 0)), (1, .int a1), (2, .int r1), (3, .int x3_3)]) hx hb dX12_comes_47 hl (by decide) rfl (fun ls hl => ?_)
    refine lv_aload_n hx hb dX12_comes_49 rfl (lv_at hl 1 rfl) ?_
    refine lv_iload_n hx hb dX12_comes_50 rfl (lv_at hl 2 rfl) ?_
    refine lv_iconst (v := 0) hx hb dX12_comes_51 (by decide) ?_
    refine q_cVr (wf := (wX12 cI cZ cS ad)) (wc := wX12 cI cZ cS ad) (rest := []) ⟨hx, hb, hml, hown, hts⟩ hK hZ hA hP hD hS hf (fun x ho => kX12_its l D cI cZ cS zz ad σ a1 (0 : Int32) x ho) (cwV 2 hts gX12_comes_X12_its rfl rfl rfl ndX12_its ⟨Nat.le_of_ble_eq_true rfl, Nat.le_of_ble_eq_true rfl⟩) [0, 1, 2, 3, 4, 5, 6, 7, 8, 9, 10, 11] rfl rfl rfl rfl rfl rfl (hl.1) rfl (Nat.le_of_ble_eq_true rfl) dX12_comes_52 ⟨Nat.zero_le _, Nat.zero_le _⟩ (fun r9 H locs hf hP hD hS => ?_)
    by_cases h10 : r9 = (1 : Int32)
    · have hf := (if_pos h10).symm.trans hf
      refine lv_tableIn (tgt := 92) hx hb dX12_comes_55 (by rw [h10]; decide) (by rw [h10]; decide) (by rw [h10]; rfl) (by decide) ?_
      refine lv_aload_n hx hb dX12_comes_92 rfl (lv_at hl 1 rfl) ?_
      refine lv_iload_n hx hb dX12_comes_93 rfl (lv_at hl 4 rfl) ?_
      refine q_cVr (wf := (wX12 cI cZ cS ad)) (wc := wX12 cI cZ cS ad) (rest := []) ⟨hx, hb, hml, hown, hts⟩ hK hZ hA hP hD hS hf (fun x ho => kX12_halfBy l D cI cZ cS zz ad σ x3_3 x ho) (cwV 1 hts gX12_comes_X12_halfBy rfl rfl rfl ndX12_halfBy ⟨Nat.le_of_ble_eq_true rfl, Nat.le_of_ble_eq_true rfl⟩) [0, 1, 2, 3, 4, 5, 6, 7, 8, 9, 10, 11] rfl rfl rfl rfl rfl rfl (hl.1) rfl (Nat.le_of_ble_eq_true rfl) dX12_comes_94 ⟨Nat.zero_le _, Nat.zero_le _⟩ (fun r11 H locs hf hP hD hS => ?_)
      have hi1 := Option.some.inj hf
      subst hi1
      exact hret _ _ _ _ dX12_comes_97 rfl hP hS
    have hf := (if_neg h10).symm.trans hf
    by_cases h12 : r9 = (2 : Int32)
    · have hf := (if_pos h12).symm.trans hf
      refine lv_tableIn (tgt := 98) hx hb dX12_comes_55 (by rw [h12]; decide) (by rw [h12]; decide) (by rw [h12]; rfl) (by decide) ?_
      refine lv_iload hx hb dX12_comes_98 (lv_at hl 0 rfl) ?_
      have hi1 := Option.some.inj hf
      subst hi1
      exact hret _ _ _ _ dX12_comes_100 rfl hP hS
    have hf := (if_neg h12).symm.trans hf
    by_cases h13 : r9 = (3 : Int32)
    · have hf := (if_pos h13).symm.trans hf
      refine lv_tableIn (tgt := 101) hx hb dX12_comes_55 (by rw [h13]; decide) (by rw [h13]; decide) (by rw [h13]; rfl) (by decide) ?_
      refine lv_aload_n hx hb dX12_comes_101 rfl (lv_at hl 1 rfl) ?_
      refine va_get (D := D) (ci := 12) (C := RX12) (T := TX12) (N := 19) hx hb hts fwX12_comes_X12 hown hK hP 0 rfl rfl 0 (by decide) (hts _ (List.mem_of_getElem? (i := 1) rfl)) (fun _ h9 => h9) rfl dX12_comes_102 ?_
      refine lv_bipush (v := 15) hx hb dX12_comes_105 (by decide) ?_
      refine w_iald (wf := (wX12 cI cZ cS ad)) hx hb hK hP 1 0 rfl rfl hf dX12_comes_107 (fun v14 hf => ?_)
      refine lv_iconst (v := 1) hx hb dX12_comes_108 (by decide) ?_
      refine q_lt_go hf (fun j16 ej16 hf => ?_)
      have Jj16 : ∀ (y15 : Int32) (H : Heap) (locs : List Loc) (ls : Array Slot), va_P D vwCl ((wX12 cI cZ cS ad) σ) H → va_D A ((wX12 cI cZ cS ad) σ) → va_S A s.heap H locs → lv_has ls 6 [] → j16 y15 = some rr → W p l e rmX12_comes s m ([.ref (ad 0), .int a1] : List Value).toArray below meth c H locs 0 0 Q (F0 m 118 ls [.int y15]) := by
        intro y15 H locs ls hP hD hS hl hf
        have hf := (congrFun ej16 y15).symm.trans hf
        have hi1 := Option.some.inj hf
        subst hi1
        exact hret _ _ _ _ dX12_comes_118 rfl hP hS
      refine lv_icmp_ne (tgt := 117) hx hb dX12_comes_109 (by decide) (fun h17 => ?_) (fun h17 => ?_)
      · have hf := (if_neg h17).symm.trans hf
        refine lv_iconst (v := 0) hx hb dX12_comes_117 (by decide) ?_
        exact Jj16 (0 : Int32) _ _ _ hP hD hS (lv_sub hl [] rfl) hf
      · have hf := (if_pos h17).symm.trans hf
        refine lv_iload hx hb dX12_comes_112 (lv_at hl 0 rfl) ?_
        refine lv_goto (tgt := 118) hx hb dX12_comes_114 (by decide) ?_
        exact Jj16 y7 _ _ _ hP hD hS (lv_sub hl [] rfl) hf
    have hf := (if_neg h13).symm.trans hf
    by_cases h18 : r9 = (4 : Int32)
    · have hf := (if_pos h18).symm.trans hf
      refine lv_tableIn (tgt := 119) hx hb dX12_comes_55 (by rw [h18]; decide) (by rw [h18]; decide) (by rw [h18]; rfl) (by decide) ?_
      refine lv_aload_n hx hb dX12_comes_119 rfl (lv_at hl 1 rfl) ?_
      refine lv_iload_n hx hb dX12_comes_120 rfl (lv_at hl 4 rfl) ?_
      refine lv_iconst (v := 2) hx hb dX12_comes_121 (by decide) ?_
      refine lv_idiv hx hb dX12_comes_122 (by decide) ?_
      refine q_cVr (wf := (wX12 cI cZ cS ad)) (wc := wX12 cI cZ cS ad) (rest := []) ⟨hx, hb, hml, hown, hts⟩ hK hZ hA hP hD hS hf (fun x ho => kX12_halfBy l D cI cZ cS zz ad σ (x3_3 / (2 : Int32)) x ho) (cwV 1 hts gX12_comes_X12_halfBy rfl rfl rfl ndX12_halfBy ⟨Nat.le_of_ble_eq_true rfl, Nat.le_of_ble_eq_true rfl⟩) [0, 1, 2, 3, 4, 5, 6, 7, 8, 9, 10, 11] rfl rfl rfl rfl rfl rfl (hl.1) rfl (Nat.le_of_ble_eq_true rfl) dX12_comes_123 ⟨Nat.zero_le _, Nat.zero_le _⟩ (fun r19 H locs hf hP hD hS => ?_)
      have hi1 := Option.some.inj hf
      subst hi1
      exact hret _ _ _ _ dX12_comes_126 rfl hP hS
    have hf := (if_neg h18).symm.trans hf
    by_cases h20 : r9 = (5 : Int32)
    · have hf := (if_pos h20).symm.trans hf
      refine lv_tableIn (tgt := 127) hx hb dX12_comes_55 (by rw [h20]; decide) (by rw [h20]; decide) (by rw [h20]; rfl) (by decide) ?_
      refine lv_aload_n hx hb dX12_comes_127 rfl (lv_at hl 1 rfl) ?_
      refine va_get (D := D) (ci := 12) (C := RX12) (T := TX12) (N := 19) hx hb hts fwX12_comes_X12 hown hK hP 0 rfl rfl 0 (by decide) (hts _ (List.mem_of_getElem? (i := 1) rfl)) (fun _ h9 => h9) rfl dX12_comes_128 ?_
      refine lv_bipush (v := 8) hx hb dX12_comes_131 (by decide) ?_
      refine w_iald (wf := (wX12 cI cZ cS ad)) hx hb hK hP 1 0 rfl rfl hf dX12_comes_133 (fun v21 hf => ?_)
      refine lv_aload_n hx hb dX12_comes_134 rfl (lv_at hl 1 rfl) ?_
      refine lv_iload_n hx hb dX12_comes_135 rfl (lv_at hl 2 rfl) ?_
      refine lv_iconst (v := 2) hx hb dX12_comes_136 (by decide) ?_
      refine q_cVr (wf := (wX12 cI cZ cS ad)) (wc := wX12 cI cZ cS ad) (rest := [.int v21]) ⟨hx, hb, hml, hown, hts⟩ hK hZ hA hP hD hS hf (fun x ho => kX12_its l D cI cZ cS zz ad σ a1 (2 : Int32) x ho) (cwV 2 hts gX12_comes_X12_its rfl rfl rfl ndX12_its ⟨Nat.le_of_ble_eq_true rfl, Nat.le_of_ble_eq_true rfl⟩) [0, 1, 2, 3, 4, 5, 6, 7, 8, 9, 10, 11] rfl rfl rfl rfl rfl rfl (hl.1) rfl (Nat.le_of_ble_eq_true rfl) dX12_comes_137 ⟨Nat.zero_le _, Nat.zero_le _⟩ (fun r22 H locs hf hP hD hS => ?_)
      refine q_lt_go hf (fun j24 ej24 hf => ?_)
      have Jj24 : ∀ (y23 : Int32) (H : Heap) (locs : List Loc) (ls : Array Slot), va_P D vwCl ((wX12 cI cZ cS ad) σ) H → va_D A ((wX12 cI cZ cS ad) σ) → va_S A s.heap H locs → lv_has ls 6 [] → j24 y23 = some rr → W p l e rmX12_comes s m ([.ref (ad 0), .int a1] : List Value).toArray below meth c H locs 0 0 Q (F0 m 148 ls [.int y23]) := by
        intro y23 H locs ls hP hD hS hl hf
        have hf := (congrFun ej24 y23).symm.trans hf
        have hi1 := Option.some.inj hf
        subst hi1
        exact hret _ _ _ _ dX12_comes_148 rfl hP hS
      refine lv_icmp_lt (tgt := 147) hx hb dX12_comes_140 (by decide) (fun h25 => ?_) (fun h25 => ?_)
      · have hf := (if_pos h25).symm.trans hf
        refine lv_iconst (v := 0) hx hb dX12_comes_147 (by decide) ?_
        exact Jj24 (0 : Int32) _ _ _ hP hD hS (lv_sub hl [] rfl) hf
      · have hf := (if_neg h25).symm.trans hf
        refine lv_iload_n hx hb dX12_comes_143 rfl (lv_at hl 3 rfl) ?_
        refine lv_goto (tgt := 148) hx hb dX12_comes_144 (by decide) ?_
        exact Jj24 r1 _ _ _ hP hD hS (lv_sub hl [] rfl) hf
    have hf := (if_neg h20).symm.trans hf
    by_cases h26 : r9 = (6 : Int32)
    · have hf := (if_pos h26).symm.trans hf
      refine lv_tableIn (tgt := 149) hx hb dX12_comes_55 (by rw [h26]; decide) (by rw [h26]; decide) (by rw [h26]; rfl) (by decide) ?_
      refine lv_aload_n hx hb dX12_comes_149 rfl (lv_at hl 1 rfl) ?_
      refine lv_iload_n hx hb dX12_comes_150 rfl (lv_at hl 4 rfl) ?_
      refine lv_iconst (v := 2) hx hb dX12_comes_151 (by decide) ?_
      refine lv_idiv hx hb dX12_comes_152 (by decide) ?_
      refine q_cVr (wf := (wX12 cI cZ cS ad)) (wc := wX12 cI cZ cS ad) (rest := []) ⟨hx, hb, hml, hown, hts⟩ hK hZ hA hP hD hS hf (fun x ho => kX12_halfBy l D cI cZ cS zz ad σ (x3_3 / (2 : Int32)) x ho) (cwV 1 hts gX12_comes_X12_halfBy rfl rfl rfl ndX12_halfBy ⟨Nat.le_of_ble_eq_true rfl, Nat.le_of_ble_eq_true rfl⟩) [0, 1, 2, 3, 4, 5, 6, 7, 8, 9, 10, 11] rfl rfl rfl rfl rfl rfl (hl.1) rfl (Nat.le_of_ble_eq_true rfl) dX12_comes_153 ⟨Nat.zero_le _, Nat.zero_le _⟩ (fun r27 H locs hf hP hD hS => ?_)
      refine lv_aload_n hx hb dX12_comes_156 rfl (lv_at hl 1 rfl) ?_
      refine lv_iconst (v := 0) hx hb dX12_comes_157 (by decide) ?_
      refine q_cVr (wf := (wX12 cI cZ cS ad)) (wc := wX12 cI cZ cS ad) (rest := [.int r27]) ⟨hx, hb, hml, hown, hts⟩ hK hZ hA hP hD hS hf (fun x ho => kX12_has l D cI cZ cS zz ad σ (0 : Int32) x ho) (cwV 1 hts gX12_comes_X12_has rfl rfl rfl ndX12_has ⟨Nat.le_of_ble_eq_true rfl, Nat.le_of_ble_eq_true rfl⟩) [0, 1, 2, 3, 4, 5, 6, 7, 8, 9, 10, 11] rfl rfl rfl rfl rfl rfl (hl.1) rfl (Nat.le_of_ble_eq_true rfl) dX12_comes_158 ⟨Nat.zero_le _, Nat.zero_le _⟩ (fun r28 H locs hf hP hD hS => ?_)
      refine q_lt_go hf (fun j30 ej30 hf => ?_)
      have Jj30 : ∀ (y29 : Int32) (H : Heap) (locs : List Loc) (ls : Array Slot), va_P D vwCl ((wX12 cI cZ cS ad) σ) H → va_D A ((wX12 cI cZ cS ad) σ) → va_S A s.heap H locs → lv_has ls 6 [] → j30 y29 = some rr → W p l e rmX12_comes s m ([.ref (ad 0), .int a1] : List Value).toArray below meth c H locs 0 0 Q (F0 m 169 ls [.int y29, .int r27]) := by
        intro y29 H locs ls hP hD hS hl hf
        have hf := (congrFun ej30 y29).symm.trans hf
        refine lv_iadd hx hb dX12_comes_169 ?_
        have hi1 := Option.some.inj hf
        subst hi1
        exact hret _ _ _ _ dX12_comes_170 rfl hP hS
      refine lv_if_eq (tgt := 168) hx hb dX12_comes_161 (by decide) (fun h31 => ?_) (fun h31 => ?_)
      · have hf := (if_pos h31).symm.trans hf
        refine lv_iconst (v := 0) hx hb dX12_comes_168 (by decide) ?_
        exact Jj30 (0 : Int32) _ _ _ hP hD hS (lv_sub hl [] rfl) hf
      · have hf := (if_neg h31).symm.trans hf
        refine lv_iload_n hx hb dX12_comes_164 rfl (lv_at hl 3 rfl) ?_
        refine lv_goto (tgt := 169) hx hb dX12_comes_165 (by decide) ?_
        exact Jj30 r1 _ _ _ hP hD hS (lv_sub hl [] rfl) hf
    have hf := (if_neg h26).symm.trans hf
    refine lv_tableOut (tgt := 171) hx hb dX12_comes_55 (by have := q_ne h10 (z := 1) rfl; have := q_ne h12 (z := 2) rfl; have := q_ne h13 (z := 3) rfl; have := q_ne h18 (z := 4) rfl; have := q_ne h20 (z := 5) rfl; have := q_ne h26 (z := 6) rfl; omega) (by decide) ?_
    refine lv_iload_n hx hb dX12_comes_171 rfl (lv_at hl 3 rfl) ?_
    have hi1 := Option.some.inj hf
    subst hi1
    exact hret _ _ _ _ dX12_comes_172 rfl hP hS
  refine lv_if_le (tgt := 46) hx hb dX12_comes_36 (by decide) (fun h32 => ?_) (fun h32 => ?_)
  · have hf := (if_pos h32).symm.trans hf
    refine lv_iconst (v := 0) hx hb dX12_comes_46 (by decide) ?_
    exact Jj8 (0 : Int32) _ _ _ hP hD hS (lv_sub hl [3, 4, 2, 1] rfl) hf
  · have hf := (if_neg h32).symm.trans hf
    refine lv_iload_n hx hb dX12_comes_39 rfl (lv_at hl 2 rfl) ?_
    refine lv_iload hx hb dX12_comes_40 (lv_at hl 0 rfl) ?_
    refine lv_imul hx hb dX12_comes_42 ?_
    refine lv_goto (tgt := 47) hx hb dX12_comes_43 (by decide) ?_
    exact Jj8 (r1 * x4_6) _ _ _ hP hD hS (lv_sub hl [3, 4, 2, 1] rfl) hf
def pX12_waterOf (σ : SS) (a1 : Int32) (a2 : Int32) : Option (Int32 × SS) := q_cr (pX12_isWater σ a1) (fun (r1 : Int32) => q_lt (q_ci (pX12_finding σ (0 : Int32)) (fun (τ : SS) => τ) (fun (r4 : Int32) (σ3 : SS) => some (r4, σ3))) (fun j2 => (if r1 = (0 : Int32) then j2 else q_cr (pX12_in a2 (0 : Int32) (4 : Int32)) (fun (r6 : Int32) => (if r6 = (0 : Int32) then j2 else q_lt (fun (y8 : Int32) => some (y8, σ)) (fun j9 => (if a2 = (3 : Int32) then q_cr (pX12_comes σ a1) (fun (r15 : Int32) => j9 r15) else q_lt (fun (y11 : Int32) => q_cr (pX12_its σ a1 y11) (fun (r13 : Int32) => j9 r13)) (fun j12 => (if a2 = (4 : Int32) then j12 (3 : Int32) else j12 a2)))))))))
abbrev rmX12_waterOf : Room := { frames := 3, cells := 0, slots := 0, locals := 67 }
set_option maxHeartbeats 4000000 in
set_option maxRecDepth 100000 in
theorem kX12_waterOf (l : Launch) (D : va_G) (cI cZ cS : ClassId) (zz : ZT) (ad : Nat → Nat) (σ : SS) (a1 : Int32) (a2 : Int32) (rr : Int32) (σr : SS) (hf : pX12_waterOf σ a1 a2 = some (rr, σr)) : CI l yX12_waterOf wsX12_waterOf rmX12_waterOf D (K3 cI cZ cS) zz [.ref (ad 0), .int a1, .int a2] (wX12 cI cZ cS ad σ) (wX12 cI cZ cS ad σr) rr := by
  refine q_ofI (cc := cX12_waterOf) (maxL := 3) (ty := .int) (by decide) rfl (Nat.le_of_ble_eq_true rfl) ?_
  intro p e s m below meth c Q A ls hx hb hml hown hts hK hZ hA hP hD hS hl hret
  have hl : lv_has ls 3 [(0, .ref (ad 0)), (1, .int a1), (2, .int a2)] := hl
  unfold pX12_waterOf at hf
  refine lv_aload_n hx hb dX12_waterOf_0 rfl (lv_at hl 0 rfl) ?_
  refine lv_iload_n hx hb dX12_waterOf_1 rfl (lv_at hl 1 rfl) ?_
  refine q_cVr (wf := (wX12 cI cZ cS ad)) (wc := wX12 cI cZ cS ad) (rest := []) ⟨hx, hb, hml, hown, hts⟩ hK hZ hA hP hD hS hf (fun x ho => kX12_isWater l D cI cZ cS zz ad σ a1 x ho) (cwV 1 hts gX12_waterOf_X12_isWater rfl rfl rfl ndX12_isWater ⟨Nat.le_of_ble_eq_true rfl, Nat.le_of_ble_eq_true rfl⟩) [0, 1, 2, 3, 4, 5, 6, 7, 8, 9, 10, 11] rfl rfl rfl rfl rfl rfl (hl.1) rfl (Nat.le_of_ble_eq_true rfl) dX12_waterOf_2 ⟨Nat.zero_le _, Nat.zero_le _⟩ (fun r1 H locs hf hP hD hS => ?_)
  refine q_lt_go hf (fun j2 ej2 hf => ?_)
  have Jj2 : ∀ (H : Heap) (locs : List Loc) (ls : Array Slot), va_P D vwCl ((wX12 cI cZ cS ad) σ) H → va_D A ((wX12 cI cZ cS ad) σ) → va_S A s.heap H locs → lv_has ls 3 [(0, .ref (ad 0))] → j2 = some (rr, σr) → W p l e rmX12_waterOf s m ([.ref (ad 0), .int a1, .int a2] : List Value).toArray below meth c H locs 0 0 Q (F0 m 17 ls []) := by
    intro  H locs ls hP hD hS hl hf
    have hf := ej2.symm.trans hf
    refine lv_aload_n hx hb dX12_waterOf_17 rfl (lv_at hl 0 rfl) ?_
    refine lv_iconst (v := 0) hx hb dX12_waterOf_18 (by decide) ?_
    refine q_cVi (wf := (wX12 cI cZ cS ad)) (wc := wX12 cI cZ cS ad) (rest := []) ⟨hx, hb, hml, hown, hts⟩ hK hZ hA hP hD hS hf (fun x τ ho => kX12_finding l D cI cZ cS zz ad σ (0 : Int32) x τ ho) (cwV 1 hts gX12_waterOf_X12_finding rfl rfl rfl ndX12_finding ⟨Nat.le_of_ble_eq_true rfl, Nat.le_of_ble_eq_true rfl⟩) [0, 1, 2, 3, 4, 5, 6, 7, 8, 9, 10, 11] rfl rfl [some 0, some 1, some 2, some 3, some 4, some 5, some 6, some 7, some 8, some 9, some 10, some 11] (by decide +kernel) (Nat.le_of_ble_eq_true rfl) (fun _ => rfl) (fun _ => rfl) (fun _ => rfl) rfl rfl rfl rfl (hl.1) rfl (Nat.le_of_ble_eq_true rfl) dX12_waterOf_19 ⟨Nat.zero_le _, Nat.zero_le _⟩ (fun r4 σ3 H locs hf hP hD hS => ?_)
    obtain ⟨hi1, hi2⟩ := Prod.mk.inj (Option.some.inj hf)
    subst hi1
    subst hi2
    exact hret _ _ _ _ dX12_waterOf_22 rfl hP hS
  refine lv_if_eq (tgt := 17) hx hb dX12_waterOf_5 (by decide) (fun h5 => ?_) (fun h5 => ?_)
  · have hf := (if_pos h5).symm.trans hf
    exact Jj2  _ _ _ hP hD hS (lv_sub hl [0] rfl) hf
  · have hf := (if_neg h5).symm.trans hf
    refine lv_iload_n hx hb dX12_waterOf_8 rfl (lv_at hl 2 rfl) ?_
    refine lv_iconst (v := 0) hx hb dX12_waterOf_9 (by decide) ?_
    refine lv_iconst (v := 4) hx hb dX12_waterOf_10 (by decide) ?_
    refine q_cSr (wf := (wX12 cI cZ cS ad)) (rest := []) ⟨hx, hb, hml, hown, hts⟩ hK hZ hA hP hD hS hf (fun x ho => kX12_in l D cI cZ cS zz a2 (0 : Int32) (4 : Int32) x ho) (va_cwS 3 hts gX12_waterOf_X12_in rfl rfl rfl ndX12_in.2 ⟨Nat.le_of_ble_eq_true rfl, Nat.le_of_ble_eq_true rfl⟩) rfl (hl.1) rfl (Nat.le_of_ble_eq_true rfl) dX12_waterOf_11 ⟨Nat.zero_le _, Nat.zero_le _⟩ (fun r6 H locs hf hP hD hS => ?_)
    refine lv_if_ne (tgt := 23) hx hb dX12_waterOf_14 (by decide) (fun h7 => ?_) (fun h7 => ?_)
    · have hf := (if_neg h7).symm.trans hf
      refine lv_iload_n hx hb dX12_waterOf_23 rfl (lv_at hl 2 rfl) ?_
      refine lv_iconst (v := 3) hx hb dX12_waterOf_24 (by decide) ?_
      refine q_lt_go hf (fun j9 ej9 hf => ?_)
      have Jj9 : ∀ (y8 : Int32) (H : Heap) (locs : List Loc) (ls : Array Slot), va_P D vwCl ((wX12 cI cZ cS ad) σ) H → va_D A ((wX12 cI cZ cS ad) σ) → va_S A s.heap H locs → lv_has ls 3 [] → j9 y8 = some (rr, σr) → W p l e rmX12_waterOf s m ([.ref (ad 0), .int a1, .int a2] : List Value).toArray below meth c H locs 0 0 Q (F0 m 51 ls [.int y8]) := by
        intro y8 H locs ls hP hD hS hl hf
        have hf := (congrFun ej9 y8).symm.trans hf
        obtain ⟨hi1, hi2⟩ := Prod.mk.inj (Option.some.inj hf)
        subst hi1
        subst hi2
        exact hret _ _ _ _ dX12_waterOf_51 rfl hP hS
      refine lv_icmp_ne (tgt := 36) hx hb dX12_waterOf_25 (by decide) (fun h10 => ?_) (fun h10 => ?_)
      · have hf := (if_neg h10).symm.trans hf
        refine lv_aload_n hx hb dX12_waterOf_36 rfl (lv_at hl 0 rfl) ?_
        refine lv_iload_n hx hb dX12_waterOf_37 rfl (lv_at hl 1 rfl) ?_
        refine lv_iload_n hx hb dX12_waterOf_38 rfl (lv_at hl 2 rfl) ?_
        refine lv_iconst (v := 4) hx hb dX12_waterOf_39 (by decide) ?_
        refine q_lt_go hf (fun j12 ej12 hf => ?_)
        have Jj12 : ∀ (y11 : Int32) (H : Heap) (locs : List Loc) (ls : Array Slot), va_P D vwCl ((wX12 cI cZ cS ad) σ) H → va_D A ((wX12 cI cZ cS ad) σ) → va_S A s.heap H locs → lv_has ls 3 [] → j12 y11 = some (rr, σr) → W p l e rmX12_waterOf s m ([.ref (ad 0), .int a1, .int a2] : List Value).toArray below meth c H locs 0 0 Q (F0 m 48 ls [.int y11, .int a1, .ref (ad 0)]) := by
          intro y11 H locs ls hP hD hS hl hf
          have hf := (congrFun ej12 y11).symm.trans hf
          refine q_cVr (wf := (wX12 cI cZ cS ad)) (wc := wX12 cI cZ cS ad) (rest := []) ⟨hx, hb, hml, hown, hts⟩ hK hZ hA hP hD hS hf (fun x ho => kX12_its l D cI cZ cS zz ad σ a1 y11 x ho) (cwV 2 hts gX12_waterOf_X12_its rfl rfl rfl ndX12_its ⟨Nat.le_of_ble_eq_true rfl, Nat.le_of_ble_eq_true rfl⟩) [0, 1, 2, 3, 4, 5, 6, 7, 8, 9, 10, 11] rfl rfl rfl rfl rfl rfl (hl.1) rfl (Nat.le_of_ble_eq_true rfl) dX12_waterOf_48 ⟨Nat.zero_le _, Nat.zero_le _⟩ (fun r13 H locs hf hP hD hS => ?_)
          exact Jj9 r13 _ _ _ hP hD hS (lv_sub hl [] rfl) hf
        refine lv_icmp_ne (tgt := 47) hx hb dX12_waterOf_40 (by decide) (fun h14 => ?_) (fun h14 => ?_)
        · have hf := (if_neg h14).symm.trans hf
          refine lv_iload_n hx hb dX12_waterOf_47 rfl (lv_at hl 2 rfl) ?_
          exact Jj12 a2 _ _ _ hP hD hS (lv_sub hl [] rfl) hf
        · have hf := (if_pos h14).symm.trans hf
          refine lv_iconst (v := 3) hx hb dX12_waterOf_43 (by decide) ?_
          refine lv_goto (tgt := 48) hx hb dX12_waterOf_44 (by decide) ?_
          exact Jj12 (3 : Int32) _ _ _ hP hD hS (lv_sub hl [] rfl) hf
      · have hf := (if_pos h10).symm.trans hf
        refine lv_aload_n hx hb dX12_waterOf_28 rfl (lv_at hl 0 rfl) ?_
        refine lv_iload_n hx hb dX12_waterOf_29 rfl (lv_at hl 1 rfl) ?_
        refine q_cVr (wf := (wX12 cI cZ cS ad)) (wc := wX12 cI cZ cS ad) (rest := []) ⟨hx, hb, hml, hown, hts⟩ hK hZ hA hP hD hS hf (fun x ho => kX12_comes l D cI cZ cS zz ad σ a1 x ho) (cwV 1 hts gX12_waterOf_X12_comes rfl rfl rfl ndX12_comes ⟨Nat.le_of_ble_eq_true rfl, Nat.le_of_ble_eq_true rfl⟩) [0, 1, 2, 3, 4, 5, 6, 7, 8, 9, 10, 11] rfl rfl rfl rfl rfl rfl (hl.1) rfl (Nat.le_of_ble_eq_true rfl) dX12_waterOf_30 ⟨Nat.zero_le _, Nat.zero_le _⟩ (fun r15 H locs hf hP hD hS => ?_)
        refine lv_goto (tgt := 51) hx hb dX12_waterOf_33 (by decide) ?_
        exact Jj9 r15 _ _ _ hP hD hS (lv_sub hl [] rfl) hf
    · have hf := (if_pos h7).symm.trans hf
      exact Jj2  _ _ _ hP hD hS (lv_sub hl [0] rfl) hf
def pX12_change (σ : SS) (a1 : Int32) (a2 : Int32) (a3 : Int32) : Option (Int32 × SS) := q_cr (pX12_isWater σ a1) (fun (r1 : Int32) => q_lt (q_ci (pX12_finding σ (0 : Int32)) (fun (τ : SS) => τ) (fun (r4 : Int32) (σ3 : SS) => some (r4, σ3))) (fun j2 => (if r1 = (0 : Int32) then j2 else q_cr (pX12_in a2 (1 : Int32) (2 : Int32)) (fun (r6 : Int32) => (if r6 = (0 : Int32) then j2 else q_lt (fun (y8 : Int32) => q_lt (fun (y10 : Int32) => q_cr (pX12_in a3 y8 y10) (fun (r12 : Int32) => (if r12 = (0 : Int32) then j2 else q_lt (((65 : Int32) + ((4 : Int32) * a1)) + a2) (fun x4_14 => q_rd (σ 1) 307 x4_14 (fun (v15 : Int32) => q_wr σ 1 307 x4_14 a3 (fun (σ16 : SS) => some (v15, σ16))))))) (fun j11 => (if a2 = (1 : Int32) then j11 (99 : Int32) else j11 (999 : Int32)))) (fun j9 => (if a2 = (1 : Int32) then j9 (1 : Int32) else j9 (0 : Int32))))))))
theorem fwX12_change_X12 : ∀ w ∈ wsX120, w ∈ wsX12_change := fun _ h => List.mem_cons_of_mem _ (List.mem_append_right _ h)
abbrev rmX12_change : Room := { frames := 2, cells := 0, slots := 0, locals := 43 }
set_option maxHeartbeats 4000000 in
set_option maxRecDepth 100000 in
theorem kX12_change (l : Launch) (D : va_G) (cI cZ cS : ClassId) (zz : ZT) (ad : Nat → Nat) (σ : SS) (a1 : Int32) (a2 : Int32) (a3 : Int32) (rr : Int32) (σr : SS) (hf : pX12_change σ a1 a2 a3 = some (rr, σr)) : CI l yX12_change wsX12_change rmX12_change D (K3 cI cZ cS) zz [.ref (ad 0), .int a1, .int a2, .int a3] (wX12 cI cZ cS ad σ) (wX12 cI cZ cS ad σr) rr := by
  refine q_ofI (cc := cX12_change) (maxL := 6) (ty := .int) (by decide) rfl (Nat.le_of_ble_eq_true rfl) ?_
  intro p e s m below meth c Q A ls hx hb hml hown hts hK hZ hA hP hD hS hl hret
  have hl : lv_has ls 6 [(0, .ref (ad 0)), (1, .int a1), (2, .int a2), (3, .int a3)] := hl
  unfold pX12_change at hf
  refine lv_aload_n hx hb dX12_change_0 rfl (lv_at hl 0 rfl) ?_
  refine lv_iload_n hx hb dX12_change_1 rfl (lv_at hl 1 rfl) ?_
  refine q_cVr (wf := (wX12 cI cZ cS ad)) (wc := wX12 cI cZ cS ad) (rest := []) ⟨hx, hb, hml, hown, hts⟩ hK hZ hA hP hD hS hf (fun x ho => kX12_isWater l D cI cZ cS zz ad σ a1 x ho) (cwV 1 hts gX12_change_X12_isWater rfl rfl rfl ndX12_isWater ⟨Nat.le_of_ble_eq_true rfl, Nat.le_of_ble_eq_true rfl⟩) [0, 1, 2, 3, 4, 5, 6, 7, 8, 9, 10, 11] rfl rfl rfl rfl rfl rfl (hl.1) rfl (Nat.le_of_ble_eq_true rfl) dX12_change_2 ⟨Nat.zero_le _, Nat.zero_le _⟩ (fun r1 H locs hf hP hD hS => ?_)
  refine q_lt_go hf (fun j2 ej2 hf => ?_)
  have Jj2 : ∀ (H : Heap) (locs : List Loc) (ls : Array Slot), va_P D vwCl ((wX12 cI cZ cS ad) σ) H → va_D A ((wX12 cI cZ cS ad) σ) → va_S A s.heap H locs → lv_has ls 6 [(0, .ref (ad 0))] → j2 = some (rr, σr) → W p l e rmX12_change s m ([.ref (ad 0), .int a1, .int a2, .int a3] : List Value).toArray below meth c H locs 0 0 Q (F0 m 47 ls []) := by
    intro  H locs ls hP hD hS hl hf
    have hf := ej2.symm.trans hf
    refine lv_aload_n hx hb dX12_change_47 rfl (lv_at hl 0 rfl) ?_
    refine lv_iconst (v := 0) hx hb dX12_change_48 (by decide) ?_
    refine q_cVi (wf := (wX12 cI cZ cS ad)) (wc := wX12 cI cZ cS ad) (rest := []) ⟨hx, hb, hml, hown, hts⟩ hK hZ hA hP hD hS hf (fun x τ ho => kX12_finding l D cI cZ cS zz ad σ (0 : Int32) x τ ho) (cwV 1 hts gX12_change_X12_finding rfl rfl rfl ndX12_finding ⟨Nat.le_of_ble_eq_true rfl, Nat.le_of_ble_eq_true rfl⟩) [0, 1, 2, 3, 4, 5, 6, 7, 8, 9, 10, 11] rfl rfl [some 0, some 1, some 2, some 3, some 4, some 5, some 6, some 7, some 8, some 9, some 10, some 11] (by decide +kernel) (Nat.le_of_ble_eq_true rfl) (fun _ => rfl) (fun _ => rfl) (fun _ => rfl) rfl rfl rfl rfl (hl.1) rfl (Nat.le_of_ble_eq_true rfl) dX12_change_49 ⟨Nat.zero_le _, Nat.zero_le _⟩ (fun r4 σ3 H locs hf hP hD hS => ?_)
    obtain ⟨hi1, hi2⟩ := Prod.mk.inj (Option.some.inj hf)
    subst hi1
    subst hi2
    exact hret _ _ _ _ dX12_change_52 rfl hP hS
  refine lv_if_eq (tgt := 47) hx hb dX12_change_5 (by decide) (fun h5 => ?_) (fun h5 => ?_)
  · have hf := (if_pos h5).symm.trans hf
    exact Jj2  _ _ _ hP hD hS (lv_sub hl [0] rfl) hf
  · have hf := (if_neg h5).symm.trans hf
    refine lv_iload_n hx hb dX12_change_8 rfl (lv_at hl 2 rfl) ?_
    refine lv_iconst (v := 1) hx hb dX12_change_9 (by decide) ?_
    refine lv_iconst (v := 2) hx hb dX12_change_10 (by decide) ?_
    refine q_cSr (wf := (wX12 cI cZ cS ad)) (rest := []) ⟨hx, hb, hml, hown, hts⟩ hK hZ hA hP hD hS hf (fun x ho => kX12_in l D cI cZ cS zz a2 (1 : Int32) (2 : Int32) x ho) (va_cwS 3 hts gX12_change_X12_in rfl rfl rfl ndX12_in.2 ⟨Nat.le_of_ble_eq_true rfl, Nat.le_of_ble_eq_true rfl⟩) rfl (hl.1) rfl (Nat.le_of_ble_eq_true rfl) dX12_change_11 ⟨Nat.zero_le _, Nat.zero_le _⟩ (fun r6 H locs hf hP hD hS => ?_)
    refine lv_if_eq (tgt := 47) hx hb dX12_change_14 (by decide) (fun h7 => ?_) (fun h7 => ?_)
    · have hf := (if_pos h7).symm.trans hf
      exact Jj2  _ _ _ hP hD hS (lv_sub hl [0] rfl) hf
    · have hf := (if_neg h7).symm.trans hf
      refine lv_iload_n hx hb dX12_change_17 rfl (lv_at hl 3 rfl) ?_
      refine lv_iload_n hx hb dX12_change_18 rfl (lv_at hl 2 rfl) ?_
      refine lv_iconst (v := 1) hx hb dX12_change_19 (by decide) ?_
      refine q_lt_go hf (fun j9 ej9 hf => ?_)
      have Jj9 : ∀ (y8 : Int32) (H : Heap) (locs : List Loc) (ls : Array Slot), va_P D vwCl ((wX12 cI cZ cS ad) σ) H → va_D A ((wX12 cI cZ cS ad) σ) → va_S A s.heap H locs → lv_has ls 6 [(0, .ref (ad 0)), (1, .int a1), (2, .int a2), (3, .int a3)] → j9 y8 = some (rr, σr) → W p l e rmX12_change s m ([.ref (ad 0), .int a1, .int a2, .int a3] : List Value).toArray below meth c H locs 0 0 Q (F0 m 28 ls [.int y8, .int a3]) := by
        intro y8 H locs ls hP hD hS hl hf
        have hf := (congrFun ej9 y8).symm.trans hf
        refine lv_iload_n hx hb dX12_change_28 rfl (lv_at hl 2 rfl) ?_
        refine lv_iconst (v := 1) hx hb dX12_change_29 (by decide) ?_
        refine q_lt_go hf (fun j11 ej11 hf => ?_)
        have Jj11 : ∀ (y10 : Int32) (H : Heap) (locs : List Loc) (ls : Array Slot), va_P D vwCl ((wX12 cI cZ cS ad) σ) H → va_D A ((wX12 cI cZ cS ad) σ) → va_S A s.heap H locs → lv_has ls 6 [(0, .ref (ad 0)), (1, .int a1), (2, .int a2), (3, .int a3)] → j11 y10 = some (rr, σr) → W p l e rmX12_change s m ([.ref (ad 0), .int a1, .int a2, .int a3] : List Value).toArray below meth c H locs 0 0 Q (F0 m 41 ls [.int y10, .int y8, .int a3]) := by
          intro y10 H locs ls hP hD hS hl hf
          have hf := (congrFun ej11 y10).symm.trans hf
          refine q_cSr (wf := (wX12 cI cZ cS ad)) (rest := []) ⟨hx, hb, hml, hown, hts⟩ hK hZ hA hP hD hS hf (fun x ho => kX12_in l D cI cZ cS zz a3 y8 y10 x ho) (va_cwS 3 hts gX12_change_X12_in rfl rfl rfl ndX12_in.2 ⟨Nat.le_of_ble_eq_true rfl, Nat.le_of_ble_eq_true rfl⟩) rfl (hl.1) rfl (Nat.le_of_ble_eq_true rfl) dX12_change_41 ⟨Nat.zero_le _, Nat.zero_le _⟩ (fun r12 H locs hf hP hD hS => ?_)
          refine lv_if_ne (tgt := 53) hx hb dX12_change_44 (by decide) (fun h13 => ?_) (fun h13 => ?_)
          · have hf := (if_neg h13).symm.trans hf
            refine lv_bipush (v := 65) hx hb dX12_change_53 (by decide) ?_
            refine lv_iconst (v := 4) hx hb dX12_change_55 (by decide) ?_
            refine lv_iload_n hx hb dX12_change_56 rfl (lv_at hl 1 rfl) ?_
            refine lv_imul hx hb dX12_change_57 ?_
            refine lv_iadd hx hb dX12_change_58 ?_
            refine lv_iload_n hx hb dX12_change_59 rfl (lv_at hl 2 rfl) ?_
            refine lv_iadd hx hb dX12_change_60 ?_
            refine lv_topi (fun x4_14 ex4_14 => ?_)
            have hf := q_lt_at ex4_14 hf
            refine lv_istore (lv' := [(4, .int x4_14), (0, .ref (ad 0)), (1, .int a1), (2, .int a2), (3, .int a3)]) hx hb dX12_change_61 hl (by decide) rfl (fun ls hl => ?_)
            refine lv_aload_n hx hb dX12_change_63 rfl (lv_at hl 1 rfl) ?_
            refine va_get (D := D) (ci := 12) (C := RX12) (T := TX12) (N := 19) hx hb hts fwX12_change_X12 hown hK hP 0 rfl rfl 0 (by decide) (hts _ (List.mem_of_getElem? (i := 1) rfl)) (fun _ h9 => h9) rfl dX12_change_64 ?_
            refine lv_iload hx hb dX12_change_67 (lv_at hl 0 rfl) ?_
            refine w_iald (wf := (wX12 cI cZ cS ad)) hx hb hK hP 1 0 rfl rfl hf dX12_change_69 (fun v15 hf => ?_)
            refine lv_istore (lv' := [(5, .int v15), (4, .int x4_14), (0, .ref (ad 0)), (1, .int a1), (2, .int a2), (3, .int a3)]) hx hb dX12_change_70 hl (by decide) rfl (fun ls hl => ?_)
            refine lv_aload_n hx hb dX12_change_72 rfl (lv_at hl 2 rfl) ?_
            refine va_get (D := D) (ci := 12) (C := RX12) (T := TX12) (N := 19) hx hb hts fwX12_change_X12 hown hK hP 0 rfl rfl 0 (by decide) (hts _ (List.mem_of_getElem? (i := 1) rfl)) (fun _ h9 => h9) rfl dX12_change_73 ?_
            refine lv_iload hx hb dX12_change_76 (lv_at hl 1 rfl) ?_
            refine lv_iload_n hx hb dX12_change_78 rfl (lv_at hl 5 rfl) ?_
            refine w_iast (wf := (wX12 cI cZ cS ad)) (cid := 1) hx hb hK hP hD hS 1 0 rfl rfl hf (fun _ => rfl) dX12_change_79 (fun σ16 H locs hf hP hD hS => ?_)
            refine lv_iload hx hb dX12_change_80 (lv_at hl 0 rfl) ?_
            obtain ⟨hi1, hi2⟩ := Prod.mk.inj (Option.some.inj hf)
            subst hi1
            subst hi2
            exact hret _ _ _ _ dX12_change_82 rfl hP hS
          · have hf := (if_pos h13).symm.trans hf
            exact Jj2  _ _ _ hP hD hS (lv_sub hl [0] rfl) hf
        refine lv_icmp_ne (tgt := 38) hx hb dX12_change_30 (by decide) (fun h17 => ?_) (fun h17 => ?_)
        · have hf := (if_neg h17).symm.trans hf
          refine lv_sipush (v := 999) hx hb dX12_change_38 (by decide) ?_
          exact Jj11 (999 : Int32) _ _ _ hP hD hS (lv_sub hl [0, 1, 2, 3] rfl) hf
        · have hf := (if_pos h17).symm.trans hf
          refine lv_bipush (v := 99) hx hb dX12_change_33 (by decide) ?_
          refine lv_goto (tgt := 41) hx hb dX12_change_35 (by decide) ?_
          exact Jj11 (99 : Int32) _ _ _ hP hD hS (lv_sub hl [0, 1, 2, 3] rfl) hf
      refine lv_icmp_ne (tgt := 27) hx hb dX12_change_20 (by decide) (fun h18 => ?_) (fun h18 => ?_)
      · have hf := (if_neg h18).symm.trans hf
        refine lv_iconst (v := 0) hx hb dX12_change_27 (by decide) ?_
        exact Jj9 (0 : Int32) _ _ _ hP hD hS (lv_sub hl [0, 1, 2, 3] rfl) hf
      · have hf := (if_pos h18).symm.trans hf
        refine lv_iconst (v := 1) hx hb dX12_change_23 (by decide) ?_
        refine lv_goto (tgt := 28) hx hb dX12_change_24 (by decide) ?_
        exact Jj9 (1 : Int32) _ _ _ hP hD hS (lv_sub hl [0, 1, 2, 3] rfl) hf
def pX12_leastOf (a1 : Int32) : Option Int32 := q_lt (fun (y1 : Int32) => some y1) (fun j2 => q_lt (j2 (1 : Int32)) (fun j3 => (if a1 = (3 : Int32) then j3 else (if a1 = (5 : Int32) then j3 else (if a1 = (6 : Int32) then j3 else j2 (0 : Int32))))))
abbrev rmX12_leastOf : Room := { frames := 0, cells := 0, slots := 0, locals := 0 }
set_option maxHeartbeats 4000000 in
set_option maxRecDepth 100000 in
theorem kX12_leastOf (l : Launch) (D : va_G) (cI cZ cS : ClassId) (zz : ZT) (a1 : Int32) (rr : Int32) (hf : pX12_leastOf a1 = some rr) : CI l yX12_leastOf wsX12_leastOf rmX12_leastOf D (K3 cI cZ cS) zz [.int a1] [] [] rr := by
  refine q_ofI (cc := cX12_leastOf) (maxL := 1) (ty := .int) (by decide) rfl (Nat.le_of_ble_eq_true rfl) ?_
  intro p e s m below meth c Q A ls hx hb hml hown hts hK hZ hA hP hD hS hl hret
  have hl : lv_has ls 1 [(0, .int a1)] := hl
  unfold pX12_leastOf at hf
  refine lv_iload_n hx hb dX12_leastOf_0 rfl (lv_at hl 0 rfl) ?_
  refine lv_iconst (v := 3) hx hb dX12_leastOf_1 (by decide) ?_
  refine q_lt_go hf (fun j2 ej2 hf => ?_)
  have Jj2 : ∀ (y1 : Int32) (H : Heap) (locs : List Loc) (ls : Array Slot), va_P D vwCl ([] : va_W) H → va_D A ([] : va_W) → va_S A s.heap H locs → lv_has ls 1 [] → j2 y1 = some rr → W p l e rmX12_leastOf s m ([.int a1] : List Value).toArray below meth c H locs 0 0 Q (F0 m 21 ls [.int y1]) := by
    intro y1 H locs ls hP hD hS hl hf
    have hf := (congrFun ej2 y1).symm.trans hf
    have hi1 := Option.some.inj hf
    subst hi1
    exact hret _ _ _ _ dX12_leastOf_21 rfl hP hS
  refine q_lt_go hf (fun j3 ej3 hf => ?_)
  have Jj3 : ∀ (H : Heap) (locs : List Loc) (ls : Array Slot), va_P D vwCl ([] : va_W) H → va_D A ([] : va_W) → va_S A s.heap H locs → lv_has ls 1 [] → j3 = some rr → W p l e rmX12_leastOf s m ([.int a1] : List Value).toArray below meth c H locs 0 0 Q (F0 m 16 ls []) := by
    intro  H locs ls hP hD hS hl hf
    have hf := ej3.symm.trans hf
    refine lv_iconst (v := 1) hx hb dX12_leastOf_16 (by decide) ?_
    refine lv_goto (tgt := 21) hx hb dX12_leastOf_17 (by decide) ?_
    exact Jj2 (1 : Int32) _ _ _ hP hD hS (lv_sub hl [] rfl) hf
  refine lv_icmp_eq (tgt := 16) hx hb dX12_leastOf_2 (by decide) (fun h4 => ?_) (fun h4 => ?_)
  · have hf := (if_pos h4).symm.trans hf
    exact Jj3  _ _ _ hP hD hS (lv_sub hl [] rfl) hf
  · have hf := (if_neg h4).symm.trans hf
    refine lv_iload_n hx hb dX12_leastOf_5 rfl (lv_at hl 0 rfl) ?_
    refine lv_iconst (v := 5) hx hb dX12_leastOf_6 (by decide) ?_
    refine lv_icmp_eq (tgt := 16) hx hb dX12_leastOf_7 (by decide) (fun h5 => ?_) (fun h5 => ?_)
    · have hf := (if_pos h5).symm.trans hf
      exact Jj3  _ _ _ hP hD hS (lv_sub hl [] rfl) hf
    · have hf := (if_neg h5).symm.trans hf
      refine lv_iload_n hx hb dX12_leastOf_10 rfl (lv_at hl 0 rfl) ?_
      refine lv_bipush (v := 6) hx hb dX12_leastOf_11 (by decide) ?_
      refine lv_icmp_ne (tgt := 20) hx hb dX12_leastOf_13 (by decide) (fun h6 => ?_) (fun h6 => ?_)
      · have hf := (if_neg h6).symm.trans hf
        refine lv_iconst (v := 0) hx hb dX12_leastOf_20 (by decide) ?_
        exact Jj2 (0 : Int32) _ _ _ hP hD hS (lv_sub hl [] rfl) hf
      · have hf := (if_pos h6).symm.trans hf
        exact Jj3  _ _ _ hP hD hS (lv_sub hl [] rfl) hf
def pX12_mostOf (a1 : Int32) : Option Int32 := q_lt (fun (y1 : Int32) => some y1) (fun j2 => q_lt (j2 (99 : Int32)) (fun j3 => (if a1 = (0 : Int32) then j3 else (if a1 = (5 : Int32) then j3 else (if a1 = (2 : Int32) then j2 (9999 : Int32) else (if a1 = (4 : Int32) then j2 (998 : Int32) else j2 (999 : Int32)))))))
abbrev rmX12_mostOf : Room := { frames := 0, cells := 0, slots := 0, locals := 0 }
set_option maxHeartbeats 4000000 in
set_option maxRecDepth 100000 in
theorem kX12_mostOf (l : Launch) (D : va_G) (cI cZ cS : ClassId) (zz : ZT) (a1 : Int32) (rr : Int32) (hf : pX12_mostOf a1 = some rr) : CI l yX12_mostOf wsX12_mostOf rmX12_mostOf D (K3 cI cZ cS) zz [.int a1] [] [] rr := by
  refine q_ofI (cc := cX12_mostOf) (maxL := 1) (ty := .int) (by decide) rfl (Nat.le_of_ble_eq_true rfl) ?_
  intro p e s m below meth c Q A ls hx hb hml hown hts hK hZ hA hP hD hS hl hret
  have hl : lv_has ls 1 [(0, .int a1)] := hl
  unfold pX12_mostOf at hf
  refine lv_iload_n hx hb dX12_mostOf_0 rfl (lv_at hl 0 rfl) ?_
  refine q_lt_go hf (fun j2 ej2 hf => ?_)
  have Jj2 : ∀ (y1 : Int32) (H : Heap) (locs : List Loc) (ls : Array Slot), va_P D vwCl ([] : va_W) H → va_D A ([] : va_W) → va_S A s.heap H locs → lv_has ls 1 [] → j2 y1 = some rr → W p l e rmX12_mostOf s m ([.int a1] : List Value).toArray below meth c H locs 0 0 Q (F0 m 39 ls [.int y1]) := by
    intro y1 H locs ls hP hD hS hl hf
    have hf := (congrFun ej2 y1).symm.trans hf
    have hi1 := Option.some.inj hf
    subst hi1
    exact hret _ _ _ _ dX12_mostOf_39 rfl hP hS
  refine q_lt_go hf (fun j3 ej3 hf => ?_)
  have Jj3 : ∀ (H : Heap) (locs : List Loc) (ls : Array Slot), va_P D vwCl ([] : va_W) H → va_D A ([] : va_W) → va_S A s.heap H locs → lv_has ls 1 [] → j3 = some rr → W p l e rmX12_mostOf s m ([.int a1] : List Value).toArray below meth c H locs 0 0 Q (F0 m 9 ls []) := by
    intro  H locs ls hP hD hS hl hf
    have hf := ej3.symm.trans hf
    refine lv_bipush (v := 99) hx hb dX12_mostOf_9 (by decide) ?_
    refine lv_goto (tgt := 39) hx hb dX12_mostOf_11 (by decide) ?_
    exact Jj2 (99 : Int32) _ _ _ hP hD hS (lv_sub hl [] rfl) hf
  refine lv_if_eq (tgt := 9) hx hb dX12_mostOf_1 (by decide) (fun h4 => ?_) (fun h4 => ?_)
  · have hf := (if_pos h4).symm.trans hf
    exact Jj3  _ _ _ hP hD hS (lv_sub hl [] rfl) hf
  · have hf := (if_neg h4).symm.trans hf
    refine lv_iload_n hx hb dX12_mostOf_4 rfl (lv_at hl 0 rfl) ?_
    refine lv_iconst (v := 5) hx hb dX12_mostOf_5 (by decide) ?_
    refine lv_icmp_ne (tgt := 14) hx hb dX12_mostOf_6 (by decide) (fun h5 => ?_) (fun h5 => ?_)
    · have hf := (if_neg h5).symm.trans hf
      refine lv_iload_n hx hb dX12_mostOf_14 rfl (lv_at hl 0 rfl) ?_
      refine lv_iconst (v := 2) hx hb dX12_mostOf_15 (by decide) ?_
      refine lv_icmp_ne (tgt := 25) hx hb dX12_mostOf_16 (by decide) (fun h6 => ?_) (fun h6 => ?_)
      · have hf := (if_neg h6).symm.trans hf
        refine lv_iload_n hx hb dX12_mostOf_25 rfl (lv_at hl 0 rfl) ?_
        refine lv_iconst (v := 4) hx hb dX12_mostOf_26 (by decide) ?_
        refine lv_icmp_ne (tgt := 36) hx hb dX12_mostOf_27 (by decide) (fun h7 => ?_) (fun h7 => ?_)
        · have hf := (if_neg h7).symm.trans hf
          refine lv_sipush (v := 999) hx hb dX12_mostOf_36 (by decide) ?_
          exact Jj2 (999 : Int32) _ _ _ hP hD hS (lv_sub hl [] rfl) hf
        · have hf := (if_pos h7).symm.trans hf
          refine lv_sipush (v := 998) hx hb dX12_mostOf_30 (by decide) ?_
          refine lv_goto (tgt := 39) hx hb dX12_mostOf_33 (by decide) ?_
          exact Jj2 (998 : Int32) _ _ _ hP hD hS (lv_sub hl [] rfl) hf
      · have hf := (if_pos h6).symm.trans hf
        refine lv_sipush (v := 9999) hx hb dX12_mostOf_19 (by decide) ?_
        refine lv_goto (tgt := 39) hx hb dX12_mostOf_22 (by decide) ?_
        exact Jj2 (9999 : Int32) _ _ _ hP hD hS (lv_sub hl [] rfl) hf
    · have hf := (if_pos h5).symm.trans hf
      exact Jj3  _ _ _ hP hD hS (lv_sub hl [] rfl) hf
def pX12_set (σ : SS) (a1 : Int32) (a2 : Int32) : Option (Int32 × SS) := q_cr (pX12_in a1 (0 : Int32) (7 : Int32)) (fun (r1 : Int32) => q_lt (fun (y2 : Int32) => q_lt (q_ci (pX12_finding σ (0 : Int32)) (fun (τ : SS) => τ) (fun (r6 : Int32) (σ5 : SS) => some (r6, σ5))) (fun j4 => (if y2 = (0 : Int32) then j4 else q_lt (q_lt (q_rd (σ 1) 307 a1 (fun (v10 : Int32) => q_wr σ 1 307 a1 a2 (fun (σ11 : SS) => some (v10, σ11)))) (fun j9 => (if a1 = (4 : Int32) then q_rd (σ 1) 307 (3 : Int32) (fun (v13 : Int32) => (if a2 < v13 then j9 else j4)) else j9))) (fun j8 => (if a1 = (3 : Int32) then q_rd (σ 1) 307 (4 : Int32) (fun (v16 : Int32) => (if a2 ≤ v16 then j4 else j8)) else j8))))) (fun j3 => q_lt (j3 (0 : Int32)) (fun j18 => (if r1 = (0 : Int32) then j18 else q_cr (pX12_leastOf a1) (fun (r20 : Int32) => q_cr (pX12_mostOf a1) (fun (r21 : Int32) => q_cr (pX12_in a2 r20 r21) (fun (r22 : Int32) => (if r22 = (0 : Int32) then j18 else j3 (1 : Int32)))))))))
theorem fwX12_set_X12 : ∀ w ∈ wsX120, w ∈ wsX12_set := fun _ h => List.mem_cons_of_mem _ (List.mem_append_right _ h)
abbrev rmX12_set : Room := { frames := 1, cells := 0, slots := 0, locals := 22 }
set_option maxHeartbeats 4000000 in
set_option maxRecDepth 100000 in
theorem kX12_set (l : Launch) (D : va_G) (cI cZ cS : ClassId) (zz : ZT) (ad : Nat → Nat) (σ : SS) (a1 : Int32) (a2 : Int32) (rr : Int32) (σr : SS) (hf : pX12_set σ a1 a2 = some (rr, σr)) : CI l yX12_set wsX12_set rmX12_set D (K3 cI cZ cS) zz [.ref (ad 0), .int a1, .int a2] (wX12 cI cZ cS ad σ) (wX12 cI cZ cS ad σr) rr := by
  refine q_ofI (cc := cX12_set) (maxL := 5) (ty := .int) (by decide) rfl (Nat.le_of_ble_eq_true rfl) ?_
  intro p e s m below meth c Q A ls hx hb hml hown hts hK hZ hA hP hD hS hl hret
  have hl : lv_has ls 5 [(0, .ref (ad 0)), (1, .int a1), (2, .int a2)] := hl
  unfold pX12_set at hf
  refine lv_iload_n hx hb dX12_set_0 rfl (lv_at hl 1 rfl) ?_
  refine lv_iconst (v := 0) hx hb dX12_set_1 (by decide) ?_
  refine lv_bipush (v := 7) hx hb dX12_set_2 (by decide) ?_
  refine q_cSr (wf := (wX12 cI cZ cS ad)) (rest := []) ⟨hx, hb, hml, hown, hts⟩ hK hZ hA hP hD hS hf (fun x ho => kX12_in l D cI cZ cS zz a1 (0 : Int32) (7 : Int32) x ho) (va_cwS 3 hts gX12_set_X12_in rfl rfl rfl ndX12_in.2 ⟨Nat.le_of_ble_eq_true rfl, Nat.le_of_ble_eq_true rfl⟩) rfl (hl.1) rfl (Nat.le_of_ble_eq_true rfl) dX12_set_4 ⟨Nat.zero_le _, Nat.zero_le _⟩ (fun r1 H locs hf hP hD hS => ?_)
  refine q_lt_go hf (fun j3 ej3 hf => ?_)
  have Jj3 : ∀ (y2 : Int32) (H : Heap) (locs : List Loc) (ls : Array Slot), va_P D vwCl ((wX12 cI cZ cS ad) σ) H → va_D A ((wX12 cI cZ cS ad) σ) → va_S A s.heap H locs → lv_has ls 5 [(0, .ref (ad 0)), (1, .int a1), (2, .int a2)] → j3 y2 = some (rr, σr) → W p l e rmX12_set s m ([.ref (ad 0), .int a1, .int a2] : List Value).toArray below meth c H locs 0 0 Q (F0 m 30 ls [.int y2]) := by
    intro y2 H locs ls hP hD hS hl hf
    have hf := (congrFun ej3 y2).symm.trans hf
    refine lv_istore_n (lv' := [(3, .int y2), (0, .ref (ad 0)), (1, .int a1), (2, .int a2)]) hx hb dX12_set_30 rfl hl (by decide) rfl (fun ls hl => ?_)
    refine lv_iload_n hx hb dX12_set_31 rfl (lv_at hl 0 rfl) ?_
    refine q_lt_go hf (fun j4 ej4 hf => ?_)
    have Jj4 : ∀ (H : Heap) (locs : List Loc) (ls : Array Slot), va_P D vwCl ((wX12 cI cZ cS ad) σ) H → va_D A ((wX12 cI cZ cS ad) σ) → va_S A s.heap H locs → lv_has ls 5 [(0, .ref (ad 0))] → j4 = some (rr, σr) → W p l e rmX12_set s m ([.ref (ad 0), .int a1, .int a2] : List Value).toArray below meth c H locs 0 0 Q (F0 m 65 ls []) := by
      intro  H locs ls hP hD hS hl hf
      have hf := ej4.symm.trans hf
      refine lv_aload_n hx hb dX12_set_65 rfl (lv_at hl 0 rfl) ?_
      refine lv_iconst (v := 0) hx hb dX12_set_66 (by decide) ?_
      refine q_cVi (wf := (wX12 cI cZ cS ad)) (wc := wX12 cI cZ cS ad) (rest := []) ⟨hx, hb, hml, hown, hts⟩ hK hZ hA hP hD hS hf (fun x τ ho => kX12_finding l D cI cZ cS zz ad σ (0 : Int32) x τ ho) (cwV 1 hts gX12_set_X12_finding rfl rfl rfl ndX12_finding ⟨Nat.le_of_ble_eq_true rfl, Nat.le_of_ble_eq_true rfl⟩) [0, 1, 2, 3, 4, 5, 6, 7, 8, 9, 10, 11] rfl rfl [some 0, some 1, some 2, some 3, some 4, some 5, some 6, some 7, some 8, some 9, some 10, some 11] (by decide +kernel) (Nat.le_of_ble_eq_true rfl) (fun _ => rfl) (fun _ => rfl) (fun _ => rfl) rfl rfl rfl rfl (hl.1) rfl (Nat.le_of_ble_eq_true rfl) dX12_set_67 ⟨Nat.zero_le _, Nat.zero_le _⟩ (fun r6 σ5 H locs hf hP hD hS => ?_)
      obtain ⟨hi1, hi2⟩ := Prod.mk.inj (Option.some.inj hf)
      subst hi1
      subst hi2
      exact hret _ _ _ _ dX12_set_70 rfl hP hS
    refine lv_if_eq (tgt := 65) hx hb dX12_set_32 (by decide) (fun h7 => ?_) (fun h7 => ?_)
    · have hf := (if_pos h7).symm.trans hf
      exact Jj4  _ _ _ hP hD hS (lv_sub hl [1] rfl) hf
    · have hf := (if_neg h7).symm.trans hf
      refine lv_iload_n hx hb dX12_set_35 rfl (lv_at hl 2 rfl) ?_
      refine lv_iconst (v := 3) hx hb dX12_set_36 (by decide) ?_
      refine q_lt_go hf (fun j8 ej8 hf => ?_)
      have Jj8 : ∀ (H : Heap) (locs : List Loc) (ls : Array Slot), va_P D vwCl ((wX12 cI cZ cS ad) σ) H → va_D A ((wX12 cI cZ cS ad) σ) → va_S A s.heap H locs → lv_has ls 5 [(0, .ref (ad 0)), (1, .int a1), (2, .int a2)] → j8 = some (rr, σr) → W p l e rmX12_set s m ([.ref (ad 0), .int a1, .int a2] : List Value).toArray below meth c H locs 0 0 Q (F0 m 50 ls []) := by
        intro  H locs ls hP hD hS hl hf
        have hf := ej8.symm.trans hf
        refine lv_iload_n hx hb dX12_set_50 rfl (lv_at hl 1 rfl) ?_
        refine lv_iconst (v := 4) hx hb dX12_set_51 (by decide) ?_
        refine q_lt_go hf (fun j9 ej9 hf => ?_)
        have Jj9 : ∀ (H : Heap) (locs : List Loc) (ls : Array Slot), va_P D vwCl ((wX12 cI cZ cS ad) σ) H → va_D A ((wX12 cI cZ cS ad) σ) → va_S A s.heap H locs → lv_has ls 5 [(0, .ref (ad 0)), (1, .int a1), (2, .int a2)] → j9 = some (rr, σr) → W p l e rmX12_set s m ([.ref (ad 0), .int a1, .int a2] : List Value).toArray below meth c H locs 0 0 Q (F0 m 71 ls []) := by
          intro  H locs ls hP hD hS hl hf
          have hf := ej9.symm.trans hf
          refine lv_aload_n hx hb dX12_set_71 rfl (lv_at hl 0 rfl) ?_
          refine va_get (D := D) (ci := 12) (C := RX12) (T := TX12) (N := 19) hx hb hts fwX12_set_X12 hown hK hP 0 rfl rfl 0 (by decide) (hts _ (List.mem_of_getElem? (i := 1) rfl)) (fun _ h9 => h9) rfl dX12_set_72 ?_
          refine lv_iload_n hx hb dX12_set_75 rfl (lv_at hl 1 rfl) ?_
          refine w_iald (wf := (wX12 cI cZ cS ad)) hx hb hK hP 1 0 rfl rfl hf dX12_set_76 (fun v10 hf => ?_)
          refine lv_istore (lv' := [(4, .int v10), (0, .ref (ad 0)), (1, .int a1), (2, .int a2)]) hx hb dX12_set_77 hl (by decide) rfl (fun ls hl => ?_)
          refine lv_aload_n hx hb dX12_set_79 rfl (lv_at hl 1 rfl) ?_
          refine va_get (D := D) (ci := 12) (C := RX12) (T := TX12) (N := 19) hx hb hts fwX12_set_X12 hown hK hP 0 rfl rfl 0 (by decide) (hts _ (List.mem_of_getElem? (i := 1) rfl)) (fun _ h9 => h9) rfl dX12_set_80 ?_
          refine lv_iload_n hx hb dX12_set_83 rfl (lv_at hl 2 rfl) ?_
          refine lv_iload_n hx hb dX12_set_84 rfl (lv_at hl 3 rfl) ?_
          refine w_iast (wf := (wX12 cI cZ cS ad)) (cid := 1) hx hb hK hP hD hS 1 0 rfl rfl hf (fun _ => rfl) dX12_set_85 (fun σ11 H locs hf hP hD hS => ?_)
          refine lv_iload hx hb dX12_set_86 (lv_at hl 0 rfl) ?_
          obtain ⟨hi1, hi2⟩ := Prod.mk.inj (Option.some.inj hf)
          subst hi1
          subst hi2
          exact hret _ _ _ _ dX12_set_88 rfl hP hS
        refine lv_icmp_ne (tgt := 71) hx hb dX12_set_52 (by decide) (fun h12 => ?_) (fun h12 => ?_)
        · have hf := (if_neg h12).symm.trans hf
          exact Jj9  _ _ _ hP hD hS (lv_sub hl [0, 1, 2] rfl) hf
        · have hf := (if_pos h12).symm.trans hf
          refine lv_iload_n hx hb dX12_set_55 rfl (lv_at hl 2 rfl) ?_
          refine lv_aload_n hx hb dX12_set_56 rfl (lv_at hl 0 rfl) ?_
          refine va_get (D := D) (ci := 12) (C := RX12) (T := TX12) (N := 19) hx hb hts fwX12_set_X12 hown hK hP 0 rfl rfl 0 (by decide) (hts _ (List.mem_of_getElem? (i := 1) rfl)) (fun _ h9 => h9) rfl dX12_set_57 ?_
          refine lv_iconst (v := 3) hx hb dX12_set_60 (by decide) ?_
          refine w_iald (wf := (wX12 cI cZ cS ad)) hx hb hK hP 1 0 rfl rfl hf dX12_set_61 (fun v13 hf => ?_)
          refine lv_icmp_lt (tgt := 71) hx hb dX12_set_62 (by decide) (fun h14 => ?_) (fun h14 => ?_)
          · have hf := (if_pos h14).symm.trans hf
            exact Jj9  _ _ _ hP hD hS (lv_sub hl [0, 1, 2] rfl) hf
          · have hf := (if_neg h14).symm.trans hf
            exact Jj4  _ _ _ hP hD hS (lv_sub hl [0] rfl) hf
      refine lv_icmp_ne (tgt := 50) hx hb dX12_set_37 (by decide) (fun h15 => ?_) (fun h15 => ?_)
      · have hf := (if_neg h15).symm.trans hf
        exact Jj8  _ _ _ hP hD hS (lv_sub hl [1, 2, 3] rfl) hf
      · have hf := (if_pos h15).symm.trans hf
        refine lv_iload_n hx hb dX12_set_40 rfl (lv_at hl 3 rfl) ?_
        refine lv_aload_n hx hb dX12_set_41 rfl (lv_at hl 1 rfl) ?_
        refine va_get (D := D) (ci := 12) (C := RX12) (T := TX12) (N := 19) hx hb hts fwX12_set_X12 hown hK hP 0 rfl rfl 0 (by decide) (hts _ (List.mem_of_getElem? (i := 1) rfl)) (fun _ h9 => h9) rfl dX12_set_42 ?_
        refine lv_iconst (v := 4) hx hb dX12_set_45 (by decide) ?_
        refine w_iald (wf := (wX12 cI cZ cS ad)) hx hb hK hP 1 0 rfl rfl hf dX12_set_46 (fun v16 hf => ?_)
        refine lv_icmp_le (tgt := 65) hx hb dX12_set_47 (by decide) (fun h17 => ?_) (fun h17 => ?_)
        · have hf := (if_pos h17).symm.trans hf
          exact Jj4  _ _ _ hP hD hS (lv_sub hl [1] rfl) hf
        · have hf := (if_neg h17).symm.trans hf
          exact Jj8  _ _ _ hP hD hS (lv_sub hl [1, 2, 3] rfl) hf
  refine q_lt_go hf (fun j18 ej18 hf => ?_)
  have Jj18 : ∀ (H : Heap) (locs : List Loc) (ls : Array Slot), va_P D vwCl ((wX12 cI cZ cS ad) σ) H → va_D A ((wX12 cI cZ cS ad) σ) → va_S A s.heap H locs → lv_has ls 5 [(0, .ref (ad 0)), (1, .int a1), (2, .int a2)] → j18 = some (rr, σr) → W p l e rmX12_set s m ([.ref (ad 0), .int a1, .int a2] : List Value).toArray below meth c H locs 0 0 Q (F0 m 29 ls []) := by
    intro  H locs ls hP hD hS hl hf
    have hf := ej18.symm.trans hf
    refine lv_iconst (v := 0) hx hb dX12_set_29 (by decide) ?_
    exact Jj3 (0 : Int32) _ _ _ hP hD hS (lv_sub hl [0, 1, 2] rfl) hf
  refine lv_if_eq (tgt := 29) hx hb dX12_set_7 (by decide) (fun h19 => ?_) (fun h19 => ?_)
  · have hf := (if_pos h19).symm.trans hf
    exact Jj18  _ _ _ hP hD hS (lv_sub hl [0, 1, 2] rfl) hf
  · have hf := (if_neg h19).symm.trans hf
    refine lv_iload_n hx hb dX12_set_10 rfl (lv_at hl 2 rfl) ?_
    refine lv_iload_n hx hb dX12_set_11 rfl (lv_at hl 1 rfl) ?_
    refine q_cSr (wf := (wX12 cI cZ cS ad)) (rest := [.int a2]) ⟨hx, hb, hml, hown, hts⟩ hK hZ hA hP hD hS hf (fun x ho => kX12_leastOf l D cI cZ cS zz a1 x ho) (va_cwS 1 hts gX12_set_X12_leastOf rfl rfl rfl ndX12_leastOf.2 ⟨Nat.le_of_ble_eq_true rfl, Nat.le_of_ble_eq_true rfl⟩) rfl (hl.1) rfl (Nat.le_of_ble_eq_true rfl) dX12_set_12 ⟨Nat.zero_le _, Nat.zero_le _⟩ (fun r20 H locs hf hP hD hS => ?_)
    refine lv_iload_n hx hb dX12_set_15 rfl (lv_at hl 1 rfl) ?_
    refine q_cSr (wf := (wX12 cI cZ cS ad)) (rest := [.int r20, .int a2]) ⟨hx, hb, hml, hown, hts⟩ hK hZ hA hP hD hS hf (fun x ho => kX12_mostOf l D cI cZ cS zz a1 x ho) (va_cwS 1 hts gX12_set_X12_mostOf rfl rfl rfl ndX12_mostOf.2 ⟨Nat.le_of_ble_eq_true rfl, Nat.le_of_ble_eq_true rfl⟩) rfl (hl.1) rfl (Nat.le_of_ble_eq_true rfl) dX12_set_16 ⟨Nat.zero_le _, Nat.zero_le _⟩ (fun r21 H locs hf hP hD hS => ?_)
    refine q_cSr (wf := (wX12 cI cZ cS ad)) (rest := []) ⟨hx, hb, hml, hown, hts⟩ hK hZ hA hP hD hS hf (fun x ho => kX12_in l D cI cZ cS zz a2 r20 r21 x ho) (va_cwS 3 hts gX12_set_X12_in rfl rfl rfl ndX12_in.2 ⟨Nat.le_of_ble_eq_true rfl, Nat.le_of_ble_eq_true rfl⟩) rfl (hl.1) rfl (Nat.le_of_ble_eq_true rfl) dX12_set_19 ⟨Nat.zero_le _, Nat.zero_le _⟩ (fun r22 H locs hf hP hD hS => ?_)
    refine lv_if_eq (tgt := 29) hx hb dX12_set_22 (by decide) (fun h23 => ?_) (fun h23 => ?_)
    · have hf := (if_pos h23).symm.trans hf
      exact Jj18  _ _ _ hP hD hS (lv_sub hl [0, 1, 2] rfl) hf
    · have hf := (if_neg h23).symm.trans hf
      refine lv_iconst (v := 1) hx hb dX12_set_25 (by decide) ?_
      refine lv_goto (tgt := 30) hx hb dX12_set_26 (by decide) ?_
      exact Jj3 (1 : Int32) _ _ _ hP hD hS (lv_sub hl [0, 1, 2] rfl) hf
def pX12_current (σ : SS) (a1 : Int32) : Option (Int32 × SS) := q_rd (σ 1) 307 (14 : Int32) (fun (v1 : Int32) => q_lt (fun (y2 : Int32) => q_wr σ 1 307 (14 : Int32) y2 (fun (σ4 : SS) => some (v1, σ4))) (fun j3 => (if a1 = (0 : Int32) then j3 (0 : Int32) else j3 (1 : Int32))))
theorem fwX12_current_X12 : ∀ w ∈ wsX120, w ∈ wsX12_current := fun _ h => List.mem_cons_of_mem _ (List.mem_append_right _ h)
abbrev rmX12_current : Room := { frames := 0, cells := 0, slots := 0, locals := 0 }
set_option maxHeartbeats 4000000 in
set_option maxRecDepth 100000 in
theorem kX12_current (l : Launch) (D : va_G) (cI cZ cS : ClassId) (zz : ZT) (ad : Nat → Nat) (σ : SS) (a1 : Int32) (rr : Int32) (σr : SS) (hf : pX12_current σ a1 = some (rr, σr)) : CI l yX12_current wsX12_current rmX12_current D (K3 cI cZ cS) zz [.ref (ad 0), .int a1] (wX12 cI cZ cS ad σ) (wX12 cI cZ cS ad σr) rr := by
  refine q_ofI (cc := cX12_current) (maxL := 3) (ty := .int) (by decide) rfl (Nat.le_of_ble_eq_true rfl) ?_
  intro p e s m below meth c Q A ls hx hb hml hown hts hK hZ hA hP hD hS hl hret
  have hl : lv_has ls 3 [(0, .ref (ad 0)), (1, .int a1)] := hl
  unfold pX12_current at hf
  refine lv_aload_n hx hb dX12_current_0 rfl (lv_at hl 0 rfl) ?_
  refine va_get (D := D) (ci := 12) (C := RX12) (T := TX12) (N := 19) hx hb hts fwX12_current_X12 hown hK hP 0 rfl rfl 0 (by decide) (hts _ (List.mem_of_getElem? (i := 1) rfl)) (fun _ h9 => h9) rfl dX12_current_1 ?_
  refine lv_bipush (v := 14) hx hb dX12_current_4 (by decide) ?_
  refine w_iald (wf := (wX12 cI cZ cS ad)) hx hb hK hP 1 0 rfl rfl hf dX12_current_6 (fun v1 hf => ?_)
  refine lv_istore_n (lv' := [(2, .int v1), (0, .ref (ad 0)), (1, .int a1)]) hx hb dX12_current_7 rfl hl (by decide) rfl (fun ls hl => ?_)
  refine lv_aload_n hx hb dX12_current_8 rfl (lv_at hl 1 rfl) ?_
  refine va_get (D := D) (ci := 12) (C := RX12) (T := TX12) (N := 19) hx hb hts fwX12_current_X12 hown hK hP 0 rfl rfl 0 (by decide) (hts _ (List.mem_of_getElem? (i := 1) rfl)) (fun _ h9 => h9) rfl dX12_current_9 ?_
  refine lv_bipush (v := 14) hx hb dX12_current_12 (by decide) ?_
  refine lv_iload_n hx hb dX12_current_14 rfl (lv_at hl 2 rfl) ?_
  refine q_lt_go hf (fun j3 ej3 hf => ?_)
  have Jj3 : ∀ (y2 : Int32) (H : Heap) (locs : List Loc) (ls : Array Slot), va_P D vwCl ((wX12 cI cZ cS ad) σ) H → va_D A ((wX12 cI cZ cS ad) σ) → va_S A s.heap H locs → lv_has ls 3 [(2, .int v1)] → j3 y2 = some (rr, σr) → W p l e rmX12_current s m ([.ref (ad 0), .int a1] : List Value).toArray below meth c H locs 0 0 Q (F0 m 23 ls [.int y2, .int (14 : Int32), .ref (ad 1)]) := by
    intro y2 H locs ls hP hD hS hl hf
    have hf := (congrFun ej3 y2).symm.trans hf
    refine w_iast (wf := (wX12 cI cZ cS ad)) (cid := 1) hx hb hK hP hD hS 1 0 rfl rfl hf (fun _ => rfl) dX12_current_23 (fun σ4 H locs hf hP hD hS => ?_)
    refine lv_iload_n hx hb dX12_current_24 rfl (lv_at hl 0 rfl) ?_
    obtain ⟨hi1, hi2⟩ := Prod.mk.inj (Option.some.inj hf)
    subst hi1
    subst hi2
    exact hret _ _ _ _ dX12_current_25 rfl hP hS
  refine lv_if_eq (tgt := 22) hx hb dX12_current_15 (by decide) (fun h5 => ?_) (fun h5 => ?_)
  · have hf := (if_pos h5).symm.trans hf
    refine lv_iconst (v := 0) hx hb dX12_current_22 (by decide) ?_
    exact Jj3 (0 : Int32) _ _ _ hP hD hS (lv_sub hl [0] rfl) hf
  · have hf := (if_neg h5).symm.trans hf
    refine lv_iconst (v := 1) hx hb dX12_current_18 (by decide) ?_
    refine lv_goto (tgt := 23) hx hb dX12_current_19 (by decide) ?_
    exact Jj3 (1 : Int32) _ _ _ hP hD hS (lv_sub hl [0] rfl) hf
def pX12_flap (σ : SS) (a1 : Int32) : Option (Int32 × SS) := q_lt (q_rd (σ 1) 307 (15 : Int32) (fun (v2 : Int32) => q_lt (fun (y3 : Int32) => q_wr σ 1 307 (15 : Int32) y3 (fun (σ5 : SS) => some (v2, σ5))) (fun j4 => (if a1 = (0 : Int32) then j4 (0 : Int32) else j4 (1 : Int32))))) (fun j1 => (if a1 = (0 : Int32) then j1 else q_cr (pX12_has σ (1 : Int32)) (fun (r8 : Int32) => (if r8 = (0 : Int32) then j1 else q_ci (pX12_finding σ (4 : Int32)) (fun (τ : SS) => τ) (fun (r11 : Int32) (σ10 : SS) => some (r11, σ10))))))
theorem fwX12_flap_X12 : ∀ w ∈ wsX120, w ∈ wsX12_flap := fun _ h => List.mem_cons_of_mem _ (List.mem_append_right _ h)
abbrev rmX12_flap : Room := { frames := 1, cells := 0, slots := 0, locals := 21 }
set_option maxHeartbeats 4000000 in
set_option maxRecDepth 100000 in
theorem kX12_flap (l : Launch) (D : va_G) (cI cZ cS : ClassId) (zz : ZT) (ad : Nat → Nat) (σ : SS) (a1 : Int32) (rr : Int32) (σr : SS) (hf : pX12_flap σ a1 = some (rr, σr)) : CI l yX12_flap wsX12_flap rmX12_flap D (K3 cI cZ cS) zz [.ref (ad 0), .int a1] (wX12 cI cZ cS ad σ) (wX12 cI cZ cS ad σr) rr := by
  refine q_ofI (cc := cX12_flap) (maxL := 3) (ty := .int) (by decide) rfl (Nat.le_of_ble_eq_true rfl) ?_
  intro p e s m below meth c Q A ls hx hb hml hown hts hK hZ hA hP hD hS hl hret
  have hl : lv_has ls 3 [(0, .ref (ad 0)), (1, .int a1)] := hl
  unfold pX12_flap at hf
  refine lv_iload_n hx hb dX12_flap_0 rfl (lv_at hl 1 rfl) ?_
  refine q_lt_go hf (fun j1 ej1 hf => ?_)
  have Jj1 : ∀ (H : Heap) (locs : List Loc) (ls : Array Slot), va_P D vwCl ((wX12 cI cZ cS ad) σ) H → va_D A ((wX12 cI cZ cS ad) σ) → va_S A s.heap H locs → lv_has ls 3 [(0, .ref (ad 0)), (1, .int a1)] → j1 = some (rr, σr) → W p l e rmX12_flap s m ([.ref (ad 0), .int a1] : List Value).toArray below meth c H locs 0 0 Q (F0 m 18 ls []) := by
    intro  H locs ls hP hD hS hl hf
    have hf := ej1.symm.trans hf
    refine lv_aload_n hx hb dX12_flap_18 rfl (lv_at hl 0 rfl) ?_
    refine va_get (D := D) (ci := 12) (C := RX12) (T := TX12) (N := 19) hx hb hts fwX12_flap_X12 hown hK hP 0 rfl rfl 0 (by decide) (hts _ (List.mem_of_getElem? (i := 1) rfl)) (fun _ h9 => h9) rfl dX12_flap_19 ?_
    refine lv_bipush (v := 15) hx hb dX12_flap_22 (by decide) ?_
    refine w_iald (wf := (wX12 cI cZ cS ad)) hx hb hK hP 1 0 rfl rfl hf dX12_flap_24 (fun v2 hf => ?_)
    refine lv_istore_n (lv' := [(2, .int v2), (0, .ref (ad 0)), (1, .int a1)]) hx hb dX12_flap_25 rfl hl (by decide) rfl (fun ls hl => ?_)
    refine lv_aload_n hx hb dX12_flap_26 rfl (lv_at hl 1 rfl) ?_
    refine va_get (D := D) (ci := 12) (C := RX12) (T := TX12) (N := 19) hx hb hts fwX12_flap_X12 hown hK hP 0 rfl rfl 0 (by decide) (hts _ (List.mem_of_getElem? (i := 1) rfl)) (fun _ h9 => h9) rfl dX12_flap_27 ?_
    refine lv_bipush (v := 15) hx hb dX12_flap_30 (by decide) ?_
    refine lv_iload_n hx hb dX12_flap_32 rfl (lv_at hl 2 rfl) ?_
    refine q_lt_go hf (fun j4 ej4 hf => ?_)
    have Jj4 : ∀ (y3 : Int32) (H : Heap) (locs : List Loc) (ls : Array Slot), va_P D vwCl ((wX12 cI cZ cS ad) σ) H → va_D A ((wX12 cI cZ cS ad) σ) → va_S A s.heap H locs → lv_has ls 3 [(2, .int v2)] → j4 y3 = some (rr, σr) → W p l e rmX12_flap s m ([.ref (ad 0), .int a1] : List Value).toArray below meth c H locs 0 0 Q (F0 m 41 ls [.int y3, .int (15 : Int32), .ref (ad 1)]) := by
      intro y3 H locs ls hP hD hS hl hf
      have hf := (congrFun ej4 y3).symm.trans hf
      refine w_iast (wf := (wX12 cI cZ cS ad)) (cid := 1) hx hb hK hP hD hS 1 0 rfl rfl hf (fun _ => rfl) dX12_flap_41 (fun σ5 H locs hf hP hD hS => ?_)
      refine lv_iload_n hx hb dX12_flap_42 rfl (lv_at hl 0 rfl) ?_
      obtain ⟨hi1, hi2⟩ := Prod.mk.inj (Option.some.inj hf)
      subst hi1
      subst hi2
      exact hret _ _ _ _ dX12_flap_43 rfl hP hS
    refine lv_if_eq (tgt := 40) hx hb dX12_flap_33 (by decide) (fun h6 => ?_) (fun h6 => ?_)
    · have hf := (if_pos h6).symm.trans hf
      refine lv_iconst (v := 0) hx hb dX12_flap_40 (by decide) ?_
      exact Jj4 (0 : Int32) _ _ _ hP hD hS (lv_sub hl [0] rfl) hf
    · have hf := (if_neg h6).symm.trans hf
      refine lv_iconst (v := 1) hx hb dX12_flap_36 (by decide) ?_
      refine lv_goto (tgt := 41) hx hb dX12_flap_37 (by decide) ?_
      exact Jj4 (1 : Int32) _ _ _ hP hD hS (lv_sub hl [0] rfl) hf
  refine lv_if_eq (tgt := 18) hx hb dX12_flap_1 (by decide) (fun h7 => ?_) (fun h7 => ?_)
  · have hf := (if_pos h7).symm.trans hf
    exact Jj1  _ _ _ hP hD hS (lv_sub hl [0, 1] rfl) hf
  · have hf := (if_neg h7).symm.trans hf
    refine lv_aload_n hx hb dX12_flap_4 rfl (lv_at hl 0 rfl) ?_
    refine lv_iconst (v := 1) hx hb dX12_flap_5 (by decide) ?_
    refine q_cVr (wf := (wX12 cI cZ cS ad)) (wc := wX12 cI cZ cS ad) (rest := []) ⟨hx, hb, hml, hown, hts⟩ hK hZ hA hP hD hS hf (fun x ho => kX12_has l D cI cZ cS zz ad σ (1 : Int32) x ho) (cwV 1 hts gX12_flap_X12_has rfl rfl rfl ndX12_has ⟨Nat.le_of_ble_eq_true rfl, Nat.le_of_ble_eq_true rfl⟩) [0, 1, 2, 3, 4, 5, 6, 7, 8, 9, 10, 11] rfl rfl rfl rfl rfl rfl (hl.1) rfl (Nat.le_of_ble_eq_true rfl) dX12_flap_6 ⟨Nat.zero_le _, Nat.zero_le _⟩ (fun r8 H locs hf hP hD hS => ?_)
    refine lv_if_eq (tgt := 18) hx hb dX12_flap_9 (by decide) (fun h9 => ?_) (fun h9 => ?_)
    · have hf := (if_pos h9).symm.trans hf
      exact Jj1  _ _ _ hP hD hS (lv_sub hl [0, 1] rfl) hf
    · have hf := (if_neg h9).symm.trans hf
      refine lv_aload_n hx hb dX12_flap_12 rfl (lv_at hl 0 rfl) ?_
      refine lv_iconst (v := 4) hx hb dX12_flap_13 (by decide) ?_
      refine q_cVi (wf := (wX12 cI cZ cS ad)) (wc := wX12 cI cZ cS ad) (rest := []) ⟨hx, hb, hml, hown, hts⟩ hK hZ hA hP hD hS hf (fun x τ ho => kX12_finding l D cI cZ cS zz ad σ (4 : Int32) x τ ho) (cwV 1 hts gX12_flap_X12_finding rfl rfl rfl ndX12_finding ⟨Nat.le_of_ble_eq_true rfl, Nat.le_of_ble_eq_true rfl⟩) [0, 1, 2, 3, 4, 5, 6, 7, 8, 9, 10, 11] rfl rfl [some 0, some 1, some 2, some 3, some 4, some 5, some 6, some 7, some 8, some 9, some 10, some 11] (by decide +kernel) (Nat.le_of_ble_eq_true rfl) (fun _ => rfl) (fun _ => rfl) (fun _ => rfl) rfl rfl rfl rfl (hl.1) rfl (Nat.le_of_ble_eq_true rfl) dX12_flap_14 ⟨Nat.zero_le _, Nat.zero_le _⟩ (fun r11 σ10 H locs hf hP hD hS => ?_)
      obtain ⟨hi1, hi2⟩ := Prod.mk.inj (Option.some.inj hf)
      subst hi1
      subst hi2
      exact hret _ _ _ _ dX12_flap_17 rfl hP hS
def pX12_rises (σ : SS) : Option SS := q_rd (σ 1) 307 (1 : Int32) (fun (v1 : Int32) => q_rd (σ 1) 307 (0 : Int32) (fun (v2 : Int32) => q_lt (v1 + v2) (fun x1_3 => q_lt (x1_3 - (x1_3 / (50 : Int32))) (fun x1_4 => q_lt (fun (y5 : Int32) => q_wr σ 1 307 (1 : Int32) y5 (fun (σ7 : SS) => q_lp (fun _ _ _ => none) (fun (c11 : SS → Int32 → Int32 → Option SS) (σ10 : SS) (x2_8 : Int32) (x3_9 : Int32) => q_rd (σ10 1) 307 (16 : Int32) (fun (v14 : Int32) => (if v14 ≤ x3_9 then q_rd (σ10 1) 307 (11 : Int32) (fun (v16 : Int32) => q_wr σ10 1 307 (11 : Int32) (v16 + x2_8) (fun (σ17 : SS) => q_rd (σ17 1) 307 (2 : Int32) (fun (v18 : Int32) => q_wr σ17 1 307 (2 : Int32) (v18 + x2_8) (fun (σ19 : SS) => q_rd (σ19 1) 307 (2 : Int32) (fun (v20 : Int32) => q_lt (fun (σ21 : SS) => some σ21) (fun j22 => (if v20 ≤ (9999 : Int32) then j22 σ19 else q_rd (σ19 1) 307 (13 : Int32) (fun (v24 : Int32) => q_rd (σ19 1) 307 (2 : Int32) (fun (v25 : Int32) => q_wr σ19 1 307 (13 : Int32) (v24 + (v25 - (9999 : Int32))) (fun (σ26 : SS) => q_wr σ26 1 307 (2 : Int32) (9999 : Int32) (fun (σ27 : SS) => j22 σ27))))))))))) else q_cr (pX12_comes σ10 x3_9) (fun (r28 : Int32) => q_rd (σ10 1) 307 (((65 : Int32) + ((4 : Int32) * x3_9)) + (3 : Int32)) (fun (v29 : Int32) => q_wr σ10 1 307 (((65 : Int32) + ((4 : Int32) * x3_9)) + (3 : Int32)) (v29 + r28) (fun (σ30 : SS) => q_lt (x2_8 + r28) (fun x2_31 => c11 σ30 x2_31 (x3_9 + (1 : Int32))))))))) q_fu σ7 (0 : Int32) (0 : Int32))) (fun j6 => (if x1_4 ≤ (999 : Int32) then j6 x1_4 else j6 (999 : Int32)))))))
theorem fwX12_rises_X12 : ∀ w ∈ wsX120, w ∈ wsX12_rises := fun _ h => List.mem_cons_of_mem _ (List.mem_append_right _ h)
abbrev rmX12_rises : Room := { frames := 3, cells := 0, slots := 0, locals := 67 }
set_option maxHeartbeats 4000000 in
set_option maxRecDepth 100000 in
theorem kX12_rises (l : Launch) (D : va_G) (cI cZ cS : ClassId) (zz : ZT) (ad : Nat → Nat) (σ : SS) (σr : SS) (hf : pX12_rises σ = some σr) : CV l yX12_rises wsX12_rises rmX12_rises D (K3 cI cZ cS) zz [.ref (ad 0)] (wX12 cI cZ cS ad σ) (wX12 cI cZ cS ad σr) := by
  refine q_ofV (cc := cX12_rises) (maxL := 5) (by decide) rfl (Nat.le_of_ble_eq_true rfl) ?_
  intro p e s m below meth c Q A ls hx hb hml hown hts hK hZ hA hP hD hS hl hret
  have hl : lv_has ls 5 [(0, .ref (ad 0))] := hl
  unfold pX12_rises at hf
  refine lv_aload_n hx hb dX12_rises_0 rfl (lv_at hl 0 rfl) ?_
  refine va_get (D := D) (ci := 12) (C := RX12) (T := TX12) (N := 19) hx hb hts fwX12_rises_X12 hown hK hP 0 rfl rfl 0 (by decide) (hts _ (List.mem_of_getElem? (i := 1) rfl)) (fun _ h9 => h9) rfl dX12_rises_1 ?_
  refine lv_iconst (v := 1) hx hb dX12_rises_4 (by decide) ?_
  refine w_iald (wf := (wX12 cI cZ cS ad)) hx hb hK hP 1 0 rfl rfl hf dX12_rises_5 (fun v1 hf => ?_)
  refine lv_aload_n hx hb dX12_rises_6 rfl (lv_at hl 0 rfl) ?_
  refine va_get (D := D) (ci := 12) (C := RX12) (T := TX12) (N := 19) hx hb hts fwX12_rises_X12 hown hK hP 0 rfl rfl 0 (by decide) (hts _ (List.mem_of_getElem? (i := 1) rfl)) (fun _ h9 => h9) rfl dX12_rises_7 ?_
  refine lv_iconst (v := 0) hx hb dX12_rises_10 (by decide) ?_
  refine w_iald (wf := (wX12 cI cZ cS ad)) hx hb hK hP 1 0 rfl rfl hf dX12_rises_11 (fun v2 hf => ?_)
  refine lv_iadd hx hb dX12_rises_12 ?_
  refine lv_topi (fun x1_3 ex1_3 => ?_)
  have hf := q_lt_at ex1_3 hf
  refine lv_istore_n (lv' := [(1, .int x1_3), (0, .ref (ad 0))]) hx hb dX12_rises_13 rfl hl (by decide) rfl (fun ls hl => ?_)
  refine lv_iload_n hx hb dX12_rises_14 rfl (lv_at hl 0 rfl) ?_
  refine lv_iload_n hx hb dX12_rises_15 rfl (lv_at hl 0 rfl) ?_
  refine lv_bipush (v := 50) hx hb dX12_rises_16 (by decide) ?_
  refine lv_idiv hx hb dX12_rises_18 (by decide) ?_
  refine lv_isub hx hb dX12_rises_19 ?_
  refine lv_topi (fun x1_4 ex1_4 => ?_)
  have hf := q_lt_at ex1_4 hf
  refine lv_istore_n (lv' := [(1, .int x1_4), (0, .ref (ad 0))]) hx hb dX12_rises_20 rfl hl (by decide) rfl (fun ls hl => ?_)
  refine lv_aload_n hx hb dX12_rises_21 rfl (lv_at hl 1 rfl) ?_
  refine va_get (D := D) (ci := 12) (C := RX12) (T := TX12) (N := 19) hx hb hts fwX12_rises_X12 hown hK hP 0 rfl rfl 0 (by decide) (hts _ (List.mem_of_getElem? (i := 1) rfl)) (fun _ h9 => h9) rfl dX12_rises_22 ?_
  refine lv_iconst (v := 1) hx hb dX12_rises_25 (by decide) ?_
  refine lv_iload_n hx hb dX12_rises_26 rfl (lv_at hl 0 rfl) ?_
  refine lv_sipush (v := 999) hx hb dX12_rises_27 (by decide) ?_
  refine q_lt_go hf (fun j6 ej6 hf => ?_)
  have Jj6 : ∀ (y5 : Int32) (H : Heap) (locs : List Loc) (ls : Array Slot), va_P D vwCl ((wX12 cI cZ cS ad) σ) H → va_D A ((wX12 cI cZ cS ad) σ) → va_S A s.heap H locs → lv_has ls 5 [(0, .ref (ad 0))] → j6 y5 = some σr → W p l e rmX12_rises s m ([.ref (ad 0)] : List Value).toArray below meth c H locs 0 0 Q (F0 m 40 ls [.int y5, .int (1 : Int32), .ref (ad 1)]) := by
    intro y5 H locs ls hP hD hS hl hf
    have hf := (congrFun ej6 y5).symm.trans hf
    refine w_iast (wf := (wX12 cI cZ cS ad)) (cid := 1) hx hb hK hP hD hS 1 0 rfl rfl hf (fun _ => rfl) dX12_rises_40 (fun σ7 H locs hf hP hD hS => ?_)
    refine lv_iconst (v := 0) hx hb dX12_rises_41 (by decide) ?_
    refine lv_istore_n (lv' := [(2, .int (0 : Int32)), (0, .ref (ad 0))]) hx hb dX12_rises_42 rfl hl (by decide) rfl (fun ls hl => ?_)
    refine lv_iconst (v := 0) hx hb dX12_rises_43 (by decide) ?_
    refine lv_istore_n (lv' := [(3, .int (0 : Int32)), (2, .int (0 : Int32)), (0, .ref (ad 0))]) hx hb dX12_rises_44 rfl hl (by decide) rfl (fun ls hl => ?_)
    refine q_lp_go (f := fun (zf : SS → Int32 → Int32 → Option SS) => zf σ7 (0 : Int32) (0 : Int32)) hf (fun z12 ez12 hf => ?_)
    have Lz12 : ∀ (n13 : Nat) (σ10 : SS) (x2_8 : Int32) (x3_9 : Int32) (H : Heap) (locs : List Loc) (ls : Array Slot), va_P D vwCl ((wX12 cI cZ cS ad) σ10) H → va_D A ((wX12 cI cZ cS ad) σ10) → va_S A s.heap H locs → lv_has ls 5 [(0, .ref (ad 0)), (2, .int x2_8), (3, .int x3_9)] → q_lp (fun _ _ _ => none) z12 n13 σ10 x2_8 x3_9 = some σr → W p l e rmX12_rises s m ([.ref (ad 0)] : List Value).toArray below meth c H locs 0 0 Q (F0 m 45 ls []) := by
      intro n13
      induction n13 with
      | zero => exact fun _ _ _ _ _ _ _ _ _ _ hf => q_no hf
      | succ n13 ihz12 =>
        intro σ10 x2_8 x3_9 H locs ls hP hD hS hl hf
        have hf := (congrFun (congrFun (congrFun (congrFun ez12 (q_lp (fun _ _ _ => none) z12 n13)) σ10) x2_8) x3_9).symm.trans hf
        refine lv_iload_n hx hb dX12_rises_45 rfl (lv_at hl 2 rfl) ?_
        refine lv_aload_n hx hb dX12_rises_46 rfl (lv_at hl 0 rfl) ?_
        refine va_get (D := D) (ci := 12) (C := RX12) (T := TX12) (N := 19) hx hb hts fwX12_rises_X12 hown hK hP 0 rfl rfl 0 (by decide) (hts _ (List.mem_of_getElem? (i := 1) rfl)) (fun _ h9 => h9) rfl dX12_rises_47 ?_
        refine lv_bipush (v := 16) hx hb dX12_rises_50 (by decide) ?_
        refine w_iald (wf := (wX12 cI cZ cS ad)) hx hb hK hP 1 0 rfl rfl hf dX12_rises_52 (fun v14 hf => ?_)
        refine lv_icmp_ge (tgt := 92) hx hb dX12_rises_53 (by decide) (fun h15 => ?_) (fun h15 => ?_)
        · have hf := (if_pos h15).symm.trans hf
          refine lv_aload_n hx hb dX12_rises_92 rfl (lv_at hl 0 rfl) ?_
          refine va_get (D := D) (ci := 12) (C := RX12) (T := TX12) (N := 19) hx hb hts fwX12_rises_X12 hown hK hP 0 rfl rfl 0 (by decide) (hts _ (List.mem_of_getElem? (i := 1) rfl)) (fun _ h9 => h9) rfl dX12_rises_93 ?_
          refine lv_bipush (v := 11) hx hb dX12_rises_96 (by decide) ?_
          refine lv_dup2_11 hx hb dX12_rises_98 rfl rfl ?_
          refine w_iald (wf := (wX12 cI cZ cS ad)) hx hb hK hP 1 0 rfl rfl hf dX12_rises_99 (fun v16 hf => ?_)
          refine lv_iload_n hx hb dX12_rises_100 rfl (lv_at hl 1 rfl) ?_
          refine lv_iadd hx hb dX12_rises_101 ?_
          refine w_iast (wf := (wX12 cI cZ cS ad)) (cid := 1) hx hb hK hP hD hS 1 0 rfl rfl hf (fun _ => rfl) dX12_rises_102 (fun σ17 H locs hf hP hD hS => ?_)
          refine lv_aload_n hx hb dX12_rises_103 rfl (lv_at hl 0 rfl) ?_
          refine va_get (D := D) (ci := 12) (C := RX12) (T := TX12) (N := 19) hx hb hts fwX12_rises_X12 hown hK hP 0 rfl rfl 0 (by decide) (hts _ (List.mem_of_getElem? (i := 1) rfl)) (fun _ h9 => h9) rfl dX12_rises_104 ?_
          refine lv_iconst (v := 2) hx hb dX12_rises_107 (by decide) ?_
          refine lv_dup2_11 hx hb dX12_rises_108 rfl rfl ?_
          refine w_iald (wf := (wX12 cI cZ cS ad)) hx hb hK hP 1 0 rfl rfl hf dX12_rises_109 (fun v18 hf => ?_)
          refine lv_iload_n hx hb dX12_rises_110 rfl (lv_at hl 1 rfl) ?_
          refine lv_iadd hx hb dX12_rises_111 ?_
          refine w_iast (wf := (wX12 cI cZ cS ad)) (cid := 1) hx hb hK hP hD hS 1 0 rfl rfl hf (fun _ => rfl) dX12_rises_112 (fun σ19 H locs hf hP hD hS => ?_)
          refine lv_aload_n hx hb dX12_rises_113 rfl (lv_at hl 0 rfl) ?_
          refine va_get (D := D) (ci := 12) (C := RX12) (T := TX12) (N := 19) hx hb hts fwX12_rises_X12 hown hK hP 0 rfl rfl 0 (by decide) (hts _ (List.mem_of_getElem? (i := 1) rfl)) (fun _ h9 => h9) rfl dX12_rises_114 ?_
          refine lv_iconst (v := 2) hx hb dX12_rises_117 (by decide) ?_
          refine w_iald (wf := (wX12 cI cZ cS ad)) hx hb hK hP 1 0 rfl rfl hf dX12_rises_118 (fun v20 hf => ?_)
          refine lv_sipush (v := 9999) hx hb dX12_rises_119 (by decide) ?_
          refine q_lt_go hf (fun j22 ej22 hf => ?_)
          have Jj22 : ∀ (σ21 : SS) (H : Heap) (locs : List Loc) (ls : Array Slot), va_P D vwCl ((wX12 cI cZ cS ad) σ21) H → va_D A ((wX12 cI cZ cS ad) σ21) → va_S A s.heap H locs → lv_has ls 5 [] → j22 σ21 = some σr → W p l e rmX12_rises s m ([.ref (ad 0)] : List Value).toArray below meth c H locs 0 0 Q (F0 m 154 ls []) := by
            intro σ21 H locs ls hP hD hS hl hf
            have hf := (congrFun ej22 σ21).symm.trans hf
            have hi1 := Option.some.inj hf
            subst hi1
            exact hret _ _ _ _ dX12_rises_154 hP hS
          refine lv_icmp_le (tgt := 154) hx hb dX12_rises_122 (by decide) (fun h23 => ?_) (fun h23 => ?_)
          · have hf := (if_pos h23).symm.trans hf
            exact Jj22 σ19 _ _ _ hP hD hS (lv_sub hl [] rfl) hf
          · have hf := (if_neg h23).symm.trans hf
            refine lv_aload_n hx hb dX12_rises_125 rfl (lv_at hl 0 rfl) ?_
            refine va_get (D := D) (ci := 12) (C := RX12) (T := TX12) (N := 19) hx hb hts fwX12_rises_X12 hown hK hP 0 rfl rfl 0 (by decide) (hts _ (List.mem_of_getElem? (i := 1) rfl)) (fun _ h9 => h9) rfl dX12_rises_126 ?_
            refine lv_bipush (v := 13) hx hb dX12_rises_129 (by decide) ?_
            refine lv_dup2_11 hx hb dX12_rises_131 rfl rfl ?_
            refine w_iald (wf := (wX12 cI cZ cS ad)) hx hb hK hP 1 0 rfl rfl hf dX12_rises_132 (fun v24 hf => ?_)
            refine lv_aload_n hx hb dX12_rises_133 rfl (lv_at hl 0 rfl) ?_
            refine va_get (D := D) (ci := 12) (C := RX12) (T := TX12) (N := 19) hx hb hts fwX12_rises_X12 hown hK hP 0 rfl rfl 0 (by decide) (hts _ (List.mem_of_getElem? (i := 1) rfl)) (fun _ h9 => h9) rfl dX12_rises_134 ?_
            refine lv_iconst (v := 2) hx hb dX12_rises_137 (by decide) ?_
            refine w_iald (wf := (wX12 cI cZ cS ad)) hx hb hK hP 1 0 rfl rfl hf dX12_rises_138 (fun v25 hf => ?_)
            refine lv_sipush (v := 9999) hx hb dX12_rises_139 (by decide) ?_
            refine lv_isub hx hb dX12_rises_142 ?_
            refine lv_iadd hx hb dX12_rises_143 ?_
            refine w_iast (wf := (wX12 cI cZ cS ad)) (cid := 1) hx hb hK hP hD hS 1 0 rfl rfl hf (fun _ => rfl) dX12_rises_144 (fun σ26 H locs hf hP hD hS => ?_)
            refine lv_aload_n hx hb dX12_rises_145 rfl (lv_at hl 0 rfl) ?_
            refine va_get (D := D) (ci := 12) (C := RX12) (T := TX12) (N := 19) hx hb hts fwX12_rises_X12 hown hK hP 0 rfl rfl 0 (by decide) (hts _ (List.mem_of_getElem? (i := 1) rfl)) (fun _ h9 => h9) rfl dX12_rises_146 ?_
            refine lv_iconst (v := 2) hx hb dX12_rises_149 (by decide) ?_
            refine lv_sipush (v := 9999) hx hb dX12_rises_150 (by decide) ?_
            refine w_iast (wf := (wX12 cI cZ cS ad)) (cid := 1) hx hb hK hP hD hS 1 0 rfl rfl hf (fun _ => rfl) dX12_rises_153 (fun σ27 H locs hf hP hD hS => ?_)
            exact Jj22 σ27 _ _ _ hP hD hS (lv_sub hl [] rfl) hf
        · have hf := (if_neg h15).symm.trans hf
          refine lv_aload_n hx hb dX12_rises_56 rfl (lv_at hl 0 rfl) ?_
          refine lv_iload_n hx hb dX12_rises_57 rfl (lv_at hl 2 rfl) ?_
          refine q_cVr (wf := (wX12 cI cZ cS ad)) (wc := wX12 cI cZ cS ad) (rest := []) ⟨hx, hb, hml, hown, hts⟩ hK hZ hA hP hD hS hf (fun x ho => kX12_comes l D cI cZ cS zz ad σ10 x3_9 x ho) (cwV 1 hts gX12_rises_X12_comes rfl rfl rfl ndX12_comes ⟨Nat.le_of_ble_eq_true rfl, Nat.le_of_ble_eq_true rfl⟩) [0, 1, 2, 3, 4, 5, 6, 7, 8, 9, 10, 11] rfl rfl rfl rfl rfl rfl (hl.1) rfl (Nat.le_of_ble_eq_true rfl) dX12_rises_58 ⟨Nat.zero_le _, Nat.zero_le _⟩ (fun r28 H locs hf hP hD hS => ?_)
          refine lv_istore (lv' := [(4, .int r28), (0, .ref (ad 0)), (2, .int x2_8), (3, .int x3_9)]) hx hb dX12_rises_61 hl (by decide) rfl (fun ls hl => ?_)
          refine lv_aload_n hx hb dX12_rises_63 rfl (lv_at hl 1 rfl) ?_
          refine va_get (D := D) (ci := 12) (C := RX12) (T := TX12) (N := 19) hx hb hts fwX12_rises_X12 hown hK hP 0 rfl rfl 0 (by decide) (hts _ (List.mem_of_getElem? (i := 1) rfl)) (fun _ h9 => h9) rfl dX12_rises_64 ?_
          refine lv_bipush (v := 65) hx hb dX12_rises_67 (by decide) ?_
          refine lv_iconst (v := 4) hx hb dX12_rises_69 (by decide) ?_
          refine lv_iload_n hx hb dX12_rises_70 rfl (lv_at hl 3 rfl) ?_
          refine lv_imul hx hb dX12_rises_71 ?_
          refine lv_iadd hx hb dX12_rises_72 ?_
          refine lv_iconst (v := 3) hx hb dX12_rises_73 (by decide) ?_
          refine lv_iadd hx hb dX12_rises_74 ?_
          refine lv_dup2_11 hx hb dX12_rises_75 rfl rfl ?_
          refine w_iald (wf := (wX12 cI cZ cS ad)) hx hb hK hP 1 0 rfl rfl hf dX12_rises_76 (fun v29 hf => ?_)
          refine lv_iload hx hb dX12_rises_77 (lv_at hl 0 rfl) ?_
          refine lv_iadd hx hb dX12_rises_79 ?_
          refine w_iast (wf := (wX12 cI cZ cS ad)) (cid := 1) hx hb hK hP hD hS 1 0 rfl rfl hf (fun _ => rfl) dX12_rises_80 (fun σ30 H locs hf hP hD hS => ?_)
          refine lv_iload_n hx hb dX12_rises_81 rfl (lv_at hl 2 rfl) ?_
          refine lv_iload hx hb dX12_rises_82 (lv_at hl 0 rfl) ?_
          refine lv_iadd hx hb dX12_rises_84 ?_
          refine lv_topi (fun x2_31 ex2_31 => ?_)
          have hf := q_lt_at ex2_31 hf
          refine lv_istore_n (lv' := [(2, .int x2_31), (4, .int r28), (0, .ref (ad 0)), (3, .int x3_9)]) hx hb dX12_rises_85 rfl hl (by decide) rfl (fun ls hl => ?_)
          refine lv_iinc (v := (x3_9 + (1 : Int32))) (lv' := [(3, .int (x3_9 + (1 : Int32))), (2, .int x2_31), (4, .int r28), (0, .ref (ad 0))]) hx hb dX12_rises_86 hl (k := 3) rfl rfl (by decide) rfl (fun ls hl => ?_)
          refine lv_goto (tgt := 45) hx hb dX12_rises_89 (by decide) ?_
          exact ihz12 σ30 x2_31 (x3_9 + (1 : Int32)) _ _ _ hP hD hS (lv_sub hl [3, 1, 0] rfl) hf
    exact Lz12 q_fu σ7 (0 : Int32) (0 : Int32) _ _ _ hP hD hS (lv_sub hl [2, 1, 0] rfl) hf
  refine lv_icmp_le (tgt := 39) hx hb dX12_rises_30 (by decide) (fun h32 => ?_) (fun h32 => ?_)
  · have hf := (if_pos h32).symm.trans hf
    refine lv_iload_n hx hb dX12_rises_39 rfl (lv_at hl 0 rfl) ?_
    exact Jj6 x1_4 _ _ _ hP hD hS (lv_sub hl [1] rfl) hf
  · have hf := (if_neg h32).symm.trans hf
    refine lv_sipush (v := 999) hx hb dX12_rises_33 (by decide) ?_
    refine lv_goto (tgt := 40) hx hb dX12_rises_36 (by decide) ?_
    exact Jj6 (999 : Int32) _ _ _ hP hD hS (lv_sub hl [1] rfl) hf
def pX12_isDead (σ : SS) : Option Int32 := q_rd (σ 1) 307 (9 : Int32) (fun (v1 : Int32) => q_rd (σ 1) 307 (6 : Int32) (fun (v2 : Int32) => q_lt (fun (y3 : Int32) => q_zz y3 (some y3)) (fun j4 => (if v1 ≤ v2 then j4 (0 : Int32) else j4 (1 : Int32)))))
theorem fwX12_isDead_X12 : ∀ w ∈ wsX120, w ∈ wsX12_isDead := fun _ h => List.mem_cons_of_mem _ (List.mem_append_right _ h)
abbrev rmX12_isDead : Room := { frames := 0, cells := 0, slots := 0, locals := 0 }
set_option maxHeartbeats 4000000 in
set_option maxRecDepth 100000 in
theorem kX12_isDead (l : Launch) (D : va_G) (cI cZ cS : ClassId) (zz : ZT) (ad : Nat → Nat) (σ : SS) (rr : Int32) (hf : pX12_isDead σ = some rr) : CI l yX12_isDead wsX12_isDead rmX12_isDead D (K3 cI cZ cS) zz [.ref (ad 0)] (wX12 cI cZ cS ad σ) (wX12 cI cZ cS ad σ) rr := by
  refine q_ofI (cc := cX12_isDead) (maxL := 1) (ty := .boolean) (by decide) rfl (Nat.le_of_ble_eq_true rfl) ?_
  intro p e s m below meth c Q A ls hx hb hml hown hts hK hZ hA hP hD hS hl hret
  have hl : lv_has ls 1 [(0, .ref (ad 0))] := hl
  unfold pX12_isDead at hf
  refine lv_aload_n hx hb dX12_isDead_0 rfl (lv_at hl 0 rfl) ?_
  refine va_get (D := D) (ci := 12) (C := RX12) (T := TX12) (N := 19) hx hb hts fwX12_isDead_X12 hown hK hP 0 rfl rfl 0 (by decide) (hts _ (List.mem_of_getElem? (i := 1) rfl)) (fun _ h9 => h9) rfl dX12_isDead_1 ?_
  refine lv_bipush (v := 9) hx hb dX12_isDead_4 (by decide) ?_
  refine w_iald (wf := (wX12 cI cZ cS ad)) hx hb hK hP 1 0 rfl rfl hf dX12_isDead_6 (fun v1 hf => ?_)
  refine lv_aload_n hx hb dX12_isDead_7 rfl (lv_at hl 0 rfl) ?_
  refine va_get (D := D) (ci := 12) (C := RX12) (T := TX12) (N := 19) hx hb hts fwX12_isDead_X12 hown hK hP 0 rfl rfl 0 (by decide) (hts _ (List.mem_of_getElem? (i := 1) rfl)) (fun _ h9 => h9) rfl dX12_isDead_8 ?_
  refine lv_bipush (v := 6) hx hb dX12_isDead_11 (by decide) ?_
  refine w_iald (wf := (wX12 cI cZ cS ad)) hx hb hK hP 1 0 rfl rfl hf dX12_isDead_13 (fun v2 hf => ?_)
  refine q_lt_go hf (fun j4 ej4 hf => ?_)
  have Jj4 : ∀ (y3 : Int32) (H : Heap) (locs : List Loc) (ls : Array Slot), va_P D vwCl ((wX12 cI cZ cS ad) σ) H → va_D A ((wX12 cI cZ cS ad) σ) → va_S A s.heap H locs → lv_has ls 1 [] → j4 y3 = some rr → W p l e rmX12_isDead s m ([.ref (ad 0)] : List Value).toArray below meth c H locs 0 0 Q (F0 m 22 ls [.int y3]) := by
    intro y3 H locs ls hP hD hS hl hf
    have hf := (congrFun ej4 y3).symm.trans hf
    obtain ⟨hz, hf⟩ := q_zz_o hf
    have hi1 := Option.some.inj hf
    subst hi1
    exact hret _ _ _ _ dX12_isDead_22 (q_zz_n hz).1 hP hS
  refine lv_icmp_le (tgt := 21) hx hb dX12_isDead_14 (by decide) (fun h5 => ?_) (fun h5 => ?_)
  · have hf := (if_pos h5).symm.trans hf
    refine lv_iconst (v := 0) hx hb dX12_isDead_21 (by decide) ?_
    exact Jj4 (0 : Int32) _ _ _ hP hD hS (lv_sub hl [] rfl) hf
  · have hf := (if_neg h5).symm.trans hf
    refine lv_iconst (v := 1) hx hb dX12_isDead_17 (by decide) ?_
    refine lv_goto (tgt := 22) hx hb dX12_isDead_18 (by decide) ?_
    exact Jj4 (1 : Int32) _ _ _ hP hD hS (lv_sub hl [] rfl) hf
def pX12_pumps (σ : SS) : Option SS := q_rd (σ 1) 307 (14 : Int32) (fun (v1 : Int32) => q_lt (fun (y2 : Int32) => q_rd (σ 1) 307 (10 : Int32) (fun (v4 : Int32) => q_lt (fun (σ5 : SS) => q_rd (σ5 1) 307 (10 : Int32) (fun (v7 : Int32) => (if v7 = (0 : Int32) then some σ5 else (if y2 = (0 : Int32) then q_wr σ5 1 307 (10 : Int32) (0 : Int32) (fun (σ37 : SS) => some σ37) else q_rd (σ5 1) 307 (7 : Int32) (fun (v10 : Int32) => q_rd (σ5 1) 307 (14 : Int32) (fun (v11 : Int32) => q_lt (fun (y12 : Int32) => q_wr σ5 1 307 (7 : Int32) (v10 - y12) (fun (σ14 : SS) => q_cr (pX12_has σ14 (2 : Int32)) (fun (r15 : Int32) => q_lt (fun (y16 : Int32) => q_rd (σ14 1) 307 (2 : Int32) (fun (v18 : Int32) => q_lt (fun (y19 : Int32) => q_rd (σ14 1) 307 (2 : Int32) (fun (v21 : Int32) => q_wr σ14 1 307 (2 : Int32) (v21 - y19) (fun (σ22 : SS) => q_rd (σ22 1) 307 (12 : Int32) (fun (v23 : Int32) => q_wr σ22 1 307 (12 : Int32) (v23 + y19) (fun (σ24 : SS) => q_rd (σ24 1) 307 (2 : Int32) (fun (v25 : Int32) => q_rd (σ24 1) 307 (4 : Int32) (fun (v26 : Int32) => q_lt (fun (y27 : Int32) => q_wr σ24 1 307 (10 : Int32) y27 (fun (σ29 : SS) => some σ29)) (fun j28 => (if v26 < v25 then j28 (1 : Int32) else j28 (0 : Int32)))))))))) (fun j20 => (if v18 ≤ y16 then q_rd (σ14 1) 307 (2 : Int32) (fun (v32 : Int32) => j20 v32) else j20 y16)))) (fun j17 => (if r15 = (0 : Int32) then q_rd (σ14 1) 307 (5 : Int32) (fun (v34 : Int32) => j17 v34) else q_rd (σ14 1) 307 (5 : Int32) (fun (v35 : Int32) => j17 ((2 : Int32) * v35))))))) (fun j13 => (if v11 = (1 : Int32) then j13 (0 : Int32) else j13 (1 : Int32))))))))) (fun j6 => (if v4 = (0 : Int32) then q_cr (pX12_isDead σ) (fun (r39 : Int32) => (if r39 = (0 : Int32) then q_rd (σ 1) 307 (2 : Int32) (fun (v41 : Int32) => q_rd (σ 1) 307 (3 : Int32) (fun (v42 : Int32) => (if v41 < v42 then j6 σ else (if y2 = (0 : Int32) then j6 σ else q_rd (σ 1) 307 (9 : Int32) (fun (v45 : Int32) => q_lt (fun (σ46 : SS) => q_rd (σ46 1) 307 (9 : Int32) (fun (v48 : Int32) => q_wr σ46 1 307 (9 : Int32) (v48 + (1 : Int32)) (fun (σ49 : SS) => q_cr (pX12_isDead σ49) (fun (r50 : Int32) => q_lt (fun (y51 : Int32) => q_wr σ49 1 307 (10 : Int32) y51 (fun (σ53 : SS) => j6 σ53)) (fun j52 => (if r50 = (0 : Int32) then j52 (1 : Int32) else j52 (0 : Int32))))))) (fun j47 => (if (40 : Int32) ≤ v45 then j47 σ else q_rd (σ 1) 307 (9 : Int32) (fun (v56 : Int32) => q_rd (σ 1) 307 (8 : Int32) (fun (v57 : Int32) => q_wr σ 1 307 ((25 : Int32) + v56) v57 (fun (σ58 : SS) => j47 σ58)))))))))) else j6 σ)) else j6 σ)))) (fun j3 => q_lt (j3 (1 : Int32)) (fun j59 => (if v1 = (1 : Int32) then j59 else q_rd (σ 1) 307 (7 : Int32) (fun (v61 : Int32) => (if v61 ≤ (0 : Int32) then j3 (0 : Int32) else j59))))))
theorem fwX12_pumps_X12 : ∀ w ∈ wsX120, w ∈ wsX12_pumps := fun _ h => List.mem_cons_of_mem _ (List.mem_append_right _ h)
abbrev rmX12_pumps : Room := { frames := 1, cells := 0, slots := 0, locals := 21 }
set_option maxHeartbeats 4000000 in
set_option maxRecDepth 100000 in
theorem kX12_pumps (l : Launch) (D : va_G) (cI cZ cS : ClassId) (zz : ZT) (ad : Nat → Nat) (σ : SS) (σr : SS) (hf : pX12_pumps σ = some σr) : CV l yX12_pumps wsX12_pumps rmX12_pumps D (K3 cI cZ cS) zz [.ref (ad 0)] (wX12 cI cZ cS ad σ) (wX12 cI cZ cS ad σr) := by
  refine q_ofV (cc := cX12_pumps) (maxL := 4) (by decide) rfl (Nat.le_of_ble_eq_true rfl) ?_
  intro p e s m below meth c Q A ls hx hb hml hown hts hK hZ hA hP hD hS hl hret
  have hl : lv_has ls 4 [(0, .ref (ad 0))] := hl
  unfold pX12_pumps at hf
  refine lv_aload_n hx hb dX12_pumps_0 rfl (lv_at hl 0 rfl) ?_
  refine va_get (D := D) (ci := 12) (C := RX12) (T := TX12) (N := 19) hx hb hts fwX12_pumps_X12 hown hK hP 0 rfl rfl 0 (by decide) (hts _ (List.mem_of_getElem? (i := 1) rfl)) (fun _ h9 => h9) rfl dX12_pumps_1 ?_
  refine lv_bipush (v := 14) hx hb dX12_pumps_4 (by decide) ?_
  refine w_iald (wf := (wX12 cI cZ cS ad)) hx hb hK hP 1 0 rfl rfl hf dX12_pumps_6 (fun v1 hf => ?_)
  refine lv_iconst (v := 1) hx hb dX12_pumps_7 (by decide) ?_
  refine q_lt_go hf (fun j3 ej3 hf => ?_)
  have Jj3 : ∀ (y2 : Int32) (H : Heap) (locs : List Loc) (ls : Array Slot), va_P D vwCl ((wX12 cI cZ cS ad) σ) H → va_D A ((wX12 cI cZ cS ad) σ) → va_S A s.heap H locs → lv_has ls 4 [(0, .ref (ad 0))] → j3 y2 = some σr → W p l e rmX12_pumps s m ([.ref (ad 0)] : List Value).toArray below meth c H locs 0 0 Q (F0 m 26 ls [.int y2]) := by
    intro y2 H locs ls hP hD hS hl hf
    have hf := (congrFun ej3 y2).symm.trans hf
    refine lv_istore_n (lv' := [(1, .int y2), (0, .ref (ad 0))]) hx hb dX12_pumps_26 rfl hl (by decide) rfl (fun ls hl => ?_)
    refine lv_aload_n hx hb dX12_pumps_27 rfl (lv_at hl 1 rfl) ?_
    refine va_get (D := D) (ci := 12) (C := RX12) (T := TX12) (N := 19) hx hb hts fwX12_pumps_X12 hown hK hP 0 rfl rfl 0 (by decide) (hts _ (List.mem_of_getElem? (i := 1) rfl)) (fun _ h9 => h9) rfl dX12_pumps_28 ?_
    refine lv_bipush (v := 10) hx hb dX12_pumps_31 (by decide) ?_
    refine w_iald (wf := (wX12 cI cZ cS ad)) hx hb hK hP 1 0 rfl rfl hf dX12_pumps_33 (fun v4 hf => ?_)
    refine q_lt_go hf (fun j6 ej6 hf => ?_)
    have Jj6 : ∀ (σ5 : SS) (H : Heap) (locs : List Loc) (ls : Array Slot), va_P D vwCl ((wX12 cI cZ cS ad) σ5) H → va_D A ((wX12 cI cZ cS ad) σ5) → va_S A s.heap H locs → lv_has ls 4 [(0, .ref (ad 0)), (1, .int y2)] → j6 σ5 = some σr → W p l e rmX12_pumps s m ([.ref (ad 0)] : List Value).toArray below meth c H locs 0 0 Q (F0 m 127 ls []) := by
      intro σ5 H locs ls hP hD hS hl hf
      have hf := (congrFun ej6 σ5).symm.trans hf
      refine lv_aload_n hx hb dX12_pumps_127 rfl (lv_at hl 0 rfl) ?_
      refine va_get (D := D) (ci := 12) (C := RX12) (T := TX12) (N := 19) hx hb hts fwX12_pumps_X12 hown hK hP 0 rfl rfl 0 (by decide) (hts _ (List.mem_of_getElem? (i := 1) rfl)) (fun _ h9 => h9) rfl dX12_pumps_128 ?_
      refine lv_bipush (v := 10) hx hb dX12_pumps_131 (by decide) ?_
      refine w_iald (wf := (wX12 cI cZ cS ad)) hx hb hK hP 1 0 rfl rfl hf dX12_pumps_133 (fun v7 hf => ?_)
      refine lv_if_ne (tgt := 138) hx hb dX12_pumps_134 (by decide) (fun h8 => ?_) (fun h8 => ?_)
      · have hf := (if_neg h8).symm.trans hf
        refine lv_iload_n hx hb dX12_pumps_138 rfl (lv_at hl 1 rfl) ?_
        refine lv_if_ne (tgt := 151) hx hb dX12_pumps_139 (by decide) (fun h9 => ?_) (fun h9 => ?_)
        · have hf := (if_neg h9).symm.trans hf
          refine lv_aload_n hx hb dX12_pumps_151 rfl (lv_at hl 0 rfl) ?_
          refine va_get (D := D) (ci := 12) (C := RX12) (T := TX12) (N := 19) hx hb hts fwX12_pumps_X12 hown hK hP 0 rfl rfl 0 (by decide) (hts _ (List.mem_of_getElem? (i := 1) rfl)) (fun _ h9 => h9) rfl dX12_pumps_152 ?_
          refine lv_bipush (v := 7) hx hb dX12_pumps_155 (by decide) ?_
          refine lv_dup2_11 hx hb dX12_pumps_157 rfl rfl ?_
          refine w_iald (wf := (wX12 cI cZ cS ad)) hx hb hK hP 1 0 rfl rfl hf dX12_pumps_158 (fun v10 hf => ?_)
          refine lv_aload_n hx hb dX12_pumps_159 rfl (lv_at hl 0 rfl) ?_
          refine va_get (D := D) (ci := 12) (C := RX12) (T := TX12) (N := 19) hx hb hts fwX12_pumps_X12 hown hK hP 0 rfl rfl 0 (by decide) (hts _ (List.mem_of_getElem? (i := 1) rfl)) (fun _ h9 => h9) rfl dX12_pumps_160 ?_
          refine lv_bipush (v := 14) hx hb dX12_pumps_163 (by decide) ?_
          refine w_iald (wf := (wX12 cI cZ cS ad)) hx hb hK hP 1 0 rfl rfl hf dX12_pumps_165 (fun v11 hf => ?_)
          refine lv_iconst (v := 1) hx hb dX12_pumps_166 (by decide) ?_
          refine q_lt_go hf (fun j13 ej13 hf => ?_)
          have Jj13 : ∀ (y12 : Int32) (H : Heap) (locs : List Loc) (ls : Array Slot), va_P D vwCl ((wX12 cI cZ cS ad) σ5) H → va_D A ((wX12 cI cZ cS ad) σ5) → va_S A s.heap H locs → lv_has ls 4 [(0, .ref (ad 0))] → j13 y12 = some σr → W p l e rmX12_pumps s m ([.ref (ad 0)] : List Value).toArray below meth c H locs 0 0 Q (F0 m 175 ls [.int y12, .int v10, .int (7 : Int32), .ref (ad 1)]) := by
            intro y12 H locs ls hP hD hS hl hf
            have hf := (congrFun ej13 y12).symm.trans hf
            refine lv_isub hx hb dX12_pumps_175 ?_
            refine w_iast (wf := (wX12 cI cZ cS ad)) (cid := 1) hx hb hK hP hD hS 1 0 rfl rfl hf (fun _ => rfl) dX12_pumps_176 (fun σ14 H locs hf hP hD hS => ?_)
            refine lv_aload_n hx hb dX12_pumps_177 rfl (lv_at hl 0 rfl) ?_
            refine lv_iconst (v := 2) hx hb dX12_pumps_178 (by decide) ?_
            refine q_cVr (wf := (wX12 cI cZ cS ad)) (wc := wX12 cI cZ cS ad) (rest := []) ⟨hx, hb, hml, hown, hts⟩ hK hZ hA hP hD hS hf (fun x ho => kX12_has l D cI cZ cS zz ad σ14 (2 : Int32) x ho) (cwV 1 hts gX12_pumps_X12_has rfl rfl rfl ndX12_has ⟨Nat.le_of_ble_eq_true rfl, Nat.le_of_ble_eq_true rfl⟩) [0, 1, 2, 3, 4, 5, 6, 7, 8, 9, 10, 11] rfl rfl rfl rfl rfl rfl (hl.1) rfl (Nat.le_of_ble_eq_true rfl) dX12_pumps_179 ⟨Nat.zero_le _, Nat.zero_le _⟩ (fun r15 H locs hf hP hD hS => ?_)
            refine q_lt_go hf (fun j17 ej17 hf => ?_)
            have Jj17 : ∀ (y16 : Int32) (H : Heap) (locs : List Loc) (ls : Array Slot), va_P D vwCl ((wX12 cI cZ cS ad) σ14) H → va_D A ((wX12 cI cZ cS ad) σ14) → va_S A s.heap H locs → lv_has ls 4 [(0, .ref (ad 0))] → j17 y16 = some σr → W p l e rmX12_pumps s m ([.ref (ad 0)] : List Value).toArray below meth c H locs 0 0 Q (F0 m 202 ls [.int y16]) := by
              intro y16 H locs ls hP hD hS hl hf
              have hf := (congrFun ej17 y16).symm.trans hf
              refine lv_istore_n (lv' := [(2, .int y16), (0, .ref (ad 0))]) hx hb dX12_pumps_202 rfl hl (by decide) rfl (fun ls hl => ?_)
              refine lv_iload_n hx hb dX12_pumps_203 rfl (lv_at hl 0 rfl) ?_
              refine lv_aload_n hx hb dX12_pumps_204 rfl (lv_at hl 1 rfl) ?_
              refine va_get (D := D) (ci := 12) (C := RX12) (T := TX12) (N := 19) hx hb hts fwX12_pumps_X12 hown hK hP 0 rfl rfl 0 (by decide) (hts _ (List.mem_of_getElem? (i := 1) rfl)) (fun _ h9 => h9) rfl dX12_pumps_205 ?_
              refine lv_iconst (v := 2) hx hb dX12_pumps_208 (by decide) ?_
              refine w_iald (wf := (wX12 cI cZ cS ad)) hx hb hK hP 1 0 rfl rfl hf dX12_pumps_209 (fun v18 hf => ?_)
              refine q_lt_go hf (fun j20 ej20 hf => ?_)
              have Jj20 : ∀ (y19 : Int32) (H : Heap) (locs : List Loc) (ls : Array Slot), va_P D vwCl ((wX12 cI cZ cS ad) σ14) H → va_D A ((wX12 cI cZ cS ad) σ14) → va_S A s.heap H locs → lv_has ls 4 [(0, .ref (ad 0))] → j20 y19 = some σr → W p l e rmX12_pumps s m ([.ref (ad 0)] : List Value).toArray below meth c H locs 0 0 Q (F0 m 223 ls [.int y19]) := by
                intro y19 H locs ls hP hD hS hl hf
                have hf := (congrFun ej20 y19).symm.trans hf
                refine lv_istore_n (lv' := [(3, .int y19), (0, .ref (ad 0))]) hx hb dX12_pumps_223 rfl hl (by decide) rfl (fun ls hl => ?_)
                refine lv_aload_n hx hb dX12_pumps_224 rfl (lv_at hl 1 rfl) ?_
                refine va_get (D := D) (ci := 12) (C := RX12) (T := TX12) (N := 19) hx hb hts fwX12_pumps_X12 hown hK hP 0 rfl rfl 0 (by decide) (hts _ (List.mem_of_getElem? (i := 1) rfl)) (fun _ h9 => h9) rfl dX12_pumps_225 ?_
                refine lv_iconst (v := 2) hx hb dX12_pumps_228 (by decide) ?_
                refine lv_dup2_11 hx hb dX12_pumps_229 rfl rfl ?_
                refine w_iald (wf := (wX12 cI cZ cS ad)) hx hb hK hP 1 0 rfl rfl hf dX12_pumps_230 (fun v21 hf => ?_)
                refine lv_iload_n hx hb dX12_pumps_231 rfl (lv_at hl 0 rfl) ?_
                refine lv_isub hx hb dX12_pumps_232 ?_
                refine w_iast (wf := (wX12 cI cZ cS ad)) (cid := 1) hx hb hK hP hD hS 1 0 rfl rfl hf (fun _ => rfl) dX12_pumps_233 (fun σ22 H locs hf hP hD hS => ?_)
                refine lv_aload_n hx hb dX12_pumps_234 rfl (lv_at hl 1 rfl) ?_
                refine va_get (D := D) (ci := 12) (C := RX12) (T := TX12) (N := 19) hx hb hts fwX12_pumps_X12 hown hK hP 0 rfl rfl 0 (by decide) (hts _ (List.mem_of_getElem? (i := 1) rfl)) (fun _ h9 => h9) rfl dX12_pumps_235 ?_
                refine lv_bipush (v := 12) hx hb dX12_pumps_238 (by decide) ?_
                refine lv_dup2_11 hx hb dX12_pumps_240 rfl rfl ?_
                refine w_iald (wf := (wX12 cI cZ cS ad)) hx hb hK hP 1 0 rfl rfl hf dX12_pumps_241 (fun v23 hf => ?_)
                refine lv_iload_n hx hb dX12_pumps_242 rfl (lv_at hl 0 rfl) ?_
                refine lv_iadd hx hb dX12_pumps_243 ?_
                refine w_iast (wf := (wX12 cI cZ cS ad)) (cid := 1) hx hb hK hP hD hS 1 0 rfl rfl hf (fun _ => rfl) dX12_pumps_244 (fun σ24 H locs hf hP hD hS => ?_)
                refine lv_aload_n hx hb dX12_pumps_245 rfl (lv_at hl 1 rfl) ?_
                refine va_get (D := D) (ci := 12) (C := RX12) (T := TX12) (N := 19) hx hb hts fwX12_pumps_X12 hown hK hP 0 rfl rfl 0 (by decide) (hts _ (List.mem_of_getElem? (i := 1) rfl)) (fun _ h9 => h9) rfl dX12_pumps_246 ?_
                refine lv_bipush (v := 10) hx hb dX12_pumps_249 (by decide) ?_
                refine lv_aload_n hx hb dX12_pumps_251 rfl (lv_at hl 1 rfl) ?_
                refine va_get (D := D) (ci := 12) (C := RX12) (T := TX12) (N := 19) hx hb hts fwX12_pumps_X12 hown hK hP 0 rfl rfl 0 (by decide) (hts _ (List.mem_of_getElem? (i := 1) rfl)) (fun _ h9 => h9) rfl dX12_pumps_252 ?_
                refine lv_iconst (v := 2) hx hb dX12_pumps_255 (by decide) ?_
                refine w_iald (wf := (wX12 cI cZ cS ad)) hx hb hK hP 1 0 rfl rfl hf dX12_pumps_256 (fun v25 hf => ?_)
                refine lv_aload_n hx hb dX12_pumps_257 rfl (lv_at hl 1 rfl) ?_
                refine va_get (D := D) (ci := 12) (C := RX12) (T := TX12) (N := 19) hx hb hts fwX12_pumps_X12 hown hK hP 0 rfl rfl 0 (by decide) (hts _ (List.mem_of_getElem? (i := 1) rfl)) (fun _ h9 => h9) rfl dX12_pumps_258 ?_
                refine lv_iconst (v := 4) hx hb dX12_pumps_261 (by decide) ?_
                refine w_iald (wf := (wX12 cI cZ cS ad)) hx hb hK hP 1 0 rfl rfl hf dX12_pumps_262 (fun v26 hf => ?_)
                refine q_lt_go hf (fun j28 ej28 hf => ?_)
                have Jj28 : ∀ (y27 : Int32) (H : Heap) (locs : List Loc) (ls : Array Slot), va_P D vwCl ((wX12 cI cZ cS ad) σ24) H → va_D A ((wX12 cI cZ cS ad) σ24) → va_S A s.heap H locs → lv_has ls 4 [] → j28 y27 = some σr → W p l e rmX12_pumps s m ([.ref (ad 0)] : List Value).toArray below meth c H locs 0 0 Q (F0 m 271 ls [.int y27, .int (10 : Int32), .ref (ad 1)]) := by
                  intro y27 H locs ls hP hD hS hl hf
                  have hf := (congrFun ej28 y27).symm.trans hf
                  refine w_iast (wf := (wX12 cI cZ cS ad)) (cid := 1) hx hb hK hP hD hS 1 0 rfl rfl hf (fun _ => rfl) dX12_pumps_271 (fun σ29 H locs hf hP hD hS => ?_)
                  have hi1 := Option.some.inj hf
                  subst hi1
                  exact hret _ _ _ _ dX12_pumps_272 hP hS
                refine lv_icmp_gt (tgt := 270) hx hb dX12_pumps_263 (by decide) (fun h30 => ?_) (fun h30 => ?_)
                · have hf := (if_pos h30).symm.trans hf
                  refine lv_iconst (v := 1) hx hb dX12_pumps_270 (by decide) ?_
                  exact Jj28 (1 : Int32) _ _ _ hP hD hS (lv_sub hl [] rfl) hf
                · have hf := (if_neg h30).symm.trans hf
                  refine lv_iconst (v := 0) hx hb dX12_pumps_266 (by decide) ?_
                  refine lv_goto (tgt := 271) hx hb dX12_pumps_267 (by decide) ?_
                  exact Jj28 (0 : Int32) _ _ _ hP hD hS (lv_sub hl [] rfl) hf
              refine lv_icmp_ge (tgt := 217) hx hb dX12_pumps_210 (by decide) (fun h31 => ?_) (fun h31 => ?_)
              · have hf := (if_pos h31).symm.trans hf
                refine lv_aload_n hx hb dX12_pumps_217 rfl (lv_at hl 1 rfl) ?_
                refine va_get (D := D) (ci := 12) (C := RX12) (T := TX12) (N := 19) hx hb hts fwX12_pumps_X12 hown hK hP 0 rfl rfl 0 (by decide) (hts _ (List.mem_of_getElem? (i := 1) rfl)) (fun _ h9 => h9) rfl dX12_pumps_218 ?_
                refine lv_iconst (v := 2) hx hb dX12_pumps_221 (by decide) ?_
                refine w_iald (wf := (wX12 cI cZ cS ad)) hx hb hK hP 1 0 rfl rfl hf dX12_pumps_222 (fun v32 hf => ?_)
                exact Jj20 v32 _ _ _ hP hD hS (lv_sub hl [1] rfl) hf
              · have hf := (if_neg h31).symm.trans hf
                refine lv_iload_n hx hb dX12_pumps_213 rfl (lv_at hl 0 rfl) ?_
                refine lv_goto (tgt := 223) hx hb dX12_pumps_214 (by decide) ?_
                exact Jj20 y16 _ _ _ hP hD hS (lv_sub hl [1] rfl) hf
            refine lv_if_eq (tgt := 196) hx hb dX12_pumps_182 (by decide) (fun h33 => ?_) (fun h33 => ?_)
            · have hf := (if_pos h33).symm.trans hf
              refine lv_aload_n hx hb dX12_pumps_196 rfl (lv_at hl 0 rfl) ?_
              refine va_get (D := D) (ci := 12) (C := RX12) (T := TX12) (N := 19) hx hb hts fwX12_pumps_X12 hown hK hP 0 rfl rfl 0 (by decide) (hts _ (List.mem_of_getElem? (i := 1) rfl)) (fun _ h9 => h9) rfl dX12_pumps_197 ?_
              refine lv_iconst (v := 5) hx hb dX12_pumps_200 (by decide) ?_
              refine w_iald (wf := (wX12 cI cZ cS ad)) hx hb hK hP 1 0 rfl rfl hf dX12_pumps_201 (fun v34 hf => ?_)
              exact Jj17 v34 _ _ _ hP hD hS (lv_sub hl [0] rfl) hf
            · have hf := (if_neg h33).symm.trans hf
              refine lv_iconst (v := 2) hx hb dX12_pumps_185 (by decide) ?_
              refine lv_aload_n hx hb dX12_pumps_186 rfl (lv_at hl 0 rfl) ?_
              refine va_get (D := D) (ci := 12) (C := RX12) (T := TX12) (N := 19) hx hb hts fwX12_pumps_X12 hown hK hP 0 rfl rfl 0 (by decide) (hts _ (List.mem_of_getElem? (i := 1) rfl)) (fun _ h9 => h9) rfl dX12_pumps_187 ?_
              refine lv_iconst (v := 5) hx hb dX12_pumps_190 (by decide) ?_
              refine w_iald (wf := (wX12 cI cZ cS ad)) hx hb hK hP 1 0 rfl rfl hf dX12_pumps_191 (fun v35 hf => ?_)
              refine lv_imul hx hb dX12_pumps_192 ?_
              refine lv_goto (tgt := 202) hx hb dX12_pumps_193 (by decide) ?_
              exact Jj17 ((2 : Int32) * v35) _ _ _ hP hD hS (lv_sub hl [0] rfl) hf
          refine lv_icmp_ne (tgt := 174) hx hb dX12_pumps_167 (by decide) (fun h36 => ?_) (fun h36 => ?_)
          · have hf := (if_neg h36).symm.trans hf
            refine lv_iconst (v := 1) hx hb dX12_pumps_174 (by decide) ?_
            exact Jj13 (1 : Int32) _ _ _ hP hD hS (lv_sub hl [0] rfl) hf
          · have hf := (if_pos h36).symm.trans hf
            refine lv_iconst (v := 0) hx hb dX12_pumps_170 (by decide) ?_
            refine lv_goto (tgt := 175) hx hb dX12_pumps_171 (by decide) ?_
            exact Jj13 (0 : Int32) _ _ _ hP hD hS (lv_sub hl [0] rfl) hf
        · have hf := (if_pos h9).symm.trans hf
          refine lv_aload_n hx hb dX12_pumps_142 rfl (lv_at hl 0 rfl) ?_
          refine va_get (D := D) (ci := 12) (C := RX12) (T := TX12) (N := 19) hx hb hts fwX12_pumps_X12 hown hK hP 0 rfl rfl 0 (by decide) (hts _ (List.mem_of_getElem? (i := 1) rfl)) (fun _ h9 => h9) rfl dX12_pumps_143 ?_
          refine lv_bipush (v := 10) hx hb dX12_pumps_146 (by decide) ?_
          refine lv_iconst (v := 0) hx hb dX12_pumps_148 (by decide) ?_
          refine w_iast (wf := (wX12 cI cZ cS ad)) (cid := 1) hx hb hK hP hD hS 1 0 rfl rfl hf (fun _ => rfl) dX12_pumps_149 (fun σ37 H locs hf hP hD hS => ?_)
          have hi1 := Option.some.inj hf
          subst hi1
          exact hret _ _ _ _ dX12_pumps_150 hP hS
      · have hf := (if_pos h8).symm.trans hf
        have hi1 := Option.some.inj hf
        subst hi1
        exact hret _ _ _ _ dX12_pumps_137 hP hS
    refine lv_if_ne (tgt := 127) hx hb dX12_pumps_34 (by decide) (fun h38 => ?_) (fun h38 => ?_)
    · have hf := (if_neg h38).symm.trans hf
      exact Jj6 σ _ _ _ hP hD hS (lv_sub hl [1, 0] rfl) hf
    · have hf := (if_pos h38).symm.trans hf
      refine lv_aload_n hx hb dX12_pumps_37 rfl (lv_at hl 1 rfl) ?_
      refine q_cVr (wf := (wX12 cI cZ cS ad)) (wc := wX12 cI cZ cS ad) (rest := []) ⟨hx, hb, hml, hown, hts⟩ hK hZ hA hP hD hS hf (fun x ho => kX12_isDead l D cI cZ cS zz ad σ x ho) (cwV 0 hts gX12_pumps_X12_isDead rfl rfl rfl ndX12_isDead ⟨Nat.le_of_ble_eq_true rfl, Nat.le_of_ble_eq_true rfl⟩) [0, 1, 2, 3, 4, 5, 6, 7, 8, 9, 10, 11] rfl rfl rfl rfl rfl rfl (hl.1) rfl (Nat.le_of_ble_eq_true rfl) dX12_pumps_38 ⟨Nat.zero_le _, Nat.zero_le _⟩ (fun r39 H locs hf hP hD hS => ?_)
      refine lv_if_ne (tgt := 127) hx hb dX12_pumps_41 (by decide) (fun h40 => ?_) (fun h40 => ?_)
      · have hf := (if_neg h40).symm.trans hf
        exact Jj6 σ _ _ _ hP hD hS (lv_sub hl [1, 0] rfl) hf
      · have hf := (if_pos h40).symm.trans hf
        refine lv_aload_n hx hb dX12_pumps_44 rfl (lv_at hl 1 rfl) ?_
        refine va_get (D := D) (ci := 12) (C := RX12) (T := TX12) (N := 19) hx hb hts fwX12_pumps_X12 hown hK hP 0 rfl rfl 0 (by decide) (hts _ (List.mem_of_getElem? (i := 1) rfl)) (fun _ h9 => h9) rfl dX12_pumps_45 ?_
        refine lv_iconst (v := 2) hx hb dX12_pumps_48 (by decide) ?_
        refine w_iald (wf := (wX12 cI cZ cS ad)) hx hb hK hP 1 0 rfl rfl hf dX12_pumps_49 (fun v41 hf => ?_)
        refine lv_aload_n hx hb dX12_pumps_50 rfl (lv_at hl 1 rfl) ?_
        refine va_get (D := D) (ci := 12) (C := RX12) (T := TX12) (N := 19) hx hb hts fwX12_pumps_X12 hown hK hP 0 rfl rfl 0 (by decide) (hts _ (List.mem_of_getElem? (i := 1) rfl)) (fun _ h9 => h9) rfl dX12_pumps_51 ?_
        refine lv_iconst (v := 3) hx hb dX12_pumps_54 (by decide) ?_
        refine w_iald (wf := (wX12 cI cZ cS ad)) hx hb hK hP 1 0 rfl rfl hf dX12_pumps_55 (fun v42 hf => ?_)
        refine lv_icmp_lt (tgt := 127) hx hb dX12_pumps_56 (by decide) (fun h43 => ?_) (fun h43 => ?_)
        · have hf := (if_pos h43).symm.trans hf
          exact Jj6 σ _ _ _ hP hD hS (lv_sub hl [1, 0] rfl) hf
        · have hf := (if_neg h43).symm.trans hf
          refine lv_iload_n hx hb dX12_pumps_59 rfl (lv_at hl 0 rfl) ?_
          refine lv_if_eq (tgt := 127) hx hb dX12_pumps_60 (by decide) (fun h44 => ?_) (fun h44 => ?_)
          · have hf := (if_pos h44).symm.trans hf
            exact Jj6 σ _ _ _ hP hD hS (lv_sub hl [1, 0] rfl) hf
          · have hf := (if_neg h44).symm.trans hf
            refine lv_aload_n hx hb dX12_pumps_63 rfl (lv_at hl 1 rfl) ?_
            refine va_get (D := D) (ci := 12) (C := RX12) (T := TX12) (N := 19) hx hb hts fwX12_pumps_X12 hown hK hP 0 rfl rfl 0 (by decide) (hts _ (List.mem_of_getElem? (i := 1) rfl)) (fun _ h9 => h9) rfl dX12_pumps_64 ?_
            refine lv_bipush (v := 9) hx hb dX12_pumps_67 (by decide) ?_
            refine w_iald (wf := (wX12 cI cZ cS ad)) hx hb hK hP 1 0 rfl rfl hf dX12_pumps_69 (fun v45 hf => ?_)
            refine lv_bipush (v := 40) hx hb dX12_pumps_70 (by decide) ?_
            refine q_lt_go hf (fun j47 ej47 hf => ?_)
            have Jj47 : ∀ (σ46 : SS) (H : Heap) (locs : List Loc) (ls : Array Slot), va_P D vwCl ((wX12 cI cZ cS ad) σ46) H → va_D A ((wX12 cI cZ cS ad) σ46) → va_S A s.heap H locs → lv_has ls 4 [(0, .ref (ad 0)), (1, .int y2)] → j47 σ46 = some σr → W p l e rmX12_pumps s m ([.ref (ad 0)] : List Value).toArray below meth c H locs 0 0 Q (F0 m 97 ls []) := by
              intro σ46 H locs ls hP hD hS hl hf
              have hf := (congrFun ej47 σ46).symm.trans hf
              refine lv_aload_n hx hb dX12_pumps_97 rfl (lv_at hl 0 rfl) ?_
              refine va_get (D := D) (ci := 12) (C := RX12) (T := TX12) (N := 19) hx hb hts fwX12_pumps_X12 hown hK hP 0 rfl rfl 0 (by decide) (hts _ (List.mem_of_getElem? (i := 1) rfl)) (fun _ h9 => h9) rfl dX12_pumps_98 ?_
              refine lv_bipush (v := 9) hx hb dX12_pumps_101 (by decide) ?_
              refine lv_dup2_11 hx hb dX12_pumps_103 rfl rfl ?_
              refine w_iald (wf := (wX12 cI cZ cS ad)) hx hb hK hP 1 0 rfl rfl hf dX12_pumps_104 (fun v48 hf => ?_)
              refine lv_iconst (v := 1) hx hb dX12_pumps_105 (by decide) ?_
              refine lv_iadd hx hb dX12_pumps_106 ?_
              refine w_iast (wf := (wX12 cI cZ cS ad)) (cid := 1) hx hb hK hP hD hS 1 0 rfl rfl hf (fun _ => rfl) dX12_pumps_107 (fun σ49 H locs hf hP hD hS => ?_)
              refine lv_aload_n hx hb dX12_pumps_108 rfl (lv_at hl 0 rfl) ?_
              refine va_get (D := D) (ci := 12) (C := RX12) (T := TX12) (N := 19) hx hb hts fwX12_pumps_X12 hown hK hP 0 rfl rfl 0 (by decide) (hts _ (List.mem_of_getElem? (i := 1) rfl)) (fun _ h9 => h9) rfl dX12_pumps_109 ?_
              refine lv_bipush (v := 10) hx hb dX12_pumps_112 (by decide) ?_
              refine lv_aload_n hx hb dX12_pumps_114 rfl (lv_at hl 0 rfl) ?_
              refine q_cVr (wf := (wX12 cI cZ cS ad)) (wc := wX12 cI cZ cS ad) (rest := [.int (10 : Int32), .ref (ad 1)]) ⟨hx, hb, hml, hown, hts⟩ hK hZ hA hP hD hS hf (fun x ho => kX12_isDead l D cI cZ cS zz ad σ49 x ho) (cwV 0 hts gX12_pumps_X12_isDead rfl rfl rfl ndX12_isDead ⟨Nat.le_of_ble_eq_true rfl, Nat.le_of_ble_eq_true rfl⟩) [0, 1, 2, 3, 4, 5, 6, 7, 8, 9, 10, 11] rfl rfl rfl rfl rfl rfl (hl.1) rfl (Nat.le_of_ble_eq_true rfl) dX12_pumps_115 ⟨Nat.zero_le _, Nat.zero_le _⟩ (fun r50 H locs hf hP hD hS => ?_)
              refine q_lt_go hf (fun j52 ej52 hf => ?_)
              have Jj52 : ∀ (y51 : Int32) (H : Heap) (locs : List Loc) (ls : Array Slot), va_P D vwCl ((wX12 cI cZ cS ad) σ49) H → va_D A ((wX12 cI cZ cS ad) σ49) → va_S A s.heap H locs → lv_has ls 4 [(0, .ref (ad 0)), (1, .int y2)] → j52 y51 = some σr → W p l e rmX12_pumps s m ([.ref (ad 0)] : List Value).toArray below meth c H locs 0 0 Q (F0 m 126 ls [.int y51, .int (10 : Int32), .ref (ad 1)]) := by
                intro y51 H locs ls hP hD hS hl hf
                have hf := (congrFun ej52 y51).symm.trans hf
                refine w_iast (wf := (wX12 cI cZ cS ad)) (cid := 1) hx hb hK hP hD hS 1 0 rfl rfl hf (fun _ => rfl) dX12_pumps_126 (fun σ53 H locs hf hP hD hS => ?_)
                exact Jj6 σ53 _ _ _ hP hD hS (lv_sub hl [0, 1] rfl) hf
              refine lv_if_eq (tgt := 125) hx hb dX12_pumps_118 (by decide) (fun h54 => ?_) (fun h54 => ?_)
              · have hf := (if_pos h54).symm.trans hf
                refine lv_iconst (v := 1) hx hb dX12_pumps_125 (by decide) ?_
                exact Jj52 (1 : Int32) _ _ _ hP hD hS (lv_sub hl [0, 1] rfl) hf
              · have hf := (if_neg h54).symm.trans hf
                refine lv_iconst (v := 0) hx hb dX12_pumps_121 (by decide) ?_
                refine lv_goto (tgt := 126) hx hb dX12_pumps_122 (by decide) ?_
                exact Jj52 (0 : Int32) _ _ _ hP hD hS (lv_sub hl [0, 1] rfl) hf
            refine lv_icmp_ge (tgt := 97) hx hb dX12_pumps_72 (by decide) (fun h55 => ?_) (fun h55 => ?_)
            · have hf := (if_pos h55).symm.trans hf
              exact Jj47 σ _ _ _ hP hD hS (lv_sub hl [1, 0] rfl) hf
            · have hf := (if_neg h55).symm.trans hf
              refine lv_aload_n hx hb dX12_pumps_75 rfl (lv_at hl 1 rfl) ?_
              refine va_get (D := D) (ci := 12) (C := RX12) (T := TX12) (N := 19) hx hb hts fwX12_pumps_X12 hown hK hP 0 rfl rfl 0 (by decide) (hts _ (List.mem_of_getElem? (i := 1) rfl)) (fun _ h9 => h9) rfl dX12_pumps_76 ?_
              refine lv_bipush (v := 25) hx hb dX12_pumps_79 (by decide) ?_
              refine lv_aload_n hx hb dX12_pumps_81 rfl (lv_at hl 1 rfl) ?_
              refine va_get (D := D) (ci := 12) (C := RX12) (T := TX12) (N := 19) hx hb hts fwX12_pumps_X12 hown hK hP 0 rfl rfl 0 (by decide) (hts _ (List.mem_of_getElem? (i := 1) rfl)) (fun _ h9 => h9) rfl dX12_pumps_82 ?_
              refine lv_bipush (v := 9) hx hb dX12_pumps_85 (by decide) ?_
              refine w_iald (wf := (wX12 cI cZ cS ad)) hx hb hK hP 1 0 rfl rfl hf dX12_pumps_87 (fun v56 hf => ?_)
              refine lv_iadd hx hb dX12_pumps_88 ?_
              refine lv_aload_n hx hb dX12_pumps_89 rfl (lv_at hl 1 rfl) ?_
              refine va_get (D := D) (ci := 12) (C := RX12) (T := TX12) (N := 19) hx hb hts fwX12_pumps_X12 hown hK hP 0 rfl rfl 0 (by decide) (hts _ (List.mem_of_getElem? (i := 1) rfl)) (fun _ h9 => h9) rfl dX12_pumps_90 ?_
              refine lv_bipush (v := 8) hx hb dX12_pumps_93 (by decide) ?_
              refine w_iald (wf := (wX12 cI cZ cS ad)) hx hb hK hP 1 0 rfl rfl hf dX12_pumps_95 (fun v57 hf => ?_)
              refine w_iast (wf := (wX12 cI cZ cS ad)) (cid := 1) hx hb hK hP hD hS 1 0 rfl rfl hf (fun _ => rfl) dX12_pumps_96 (fun σ58 H locs hf hP hD hS => ?_)
              exact Jj47 σ58 _ _ _ hP hD hS (lv_sub hl [1, 0] rfl) hf
  refine q_lt_go hf (fun j59 ej59 hf => ?_)
  have Jj59 : ∀ (H : Heap) (locs : List Loc) (ls : Array Slot), va_P D vwCl ((wX12 cI cZ cS ad) σ) H → va_D A ((wX12 cI cZ cS ad) σ) → va_S A s.heap H locs → lv_has ls 4 [(0, .ref (ad 0))] → j59 = some σr → W p l e rmX12_pumps s m ([.ref (ad 0)] : List Value).toArray below meth c H locs 0 0 Q (F0 m 21 ls []) := by
    intro  H locs ls hP hD hS hl hf
    have hf := ej59.symm.trans hf
    refine lv_iconst (v := 1) hx hb dX12_pumps_21 (by decide) ?_
    refine lv_goto (tgt := 26) hx hb dX12_pumps_22 (by decide) ?_
    exact Jj3 (1 : Int32) _ _ _ hP hD hS (lv_sub hl [0] rfl) hf
  refine lv_icmp_eq (tgt := 21) hx hb dX12_pumps_8 (by decide) (fun h60 => ?_) (fun h60 => ?_)
  · have hf := (if_pos h60).symm.trans hf
    exact Jj59  _ _ _ hP hD hS (lv_sub hl [0] rfl) hf
  · have hf := (if_neg h60).symm.trans hf
    refine lv_aload_n hx hb dX12_pumps_11 rfl (lv_at hl 0 rfl) ?_
    refine va_get (D := D) (ci := 12) (C := RX12) (T := TX12) (N := 19) hx hb hts fwX12_pumps_X12 hown hK hP 0 rfl rfl 0 (by decide) (hts _ (List.mem_of_getElem? (i := 1) rfl)) (fun _ h9 => h9) rfl dX12_pumps_12 ?_
    refine lv_bipush (v := 7) hx hb dX12_pumps_15 (by decide) ?_
    refine w_iald (wf := (wX12 cI cZ cS ad)) hx hb hK hP 1 0 rfl rfl hf dX12_pumps_17 (fun v61 hf => ?_)
    refine lv_if_le (tgt := 25) hx hb dX12_pumps_18 (by decide) (fun h62 => ?_) (fun h62 => ?_)
    · have hf := (if_pos h62).symm.trans hf
      refine lv_iconst (v := 0) hx hb dX12_pumps_25 (by decide) ?_
      exact Jj3 (0 : Int32) _ _ _ hP hD hS (lv_sub hl [0] rfl) hf
    · have hf := (if_neg h62).symm.trans hf
      exact Jj59  _ _ _ hP hD hS (lv_sub hl [0] rfl) hf
def pX12_thingIts (σ : SS) (a1 : Int32) (a2 : Int32) : Option Int32 := q_rd (σ 1) 307 (((97 : Int32) + ((5 : Int32) * a1)) + a2) (fun (v1 : Int32) => some v1)
theorem fwX12_thingIts_X12 : ∀ w ∈ wsX120, w ∈ wsX12_thingIts := fun _ h => List.mem_cons_of_mem _ (List.mem_append_right _ h)
abbrev rmX12_thingIts : Room := { frames := 0, cells := 0, slots := 0, locals := 0 }
set_option maxHeartbeats 4000000 in
set_option maxRecDepth 100000 in
theorem kX12_thingIts (l : Launch) (D : va_G) (cI cZ cS : ClassId) (zz : ZT) (ad : Nat → Nat) (σ : SS) (a1 : Int32) (a2 : Int32) (rr : Int32) (hf : pX12_thingIts σ a1 a2 = some rr) : CI l yX12_thingIts wsX12_thingIts rmX12_thingIts D (K3 cI cZ cS) zz [.ref (ad 0), .int a1, .int a2] (wX12 cI cZ cS ad σ) (wX12 cI cZ cS ad σ) rr := by
  refine q_ofI (cc := cX12_thingIts) (maxL := 3) (ty := .int) (by decide) rfl (Nat.le_of_ble_eq_true rfl) ?_
  intro p e s m below meth c Q A ls hx hb hml hown hts hK hZ hA hP hD hS hl hret
  have hl : lv_has ls 3 [(0, .ref (ad 0)), (1, .int a1), (2, .int a2)] := hl
  unfold pX12_thingIts at hf
  refine lv_aload_n hx hb dX12_thingIts_0 rfl (lv_at hl 0 rfl) ?_
  refine va_get (D := D) (ci := 12) (C := RX12) (T := TX12) (N := 19) hx hb hts fwX12_thingIts_X12 hown hK hP 0 rfl rfl 0 (by decide) (hts _ (List.mem_of_getElem? (i := 1) rfl)) (fun _ h9 => h9) rfl dX12_thingIts_1 ?_
  refine lv_bipush (v := 97) hx hb dX12_thingIts_4 (by decide) ?_
  refine lv_iconst (v := 5) hx hb dX12_thingIts_6 (by decide) ?_
  refine lv_iload_n hx hb dX12_thingIts_7 rfl (lv_at hl 1 rfl) ?_
  refine lv_imul hx hb dX12_thingIts_8 ?_
  refine lv_iadd hx hb dX12_thingIts_9 ?_
  refine lv_iload_n hx hb dX12_thingIts_10 rfl (lv_at hl 2 rfl) ?_
  refine lv_iadd hx hb dX12_thingIts_11 ?_
  refine w_iald (wf := (wX12 cI cZ cS ad)) hx hb hK hP 1 0 rfl rfl hf dX12_thingIts_12 (fun v1 hf => ?_)
  have hi1 := Option.some.inj hf
  subst hi1
  exact hret _ _ _ _ dX12_thingIts_13 rfl hP hS
def pX12_goes (σ : SS) : Option SS := q_cs (pX12_rises σ) (fun (τ : SS) => τ) (fun (σ1 : SS) => q_cs (pX12_pumps σ1) (fun (τ : SS) => τ) (fun (σ2 : SS) => q_rd (σ2 1) 307 (8 : Int32) (fun (v3 : Int32) => q_wr σ2 1 307 (8 : Int32) (v3 + (1 : Int32)) (fun (σ4 : SS) => q_lp (fun _ _ => none) (fun (c7 : SS → Int32 → Option SS) (σ6 : SS) (x1_5 : Int32) => q_rd (σ6 1) 307 (17 : Int32) (fun (v10 : Int32) => (if v10 ≤ x1_5 then some σ6 else q_cr (pX12_thingIts σ6 x1_5 (3 : Int32)) (fun (r12 : Int32) => q_lt (fun (σ13 : SS) => c7 σ13 (x1_5 + (1 : Int32))) (fun j14 => (if r12 = (0 : Int32) then q_rd (σ6 1) 307 (2 : Int32) (fun (v16 : Int32) => q_cr (pX12_thingIts σ6 x1_5 (2 : Int32)) (fun (r17 : Int32) => (if v16 ≤ r17 then j14 σ6 else q_wr σ6 1 307 (((97 : Int32) + ((5 : Int32) * x1_5)) + (4 : Int32)) (1 : Int32) (fun (σ19 : SS) => j14 σ19)))) else j14 σ6)))))) q_fu σ4 (0 : Int32)))))
theorem fwX12_goes_X12 : ∀ w ∈ wsX120, w ∈ wsX12_goes := fun _ h => List.mem_cons_of_mem _ (List.mem_append_right _ h)
abbrev rmX12_goes : Room := { frames := 4, cells := 0, slots := 0, locals := 91 }
set_option maxHeartbeats 4000000 in
set_option maxRecDepth 100000 in
theorem kX12_goes (l : Launch) (D : va_G) (cI cZ cS : ClassId) (zz : ZT) (ad : Nat → Nat) (σ : SS) (σr : SS) (hf : pX12_goes σ = some σr) : CV l yX12_goes wsX12_goes rmX12_goes D (K3 cI cZ cS) zz [.ref (ad 0)] (wX12 cI cZ cS ad σ) (wX12 cI cZ cS ad σr) := by
  refine q_ofV (cc := cX12_goes) (maxL := 2) (by decide) rfl (Nat.le_of_ble_eq_true rfl) ?_
  intro p e s m below meth c Q A ls hx hb hml hown hts hK hZ hA hP hD hS hl hret
  have hl : lv_has ls 2 [(0, .ref (ad 0))] := hl
  unfold pX12_goes at hf
  refine lv_aload_n hx hb dX12_goes_0 rfl (lv_at hl 0 rfl) ?_
  refine q_cVv (wf := (wX12 cI cZ cS ad)) (wc := wX12 cI cZ cS ad) (rest := []) ⟨hx, hb, hml, hown, hts⟩ hK hZ hA hP hD hS hf (fun x ho => kX12_rises l D cI cZ cS zz ad σ x ho) (cwV 0 hts gX12_goes_X12_rises rfl rfl rfl ndX12_rises ⟨Nat.le_of_ble_eq_true rfl, Nat.le_of_ble_eq_true rfl⟩) [0, 1, 2, 3, 4, 5, 6, 7, 8, 9, 10, 11] rfl rfl [some 0, some 1, some 2, some 3, some 4, some 5, some 6, some 7, some 8, some 9, some 10, some 11] (by decide +kernel) (Nat.le_of_ble_eq_true rfl) (fun _ => rfl) (fun _ => rfl) (fun _ => rfl) rfl rfl rfl rfl (hl.1) rfl (Nat.le_of_ble_eq_true rfl) dX12_goes_1 ⟨Nat.zero_le _, Nat.zero_le _⟩ (fun σ1 H locs hf hP hD hS => ?_)
  refine lv_aload_n hx hb dX12_goes_4 rfl (lv_at hl 0 rfl) ?_
  refine q_cVv (wf := (wX12 cI cZ cS ad)) (wc := wX12 cI cZ cS ad) (rest := []) ⟨hx, hb, hml, hown, hts⟩ hK hZ hA hP hD hS hf (fun x ho => kX12_pumps l D cI cZ cS zz ad σ1 x ho) (cwV 0 hts gX12_goes_X12_pumps rfl rfl rfl ndX12_pumps ⟨Nat.le_of_ble_eq_true rfl, Nat.le_of_ble_eq_true rfl⟩) [0, 1, 2, 3, 4, 5, 6, 7, 8, 9, 10, 11] rfl rfl [some 0, some 1, some 2, some 3, some 4, some 5, some 6, some 7, some 8, some 9, some 10, some 11] (by decide +kernel) (Nat.le_of_ble_eq_true rfl) (fun _ => rfl) (fun _ => rfl) (fun _ => rfl) rfl rfl rfl rfl (hl.1) rfl (Nat.le_of_ble_eq_true rfl) dX12_goes_5 ⟨Nat.zero_le _, Nat.zero_le _⟩ (fun σ2 H locs hf hP hD hS => ?_)
  refine lv_aload_n hx hb dX12_goes_8 rfl (lv_at hl 0 rfl) ?_
  refine va_get (D := D) (ci := 12) (C := RX12) (T := TX12) (N := 19) hx hb hts fwX12_goes_X12 hown hK hP 0 rfl rfl 0 (by decide) (hts _ (List.mem_of_getElem? (i := 1) rfl)) (fun _ h9 => h9) rfl dX12_goes_9 ?_
  refine lv_bipush (v := 8) hx hb dX12_goes_12 (by decide) ?_
  refine lv_dup2_11 hx hb dX12_goes_14 rfl rfl ?_
  refine w_iald (wf := (wX12 cI cZ cS ad)) hx hb hK hP 1 0 rfl rfl hf dX12_goes_15 (fun v3 hf => ?_)
  refine lv_iconst (v := 1) hx hb dX12_goes_16 (by decide) ?_
  refine lv_iadd hx hb dX12_goes_17 ?_
  refine w_iast (wf := (wX12 cI cZ cS ad)) (cid := 1) hx hb hK hP hD hS 1 0 rfl rfl hf (fun _ => rfl) dX12_goes_18 (fun σ4 H locs hf hP hD hS => ?_)
  refine lv_iconst (v := 0) hx hb dX12_goes_19 (by decide) ?_
  refine lv_istore_n (lv' := [(1, .int (0 : Int32)), (0, .ref (ad 0))]) hx hb dX12_goes_20 rfl hl (by decide) rfl (fun ls hl => ?_)
  refine q_lp_go (f := fun (zf : SS → Int32 → Option SS) => zf σ4 (0 : Int32)) hf (fun z8 ez8 hf => ?_)
  have Lz8 : ∀ (n9 : Nat) (σ6 : SS) (x1_5 : Int32) (H : Heap) (locs : List Loc) (ls : Array Slot), va_P D vwCl ((wX12 cI cZ cS ad) σ6) H → va_D A ((wX12 cI cZ cS ad) σ6) → va_S A s.heap H locs → lv_has ls 2 [(0, .ref (ad 0)), (1, .int x1_5)] → q_lp (fun _ _ => none) z8 n9 σ6 x1_5 = some σr → W p l e rmX12_goes s m ([.ref (ad 0)] : List Value).toArray below meth c H locs 0 0 Q (F0 m 21 ls []) := by
    intro n9
    induction n9 with
    | zero => exact fun _ _ _ _ _ _ _ _ _ hf => q_no hf
    | succ n9 ihz8 =>
      intro σ6 x1_5 H locs ls hP hD hS hl hf
      have hf := (congrFun (congrFun (congrFun ez8 (q_lp (fun _ _ => none) z8 n9)) σ6) x1_5).symm.trans hf
      refine lv_iload_n hx hb dX12_goes_21 rfl (lv_at hl 1 rfl) ?_
      refine lv_aload_n hx hb dX12_goes_22 rfl (lv_at hl 0 rfl) ?_
      refine va_get (D := D) (ci := 12) (C := RX12) (T := TX12) (N := 19) hx hb hts fwX12_goes_X12 hown hK hP 0 rfl rfl 0 (by decide) (hts _ (List.mem_of_getElem? (i := 1) rfl)) (fun _ h9 => h9) rfl dX12_goes_23 ?_
      refine lv_bipush (v := 17) hx hb dX12_goes_26 (by decide) ?_
      refine w_iald (wf := (wX12 cI cZ cS ad)) hx hb hK hP 1 0 rfl rfl hf dX12_goes_28 (fun v10 hf => ?_)
      refine lv_icmp_ge (tgt := 76) hx hb dX12_goes_29 (by decide) (fun h11 => ?_) (fun h11 => ?_)
      · have hf := (if_pos h11).symm.trans hf
        have hi1 := Option.some.inj hf
        subst hi1
        exact hret _ _ _ _ dX12_goes_76 hP hS
      · have hf := (if_neg h11).symm.trans hf
        refine lv_aload_n hx hb dX12_goes_32 rfl (lv_at hl 0 rfl) ?_
        refine lv_iload_n hx hb dX12_goes_33 rfl (lv_at hl 1 rfl) ?_
        refine lv_iconst (v := 3) hx hb dX12_goes_34 (by decide) ?_
        refine q_cVr (wf := (wX12 cI cZ cS ad)) (wc := wX12 cI cZ cS ad) (rest := []) ⟨hx, hb, hml, hown, hts⟩ hK hZ hA hP hD hS hf (fun x ho => kX12_thingIts l D cI cZ cS zz ad σ6 x1_5 (3 : Int32) x ho) (cwV 2 hts gX12_goes_X12_thingIts rfl rfl rfl ndX12_thingIts ⟨Nat.le_of_ble_eq_true rfl, Nat.le_of_ble_eq_true rfl⟩) [0, 1, 2, 3, 4, 5, 6, 7, 8, 9, 10, 11] rfl rfl rfl rfl rfl rfl (hl.1) rfl (Nat.le_of_ble_eq_true rfl) dX12_goes_35 ⟨Nat.zero_le _, Nat.zero_le _⟩ (fun r12 H locs hf hP hD hS => ?_)
        refine q_lt_go hf (fun j14 ej14 hf => ?_)
        have Jj14 : ∀ (σ13 : SS) (H : Heap) (locs : List Loc) (ls : Array Slot), va_P D vwCl ((wX12 cI cZ cS ad) σ13) H → va_D A ((wX12 cI cZ cS ad) σ13) → va_S A s.heap H locs → lv_has ls 2 [(0, .ref (ad 0)), (1, .int x1_5)] → j14 σ13 = some σr → W p l e rmX12_goes s m ([.ref (ad 0)] : List Value).toArray below meth c H locs 0 0 Q (F0 m 70 ls []) := by
          intro σ13 H locs ls hP hD hS hl hf
          have hf := (congrFun ej14 σ13).symm.trans hf
          refine lv_iinc (v := (x1_5 + (1 : Int32))) (lv' := [(1, .int (x1_5 + (1 : Int32))), (0, .ref (ad 0))]) hx hb dX12_goes_70 hl (k := 1) rfl rfl (by decide) rfl (fun ls hl => ?_)
          refine lv_goto (tgt := 21) hx hb dX12_goes_73 (by decide) ?_
          exact ihz8 σ13 (x1_5 + (1 : Int32)) _ _ _ hP hD hS (lv_sub hl [1, 0] rfl) hf
        refine lv_if_ne (tgt := 70) hx hb dX12_goes_38 (by decide) (fun h15 => ?_) (fun h15 => ?_)
        · have hf := (if_neg h15).symm.trans hf
          exact Jj14 σ6 _ _ _ hP hD hS (lv_sub hl [0, 1] rfl) hf
        · have hf := (if_pos h15).symm.trans hf
          refine lv_aload_n hx hb dX12_goes_41 rfl (lv_at hl 0 rfl) ?_
          refine va_get (D := D) (ci := 12) (C := RX12) (T := TX12) (N := 19) hx hb hts fwX12_goes_X12 hown hK hP 0 rfl rfl 0 (by decide) (hts _ (List.mem_of_getElem? (i := 1) rfl)) (fun _ h9 => h9) rfl dX12_goes_42 ?_
          refine lv_iconst (v := 2) hx hb dX12_goes_45 (by decide) ?_
          refine w_iald (wf := (wX12 cI cZ cS ad)) hx hb hK hP 1 0 rfl rfl hf dX12_goes_46 (fun v16 hf => ?_)
          refine lv_aload_n hx hb dX12_goes_47 rfl (lv_at hl 0 rfl) ?_
          refine lv_iload_n hx hb dX12_goes_48 rfl (lv_at hl 1 rfl) ?_
          refine lv_iconst (v := 2) hx hb dX12_goes_49 (by decide) ?_
          refine q_cVr (wf := (wX12 cI cZ cS ad)) (wc := wX12 cI cZ cS ad) (rest := [.int v16]) ⟨hx, hb, hml, hown, hts⟩ hK hZ hA hP hD hS hf (fun x ho => kX12_thingIts l D cI cZ cS zz ad σ6 x1_5 (2 : Int32) x ho) (cwV 2 hts gX12_goes_X12_thingIts rfl rfl rfl ndX12_thingIts ⟨Nat.le_of_ble_eq_true rfl, Nat.le_of_ble_eq_true rfl⟩) [0, 1, 2, 3, 4, 5, 6, 7, 8, 9, 10, 11] rfl rfl rfl rfl rfl rfl (hl.1) rfl (Nat.le_of_ble_eq_true rfl) dX12_goes_50 ⟨Nat.zero_le _, Nat.zero_le _⟩ (fun r17 H locs hf hP hD hS => ?_)
          refine lv_icmp_le (tgt := 70) hx hb dX12_goes_53 (by decide) (fun h18 => ?_) (fun h18 => ?_)
          · have hf := (if_pos h18).symm.trans hf
            exact Jj14 σ6 _ _ _ hP hD hS (lv_sub hl [0, 1] rfl) hf
          · have hf := (if_neg h18).symm.trans hf
            refine lv_aload_n hx hb dX12_goes_56 rfl (lv_at hl 0 rfl) ?_
            refine va_get (D := D) (ci := 12) (C := RX12) (T := TX12) (N := 19) hx hb hts fwX12_goes_X12 hown hK hP 0 rfl rfl 0 (by decide) (hts _ (List.mem_of_getElem? (i := 1) rfl)) (fun _ h9 => h9) rfl dX12_goes_57 ?_
            refine lv_bipush (v := 97) hx hb dX12_goes_60 (by decide) ?_
            refine lv_iconst (v := 5) hx hb dX12_goes_62 (by decide) ?_
            refine lv_iload_n hx hb dX12_goes_63 rfl (lv_at hl 1 rfl) ?_
            refine lv_imul hx hb dX12_goes_64 ?_
            refine lv_iadd hx hb dX12_goes_65 ?_
            refine lv_iconst (v := 4) hx hb dX12_goes_66 (by decide) ?_
            refine lv_iadd hx hb dX12_goes_67 ?_
            refine lv_iconst (v := 1) hx hb dX12_goes_68 (by decide) ?_
            refine w_iast (wf := (wX12 cI cZ cS ad)) (cid := 1) hx hb hK hP hD hS 1 0 rfl rfl hf (fun _ => rfl) dX12_goes_69 (fun σ19 H locs hf hP hD hS => ?_)
            exact Jj14 σ19 _ _ _ hP hD hS (lv_sub hl [0, 1] rfl) hf
  exact Lz8 q_fu σ4 (0 : Int32) _ _ _ hP hD hS (lv_sub hl [1, 0] rfl) hf
def pX12_goesOn (σ : SS) (a1 : Int32) : Option SS := q_lp (fun _ _ => none) (fun (c3 : SS → Int32 → Option SS) (σ2 : SS) (x2_1 : Int32) => (if a1 ≤ x2_1 then some σ2 else q_cs (pX12_goes σ2) (fun (τ : SS) => τ) (fun (σ7 : SS) => q_rd (σ7 1) 307 (2 : Int32) (fun (v8 : Int32) => q_lt (fun (y9 : Int32) => q_lt (su σ7 0 5 y9) (fun (σ11 : SS) => c3 σ11 (x2_1 + (1 : Int32)))) (fun j10 => (if v8 ≤ (σ7 0 5) then j10 (σ7 0 5) else q_rd (σ7 1) 307 (2 : Int32) (fun (v13 : Int32) => j10 v13))))))) q_fu σ (0 : Int32)
theorem fwX12_goesOn_X12 : ∀ w ∈ wsX120, w ∈ wsX12_goesOn := fun _ h => List.mem_cons_of_mem _ (List.mem_append_right _ h)
abbrev rmX12_goesOn : Room := { frames := 5, cells := 0, slots := 0, locals := 112 }
set_option maxHeartbeats 4000000 in
set_option maxRecDepth 100000 in
theorem kX12_goesOn (l : Launch) (D : va_G) (cI cZ cS : ClassId) (zz : ZT) (ad : Nat → Nat) (σ : SS) (a1 : Int32) (σr : SS) (hf : pX12_goesOn σ a1 = some σr) : CV l yX12_goesOn wsX12_goesOn rmX12_goesOn D (K3 cI cZ cS) zz [.ref (ad 0), .int a1] (wX12 cI cZ cS ad σ) (wX12 cI cZ cS ad σr) := by
  refine q_ofV (cc := cX12_goesOn) (maxL := 3) (by decide) rfl (Nat.le_of_ble_eq_true rfl) ?_
  intro p e s m below meth c Q A ls hx hb hml hown hts hK hZ hA hP hD hS hl hret
  have hl : lv_has ls 3 [(0, .ref (ad 0)), (1, .int a1)] := hl
  unfold pX12_goesOn at hf
  refine lv_iconst (v := 0) hx hb dX12_goesOn_0 (by decide) ?_
  refine lv_istore_n (lv' := [(2, .int (0 : Int32)), (0, .ref (ad 0)), (1, .int a1)]) hx hb dX12_goesOn_1 rfl hl (by decide) rfl (fun ls hl => ?_)
  refine q_lp_go (f := fun (zf : SS → Int32 → Option SS) => zf σ (0 : Int32)) hf (fun z4 ez4 hf => ?_)
  have Lz4 : ∀ (n5 : Nat) (σ2 : SS) (x2_1 : Int32) (H : Heap) (locs : List Loc) (ls : Array Slot), va_P D vwCl ((wX12 cI cZ cS ad) σ2) H → va_D A ((wX12 cI cZ cS ad) σ2) → va_S A s.heap H locs → lv_has ls 3 [(0, .ref (ad 0)), (1, .int a1), (2, .int x2_1)] → q_lp (fun _ _ => none) z4 n5 σ2 x2_1 = some σr → W p l e rmX12_goesOn s m ([.ref (ad 0), .int a1] : List Value).toArray below meth c H locs 0 0 Q (F0 m 2 ls []) := by
    intro n5
    induction n5 with
    | zero => exact fun _ _ _ _ _ _ _ _ _ hf => q_no hf
    | succ n5 ihz4 =>
      intro σ2 x2_1 H locs ls hP hD hS hl hf
      have hf := (congrFun (congrFun (congrFun ez4 (q_lp (fun _ _ => none) z4 n5)) σ2) x2_1).symm.trans hf
      refine lv_iload_n hx hb dX12_goesOn_2 rfl (lv_at hl 2 rfl) ?_
      refine lv_iload_n hx hb dX12_goesOn_3 rfl (lv_at hl 1 rfl) ?_
      refine lv_icmp_ge (tgt := 47) hx hb dX12_goesOn_4 (by decide) (fun h6 => ?_) (fun h6 => ?_)
      · have hf := (if_pos h6).symm.trans hf
        have hi1 := Option.some.inj hf
        subst hi1
        exact hret _ _ _ _ dX12_goesOn_47 hP hS
      · have hf := (if_neg h6).symm.trans hf
        refine lv_aload_n hx hb dX12_goesOn_7 rfl (lv_at hl 0 rfl) ?_
        refine q_cVv (wf := (wX12 cI cZ cS ad)) (wc := wX12 cI cZ cS ad) (rest := []) ⟨hx, hb, hml, hown, hts⟩ hK hZ hA hP hD hS hf (fun x ho => kX12_goes l D cI cZ cS zz ad σ2 x ho) (cwV 0 hts gX12_goesOn_X12_goes rfl rfl rfl ndX12_goes ⟨Nat.le_of_ble_eq_true rfl, Nat.le_of_ble_eq_true rfl⟩) [0, 1, 2, 3, 4, 5, 6, 7, 8, 9, 10, 11] rfl rfl [some 0, some 1, some 2, some 3, some 4, some 5, some 6, some 7, some 8, some 9, some 10, some 11] (by decide +kernel) (Nat.le_of_ble_eq_true rfl) (fun _ => rfl) (fun _ => rfl) (fun _ => rfl) rfl rfl rfl rfl (hl.1) rfl (Nat.le_of_ble_eq_true rfl) dX12_goesOn_8 ⟨Nat.zero_le _, Nat.zero_le _⟩ (fun σ7 H locs hf hP hD hS => ?_)
        refine lv_aload_n hx hb dX12_goesOn_11 rfl (lv_at hl 0 rfl) ?_
        refine lv_aload_n hx hb dX12_goesOn_12 rfl (lv_at hl 0 rfl) ?_
        refine va_get (D := D) (ci := 12) (C := RX12) (T := TX12) (N := 19) hx hb hts fwX12_goesOn_X12 hown hK hP 0 rfl rfl 0 (by decide) (hts _ (List.mem_of_getElem? (i := 1) rfl)) (fun _ h9 => h9) rfl dX12_goesOn_13 ?_
        refine lv_iconst (v := 2) hx hb dX12_goesOn_16 (by decide) ?_
        refine w_iald (wf := (wX12 cI cZ cS ad)) hx hb hK hP 1 0 rfl rfl hf dX12_goesOn_17 (fun v8 hf => ?_)
        refine lv_aload_n hx hb dX12_goesOn_18 rfl (lv_at hl 0 rfl) ?_
        refine va_get (D := D) (ci := 12) (C := RX12) (T := TX12) (N := 19) hx hb hts fwX12_goesOn_X12 hown hK hP 0 rfl rfl 5 (by decide) (hts _ (List.mem_of_getElem? (i := 2) rfl)) (fun _ h9 => h9) rfl dX12_goesOn_19 ?_
        refine q_lt_go hf (fun j10 ej10 hf => ?_)
        have Jj10 : ∀ (y9 : Int32) (H : Heap) (locs : List Loc) (ls : Array Slot), va_P D vwCl ((wX12 cI cZ cS ad) σ7) H → va_D A ((wX12 cI cZ cS ad) σ7) → va_S A s.heap H locs → lv_has ls 3 [(0, .ref (ad 0)), (1, .int a1), (2, .int x2_1)] → j10 y9 = some σr → W p l e rmX12_goesOn s m ([.ref (ad 0), .int a1] : List Value).toArray below meth c H locs 0 0 Q (F0 m 38 ls [.int y9, .ref (ad 0)]) := by
          intro y9 H locs ls hP hD hS hl hf
          have hf := (congrFun ej10 y9).symm.trans hf
          refine w_put (D := D) (wf := (wX12 cI cZ cS ad)) (cid := 0) (ci := 12) (C := RX12) (T := TX12) (N := 19) hx hb hts fwX12_goesOn_X12 tyX12 tyX12_ok nmX12 hown hK hP hD hS 0 rfl rfl 5 (by decide) (hts _ (List.mem_of_getElem? (i := 2) rfl)) (fun _ h9 => h9) rfl (tyX12_ok 5 (by decide)) (Nat.le_of_ble_eq_true rfl) hf rfl dX12_goesOn_38 (fun σ11 H locs hf hP hD hS => ?_)
          refine lv_iinc (v := (x2_1 + (1 : Int32))) (lv' := [(2, .int (x2_1 + (1 : Int32))), (0, .ref (ad 0)), (1, .int a1)]) hx hb dX12_goesOn_41 hl (k := 2) rfl rfl (by decide) rfl (fun ls hl => ?_)
          refine lv_goto (tgt := 2) hx hb dX12_goesOn_44 (by decide) ?_
          exact ihz4 σ11 (x2_1 + (1 : Int32)) _ _ _ hP hD hS (lv_sub hl [1, 2, 0] rfl) hf
        refine lv_icmp_le (tgt := 34) hx hb dX12_goesOn_22 (by decide) (fun h12 => ?_) (fun h12 => ?_)
        · have hf := (if_pos h12).symm.trans hf
          refine lv_aload_n hx hb dX12_goesOn_34 rfl (lv_at hl 0 rfl) ?_
          refine va_get (D := D) (ci := 12) (C := RX12) (T := TX12) (N := 19) hx hb hts fwX12_goesOn_X12 hown hK hP 0 rfl rfl 5 (by decide) (hts _ (List.mem_of_getElem? (i := 2) rfl)) (fun _ h9 => h9) rfl dX12_goesOn_35 ?_
          exact Jj10 (σ7 0 5) _ _ _ hP hD hS (lv_sub hl [0, 1, 2] rfl) hf
        · have hf := (if_neg h12).symm.trans hf
          refine lv_aload_n hx hb dX12_goesOn_25 rfl (lv_at hl 0 rfl) ?_
          refine va_get (D := D) (ci := 12) (C := RX12) (T := TX12) (N := 19) hx hb hts fwX12_goesOn_X12 hown hK hP 0 rfl rfl 0 (by decide) (hts _ (List.mem_of_getElem? (i := 1) rfl)) (fun _ h9 => h9) rfl dX12_goesOn_26 ?_
          refine lv_iconst (v := 2) hx hb dX12_goesOn_29 (by decide) ?_
          refine w_iald (wf := (wX12 cI cZ cS ad)) hx hb hK hP 1 0 rfl rfl hf dX12_goesOn_30 (fun v13 hf => ?_)
          refine lv_goto (tgt := 38) hx hb dX12_goesOn_31 (by decide) ?_
          exact Jj10 v13 _ _ _ hP hD hS (lv_sub hl [0, 1, 2] rfl) hf
  exact Lz4 q_fu σ (0 : Int32) _ _ _ hP hD hS (lv_sub hl [1, 2, 0] rfl) hf
def pX12_minutes (σ : SS) (a1 : Int32) : Option (Int32 × SS) := q_cr (pX12_in a1 (1 : Int32) (200 : Int32)) (fun (r1 : Int32) => (if r1 = (0 : Int32) then q_ci (pX12_finding σ (0 : Int32)) (fun (τ : SS) => τ) (fun (r6 : Int32) (σ5 : SS) => some (r6, σ5)) else q_cs (pX12_goesOn σ a1) (fun (τ : SS) => τ) (fun (σ3 : SS) => q_rd (σ3 1) 307 (2 : Int32) (fun (v4 : Int32) => some (v4, σ3)))))
theorem fwX12_minutes_X12 : ∀ w ∈ wsX120, w ∈ wsX12_minutes := fun _ h => List.mem_cons_of_mem _ (List.mem_append_right _ h)
abbrev rmX12_minutes : Room := { frames := 6, cells := 0, slots := 0, locals := 134 }
set_option maxHeartbeats 4000000 in
set_option maxRecDepth 100000 in
theorem kX12_minutes (l : Launch) (D : va_G) (cI cZ cS : ClassId) (zz : ZT) (ad : Nat → Nat) (σ : SS) (a1 : Int32) (rr : Int32) (σr : SS) (hf : pX12_minutes σ a1 = some (rr, σr)) : CI l yX12_minutes wsX12_minutes rmX12_minutes D (K3 cI cZ cS) zz [.ref (ad 0), .int a1] (wX12 cI cZ cS ad σ) (wX12 cI cZ cS ad σr) rr := by
  refine q_ofI (cc := cX12_minutes) (maxL := 2) (ty := .int) (by decide) rfl (Nat.le_of_ble_eq_true rfl) ?_
  intro p e s m below meth c Q A ls hx hb hml hown hts hK hZ hA hP hD hS hl hret
  have hl : lv_has ls 2 [(0, .ref (ad 0)), (1, .int a1)] := hl
  unfold pX12_minutes at hf
  refine lv_iload_n hx hb dX12_minutes_0 rfl (lv_at hl 1 rfl) ?_
  refine lv_iconst (v := 1) hx hb dX12_minutes_1 (by decide) ?_
  refine lv_sipush (v := 200) hx hb dX12_minutes_2 (by decide) ?_
  refine q_cSr (wf := (wX12 cI cZ cS ad)) (rest := []) ⟨hx, hb, hml, hown, hts⟩ hK hZ hA hP hD hS hf (fun x ho => kX12_in l D cI cZ cS zz a1 (1 : Int32) (200 : Int32) x ho) (va_cwS 3 hts gX12_minutes_X12_in rfl rfl rfl ndX12_in.2 ⟨Nat.le_of_ble_eq_true rfl, Nat.le_of_ble_eq_true rfl⟩) rfl (hl.1) rfl (Nat.le_of_ble_eq_true rfl) dX12_minutes_5 ⟨Nat.zero_le _, Nat.zero_le _⟩ (fun r1 H locs hf hP hD hS => ?_)
  refine lv_if_ne (tgt := 17) hx hb dX12_minutes_8 (by decide) (fun h2 => ?_) (fun h2 => ?_)
  · have hf := (if_neg h2).symm.trans hf
    refine lv_aload_n hx hb dX12_minutes_17 rfl (lv_at hl 0 rfl) ?_
    refine lv_iload_n hx hb dX12_minutes_18 rfl (lv_at hl 1 rfl) ?_
    refine q_cVv (wf := (wX12 cI cZ cS ad)) (wc := wX12 cI cZ cS ad) (rest := []) ⟨hx, hb, hml, hown, hts⟩ hK hZ hA hP hD hS hf (fun x ho => kX12_goesOn l D cI cZ cS zz ad σ a1 x ho) (cwV 1 hts gX12_minutes_X12_goesOn rfl rfl rfl ndX12_goesOn ⟨Nat.le_of_ble_eq_true rfl, Nat.le_of_ble_eq_true rfl⟩) [0, 1, 2, 3, 4, 5, 6, 7, 8, 9, 10, 11] rfl rfl [some 0, some 1, some 2, some 3, some 4, some 5, some 6, some 7, some 8, some 9, some 10, some 11] (by decide +kernel) (Nat.le_of_ble_eq_true rfl) (fun _ => rfl) (fun _ => rfl) (fun _ => rfl) rfl rfl rfl rfl (hl.1) rfl (Nat.le_of_ble_eq_true rfl) dX12_minutes_19 ⟨Nat.zero_le _, Nat.zero_le _⟩ (fun σ3 H locs hf hP hD hS => ?_)
    refine lv_aload_n hx hb dX12_minutes_22 rfl (lv_at hl 0 rfl) ?_
    refine va_get (D := D) (ci := 12) (C := RX12) (T := TX12) (N := 19) hx hb hts fwX12_minutes_X12 hown hK hP 0 rfl rfl 0 (by decide) (hts _ (List.mem_of_getElem? (i := 1) rfl)) (fun _ h9 => h9) rfl dX12_minutes_23 ?_
    refine lv_iconst (v := 2) hx hb dX12_minutes_26 (by decide) ?_
    refine w_iald (wf := (wX12 cI cZ cS ad)) hx hb hK hP 1 0 rfl rfl hf dX12_minutes_27 (fun v4 hf => ?_)
    obtain ⟨hi1, hi2⟩ := Prod.mk.inj (Option.some.inj hf)
    subst hi1
    subst hi2
    exact hret _ _ _ _ dX12_minutes_28 rfl hP hS
  · have hf := (if_pos h2).symm.trans hf
    refine lv_aload_n hx hb dX12_minutes_11 rfl (lv_at hl 0 rfl) ?_
    refine lv_iconst (v := 0) hx hb dX12_minutes_12 (by decide) ?_
    refine q_cVi (wf := (wX12 cI cZ cS ad)) (wc := wX12 cI cZ cS ad) (rest := []) ⟨hx, hb, hml, hown, hts⟩ hK hZ hA hP hD hS hf (fun x τ ho => kX12_finding l D cI cZ cS zz ad σ (0 : Int32) x τ ho) (cwV 1 hts gX12_minutes_X12_finding rfl rfl rfl ndX12_finding ⟨Nat.le_of_ble_eq_true rfl, Nat.le_of_ble_eq_true rfl⟩) [0, 1, 2, 3, 4, 5, 6, 7, 8, 9, 10, 11] rfl rfl [some 0, some 1, some 2, some 3, some 4, some 5, some 6, some 7, some 8, some 9, some 10, some 11] (by decide +kernel) (Nat.le_of_ble_eq_true rfl) (fun _ => rfl) (fun _ => rfl) (fun _ => rfl) rfl rfl rfl rfl (hl.1) rfl (Nat.le_of_ble_eq_true rfl) dX12_minutes_13 ⟨Nat.zero_le _, Nat.zero_le _⟩ (fun r6 σ5 H locs hf hP hD hS => ?_)
    obtain ⟨hi1, hi2⟩ := Prod.mk.inj (Option.some.inj hf)
    subst hi1
    subst hi2
    exact hret _ _ _ _ dX12_minutes_16 rfl hP hS
def pX12_now (σ : SS) (a1 : Int32) : Option (Int32 × SS) := (if a1 = (11 : Int32) then q_cr (pX12_isDead σ) (fun (r2 : Int32) => q_lt (fun (y3 : Int32) => some (y3, σ)) (fun j4 => (if r2 = (0 : Int32) then j4 (0 : Int32) else j4 (1 : Int32)))) else (if a1 = (12 : Int32) then q_rd (σ 1) 307 (11 : Int32) (fun (v7 : Int32) => some (v7, σ)) else (if a1 = (13 : Int32) then q_rd (σ 1) 307 (12 : Int32) (fun (v9 : Int32) => some (v9, σ)) else (if a1 = (14 : Int32) then q_rd (σ 1) 307 (13 : Int32) (fun (v11 : Int32) => some (v11, σ)) else (if a1 = (15 : Int32) then q_rd (σ 1) 307 (14 : Int32) (fun (v13 : Int32) => some (v13, σ)) else (if a1 = (16 : Int32) then q_rd (σ 1) 307 (15 : Int32) (fun (v15 : Int32) => some (v15, σ)) else q_cr (pX12_in a1 (0 : Int32) (10 : Int32)) (fun (r16 : Int32) => q_lt (fun (σ18 : SS) (y17 : Int32) => some (y17, σ18)) (fun j19 => (if r16 = (0 : Int32) then q_ci (pX12_finding σ (0 : Int32)) (fun (τ : SS) => τ) (fun (r22 : Int32) (σ21 : SS) => j19 σ21 r22) else q_rd (σ 1) 307 a1 (fun (v23 : Int32) => j19 σ v23))))))))))
theorem fwX12_now_X12 : ∀ w ∈ wsX120, w ∈ wsX12_now := fun _ h => List.mem_cons_of_mem _ (List.mem_append_right _ h)
abbrev rmX12_now : Room := { frames := 1, cells := 0, slots := 0, locals := 22 }
set_option maxHeartbeats 4000000 in
set_option maxRecDepth 100000 in
theorem kX12_now (l : Launch) (D : va_G) (cI cZ cS : ClassId) (zz : ZT) (ad : Nat → Nat) (σ : SS) (a1 : Int32) (rr : Int32) (σr : SS) (hf : pX12_now σ a1 = some (rr, σr)) : CI l yX12_now wsX12_now rmX12_now D (K3 cI cZ cS) zz [.ref (ad 0), .int a1] (wX12 cI cZ cS ad σ) (wX12 cI cZ cS ad σr) rr := by
  refine q_ofI (cc := cX12_now) (maxL := 2) (ty := .int) (by decide) rfl (Nat.le_of_ble_eq_true rfl) ?_
  intro p e s m below meth c Q A ls hx hb hml hown hts hK hZ hA hP hD hS hl hret
  have hl : lv_has ls 2 [(0, .ref (ad 0)), (1, .int a1)] := hl
  unfold pX12_now at hf
  refine lv_iload_n hx hb dX12_now_0 rfl (lv_at hl 1 rfl) ?_
  by_cases h1 : a1 = (11 : Int32)
  · have hf := (if_pos h1).symm.trans hf
    refine lv_tableIn (tgt := 40) hx hb dX12_now_1 (by rw [h1]; decide) (by rw [h1]; decide) (by rw [h1]; rfl) (by decide) ?_
    refine lv_aload_n hx hb dX12_now_40 rfl (lv_at hl 0 rfl) ?_
    refine q_cVr (wf := (wX12 cI cZ cS ad)) (wc := wX12 cI cZ cS ad) (rest := []) ⟨hx, hb, hml, hown, hts⟩ hK hZ hA hP hD hS hf (fun x ho => kX12_isDead l D cI cZ cS zz ad σ x ho) (cwV 0 hts gX12_now_X12_isDead rfl rfl rfl ndX12_isDead ⟨Nat.le_of_ble_eq_true rfl, Nat.le_of_ble_eq_true rfl⟩) [0, 1, 2, 3, 4, 5, 6, 7, 8, 9, 10, 11] rfl rfl rfl rfl rfl rfl (hl.1) rfl (Nat.le_of_ble_eq_true rfl) dX12_now_41 ⟨Nat.zero_le _, Nat.zero_le _⟩ (fun r2 H locs hf hP hD hS => ?_)
    refine q_lt_go hf (fun j4 ej4 hf => ?_)
    have Jj4 : ∀ (y3 : Int32) (H : Heap) (locs : List Loc) (ls : Array Slot), va_P D vwCl ((wX12 cI cZ cS ad) σ) H → va_D A ((wX12 cI cZ cS ad) σ) → va_S A s.heap H locs → lv_has ls 2 [] → j4 y3 = some (rr, σr) → W p l e rmX12_now s m ([.ref (ad 0), .int a1] : List Value).toArray below meth c H locs 0 0 Q (F0 m 52 ls [.int y3]) := by
      intro y3 H locs ls hP hD hS hl hf
      have hf := (congrFun ej4 y3).symm.trans hf
      obtain ⟨hi1, hi2⟩ := Prod.mk.inj (Option.some.inj hf)
      subst hi1
      subst hi2
      exact hret _ _ _ _ dX12_now_52 rfl hP hS
    refine lv_if_eq (tgt := 51) hx hb dX12_now_44 (by decide) (fun h5 => ?_) (fun h5 => ?_)
    · have hf := (if_pos h5).symm.trans hf
      refine lv_iconst (v := 0) hx hb dX12_now_51 (by decide) ?_
      exact Jj4 (0 : Int32) _ _ _ hP hD hS (lv_sub hl [] rfl) hf
    · have hf := (if_neg h5).symm.trans hf
      refine lv_iconst (v := 1) hx hb dX12_now_47 (by decide) ?_
      refine lv_goto (tgt := 52) hx hb dX12_now_48 (by decide) ?_
      exact Jj4 (1 : Int32) _ _ _ hP hD hS (lv_sub hl [] rfl) hf
  have hf := (if_neg h1).symm.trans hf
  by_cases h6 : a1 = (12 : Int32)
  · have hf := (if_pos h6).symm.trans hf
    refine lv_tableIn (tgt := 53) hx hb dX12_now_1 (by rw [h6]; decide) (by rw [h6]; decide) (by rw [h6]; rfl) (by decide) ?_
    refine lv_aload_n hx hb dX12_now_53 rfl (lv_at hl 0 rfl) ?_
    refine va_get (D := D) (ci := 12) (C := RX12) (T := TX12) (N := 19) hx hb hts fwX12_now_X12 hown hK hP 0 rfl rfl 0 (by decide) (hts _ (List.mem_of_getElem? (i := 1) rfl)) (fun _ h9 => h9) rfl dX12_now_54 ?_
    refine lv_bipush (v := 11) hx hb dX12_now_57 (by decide) ?_
    refine w_iald (wf := (wX12 cI cZ cS ad)) hx hb hK hP 1 0 rfl rfl hf dX12_now_59 (fun v7 hf => ?_)
    obtain ⟨hi1, hi2⟩ := Prod.mk.inj (Option.some.inj hf)
    subst hi1
    subst hi2
    exact hret _ _ _ _ dX12_now_60 rfl hP hS
  have hf := (if_neg h6).symm.trans hf
  by_cases h8 : a1 = (13 : Int32)
  · have hf := (if_pos h8).symm.trans hf
    refine lv_tableIn (tgt := 61) hx hb dX12_now_1 (by rw [h8]; decide) (by rw [h8]; decide) (by rw [h8]; rfl) (by decide) ?_
    refine lv_aload_n hx hb dX12_now_61 rfl (lv_at hl 0 rfl) ?_
    refine va_get (D := D) (ci := 12) (C := RX12) (T := TX12) (N := 19) hx hb hts fwX12_now_X12 hown hK hP 0 rfl rfl 0 (by decide) (hts _ (List.mem_of_getElem? (i := 1) rfl)) (fun _ h9 => h9) rfl dX12_now_62 ?_
    refine lv_bipush (v := 12) hx hb dX12_now_65 (by decide) ?_
    refine w_iald (wf := (wX12 cI cZ cS ad)) hx hb hK hP 1 0 rfl rfl hf dX12_now_67 (fun v9 hf => ?_)
    obtain ⟨hi1, hi2⟩ := Prod.mk.inj (Option.some.inj hf)
    subst hi1
    subst hi2
    exact hret _ _ _ _ dX12_now_68 rfl hP hS
  have hf := (if_neg h8).symm.trans hf
  by_cases h10 : a1 = (14 : Int32)
  · have hf := (if_pos h10).symm.trans hf
    refine lv_tableIn (tgt := 69) hx hb dX12_now_1 (by rw [h10]; decide) (by rw [h10]; decide) (by rw [h10]; rfl) (by decide) ?_
    refine lv_aload_n hx hb dX12_now_69 rfl (lv_at hl 0 rfl) ?_
    refine va_get (D := D) (ci := 12) (C := RX12) (T := TX12) (N := 19) hx hb hts fwX12_now_X12 hown hK hP 0 rfl rfl 0 (by decide) (hts _ (List.mem_of_getElem? (i := 1) rfl)) (fun _ h9 => h9) rfl dX12_now_70 ?_
    refine lv_bipush (v := 13) hx hb dX12_now_73 (by decide) ?_
    refine w_iald (wf := (wX12 cI cZ cS ad)) hx hb hK hP 1 0 rfl rfl hf dX12_now_75 (fun v11 hf => ?_)
    obtain ⟨hi1, hi2⟩ := Prod.mk.inj (Option.some.inj hf)
    subst hi1
    subst hi2
    exact hret _ _ _ _ dX12_now_76 rfl hP hS
  have hf := (if_neg h10).symm.trans hf
  by_cases h12 : a1 = (15 : Int32)
  · have hf := (if_pos h12).symm.trans hf
    refine lv_tableIn (tgt := 77) hx hb dX12_now_1 (by rw [h12]; decide) (by rw [h12]; decide) (by rw [h12]; rfl) (by decide) ?_
    refine lv_aload_n hx hb dX12_now_77 rfl (lv_at hl 0 rfl) ?_
    refine va_get (D := D) (ci := 12) (C := RX12) (T := TX12) (N := 19) hx hb hts fwX12_now_X12 hown hK hP 0 rfl rfl 0 (by decide) (hts _ (List.mem_of_getElem? (i := 1) rfl)) (fun _ h9 => h9) rfl dX12_now_78 ?_
    refine lv_bipush (v := 14) hx hb dX12_now_81 (by decide) ?_
    refine w_iald (wf := (wX12 cI cZ cS ad)) hx hb hK hP 1 0 rfl rfl hf dX12_now_83 (fun v13 hf => ?_)
    obtain ⟨hi1, hi2⟩ := Prod.mk.inj (Option.some.inj hf)
    subst hi1
    subst hi2
    exact hret _ _ _ _ dX12_now_84 rfl hP hS
  have hf := (if_neg h12).symm.trans hf
  by_cases h14 : a1 = (16 : Int32)
  · have hf := (if_pos h14).symm.trans hf
    refine lv_tableIn (tgt := 85) hx hb dX12_now_1 (by rw [h14]; decide) (by rw [h14]; decide) (by rw [h14]; rfl) (by decide) ?_
    refine lv_aload_n hx hb dX12_now_85 rfl (lv_at hl 0 rfl) ?_
    refine va_get (D := D) (ci := 12) (C := RX12) (T := TX12) (N := 19) hx hb hts fwX12_now_X12 hown hK hP 0 rfl rfl 0 (by decide) (hts _ (List.mem_of_getElem? (i := 1) rfl)) (fun _ h9 => h9) rfl dX12_now_86 ?_
    refine lv_bipush (v := 15) hx hb dX12_now_89 (by decide) ?_
    refine w_iald (wf := (wX12 cI cZ cS ad)) hx hb hK hP 1 0 rfl rfl hf dX12_now_91 (fun v15 hf => ?_)
    obtain ⟨hi1, hi2⟩ := Prod.mk.inj (Option.some.inj hf)
    subst hi1
    subst hi2
    exact hret _ _ _ _ dX12_now_92 rfl hP hS
  have hf := (if_neg h14).symm.trans hf
  refine lv_tableOut (tgt := 93) hx hb dX12_now_1 (by have := q_ne h1 (z := 11) rfl; have := q_ne h6 (z := 12) rfl; have := q_ne h8 (z := 13) rfl; have := q_ne h10 (z := 14) rfl; have := q_ne h12 (z := 15) rfl; have := q_ne h14 (z := 16) rfl; omega) (by decide) ?_
  refine lv_iload_n hx hb dX12_now_93 rfl (lv_at hl 1 rfl) ?_
  refine lv_iconst (v := 0) hx hb dX12_now_94 (by decide) ?_
  refine lv_bipush (v := 10) hx hb dX12_now_95 (by decide) ?_
  refine q_cSr (wf := (wX12 cI cZ cS ad)) (rest := []) ⟨hx, hb, hml, hown, hts⟩ hK hZ hA hP hD hS hf (fun x ho => kX12_in l D cI cZ cS zz a1 (0 : Int32) (10 : Int32) x ho) (va_cwS 3 hts gX12_now_X12_in rfl rfl rfl ndX12_in.2 ⟨Nat.le_of_ble_eq_true rfl, Nat.le_of_ble_eq_true rfl⟩) rfl (hl.1) rfl (Nat.le_of_ble_eq_true rfl) dX12_now_97 ⟨Nat.zero_le _, Nat.zero_le _⟩ (fun r16 H locs hf hP hD hS => ?_)
  refine q_lt_go hf (fun j19 ej19 hf => ?_)
  have Jj19 : ∀ (σ18 : SS) (y17 : Int32) (H : Heap) (locs : List Loc) (ls : Array Slot), va_P D vwCl ((wX12 cI cZ cS ad) σ18) H → va_D A ((wX12 cI cZ cS ad) σ18) → va_S A s.heap H locs → lv_has ls 2 [] → j19 σ18 y17 = some (rr, σr) → W p l e rmX12_now s m ([.ref (ad 0), .int a1] : List Value).toArray below meth c H locs 0 0 Q (F0 m 117 ls [.int y17]) := by
    intro σ18 y17 H locs ls hP hD hS hl hf
    have hf := (congrFun (congrFun ej19 σ18) y17).symm.trans hf
    obtain ⟨hi1, hi2⟩ := Prod.mk.inj (Option.some.inj hf)
    subst hi1
    subst hi2
    exact hret _ _ _ _ dX12_now_117 rfl hP hS
  refine lv_if_eq (tgt := 112) hx hb dX12_now_100 (by decide) (fun h20 => ?_) (fun h20 => ?_)
  · have hf := (if_pos h20).symm.trans hf
    refine lv_aload_n hx hb dX12_now_112 rfl (lv_at hl 0 rfl) ?_
    refine lv_iconst (v := 0) hx hb dX12_now_113 (by decide) ?_
    refine q_cVi (wf := (wX12 cI cZ cS ad)) (wc := wX12 cI cZ cS ad) (rest := []) ⟨hx, hb, hml, hown, hts⟩ hK hZ hA hP hD hS hf (fun x τ ho => kX12_finding l D cI cZ cS zz ad σ (0 : Int32) x τ ho) (cwV 1 hts gX12_now_X12_finding rfl rfl rfl ndX12_finding ⟨Nat.le_of_ble_eq_true rfl, Nat.le_of_ble_eq_true rfl⟩) [0, 1, 2, 3, 4, 5, 6, 7, 8, 9, 10, 11] rfl rfl [some 0, some 1, some 2, some 3, some 4, some 5, some 6, some 7, some 8, some 9, some 10, some 11] (by decide +kernel) (Nat.le_of_ble_eq_true rfl) (fun _ => rfl) (fun _ => rfl) (fun _ => rfl) rfl rfl rfl rfl (hl.1) rfl (Nat.le_of_ble_eq_true rfl) dX12_now_114 ⟨Nat.zero_le _, Nat.zero_le _⟩ (fun r22 σ21 H locs hf hP hD hS => ?_)
    exact Jj19 σ21 r22 _ _ _ hP hD hS (lv_sub hl [] rfl) hf
  · have hf := (if_neg h20).symm.trans hf
    refine lv_aload_n hx hb dX12_now_103 rfl (lv_at hl 0 rfl) ?_
    refine va_get (D := D) (ci := 12) (C := RX12) (T := TX12) (N := 19) hx hb hts fwX12_now_X12 hown hK hP 0 rfl rfl 0 (by decide) (hts _ (List.mem_of_getElem? (i := 1) rfl)) (fun _ h9 => h9) rfl dX12_now_104 ?_
    refine lv_iload_n hx hb dX12_now_107 rfl (lv_at hl 1 rfl) ?_
    refine w_iald (wf := (wX12 cI cZ cS ad)) hx hb hK hP 1 0 rfl rfl hf dX12_now_108 (fun v23 hf => ?_)
    refine lv_goto (tgt := 117) hx hb dX12_now_109 (by decide) ?_
    exact Jj19 σ v23 _ _ _ hP hD hS (lv_sub hl [] rfl) hf
def pX12_renew (σ : SS) : Option (Int32 × SS) := q_rd (σ 1) 307 (9 : Int32) (fun (v1 : Int32) => q_wr σ 1 307 (9 : Int32) (0 : Int32) (fun (σ2 : SS) => q_wr σ2 1 307 (10 : Int32) (0 : Int32) (fun (σ3 : SS) => some (v1, σ3))))
theorem fwX12_renew_X12 : ∀ w ∈ wsX120, w ∈ wsX12_renew := fun _ h => List.mem_cons_of_mem _ (List.mem_append_right _ h)
abbrev rmX12_renew : Room := { frames := 0, cells := 0, slots := 0, locals := 0 }
set_option maxHeartbeats 4000000 in
set_option maxRecDepth 100000 in
theorem kX12_renew (l : Launch) (D : va_G) (cI cZ cS : ClassId) (zz : ZT) (ad : Nat → Nat) (σ : SS) (rr : Int32) (σr : SS) (hf : pX12_renew σ = some (rr, σr)) : CI l yX12_renew wsX12_renew rmX12_renew D (K3 cI cZ cS) zz [.ref (ad 0)] (wX12 cI cZ cS ad σ) (wX12 cI cZ cS ad σr) rr := by
  refine q_ofI (cc := cX12_renew) (maxL := 2) (ty := .int) (by decide) rfl (Nat.le_of_ble_eq_true rfl) ?_
  intro p e s m below meth c Q A ls hx hb hml hown hts hK hZ hA hP hD hS hl hret
  have hl : lv_has ls 2 [(0, .ref (ad 0))] := hl
  unfold pX12_renew at hf
  refine lv_aload_n hx hb dX12_renew_0 rfl (lv_at hl 0 rfl) ?_
  refine va_get (D := D) (ci := 12) (C := RX12) (T := TX12) (N := 19) hx hb hts fwX12_renew_X12 hown hK hP 0 rfl rfl 0 (by decide) (hts _ (List.mem_of_getElem? (i := 1) rfl)) (fun _ h9 => h9) rfl dX12_renew_1 ?_
  refine lv_bipush (v := 9) hx hb dX12_renew_4 (by decide) ?_
  refine w_iald (wf := (wX12 cI cZ cS ad)) hx hb hK hP 1 0 rfl rfl hf dX12_renew_6 (fun v1 hf => ?_)
  refine lv_istore_n (lv' := [(1, .int v1), (0, .ref (ad 0))]) hx hb dX12_renew_7 rfl hl (by decide) rfl (fun ls hl => ?_)
  refine lv_aload_n hx hb dX12_renew_8 rfl (lv_at hl 1 rfl) ?_
  refine va_get (D := D) (ci := 12) (C := RX12) (T := TX12) (N := 19) hx hb hts fwX12_renew_X12 hown hK hP 0 rfl rfl 0 (by decide) (hts _ (List.mem_of_getElem? (i := 1) rfl)) (fun _ h9 => h9) rfl dX12_renew_9 ?_
  refine lv_bipush (v := 9) hx hb dX12_renew_12 (by decide) ?_
  refine lv_iconst (v := 0) hx hb dX12_renew_14 (by decide) ?_
  refine w_iast (wf := (wX12 cI cZ cS ad)) (cid := 1) hx hb hK hP hD hS 1 0 rfl rfl hf (fun _ => rfl) dX12_renew_15 (fun σ2 H locs hf hP hD hS => ?_)
  refine lv_aload_n hx hb dX12_renew_16 rfl (lv_at hl 1 rfl) ?_
  refine va_get (D := D) (ci := 12) (C := RX12) (T := TX12) (N := 19) hx hb hts fwX12_renew_X12 hown hK hP 0 rfl rfl 0 (by decide) (hts _ (List.mem_of_getElem? (i := 1) rfl)) (fun _ h9 => h9) rfl dX12_renew_17 ?_
  refine lv_bipush (v := 10) hx hb dX12_renew_20 (by decide) ?_
  refine lv_iconst (v := 0) hx hb dX12_renew_22 (by decide) ?_
  refine w_iast (wf := (wX12 cI cZ cS ad)) (cid := 1) hx hb hK hP hD hS 1 0 rfl rfl hf (fun _ => rfl) dX12_renew_23 (fun σ3 H locs hf hP hD hS => ?_)
  refine lv_iload_n hx hb dX12_renew_24 rfl (lv_at hl 0 rfl) ?_
  obtain ⟨hi1, hi2⟩ := Prod.mk.inj (Option.some.inj hf)
  subst hi1
  subst hi2
  exact hret _ _ _ _ dX12_renew_25 rfl hP hS
def pX12_logged (σ : SS) : Option Int32 := q_rd (σ 1) 307 (9 : Int32) (fun (v1 : Int32) => q_lt (fun (y2 : Int32) => some y2) (fun j3 => (if (40 : Int32) ≤ v1 then j3 (40 : Int32) else q_rd (σ 1) 307 (9 : Int32) (fun (v5 : Int32) => j3 v5))))
theorem fwX12_logged_X12 : ∀ w ∈ wsX120, w ∈ wsX12_logged := fun _ h => List.mem_cons_of_mem _ (List.mem_append_right _ h)
abbrev rmX12_logged : Room := { frames := 0, cells := 0, slots := 0, locals := 0 }
set_option maxHeartbeats 4000000 in
set_option maxRecDepth 100000 in
theorem kX12_logged (l : Launch) (D : va_G) (cI cZ cS : ClassId) (zz : ZT) (ad : Nat → Nat) (σ : SS) (rr : Int32) (hf : pX12_logged σ = some rr) : CI l yX12_logged wsX12_logged rmX12_logged D (K3 cI cZ cS) zz [.ref (ad 0)] (wX12 cI cZ cS ad σ) (wX12 cI cZ cS ad σ) rr := by
  refine q_ofI (cc := cX12_logged) (maxL := 1) (ty := .int) (by decide) rfl (Nat.le_of_ble_eq_true rfl) ?_
  intro p e s m below meth c Q A ls hx hb hml hown hts hK hZ hA hP hD hS hl hret
  have hl : lv_has ls 1 [(0, .ref (ad 0))] := hl
  unfold pX12_logged at hf
  refine lv_aload_n hx hb dX12_logged_0 rfl (lv_at hl 0 rfl) ?_
  refine va_get (D := D) (ci := 12) (C := RX12) (T := TX12) (N := 19) hx hb hts fwX12_logged_X12 hown hK hP 0 rfl rfl 0 (by decide) (hts _ (List.mem_of_getElem? (i := 1) rfl)) (fun _ h9 => h9) rfl dX12_logged_1 ?_
  refine lv_bipush (v := 9) hx hb dX12_logged_4 (by decide) ?_
  refine w_iald (wf := (wX12 cI cZ cS ad)) hx hb hK hP 1 0 rfl rfl hf dX12_logged_6 (fun v1 hf => ?_)
  refine lv_bipush (v := 40) hx hb dX12_logged_7 (by decide) ?_
  refine q_lt_go hf (fun j3 ej3 hf => ?_)
  have Jj3 : ∀ (y2 : Int32) (H : Heap) (locs : List Loc) (ls : Array Slot), va_P D vwCl ((wX12 cI cZ cS ad) σ) H → va_D A ((wX12 cI cZ cS ad) σ) → va_S A s.heap H locs → lv_has ls 1 [] → j3 y2 = some rr → W p l e rmX12_logged s m ([.ref (ad 0)] : List Value).toArray below meth c H locs 0 0 Q (F0 m 24 ls [.int y2]) := by
    intro y2 H locs ls hP hD hS hl hf
    have hf := (congrFun ej3 y2).symm.trans hf
    have hi1 := Option.some.inj hf
    subst hi1
    exact hret _ _ _ _ dX12_logged_24 rfl hP hS
  refine lv_icmp_ge (tgt := 22) hx hb dX12_logged_9 (by decide) (fun h4 => ?_) (fun h4 => ?_)
  · have hf := (if_pos h4).symm.trans hf
    refine lv_bipush (v := 40) hx hb dX12_logged_22 (by decide) ?_
    exact Jj3 (40 : Int32) _ _ _ hP hD hS (lv_sub hl [] rfl) hf
  · have hf := (if_neg h4).symm.trans hf
    refine lv_aload_n hx hb dX12_logged_12 rfl (lv_at hl 0 rfl) ?_
    refine va_get (D := D) (ci := 12) (C := RX12) (T := TX12) (N := 19) hx hb hts fwX12_logged_X12 hown hK hP 0 rfl rfl 0 (by decide) (hts _ (List.mem_of_getElem? (i := 1) rfl)) (fun _ h9 => h9) rfl dX12_logged_13 ?_
    refine lv_bipush (v := 9) hx hb dX12_logged_16 (by decide) ?_
    refine w_iald (wf := (wX12 cI cZ cS ad)) hx hb hK hP 1 0 rfl rfl hf dX12_logged_18 (fun v5 hf => ?_)
    refine lv_goto (tgt := 24) hx hb dX12_logged_19 (by decide) ?_
    exact Jj3 v5 _ _ _ hP hD hS (lv_sub hl [] rfl) hf
def pX12_start (σ : SS) (a1 : Int32) : Option (Int32 × SS) := q_cr (pX12_logged σ) (fun (r1 : Int32) => q_cr (pX12_in a1 (0 : Int32) (r1 - (1 : Int32))) (fun (r2 : Int32) => q_lt (fun (σ4 : SS) (y3 : Int32) => some (y3, σ4)) (fun j5 => (if r2 = (0 : Int32) then q_ci (pX12_finding σ (0 : Int32)) (fun (τ : SS) => τ) (fun (r8 : Int32) (σ7 : SS) => j5 σ7 r8) else q_rd (σ 1) 307 ((25 : Int32) + a1) (fun (v9 : Int32) => j5 σ v9)))))
theorem fwX12_start_X12 : ∀ w ∈ wsX120, w ∈ wsX12_start := fun _ h => List.mem_cons_of_mem _ (List.mem_append_right _ h)
abbrev rmX12_start : Room := { frames := 1, cells := 0, slots := 0, locals := 22 }
set_option maxHeartbeats 4000000 in
set_option maxRecDepth 100000 in
theorem kX12_start (l : Launch) (D : va_G) (cI cZ cS : ClassId) (zz : ZT) (ad : Nat → Nat) (σ : SS) (a1 : Int32) (rr : Int32) (σr : SS) (hf : pX12_start σ a1 = some (rr, σr)) : CI l yX12_start wsX12_start rmX12_start D (K3 cI cZ cS) zz [.ref (ad 0), .int a1] (wX12 cI cZ cS ad σ) (wX12 cI cZ cS ad σr) rr := by
  refine q_ofI (cc := cX12_start) (maxL := 2) (ty := .int) (by decide) rfl (Nat.le_of_ble_eq_true rfl) ?_
  intro p e s m below meth c Q A ls hx hb hml hown hts hK hZ hA hP hD hS hl hret
  have hl : lv_has ls 2 [(0, .ref (ad 0)), (1, .int a1)] := hl
  unfold pX12_start at hf
  refine lv_iload_n hx hb dX12_start_0 rfl (lv_at hl 1 rfl) ?_
  refine lv_iconst (v := 0) hx hb dX12_start_1 (by decide) ?_
  refine lv_aload_n hx hb dX12_start_2 rfl (lv_at hl 0 rfl) ?_
  refine q_cVr (wf := (wX12 cI cZ cS ad)) (wc := wX12 cI cZ cS ad) (rest := [.int (0 : Int32), .int a1]) ⟨hx, hb, hml, hown, hts⟩ hK hZ hA hP hD hS hf (fun x ho => kX12_logged l D cI cZ cS zz ad σ x ho) (cwV 0 hts gX12_start_X12_logged rfl rfl rfl ndX12_logged ⟨Nat.le_of_ble_eq_true rfl, Nat.le_of_ble_eq_true rfl⟩) [0, 1, 2, 3, 4, 5, 6, 7, 8, 9, 10, 11] rfl rfl rfl rfl rfl rfl (hl.1) rfl (Nat.le_of_ble_eq_true rfl) dX12_start_3 ⟨Nat.zero_le _, Nat.zero_le _⟩ (fun r1 H locs hf hP hD hS => ?_)
  refine lv_iconst (v := 1) hx hb dX12_start_6 (by decide) ?_
  refine lv_isub hx hb dX12_start_7 ?_
  refine q_cSr (wf := (wX12 cI cZ cS ad)) (rest := []) ⟨hx, hb, hml, hown, hts⟩ hK hZ hA hP hD hS hf (fun x ho => kX12_in l D cI cZ cS zz a1 (0 : Int32) (r1 - (1 : Int32)) x ho) (va_cwS 3 hts gX12_start_X12_in rfl rfl rfl ndX12_in.2 ⟨Nat.le_of_ble_eq_true rfl, Nat.le_of_ble_eq_true rfl⟩) rfl (hl.1) rfl (Nat.le_of_ble_eq_true rfl) dX12_start_8 ⟨Nat.zero_le _, Nat.zero_le _⟩ (fun r2 H locs hf hP hD hS => ?_)
  refine q_lt_go hf (fun j5 ej5 hf => ?_)
  have Jj5 : ∀ (σ4 : SS) (y3 : Int32) (H : Heap) (locs : List Loc) (ls : Array Slot), va_P D vwCl ((wX12 cI cZ cS ad) σ4) H → va_D A ((wX12 cI cZ cS ad) σ4) → va_S A s.heap H locs → lv_has ls 2 [] → j5 σ4 y3 = some (rr, σr) → W p l e rmX12_start s m ([.ref (ad 0), .int a1] : List Value).toArray below meth c H locs 0 0 Q (F0 m 31 ls [.int y3]) := by
    intro σ4 y3 H locs ls hP hD hS hl hf
    have hf := (congrFun (congrFun ej5 σ4) y3).symm.trans hf
    obtain ⟨hi1, hi2⟩ := Prod.mk.inj (Option.some.inj hf)
    subst hi1
    subst hi2
    exact hret _ _ _ _ dX12_start_31 rfl hP hS
  refine lv_if_eq (tgt := 26) hx hb dX12_start_11 (by decide) (fun h6 => ?_) (fun h6 => ?_)
  · have hf := (if_pos h6).symm.trans hf
    refine lv_aload_n hx hb dX12_start_26 rfl (lv_at hl 0 rfl) ?_
    refine lv_iconst (v := 0) hx hb dX12_start_27 (by decide) ?_
    refine q_cVi (wf := (wX12 cI cZ cS ad)) (wc := wX12 cI cZ cS ad) (rest := []) ⟨hx, hb, hml, hown, hts⟩ hK hZ hA hP hD hS hf (fun x τ ho => kX12_finding l D cI cZ cS zz ad σ (0 : Int32) x τ ho) (cwV 1 hts gX12_start_X12_finding rfl rfl rfl ndX12_finding ⟨Nat.le_of_ble_eq_true rfl, Nat.le_of_ble_eq_true rfl⟩) [0, 1, 2, 3, 4, 5, 6, 7, 8, 9, 10, 11] rfl rfl [some 0, some 1, some 2, some 3, some 4, some 5, some 6, some 7, some 8, some 9, some 10, some 11] (by decide +kernel) (Nat.le_of_ble_eq_true rfl) (fun _ => rfl) (fun _ => rfl) (fun _ => rfl) rfl rfl rfl rfl (hl.1) rfl (Nat.le_of_ble_eq_true rfl) dX12_start_28 ⟨Nat.zero_le _, Nat.zero_le _⟩ (fun r8 σ7 H locs hf hP hD hS => ?_)
    exact Jj5 σ7 r8 _ _ _ hP hD hS (lv_sub hl [] rfl) hf
  · have hf := (if_neg h6).symm.trans hf
    refine lv_aload_n hx hb dX12_start_14 rfl (lv_at hl 0 rfl) ?_
    refine va_get (D := D) (ci := 12) (C := RX12) (T := TX12) (N := 19) hx hb hts fwX12_start_X12 hown hK hP 0 rfl rfl 0 (by decide) (hts _ (List.mem_of_getElem? (i := 1) rfl)) (fun _ h9 => h9) rfl dX12_start_15 ?_
    refine lv_bipush (v := 25) hx hb dX12_start_18 (by decide) ?_
    refine lv_iload_n hx hb dX12_start_20 rfl (lv_at hl 1 rfl) ?_
    refine lv_iadd hx hb dX12_start_21 ?_
    refine w_iald (wf := (wX12 cI cZ cS ad)) hx hb hK hP 1 0 rfl rfl hf dX12_start_22 (fun v9 hf => ?_)
    refine lv_goto (tgt := 31) hx hb dX12_start_23 (by decide) ?_
    exact Jj5 σ v9 _ _ _ hP hD hS (lv_sub hl [] rfl) hf
def pX12_quickest (σ : SS) : Option (Int32 × SS) := q_cr (pX12_logged σ) (fun (r1 : Int32) => (if (2 : Int32) ≤ r1 then q_rd (σ 1) 307 (26 : Int32) (fun (v3 : Int32) => q_rd (σ 1) 307 (25 : Int32) (fun (v4 : Int32) => q_lt (v3 - v4) (fun x1_5 => q_lp (fun _ _ => none) (fun (c8 : Int32 → Int32 → Option (Int32 × SS)) (x1_6 : Int32) (x2_7 : Int32) => q_cr (pX12_logged σ) (fun (r11 : Int32) => (if r11 ≤ x2_7 then some (x1_6, σ) else q_rd (σ 1) 307 ((25 : Int32) + x2_7) (fun (v13 : Int32) => q_rd (σ 1) 307 (((25 : Int32) + x2_7) - (1 : Int32)) (fun (v14 : Int32) => q_lt (v13 - v14) (fun x3_15 => q_lt (fun (y16 : Int32) => c8 y16 (x2_7 + (1 : Int32))) (fun j17 => (if x1_6 ≤ x3_15 then j17 x1_6 else j17 x3_15)))))))) q_fu x1_5 (2 : Int32)))) else q_ci (pX12_finding σ (3 : Int32)) (fun (τ : SS) => τ) (fun (r20 : Int32) (σ19 : SS) => some (r20, σ19))))
theorem fwX12_quickest_X12 : ∀ w ∈ wsX120, w ∈ wsX12_quickest := fun _ h => List.mem_cons_of_mem _ (List.mem_append_right _ h)
abbrev rmX12_quickest : Room := { frames := 1, cells := 0, slots := 0, locals := 21 }
set_option maxHeartbeats 4000000 in
set_option maxRecDepth 100000 in
theorem kX12_quickest (l : Launch) (D : va_G) (cI cZ cS : ClassId) (zz : ZT) (ad : Nat → Nat) (σ : SS) (rr : Int32) (σr : SS) (hf : pX12_quickest σ = some (rr, σr)) : CI l yX12_quickest wsX12_quickest rmX12_quickest D (K3 cI cZ cS) zz [.ref (ad 0)] (wX12 cI cZ cS ad σ) (wX12 cI cZ cS ad σr) rr := by
  refine q_ofI (cc := cX12_quickest) (maxL := 4) (ty := .int) (by decide) rfl (Nat.le_of_ble_eq_true rfl) ?_
  intro p e s m below meth c Q A ls hx hb hml hown hts hK hZ hA hP hD hS hl hret
  have hl : lv_has ls 4 [(0, .ref (ad 0))] := hl
  unfold pX12_quickest at hf
  refine lv_aload_n hx hb dX12_quickest_0 rfl (lv_at hl 0 rfl) ?_
  refine q_cVr (wf := (wX12 cI cZ cS ad)) (wc := wX12 cI cZ cS ad) (rest := []) ⟨hx, hb, hml, hown, hts⟩ hK hZ hA hP hD hS hf (fun x ho => kX12_logged l D cI cZ cS zz ad σ x ho) (cwV 0 hts gX12_quickest_X12_logged rfl rfl rfl ndX12_logged ⟨Nat.le_of_ble_eq_true rfl, Nat.le_of_ble_eq_true rfl⟩) [0, 1, 2, 3, 4, 5, 6, 7, 8, 9, 10, 11] rfl rfl rfl rfl rfl rfl (hl.1) rfl (Nat.le_of_ble_eq_true rfl) dX12_quickest_1 ⟨Nat.zero_le _, Nat.zero_le _⟩ (fun r1 H locs hf hP hD hS => ?_)
  refine lv_iconst (v := 2) hx hb dX12_quickest_4 (by decide) ?_
  refine lv_icmp_ge (tgt := 14) hx hb dX12_quickest_5 (by decide) (fun h2 => ?_) (fun h2 => ?_)
  · have hf := (if_pos h2).symm.trans hf
    refine lv_aload_n hx hb dX12_quickest_14 rfl (lv_at hl 0 rfl) ?_
    refine va_get (D := D) (ci := 12) (C := RX12) (T := TX12) (N := 19) hx hb hts fwX12_quickest_X12 hown hK hP 0 rfl rfl 0 (by decide) (hts _ (List.mem_of_getElem? (i := 1) rfl)) (fun _ h9 => h9) rfl dX12_quickest_15 ?_
    refine lv_bipush (v := 26) hx hb dX12_quickest_18 (by decide) ?_
    refine w_iald (wf := (wX12 cI cZ cS ad)) hx hb hK hP 1 0 rfl rfl hf dX12_quickest_20 (fun v3 hf => ?_)
    refine lv_aload_n hx hb dX12_quickest_21 rfl (lv_at hl 0 rfl) ?_
    refine va_get (D := D) (ci := 12) (C := RX12) (T := TX12) (N := 19) hx hb hts fwX12_quickest_X12 hown hK hP 0 rfl rfl 0 (by decide) (hts _ (List.mem_of_getElem? (i := 1) rfl)) (fun _ h9 => h9) rfl dX12_quickest_22 ?_
    refine lv_bipush (v := 25) hx hb dX12_quickest_25 (by decide) ?_
    refine w_iald (wf := (wX12 cI cZ cS ad)) hx hb hK hP 1 0 rfl rfl hf dX12_quickest_27 (fun v4 hf => ?_)
    refine lv_isub hx hb dX12_quickest_28 ?_
    refine lv_topi (fun x1_5 ex1_5 => ?_)
    have hf := q_lt_at ex1_5 hf
    refine lv_istore_n (lv' := [(1, .int x1_5), (0, .ref (ad 0))]) hx hb dX12_quickest_29 rfl hl (by decide) rfl (fun ls hl => ?_)
    refine lv_iconst (v := 2) hx hb dX12_quickest_30 (by decide) ?_
    refine lv_istore_n (lv' := [(2, .int (2 : Int32)), (1, .int x1_5), (0, .ref (ad 0))]) hx hb dX12_quickest_31 rfl hl (by decide) rfl (fun ls hl => ?_)
    refine q_lp_go (f := fun (zf : Int32 → Int32 → Option (Int32 × SS)) => zf x1_5 (2 : Int32)) hf (fun z9 ez9 hf => ?_)
    have Lz9 : ∀ (n10 : Nat) (x1_6 : Int32) (x2_7 : Int32) (H : Heap) (locs : List Loc) (ls : Array Slot), va_P D vwCl ((wX12 cI cZ cS ad) σ) H → va_D A ((wX12 cI cZ cS ad) σ) → va_S A s.heap H locs → lv_has ls 4 [(0, .ref (ad 0)), (1, .int x1_6), (2, .int x2_7)] → q_lp (fun _ _ => none) z9 n10 x1_6 x2_7 = some (rr, σr) → W p l e rmX12_quickest s m ([.ref (ad 0)] : List Value).toArray below meth c H locs 0 0 Q (F0 m 32 ls []) := by
      intro n10
      induction n10 with
      | zero => exact fun _ _ _ _ _ _ _ _ _ hf => q_no hf
      | succ n10 ihz9 =>
        intro x1_6 x2_7 H locs ls hP hD hS hl hf
        have hf := (congrFun (congrFun (congrFun ez9 (q_lp (fun _ _ => none) z9 n10)) x1_6) x2_7).symm.trans hf
        refine lv_iload_n hx hb dX12_quickest_32 rfl (lv_at hl 2 rfl) ?_
        refine lv_aload_n hx hb dX12_quickest_33 rfl (lv_at hl 0 rfl) ?_
        refine q_cVr (wf := (wX12 cI cZ cS ad)) (wc := wX12 cI cZ cS ad) (rest := [.int x2_7]) ⟨hx, hb, hml, hown, hts⟩ hK hZ hA hP hD hS hf (fun x ho => kX12_logged l D cI cZ cS zz ad σ x ho) (cwV 0 hts gX12_quickest_X12_logged rfl rfl rfl ndX12_logged ⟨Nat.le_of_ble_eq_true rfl, Nat.le_of_ble_eq_true rfl⟩) [0, 1, 2, 3, 4, 5, 6, 7, 8, 9, 10, 11] rfl rfl rfl rfl rfl rfl (hl.1) rfl (Nat.le_of_ble_eq_true rfl) dX12_quickest_34 ⟨Nat.zero_le _, Nat.zero_le _⟩ (fun r11 H locs hf hP hD hS => ?_)
        refine lv_icmp_ge (tgt := 79) hx hb dX12_quickest_37 (by decide) (fun h12 => ?_) (fun h12 => ?_)
        · have hf := (if_pos h12).symm.trans hf
          refine lv_iload_n hx hb dX12_quickest_79 rfl (lv_at hl 1 rfl) ?_
          obtain ⟨hi1, hi2⟩ := Prod.mk.inj (Option.some.inj hf)
          subst hi1
          subst hi2
          exact hret _ _ _ _ dX12_quickest_80 rfl hP hS
        · have hf := (if_neg h12).symm.trans hf
          refine lv_aload_n hx hb dX12_quickest_40 rfl (lv_at hl 0 rfl) ?_
          refine va_get (D := D) (ci := 12) (C := RX12) (T := TX12) (N := 19) hx hb hts fwX12_quickest_X12 hown hK hP 0 rfl rfl 0 (by decide) (hts _ (List.mem_of_getElem? (i := 1) rfl)) (fun _ h9 => h9) rfl dX12_quickest_41 ?_
          refine lv_bipush (v := 25) hx hb dX12_quickest_44 (by decide) ?_
          refine lv_iload_n hx hb dX12_quickest_46 rfl (lv_at hl 2 rfl) ?_
          refine lv_iadd hx hb dX12_quickest_47 ?_
          refine w_iald (wf := (wX12 cI cZ cS ad)) hx hb hK hP 1 0 rfl rfl hf dX12_quickest_48 (fun v13 hf => ?_)
          refine lv_aload_n hx hb dX12_quickest_49 rfl (lv_at hl 0 rfl) ?_
          refine va_get (D := D) (ci := 12) (C := RX12) (T := TX12) (N := 19) hx hb hts fwX12_quickest_X12 hown hK hP 0 rfl rfl 0 (by decide) (hts _ (List.mem_of_getElem? (i := 1) rfl)) (fun _ h9 => h9) rfl dX12_quickest_50 ?_
          refine lv_bipush (v := 25) hx hb dX12_quickest_53 (by decide) ?_
          refine lv_iload_n hx hb dX12_quickest_55 rfl (lv_at hl 2 rfl) ?_
          refine lv_iadd hx hb dX12_quickest_56 ?_
          refine lv_iconst (v := 1) hx hb dX12_quickest_57 (by decide) ?_
          refine lv_isub hx hb dX12_quickest_58 ?_
          refine w_iald (wf := (wX12 cI cZ cS ad)) hx hb hK hP 1 0 rfl rfl hf dX12_quickest_59 (fun v14 hf => ?_)
          refine lv_isub hx hb dX12_quickest_60 ?_
          refine lv_topi (fun x3_15 ex3_15 => ?_)
          have hf := q_lt_at ex3_15 hf
          refine lv_istore_n (lv' := [(3, .int x3_15), (0, .ref (ad 0)), (1, .int x1_6), (2, .int x2_7)]) hx hb dX12_quickest_61 rfl hl (by decide) rfl (fun ls hl => ?_)
          refine lv_iload_n hx hb dX12_quickest_62 rfl (lv_at hl 0 rfl) ?_
          refine lv_iload_n hx hb dX12_quickest_63 rfl (lv_at hl 2 rfl) ?_
          refine q_lt_go hf (fun j17 ej17 hf => ?_)
          have Jj17 : ∀ (y16 : Int32) (H : Heap) (locs : List Loc) (ls : Array Slot), va_P D vwCl ((wX12 cI cZ cS ad) σ) H → va_D A ((wX12 cI cZ cS ad) σ) → va_S A s.heap H locs → lv_has ls 4 [(0, .ref (ad 0)), (2, .int x2_7)] → j17 y16 = some (rr, σr) → W p l e rmX12_quickest s m ([.ref (ad 0)] : List Value).toArray below meth c H locs 0 0 Q (F0 m 72 ls [.int y16]) := by
            intro y16 H locs ls hP hD hS hl hf
            have hf := (congrFun ej17 y16).symm.trans hf
            refine lv_istore_n (lv' := [(1, .int y16), (0, .ref (ad 0)), (2, .int x2_7)]) hx hb dX12_quickest_72 rfl hl (by decide) rfl (fun ls hl => ?_)
            refine lv_iinc (v := (x2_7 + (1 : Int32))) (lv' := [(2, .int (x2_7 + (1 : Int32))), (1, .int y16), (0, .ref (ad 0))]) hx hb dX12_quickest_73 hl (k := 2) rfl rfl (by decide) rfl (fun ls hl => ?_)
            refine lv_goto (tgt := 32) hx hb dX12_quickest_76 (by decide) ?_
            exact ihz9 y16 (x2_7 + (1 : Int32)) _ _ _ hP hD hS (lv_sub hl [2, 1, 0] rfl) hf
          refine lv_icmp_ge (tgt := 71) hx hb dX12_quickest_64 (by decide) (fun h18 => ?_) (fun h18 => ?_)
          · have hf := (if_pos h18).symm.trans hf
            refine lv_iload_n hx hb dX12_quickest_71 rfl (lv_at hl 2 rfl) ?_
            exact Jj17 x1_6 _ _ _ hP hD hS (lv_sub hl [1, 3] rfl) hf
          · have hf := (if_neg h18).symm.trans hf
            refine lv_iload_n hx hb dX12_quickest_67 rfl (lv_at hl 0 rfl) ?_
            refine lv_goto (tgt := 72) hx hb dX12_quickest_68 (by decide) ?_
            exact Jj17 x3_15 _ _ _ hP hD hS (lv_sub hl [1, 3] rfl) hf
    exact Lz9 q_fu x1_5 (2 : Int32) _ _ _ hP hD hS (lv_sub hl [2, 1, 0] rfl) hf
  · have hf := (if_neg h2).symm.trans hf
    refine lv_aload_n hx hb dX12_quickest_8 rfl (lv_at hl 0 rfl) ?_
    refine lv_iconst (v := 3) hx hb dX12_quickest_9 (by decide) ?_
    refine q_cVi (wf := (wX12 cI cZ cS ad)) (wc := wX12 cI cZ cS ad) (rest := []) ⟨hx, hb, hml, hown, hts⟩ hK hZ hA hP hD hS hf (fun x τ ho => kX12_finding l D cI cZ cS zz ad σ (3 : Int32) x τ ho) (cwV 1 hts gX12_quickest_X12_finding rfl rfl rfl ndX12_finding ⟨Nat.le_of_ble_eq_true rfl, Nat.le_of_ble_eq_true rfl⟩) [0, 1, 2, 3, 4, 5, 6, 7, 8, 9, 10, 11] rfl rfl [some 0, some 1, some 2, some 3, some 4, some 5, some 6, some 7, some 8, some 9, some 10, some 11] (by decide +kernel) (Nat.le_of_ble_eq_true rfl) (fun _ => rfl) (fun _ => rfl) (fun _ => rfl) rfl rfl rfl rfl (hl.1) rfl (Nat.le_of_ble_eq_true rfl) dX12_quickest_10 ⟨Nat.zero_le _, Nat.zero_le _⟩ (fun r20 σ19 H locs hf hP hD hS => ?_)
    obtain ⟨hi1, hi2⟩ := Prod.mk.inj (Option.some.inj hf)
    subst hi1
    subst hi2
    exact hret _ _ _ _ dX12_quickest_13 rfl hP hS
def pX12_came (σ : SS) : Option (Int32 × SS) := q_rd (σ 1) 307 (16 : Int32) (fun (v1 : Int32) => (if v1 = (0 : Int32) then q_ci (pX12_finding σ (3 : Int32)) (fun (τ : SS) => τ) (fun (r16 : Int32) (σ15 : SS) => some (r16, σ15)) else q_lp (fun _ _ => none) (fun (c5 : Int32 → Int32 → Option (Int32 × SS)) (x1_3 : Int32) (x2_4 : Int32) => q_rd (σ 1) 307 (16 : Int32) (fun (v8 : Int32) => (if v8 ≤ x2_4 then some (x1_3, σ) else q_cr (pX12_its σ x2_4 (3 : Int32)) (fun (r10 : Int32) => q_cr (pX12_its σ x1_3 (3 : Int32)) (fun (r11 : Int32) => q_lt (fun (y12 : Int32) => c5 y12 (x2_4 + (1 : Int32))) (fun j13 => (if r10 ≤ r11 then j13 x1_3 else j13 x2_4))))))) q_fu (0 : Int32) (1 : Int32)))
theorem fwX12_came_X12 : ∀ w ∈ wsX120, w ∈ wsX12_came := fun _ h => List.mem_cons_of_mem _ (List.mem_append_right _ h)
abbrev rmX12_came : Room := { frames := 1, cells := 0, slots := 0, locals := 22 }
set_option maxHeartbeats 4000000 in
set_option maxRecDepth 100000 in
theorem kX12_came (l : Launch) (D : va_G) (cI cZ cS : ClassId) (zz : ZT) (ad : Nat → Nat) (σ : SS) (rr : Int32) (σr : SS) (hf : pX12_came σ = some (rr, σr)) : CI l yX12_came wsX12_came rmX12_came D (K3 cI cZ cS) zz [.ref (ad 0)] (wX12 cI cZ cS ad σ) (wX12 cI cZ cS ad σr) rr := by
  refine q_ofI (cc := cX12_came) (maxL := 3) (ty := .int) (by decide) rfl (Nat.le_of_ble_eq_true rfl) ?_
  intro p e s m below meth c Q A ls hx hb hml hown hts hK hZ hA hP hD hS hl hret
  have hl : lv_has ls 3 [(0, .ref (ad 0))] := hl
  unfold pX12_came at hf
  refine lv_aload_n hx hb dX12_came_0 rfl (lv_at hl 0 rfl) ?_
  refine va_get (D := D) (ci := 12) (C := RX12) (T := TX12) (N := 19) hx hb hts fwX12_came_X12 hown hK hP 0 rfl rfl 0 (by decide) (hts _ (List.mem_of_getElem? (i := 1) rfl)) (fun _ h9 => h9) rfl dX12_came_1 ?_
  refine lv_bipush (v := 16) hx hb dX12_came_4 (by decide) ?_
  refine w_iald (wf := (wX12 cI cZ cS ad)) hx hb hK hP 1 0 rfl rfl hf dX12_came_6 (fun v1 hf => ?_)
  refine lv_if_ne (tgt := 16) hx hb dX12_came_7 (by decide) (fun h2 => ?_) (fun h2 => ?_)
  · have hf := (if_neg h2).symm.trans hf
    refine lv_iconst (v := 0) hx hb dX12_came_16 (by decide) ?_
    refine lv_istore_n (lv' := [(1, .int (0 : Int32)), (0, .ref (ad 0))]) hx hb dX12_came_17 rfl hl (by decide) rfl (fun ls hl => ?_)
    refine lv_iconst (v := 1) hx hb dX12_came_18 (by decide) ?_
    refine lv_istore_n (lv' := [(2, .int (1 : Int32)), (1, .int (0 : Int32)), (0, .ref (ad 0))]) hx hb dX12_came_19 rfl hl (by decide) rfl (fun ls hl => ?_)
    refine q_lp_go (f := fun (zf : Int32 → Int32 → Option (Int32 × SS)) => zf (0 : Int32) (1 : Int32)) hf (fun z6 ez6 hf => ?_)
    have Lz6 : ∀ (n7 : Nat) (x1_3 : Int32) (x2_4 : Int32) (H : Heap) (locs : List Loc) (ls : Array Slot), va_P D vwCl ((wX12 cI cZ cS ad) σ) H → va_D A ((wX12 cI cZ cS ad) σ) → va_S A s.heap H locs → lv_has ls 3 [(0, .ref (ad 0)), (1, .int x1_3), (2, .int x2_4)] → q_lp (fun _ _ => none) z6 n7 x1_3 x2_4 = some (rr, σr) → W p l e rmX12_came s m ([.ref (ad 0)] : List Value).toArray below meth c H locs 0 0 Q (F0 m 20 ls []) := by
      intro n7
      induction n7 with
      | zero => exact fun _ _ _ _ _ _ _ _ _ hf => q_no hf
      | succ n7 ihz6 =>
        intro x1_3 x2_4 H locs ls hP hD hS hl hf
        have hf := (congrFun (congrFun (congrFun ez6 (q_lp (fun _ _ => none) z6 n7)) x1_3) x2_4).symm.trans hf
        refine lv_iload_n hx hb dX12_came_20 rfl (lv_at hl 2 rfl) ?_
        refine lv_aload_n hx hb dX12_came_21 rfl (lv_at hl 0 rfl) ?_
        refine va_get (D := D) (ci := 12) (C := RX12) (T := TX12) (N := 19) hx hb hts fwX12_came_X12 hown hK hP 0 rfl rfl 0 (by decide) (hts _ (List.mem_of_getElem? (i := 1) rfl)) (fun _ h9 => h9) rfl dX12_came_22 ?_
        refine lv_bipush (v := 16) hx hb dX12_came_25 (by decide) ?_
        refine w_iald (wf := (wX12 cI cZ cS ad)) hx hb hK hP 1 0 rfl rfl hf dX12_came_27 (fun v8 hf => ?_)
        refine lv_icmp_ge (tgt := 58) hx hb dX12_came_28 (by decide) (fun h9 => ?_) (fun h9 => ?_)
        · have hf := (if_pos h9).symm.trans hf
          refine lv_iload_n hx hb dX12_came_58 rfl (lv_at hl 1 rfl) ?_
          obtain ⟨hi1, hi2⟩ := Prod.mk.inj (Option.some.inj hf)
          subst hi1
          subst hi2
          exact hret _ _ _ _ dX12_came_59 rfl hP hS
        · have hf := (if_neg h9).symm.trans hf
          refine lv_aload_n hx hb dX12_came_31 rfl (lv_at hl 0 rfl) ?_
          refine lv_iload_n hx hb dX12_came_32 rfl (lv_at hl 2 rfl) ?_
          refine lv_iconst (v := 3) hx hb dX12_came_33 (by decide) ?_
          refine q_cVr (wf := (wX12 cI cZ cS ad)) (wc := wX12 cI cZ cS ad) (rest := []) ⟨hx, hb, hml, hown, hts⟩ hK hZ hA hP hD hS hf (fun x ho => kX12_its l D cI cZ cS zz ad σ x2_4 (3 : Int32) x ho) (cwV 2 hts gX12_came_X12_its rfl rfl rfl ndX12_its ⟨Nat.le_of_ble_eq_true rfl, Nat.le_of_ble_eq_true rfl⟩) [0, 1, 2, 3, 4, 5, 6, 7, 8, 9, 10, 11] rfl rfl rfl rfl rfl rfl (hl.1) rfl (Nat.le_of_ble_eq_true rfl) dX12_came_34 ⟨Nat.zero_le _, Nat.zero_le _⟩ (fun r10 H locs hf hP hD hS => ?_)
          refine lv_aload_n hx hb dX12_came_37 rfl (lv_at hl 0 rfl) ?_
          refine lv_iload_n hx hb dX12_came_38 rfl (lv_at hl 1 rfl) ?_
          refine lv_iconst (v := 3) hx hb dX12_came_39 (by decide) ?_
          refine q_cVr (wf := (wX12 cI cZ cS ad)) (wc := wX12 cI cZ cS ad) (rest := [.int r10]) ⟨hx, hb, hml, hown, hts⟩ hK hZ hA hP hD hS hf (fun x ho => kX12_its l D cI cZ cS zz ad σ x1_3 (3 : Int32) x ho) (cwV 2 hts gX12_came_X12_its rfl rfl rfl ndX12_its ⟨Nat.le_of_ble_eq_true rfl, Nat.le_of_ble_eq_true rfl⟩) [0, 1, 2, 3, 4, 5, 6, 7, 8, 9, 10, 11] rfl rfl rfl rfl rfl rfl (hl.1) rfl (Nat.le_of_ble_eq_true rfl) dX12_came_40 ⟨Nat.zero_le _, Nat.zero_le _⟩ (fun r11 H locs hf hP hD hS => ?_)
          refine q_lt_go hf (fun j13 ej13 hf => ?_)
          have Jj13 : ∀ (y12 : Int32) (H : Heap) (locs : List Loc) (ls : Array Slot), va_P D vwCl ((wX12 cI cZ cS ad) σ) H → va_D A ((wX12 cI cZ cS ad) σ) → va_S A s.heap H locs → lv_has ls 3 [(0, .ref (ad 0)), (2, .int x2_4)] → j13 y12 = some (rr, σr) → W p l e rmX12_came s m ([.ref (ad 0)] : List Value).toArray below meth c H locs 0 0 Q (F0 m 51 ls [.int y12]) := by
            intro y12 H locs ls hP hD hS hl hf
            have hf := (congrFun ej13 y12).symm.trans hf
            refine lv_istore_n (lv' := [(1, .int y12), (0, .ref (ad 0)), (2, .int x2_4)]) hx hb dX12_came_51 rfl hl (by decide) rfl (fun ls hl => ?_)
            refine lv_iinc (v := (x2_4 + (1 : Int32))) (lv' := [(2, .int (x2_4 + (1 : Int32))), (1, .int y12), (0, .ref (ad 0))]) hx hb dX12_came_52 hl (k := 2) rfl rfl (by decide) rfl (fun ls hl => ?_)
            refine lv_goto (tgt := 20) hx hb dX12_came_55 (by decide) ?_
            exact ihz6 y12 (x2_4 + (1 : Int32)) _ _ _ hP hD hS (lv_sub hl [2, 1, 0] rfl) hf
          refine lv_icmp_le (tgt := 50) hx hb dX12_came_43 (by decide) (fun h14 => ?_) (fun h14 => ?_)
          · have hf := (if_pos h14).symm.trans hf
            refine lv_iload_n hx hb dX12_came_50 rfl (lv_at hl 1 rfl) ?_
            exact Jj13 x1_3 _ _ _ hP hD hS (lv_sub hl [0, 2] rfl) hf
          · have hf := (if_neg h14).symm.trans hf
            refine lv_iload_n hx hb dX12_came_46 rfl (lv_at hl 2 rfl) ?_
            refine lv_goto (tgt := 51) hx hb dX12_came_47 (by decide) ?_
            exact Jj13 x2_4 _ _ _ hP hD hS (lv_sub hl [0, 2] rfl) hf
    exact Lz6 q_fu (0 : Int32) (1 : Int32) _ _ _ hP hD hS (lv_sub hl [2, 1, 0] rfl) hf
  · have hf := (if_pos h2).symm.trans hf
    refine lv_aload_n hx hb dX12_came_10 rfl (lv_at hl 0 rfl) ?_
    refine lv_iconst (v := 3) hx hb dX12_came_11 (by decide) ?_
    refine q_cVi (wf := (wX12 cI cZ cS ad)) (wc := wX12 cI cZ cS ad) (rest := []) ⟨hx, hb, hml, hown, hts⟩ hK hZ hA hP hD hS hf (fun x τ ho => kX12_finding l D cI cZ cS zz ad σ (3 : Int32) x τ ho) (cwV 1 hts gX12_came_X12_finding rfl rfl rfl ndX12_finding ⟨Nat.le_of_ble_eq_true rfl, Nat.le_of_ble_eq_true rfl⟩) [0, 1, 2, 3, 4, 5, 6, 7, 8, 9, 10, 11] rfl rfl [some 0, some 1, some 2, some 3, some 4, some 5, some 6, some 7, some 8, some 9, some 10, some 11] (by decide +kernel) (Nat.le_of_ble_eq_true rfl) (fun _ => rfl) (fun _ => rfl) (fun _ => rfl) rfl rfl rfl rfl (hl.1) rfl (Nat.le_of_ble_eq_true rfl) dX12_came_12 ⟨Nat.zero_le _, Nat.zero_le _⟩ (fun r16 σ15 H locs hf hP hD hS => ?_)
    obtain ⟨hi1, hi2⟩ := Prod.mk.inj (Option.some.inj hf)
    subst hi1
    subst hi2
    exact hret _ _ _ _ dX12_came_15 rfl hP hS
def pX12_isThing (σ : SS) (a1 : Int32) : Option Int32 := q_rd (σ 1) 307 (17 : Int32) (fun (v1 : Int32) => q_cr (pX12_in a1 (0 : Int32) (v1 - (1 : Int32))) (fun (r2 : Int32) => q_zz r2 (some r2)))
theorem fwX12_isThing_X12 : ∀ w ∈ wsX120, w ∈ wsX12_isThing := fun _ h => List.mem_cons_of_mem _ (List.mem_append_right _ h)
abbrev rmX12_isThing : Room := { frames := 1, cells := 0, slots := 0, locals := 22 }
set_option maxHeartbeats 4000000 in
set_option maxRecDepth 100000 in
theorem kX12_isThing (l : Launch) (D : va_G) (cI cZ cS : ClassId) (zz : ZT) (ad : Nat → Nat) (σ : SS) (a1 : Int32) (rr : Int32) (hf : pX12_isThing σ a1 = some rr) : CI l yX12_isThing wsX12_isThing rmX12_isThing D (K3 cI cZ cS) zz [.ref (ad 0), .int a1] (wX12 cI cZ cS ad σ) (wX12 cI cZ cS ad σ) rr := by
  refine q_ofI (cc := cX12_isThing) (maxL := 2) (ty := .boolean) (by decide) rfl (Nat.le_of_ble_eq_true rfl) ?_
  intro p e s m below meth c Q A ls hx hb hml hown hts hK hZ hA hP hD hS hl hret
  have hl : lv_has ls 2 [(0, .ref (ad 0)), (1, .int a1)] := hl
  unfold pX12_isThing at hf
  refine lv_iload_n hx hb dX12_isThing_0 rfl (lv_at hl 1 rfl) ?_
  refine lv_iconst (v := 0) hx hb dX12_isThing_1 (by decide) ?_
  refine lv_aload_n hx hb dX12_isThing_2 rfl (lv_at hl 0 rfl) ?_
  refine va_get (D := D) (ci := 12) (C := RX12) (T := TX12) (N := 19) hx hb hts fwX12_isThing_X12 hown hK hP 0 rfl rfl 0 (by decide) (hts _ (List.mem_of_getElem? (i := 1) rfl)) (fun _ h9 => h9) rfl dX12_isThing_3 ?_
  refine lv_bipush (v := 17) hx hb dX12_isThing_6 (by decide) ?_
  refine w_iald (wf := (wX12 cI cZ cS ad)) hx hb hK hP 1 0 rfl rfl hf dX12_isThing_8 (fun v1 hf => ?_)
  refine lv_iconst (v := 1) hx hb dX12_isThing_9 (by decide) ?_
  refine lv_isub hx hb dX12_isThing_10 ?_
  refine q_cSr (wf := (wX12 cI cZ cS ad)) (rest := []) ⟨hx, hb, hml, hown, hts⟩ hK hZ hA hP hD hS hf (fun x ho => kX12_in l D cI cZ cS zz a1 (0 : Int32) (v1 - (1 : Int32)) x ho) (va_cwS 3 hts gX12_isThing_X12_in rfl rfl rfl ndX12_in.2 ⟨Nat.le_of_ble_eq_true rfl, Nat.le_of_ble_eq_true rfl⟩) rfl (hl.1) rfl (Nat.le_of_ble_eq_true rfl) dX12_isThing_11 ⟨Nat.zero_le _, Nat.zero_le _⟩ (fun r2 H locs hf hP hD hS => ?_)
  obtain ⟨hz, hf⟩ := q_zz_o hf
  have hi1 := Option.some.inj hf
  subst hi1
  exact hret _ _ _ _ dX12_isThing_14 (q_zz_n hz).1 hP hS
def pX12_thing (σ : SS) (a1 : Int32) (a2 : Int32) (a3 : Int32) : Option (Int32 × SS) := q_cr (pX12_in a1 (1 : Int32) (99 : Int32)) (fun (r1 : Int32) => q_lt (q_ci (pX12_finding σ (0 : Int32)) (fun (τ : SS) => τ) (fun (r4 : Int32) (σ3 : SS) => some (r4, σ3))) (fun j2 => (if r1 = (0 : Int32) then j2 else q_cr (pX12_in a2 (1 : Int32) (60 : Int32)) (fun (r6 : Int32) => (if r6 = (0 : Int32) then j2 else q_cr (pX12_in a3 (0 : Int32) (999 : Int32)) (fun (r8 : Int32) => (if r8 = (0 : Int32) then j2 else q_rd (σ 1) 307 (17 : Int32) (fun (v10 : Int32) => (if v10 = (10 : Int32) then q_ci (pX12_finding σ (1 : Int32)) (fun (τ : SS) => τ) (fun (r23 : Int32) (σ22 : SS) => some (r23, σ22)) else q_rd (σ 1) 307 (17 : Int32) (fun (v12 : Int32) => q_lt ((97 : Int32) + ((5 : Int32) * v12)) (fun x4_13 => q_wr σ 1 307 (x4_13 + (0 : Int32)) a1 (fun (σ14 : SS) => q_wr σ14 1 307 (x4_13 + (1 : Int32)) a2 (fun (σ15 : SS) => q_wr σ15 1 307 (x4_13 + (2 : Int32)) a3 (fun (σ16 : SS) => q_wr σ16 1 307 (x4_13 + (3 : Int32)) (0 : Int32) (fun (σ17 : SS) => q_wr σ17 1 307 (x4_13 + (4 : Int32)) (0 : Int32) (fun (σ18 : SS) => q_rd (σ18 1) 307 (17 : Int32) (fun (v19 : Int32) => q_wr σ18 1 307 (17 : Int32) (v19 + (1 : Int32)) (fun (σ20 : SS) => q_rd (σ20 1) 307 (17 : Int32) (fun (v21 : Int32) => some ((v21 - (1 : Int32)), σ20))))))))))))))))))))
theorem fwX12_thing_X12 : ∀ w ∈ wsX120, w ∈ wsX12_thing := fun _ h => List.mem_cons_of_mem _ (List.mem_append_right _ h)
abbrev rmX12_thing : Room := { frames := 1, cells := 0, slots := 0, locals := 22 }
set_option maxHeartbeats 4000000 in
set_option maxRecDepth 100000 in
theorem kX12_thing (l : Launch) (D : va_G) (cI cZ cS : ClassId) (zz : ZT) (ad : Nat → Nat) (σ : SS) (a1 : Int32) (a2 : Int32) (a3 : Int32) (rr : Int32) (σr : SS) (hf : pX12_thing σ a1 a2 a3 = some (rr, σr)) : CI l yX12_thing wsX12_thing rmX12_thing D (K3 cI cZ cS) zz [.ref (ad 0), .int a1, .int a2, .int a3] (wX12 cI cZ cS ad σ) (wX12 cI cZ cS ad σr) rr := by
  refine q_ofI (cc := cX12_thing) (maxL := 5) (ty := .int) (by decide) rfl (Nat.le_of_ble_eq_true rfl) ?_
  intro p e s m below meth c Q A ls hx hb hml hown hts hK hZ hA hP hD hS hl hret
  have hl : lv_has ls 5 [(0, .ref (ad 0)), (1, .int a1), (2, .int a2), (3, .int a3)] := hl
  unfold pX12_thing at hf
  refine lv_iload_n hx hb dX12_thing_0 rfl (lv_at hl 1 rfl) ?_
  refine lv_iconst (v := 1) hx hb dX12_thing_1 (by decide) ?_
  refine lv_bipush (v := 99) hx hb dX12_thing_2 (by decide) ?_
  refine q_cSr (wf := (wX12 cI cZ cS ad)) (rest := []) ⟨hx, hb, hml, hown, hts⟩ hK hZ hA hP hD hS hf (fun x ho => kX12_in l D cI cZ cS zz a1 (1 : Int32) (99 : Int32) x ho) (va_cwS 3 hts gX12_thing_X12_in rfl rfl rfl ndX12_in.2 ⟨Nat.le_of_ble_eq_true rfl, Nat.le_of_ble_eq_true rfl⟩) rfl (hl.1) rfl (Nat.le_of_ble_eq_true rfl) dX12_thing_4 ⟨Nat.zero_le _, Nat.zero_le _⟩ (fun r1 H locs hf hP hD hS => ?_)
  refine q_lt_go hf (fun j2 ej2 hf => ?_)
  have Jj2 : ∀ (H : Heap) (locs : List Loc) (ls : Array Slot), va_P D vwCl ((wX12 cI cZ cS ad) σ) H → va_D A ((wX12 cI cZ cS ad) σ) → va_S A s.heap H locs → lv_has ls 5 [(0, .ref (ad 0))] → j2 = some (rr, σr) → W p l e rmX12_thing s m ([.ref (ad 0), .int a1, .int a2, .int a3] : List Value).toArray below meth c H locs 0 0 Q (F0 m 31 ls []) := by
    intro  H locs ls hP hD hS hl hf
    have hf := ej2.symm.trans hf
    refine lv_aload_n hx hb dX12_thing_31 rfl (lv_at hl 0 rfl) ?_
    refine lv_iconst (v := 0) hx hb dX12_thing_32 (by decide) ?_
    refine q_cVi (wf := (wX12 cI cZ cS ad)) (wc := wX12 cI cZ cS ad) (rest := []) ⟨hx, hb, hml, hown, hts⟩ hK hZ hA hP hD hS hf (fun x τ ho => kX12_finding l D cI cZ cS zz ad σ (0 : Int32) x τ ho) (cwV 1 hts gX12_thing_X12_finding rfl rfl rfl ndX12_finding ⟨Nat.le_of_ble_eq_true rfl, Nat.le_of_ble_eq_true rfl⟩) [0, 1, 2, 3, 4, 5, 6, 7, 8, 9, 10, 11] rfl rfl [some 0, some 1, some 2, some 3, some 4, some 5, some 6, some 7, some 8, some 9, some 10, some 11] (by decide +kernel) (Nat.le_of_ble_eq_true rfl) (fun _ => rfl) (fun _ => rfl) (fun _ => rfl) rfl rfl rfl rfl (hl.1) rfl (Nat.le_of_ble_eq_true rfl) dX12_thing_33 ⟨Nat.zero_le _, Nat.zero_le _⟩ (fun r4 σ3 H locs hf hP hD hS => ?_)
    obtain ⟨hi1, hi2⟩ := Prod.mk.inj (Option.some.inj hf)
    subst hi1
    subst hi2
    exact hret _ _ _ _ dX12_thing_36 rfl hP hS
  refine lv_if_eq (tgt := 31) hx hb dX12_thing_7 (by decide) (fun h5 => ?_) (fun h5 => ?_)
  · have hf := (if_pos h5).symm.trans hf
    exact Jj2  _ _ _ hP hD hS (lv_sub hl [0] rfl) hf
  · have hf := (if_neg h5).symm.trans hf
    refine lv_iload_n hx hb dX12_thing_10 rfl (lv_at hl 2 rfl) ?_
    refine lv_iconst (v := 1) hx hb dX12_thing_11 (by decide) ?_
    refine lv_bipush (v := 60) hx hb dX12_thing_12 (by decide) ?_
    refine q_cSr (wf := (wX12 cI cZ cS ad)) (rest := []) ⟨hx, hb, hml, hown, hts⟩ hK hZ hA hP hD hS hf (fun x ho => kX12_in l D cI cZ cS zz a2 (1 : Int32) (60 : Int32) x ho) (va_cwS 3 hts gX12_thing_X12_in rfl rfl rfl ndX12_in.2 ⟨Nat.le_of_ble_eq_true rfl, Nat.le_of_ble_eq_true rfl⟩) rfl (hl.1) rfl (Nat.le_of_ble_eq_true rfl) dX12_thing_14 ⟨Nat.zero_le _, Nat.zero_le _⟩ (fun r6 H locs hf hP hD hS => ?_)
    refine lv_if_eq (tgt := 31) hx hb dX12_thing_17 (by decide) (fun h7 => ?_) (fun h7 => ?_)
    · have hf := (if_pos h7).symm.trans hf
      exact Jj2  _ _ _ hP hD hS (lv_sub hl [0] rfl) hf
    · have hf := (if_neg h7).symm.trans hf
      refine lv_iload_n hx hb dX12_thing_20 rfl (lv_at hl 3 rfl) ?_
      refine lv_iconst (v := 0) hx hb dX12_thing_21 (by decide) ?_
      refine lv_sipush (v := 999) hx hb dX12_thing_22 (by decide) ?_
      refine q_cSr (wf := (wX12 cI cZ cS ad)) (rest := []) ⟨hx, hb, hml, hown, hts⟩ hK hZ hA hP hD hS hf (fun x ho => kX12_in l D cI cZ cS zz a3 (0 : Int32) (999 : Int32) x ho) (va_cwS 3 hts gX12_thing_X12_in rfl rfl rfl ndX12_in.2 ⟨Nat.le_of_ble_eq_true rfl, Nat.le_of_ble_eq_true rfl⟩) rfl (hl.1) rfl (Nat.le_of_ble_eq_true rfl) dX12_thing_25 ⟨Nat.zero_le _, Nat.zero_le _⟩ (fun r8 H locs hf hP hD hS => ?_)
      refine lv_if_ne (tgt := 37) hx hb dX12_thing_28 (by decide) (fun h9 => ?_) (fun h9 => ?_)
      · have hf := (if_neg h9).symm.trans hf
        refine lv_aload_n hx hb dX12_thing_37 rfl (lv_at hl 0 rfl) ?_
        refine va_get (D := D) (ci := 12) (C := RX12) (T := TX12) (N := 19) hx hb hts fwX12_thing_X12 hown hK hP 0 rfl rfl 0 (by decide) (hts _ (List.mem_of_getElem? (i := 1) rfl)) (fun _ h9 => h9) rfl dX12_thing_38 ?_
        refine lv_bipush (v := 17) hx hb dX12_thing_41 (by decide) ?_
        refine w_iald (wf := (wX12 cI cZ cS ad)) hx hb hK hP 1 0 rfl rfl hf dX12_thing_43 (fun v10 hf => ?_)
        refine lv_bipush (v := 10) hx hb dX12_thing_44 (by decide) ?_
        refine lv_icmp_ne (tgt := 55) hx hb dX12_thing_46 (by decide) (fun h11 => ?_) (fun h11 => ?_)
        · have hf := (if_neg h11).symm.trans hf
          refine lv_bipush (v := 97) hx hb dX12_thing_55 (by decide) ?_
          refine lv_iconst (v := 5) hx hb dX12_thing_57 (by decide) ?_
          refine lv_aload_n hx hb dX12_thing_58 rfl (lv_at hl 0 rfl) ?_
          refine va_get (D := D) (ci := 12) (C := RX12) (T := TX12) (N := 19) hx hb hts fwX12_thing_X12 hown hK hP 0 rfl rfl 0 (by decide) (hts _ (List.mem_of_getElem? (i := 1) rfl)) (fun _ h9 => h9) rfl dX12_thing_59 ?_
          refine lv_bipush (v := 17) hx hb dX12_thing_62 (by decide) ?_
          refine w_iald (wf := (wX12 cI cZ cS ad)) hx hb hK hP 1 0 rfl rfl hf dX12_thing_64 (fun v12 hf => ?_)
          refine lv_imul hx hb dX12_thing_65 ?_
          refine lv_iadd hx hb dX12_thing_66 ?_
          refine lv_topi (fun x4_13 ex4_13 => ?_)
          have hf := q_lt_at ex4_13 hf
          refine lv_istore (lv' := [(4, .int x4_13), (0, .ref (ad 0)), (1, .int a1), (2, .int a2), (3, .int a3)]) hx hb dX12_thing_67 hl (by decide) rfl (fun ls hl => ?_)
          refine lv_aload_n hx hb dX12_thing_69 rfl (lv_at hl 1 rfl) ?_
          refine va_get (D := D) (ci := 12) (C := RX12) (T := TX12) (N := 19) hx hb hts fwX12_thing_X12 hown hK hP 0 rfl rfl 0 (by decide) (hts _ (List.mem_of_getElem? (i := 1) rfl)) (fun _ h9 => h9) rfl dX12_thing_70 ?_
          refine lv_iload hx hb dX12_thing_73 (lv_at hl 0 rfl) ?_
          refine lv_iconst (v := 0) hx hb dX12_thing_75 (by decide) ?_
          refine lv_iadd hx hb dX12_thing_76 ?_
          refine lv_iload_n hx hb dX12_thing_77 rfl (lv_at hl 2 rfl) ?_
          refine w_iast (wf := (wX12 cI cZ cS ad)) (cid := 1) hx hb hK hP hD hS 1 0 rfl rfl hf (fun _ => rfl) dX12_thing_78 (fun σ14 H locs hf hP hD hS => ?_)
          refine lv_aload_n hx hb dX12_thing_79 rfl (lv_at hl 1 rfl) ?_
          refine va_get (D := D) (ci := 12) (C := RX12) (T := TX12) (N := 19) hx hb hts fwX12_thing_X12 hown hK hP 0 rfl rfl 0 (by decide) (hts _ (List.mem_of_getElem? (i := 1) rfl)) (fun _ h9 => h9) rfl dX12_thing_80 ?_
          refine lv_iload hx hb dX12_thing_83 (lv_at hl 0 rfl) ?_
          refine lv_iconst (v := 1) hx hb dX12_thing_85 (by decide) ?_
          refine lv_iadd hx hb dX12_thing_86 ?_
          refine lv_iload_n hx hb dX12_thing_87 rfl (lv_at hl 3 rfl) ?_
          refine w_iast (wf := (wX12 cI cZ cS ad)) (cid := 1) hx hb hK hP hD hS 1 0 rfl rfl hf (fun _ => rfl) dX12_thing_88 (fun σ15 H locs hf hP hD hS => ?_)
          refine lv_aload_n hx hb dX12_thing_89 rfl (lv_at hl 1 rfl) ?_
          refine va_get (D := D) (ci := 12) (C := RX12) (T := TX12) (N := 19) hx hb hts fwX12_thing_X12 hown hK hP 0 rfl rfl 0 (by decide) (hts _ (List.mem_of_getElem? (i := 1) rfl)) (fun _ h9 => h9) rfl dX12_thing_90 ?_
          refine lv_iload hx hb dX12_thing_93 (lv_at hl 0 rfl) ?_
          refine lv_iconst (v := 2) hx hb dX12_thing_95 (by decide) ?_
          refine lv_iadd hx hb dX12_thing_96 ?_
          refine lv_iload_n hx hb dX12_thing_97 rfl (lv_at hl 4 rfl) ?_
          refine w_iast (wf := (wX12 cI cZ cS ad)) (cid := 1) hx hb hK hP hD hS 1 0 rfl rfl hf (fun _ => rfl) dX12_thing_98 (fun σ16 H locs hf hP hD hS => ?_)
          refine lv_aload_n hx hb dX12_thing_99 rfl (lv_at hl 1 rfl) ?_
          refine va_get (D := D) (ci := 12) (C := RX12) (T := TX12) (N := 19) hx hb hts fwX12_thing_X12 hown hK hP 0 rfl rfl 0 (by decide) (hts _ (List.mem_of_getElem? (i := 1) rfl)) (fun _ h9 => h9) rfl dX12_thing_100 ?_
          refine lv_iload hx hb dX12_thing_103 (lv_at hl 0 rfl) ?_
          refine lv_iconst (v := 3) hx hb dX12_thing_105 (by decide) ?_
          refine lv_iadd hx hb dX12_thing_106 ?_
          refine lv_iconst (v := 0) hx hb dX12_thing_107 (by decide) ?_
          refine w_iast (wf := (wX12 cI cZ cS ad)) (cid := 1) hx hb hK hP hD hS 1 0 rfl rfl hf (fun _ => rfl) dX12_thing_108 (fun σ17 H locs hf hP hD hS => ?_)
          refine lv_aload_n hx hb dX12_thing_109 rfl (lv_at hl 1 rfl) ?_
          refine va_get (D := D) (ci := 12) (C := RX12) (T := TX12) (N := 19) hx hb hts fwX12_thing_X12 hown hK hP 0 rfl rfl 0 (by decide) (hts _ (List.mem_of_getElem? (i := 1) rfl)) (fun _ h9 => h9) rfl dX12_thing_110 ?_
          refine lv_iload hx hb dX12_thing_113 (lv_at hl 0 rfl) ?_
          refine lv_iconst (v := 4) hx hb dX12_thing_115 (by decide) ?_
          refine lv_iadd hx hb dX12_thing_116 ?_
          refine lv_iconst (v := 0) hx hb dX12_thing_117 (by decide) ?_
          refine w_iast (wf := (wX12 cI cZ cS ad)) (cid := 1) hx hb hK hP hD hS 1 0 rfl rfl hf (fun _ => rfl) dX12_thing_118 (fun σ18 H locs hf hP hD hS => ?_)
          refine lv_aload_n hx hb dX12_thing_119 rfl (lv_at hl 1 rfl) ?_
          refine va_get (D := D) (ci := 12) (C := RX12) (T := TX12) (N := 19) hx hb hts fwX12_thing_X12 hown hK hP 0 rfl rfl 0 (by decide) (hts _ (List.mem_of_getElem? (i := 1) rfl)) (fun _ h9 => h9) rfl dX12_thing_120 ?_
          refine lv_bipush (v := 17) hx hb dX12_thing_123 (by decide) ?_
          refine lv_dup2_11 hx hb dX12_thing_125 rfl rfl ?_
          refine w_iald (wf := (wX12 cI cZ cS ad)) hx hb hK hP 1 0 rfl rfl hf dX12_thing_126 (fun v19 hf => ?_)
          refine lv_iconst (v := 1) hx hb dX12_thing_127 (by decide) ?_
          refine lv_iadd hx hb dX12_thing_128 ?_
          refine w_iast (wf := (wX12 cI cZ cS ad)) (cid := 1) hx hb hK hP hD hS 1 0 rfl rfl hf (fun _ => rfl) dX12_thing_129 (fun σ20 H locs hf hP hD hS => ?_)
          refine lv_aload_n hx hb dX12_thing_130 rfl (lv_at hl 1 rfl) ?_
          refine va_get (D := D) (ci := 12) (C := RX12) (T := TX12) (N := 19) hx hb hts fwX12_thing_X12 hown hK hP 0 rfl rfl 0 (by decide) (hts _ (List.mem_of_getElem? (i := 1) rfl)) (fun _ h9 => h9) rfl dX12_thing_131 ?_
          refine lv_bipush (v := 17) hx hb dX12_thing_134 (by decide) ?_
          refine w_iald (wf := (wX12 cI cZ cS ad)) hx hb hK hP 1 0 rfl rfl hf dX12_thing_136 (fun v21 hf => ?_)
          refine lv_iconst (v := 1) hx hb dX12_thing_137 (by decide) ?_
          refine lv_isub hx hb dX12_thing_138 ?_
          obtain ⟨hi1, hi2⟩ := Prod.mk.inj (Option.some.inj hf)
          subst hi1
          subst hi2
          exact hret _ _ _ _ dX12_thing_139 rfl hP hS
        · have hf := (if_pos h11).symm.trans hf
          refine lv_aload_n hx hb dX12_thing_49 rfl (lv_at hl 0 rfl) ?_
          refine lv_iconst (v := 1) hx hb dX12_thing_50 (by decide) ?_
          refine q_cVi (wf := (wX12 cI cZ cS ad)) (wc := wX12 cI cZ cS ad) (rest := []) ⟨hx, hb, hml, hown, hts⟩ hK hZ hA hP hD hS hf (fun x τ ho => kX12_finding l D cI cZ cS zz ad σ (1 : Int32) x τ ho) (cwV 1 hts gX12_thing_X12_finding rfl rfl rfl ndX12_finding ⟨Nat.le_of_ble_eq_true rfl, Nat.le_of_ble_eq_true rfl⟩) [0, 1, 2, 3, 4, 5, 6, 7, 8, 9, 10, 11] rfl rfl [some 0, some 1, some 2, some 3, some 4, some 5, some 6, some 7, some 8, some 9, some 10, some 11] (by decide +kernel) (Nat.le_of_ble_eq_true rfl) (fun _ => rfl) (fun _ => rfl) (fun _ => rfl) rfl rfl rfl rfl (hl.1) rfl (Nat.le_of_ble_eq_true rfl) dX12_thing_51 ⟨Nat.zero_le _, Nat.zero_le _⟩ (fun r23 σ22 H locs hf hP hD hS => ?_)
          obtain ⟨hi1, hi2⟩ := Prod.mk.inj (Option.some.inj hf)
          subst hi1
          subst hi2
          exact hret _ _ _ _ dX12_thing_54 rfl hP hS
      · have hf := (if_pos h9).symm.trans hf
        exact Jj2  _ _ _ hP hD hS (lv_sub hl [0] rfl) hf
def pX12_thingOf (σ : SS) (a1 : Int32) (a2 : Int32) : Option (Int32 × SS) := q_cr (pX12_isThing σ a1) (fun (r1 : Int32) => q_lt (fun (σ3 : SS) (y2 : Int32) => some (y2, σ3)) (fun j4 => q_lt (q_ci (pX12_finding σ (0 : Int32)) (fun (τ : SS) => τ) (fun (r7 : Int32) (σ6 : SS) => j4 σ6 r7)) (fun j5 => (if r1 = (0 : Int32) then j5 else q_cr (pX12_in a2 (0 : Int32) (4 : Int32)) (fun (r9 : Int32) => (if r9 = (0 : Int32) then j5 else q_cr (pX12_thingIts σ a1 a2) (fun (r11 : Int32) => j4 σ r11)))))))
abbrev rmX12_thingOf : Room := { frames := 2, cells := 0, slots := 0, locals := 43 }
set_option maxHeartbeats 4000000 in
set_option maxRecDepth 100000 in
theorem kX12_thingOf (l : Launch) (D : va_G) (cI cZ cS : ClassId) (zz : ZT) (ad : Nat → Nat) (σ : SS) (a1 : Int32) (a2 : Int32) (rr : Int32) (σr : SS) (hf : pX12_thingOf σ a1 a2 = some (rr, σr)) : CI l yX12_thingOf wsX12_thingOf rmX12_thingOf D (K3 cI cZ cS) zz [.ref (ad 0), .int a1, .int a2] (wX12 cI cZ cS ad σ) (wX12 cI cZ cS ad σr) rr := by
  refine q_ofI (cc := cX12_thingOf) (maxL := 3) (ty := .int) (by decide) rfl (Nat.le_of_ble_eq_true rfl) ?_
  intro p e s m below meth c Q A ls hx hb hml hown hts hK hZ hA hP hD hS hl hret
  have hl : lv_has ls 3 [(0, .ref (ad 0)), (1, .int a1), (2, .int a2)] := hl
  unfold pX12_thingOf at hf
  refine lv_aload_n hx hb dX12_thingOf_0 rfl (lv_at hl 0 rfl) ?_
  refine lv_iload_n hx hb dX12_thingOf_1 rfl (lv_at hl 1 rfl) ?_
  refine q_cVr (wf := (wX12 cI cZ cS ad)) (wc := wX12 cI cZ cS ad) (rest := []) ⟨hx, hb, hml, hown, hts⟩ hK hZ hA hP hD hS hf (fun x ho => kX12_isThing l D cI cZ cS zz ad σ a1 x ho) (cwV 1 hts gX12_thingOf_X12_isThing rfl rfl rfl ndX12_isThing ⟨Nat.le_of_ble_eq_true rfl, Nat.le_of_ble_eq_true rfl⟩) [0, 1, 2, 3, 4, 5, 6, 7, 8, 9, 10, 11] rfl rfl rfl rfl rfl rfl (hl.1) rfl (Nat.le_of_ble_eq_true rfl) dX12_thingOf_2 ⟨Nat.zero_le _, Nat.zero_le _⟩ (fun r1 H locs hf hP hD hS => ?_)
  refine q_lt_go hf (fun j4 ej4 hf => ?_)
  have Jj4 : ∀ (σ3 : SS) (y2 : Int32) (H : Heap) (locs : List Loc) (ls : Array Slot), va_P D vwCl ((wX12 cI cZ cS ad) σ3) H → va_D A ((wX12 cI cZ cS ad) σ3) → va_S A s.heap H locs → lv_has ls 3 [] → j4 σ3 y2 = some (rr, σr) → W p l e rmX12_thingOf s m ([.ref (ad 0), .int a1, .int a2] : List Value).toArray below meth c H locs 0 0 Q (F0 m 31 ls [.int y2]) := by
    intro σ3 y2 H locs ls hP hD hS hl hf
    have hf := (congrFun (congrFun ej4 σ3) y2).symm.trans hf
    obtain ⟨hi1, hi2⟩ := Prod.mk.inj (Option.some.inj hf)
    subst hi1
    subst hi2
    exact hret _ _ _ _ dX12_thingOf_31 rfl hP hS
  refine q_lt_go hf (fun j5 ej5 hf => ?_)
  have Jj5 : ∀ (H : Heap) (locs : List Loc) (ls : Array Slot), va_P D vwCl ((wX12 cI cZ cS ad) σ) H → va_D A ((wX12 cI cZ cS ad) σ) → va_S A s.heap H locs → lv_has ls 3 [(0, .ref (ad 0))] → j5 = some (rr, σr) → W p l e rmX12_thingOf s m ([.ref (ad 0), .int a1, .int a2] : List Value).toArray below meth c H locs 0 0 Q (F0 m 26 ls []) := by
    intro  H locs ls hP hD hS hl hf
    have hf := ej5.symm.trans hf
    refine lv_aload_n hx hb dX12_thingOf_26 rfl (lv_at hl 0 rfl) ?_
    refine lv_iconst (v := 0) hx hb dX12_thingOf_27 (by decide) ?_
    refine q_cVi (wf := (wX12 cI cZ cS ad)) (wc := wX12 cI cZ cS ad) (rest := []) ⟨hx, hb, hml, hown, hts⟩ hK hZ hA hP hD hS hf (fun x τ ho => kX12_finding l D cI cZ cS zz ad σ (0 : Int32) x τ ho) (cwV 1 hts gX12_thingOf_X12_finding rfl rfl rfl ndX12_finding ⟨Nat.le_of_ble_eq_true rfl, Nat.le_of_ble_eq_true rfl⟩) [0, 1, 2, 3, 4, 5, 6, 7, 8, 9, 10, 11] rfl rfl [some 0, some 1, some 2, some 3, some 4, some 5, some 6, some 7, some 8, some 9, some 10, some 11] (by decide +kernel) (Nat.le_of_ble_eq_true rfl) (fun _ => rfl) (fun _ => rfl) (fun _ => rfl) rfl rfl rfl rfl (hl.1) rfl (Nat.le_of_ble_eq_true rfl) dX12_thingOf_28 ⟨Nat.zero_le _, Nat.zero_le _⟩ (fun r7 σ6 H locs hf hP hD hS => ?_)
    exact Jj4 σ6 r7 _ _ _ hP hD hS (lv_sub hl [] rfl) hf
  refine lv_if_eq (tgt := 26) hx hb dX12_thingOf_5 (by decide) (fun h8 => ?_) (fun h8 => ?_)
  · have hf := (if_pos h8).symm.trans hf
    exact Jj5  _ _ _ hP hD hS (lv_sub hl [0] rfl) hf
  · have hf := (if_neg h8).symm.trans hf
    refine lv_iload_n hx hb dX12_thingOf_8 rfl (lv_at hl 2 rfl) ?_
    refine lv_iconst (v := 0) hx hb dX12_thingOf_9 (by decide) ?_
    refine lv_iconst (v := 4) hx hb dX12_thingOf_10 (by decide) ?_
    refine q_cSr (wf := (wX12 cI cZ cS ad)) (rest := []) ⟨hx, hb, hml, hown, hts⟩ hK hZ hA hP hD hS hf (fun x ho => kX12_in l D cI cZ cS zz a2 (0 : Int32) (4 : Int32) x ho) (va_cwS 3 hts gX12_thingOf_X12_in rfl rfl rfl ndX12_in.2 ⟨Nat.le_of_ble_eq_true rfl, Nat.le_of_ble_eq_true rfl⟩) rfl (hl.1) rfl (Nat.le_of_ble_eq_true rfl) dX12_thingOf_11 ⟨Nat.zero_le _, Nat.zero_le _⟩ (fun r9 H locs hf hP hD hS => ?_)
    refine lv_if_eq (tgt := 26) hx hb dX12_thingOf_14 (by decide) (fun h10 => ?_) (fun h10 => ?_)
    · have hf := (if_pos h10).symm.trans hf
      exact Jj5  _ _ _ hP hD hS (lv_sub hl [0] rfl) hf
    · have hf := (if_neg h10).symm.trans hf
      refine lv_aload_n hx hb dX12_thingOf_17 rfl (lv_at hl 0 rfl) ?_
      refine lv_iload_n hx hb dX12_thingOf_18 rfl (lv_at hl 1 rfl) ?_
      refine lv_iload_n hx hb dX12_thingOf_19 rfl (lv_at hl 2 rfl) ?_
      refine q_cVr (wf := (wX12 cI cZ cS ad)) (wc := wX12 cI cZ cS ad) (rest := []) ⟨hx, hb, hml, hown, hts⟩ hK hZ hA hP hD hS hf (fun x ho => kX12_thingIts l D cI cZ cS zz ad σ a1 a2 x ho) (cwV 2 hts gX12_thingOf_X12_thingIts rfl rfl rfl ndX12_thingIts ⟨Nat.le_of_ble_eq_true rfl, Nat.le_of_ble_eq_true rfl⟩) [0, 1, 2, 3, 4, 5, 6, 7, 8, 9, 10, 11] rfl rfl rfl rfl rfl rfl (hl.1) rfl (Nat.le_of_ble_eq_true rfl) dX12_thingOf_20 ⟨Nat.zero_le _, Nat.zero_le _⟩ (fun r11 H locs hf hP hD hS => ?_)
      refine lv_goto (tgt := 31) hx hb dX12_thingOf_23 (by decide) ?_
      exact Jj4 σ r11 _ _ _ hP hD hS (lv_sub hl [] rfl) hf
def pX12_lift (σ : SS) (a1 : Int32) : Option (Int32 × SS) := q_cr (pX12_isThing σ a1) (fun (r1 : Int32) => (if r1 = (0 : Int32) then q_ci (pX12_finding σ (0 : Int32)) (fun (τ : SS) => τ) (fun (r13 : Int32) (σ12 : SS) => some (r13, σ12)) else q_cr (pX12_thingIts σ a1 (3 : Int32)) (fun (r3 : Int32) => q_cr (pX12_thingIts σ a1 (4 : Int32)) (fun (r4 : Int32) => (if (r3 + r4) ≤ (0 : Int32) then q_cr (pX12_thingIts σ a1 (1 : Int32)) (fun (r6 : Int32) => q_cs (pX12_goesOn σ r6) (fun (τ : SS) => τ) (fun (σ7 : SS) => q_wr σ7 1 307 (((97 : Int32) + ((5 : Int32) * a1)) + (3 : Int32)) (1 : Int32) (fun (σ8 : SS) => q_rd (σ8 1) 307 (2 : Int32) (fun (v9 : Int32) => some (v9, σ8))))) else q_ci (pX12_finding σ (4 : Int32)) (fun (τ : SS) => τ) (fun (r11 : Int32) (σ10 : SS) => some (r11, σ10)))))))
theorem fwX12_lift_X12 : ∀ w ∈ wsX120, w ∈ wsX12_lift := fun _ h => List.mem_cons_of_mem _ (List.mem_append_right _ h)
abbrev rmX12_lift : Room := { frames := 6, cells := 0, slots := 0, locals := 134 }
set_option maxHeartbeats 4000000 in
set_option maxRecDepth 100000 in
theorem kX12_lift (l : Launch) (D : va_G) (cI cZ cS : ClassId) (zz : ZT) (ad : Nat → Nat) (σ : SS) (a1 : Int32) (rr : Int32) (σr : SS) (hf : pX12_lift σ a1 = some (rr, σr)) : CI l yX12_lift wsX12_lift rmX12_lift D (K3 cI cZ cS) zz [.ref (ad 0), .int a1] (wX12 cI cZ cS ad σ) (wX12 cI cZ cS ad σr) rr := by
  refine q_ofI (cc := cX12_lift) (maxL := 2) (ty := .int) (by decide) rfl (Nat.le_of_ble_eq_true rfl) ?_
  intro p e s m below meth c Q A ls hx hb hml hown hts hK hZ hA hP hD hS hl hret
  have hl : lv_has ls 2 [(0, .ref (ad 0)), (1, .int a1)] := hl
  unfold pX12_lift at hf
  refine lv_aload_n hx hb dX12_lift_0 rfl (lv_at hl 0 rfl) ?_
  refine lv_iload_n hx hb dX12_lift_1 rfl (lv_at hl 1 rfl) ?_
  refine q_cVr (wf := (wX12 cI cZ cS ad)) (wc := wX12 cI cZ cS ad) (rest := []) ⟨hx, hb, hml, hown, hts⟩ hK hZ hA hP hD hS hf (fun x ho => kX12_isThing l D cI cZ cS zz ad σ a1 x ho) (cwV 1 hts gX12_lift_X12_isThing rfl rfl rfl ndX12_isThing ⟨Nat.le_of_ble_eq_true rfl, Nat.le_of_ble_eq_true rfl⟩) [0, 1, 2, 3, 4, 5, 6, 7, 8, 9, 10, 11] rfl rfl rfl rfl rfl rfl (hl.1) rfl (Nat.le_of_ble_eq_true rfl) dX12_lift_2 ⟨Nat.zero_le _, Nat.zero_le _⟩ (fun r1 H locs hf hP hD hS => ?_)
  refine lv_if_ne (tgt := 14) hx hb dX12_lift_5 (by decide) (fun h2 => ?_) (fun h2 => ?_)
  · have hf := (if_neg h2).symm.trans hf
    refine lv_aload_n hx hb dX12_lift_14 rfl (lv_at hl 0 rfl) ?_
    refine lv_iload_n hx hb dX12_lift_15 rfl (lv_at hl 1 rfl) ?_
    refine lv_iconst (v := 3) hx hb dX12_lift_16 (by decide) ?_
    refine q_cVr (wf := (wX12 cI cZ cS ad)) (wc := wX12 cI cZ cS ad) (rest := []) ⟨hx, hb, hml, hown, hts⟩ hK hZ hA hP hD hS hf (fun x ho => kX12_thingIts l D cI cZ cS zz ad σ a1 (3 : Int32) x ho) (cwV 2 hts gX12_lift_X12_thingIts rfl rfl rfl ndX12_thingIts ⟨Nat.le_of_ble_eq_true rfl, Nat.le_of_ble_eq_true rfl⟩) [0, 1, 2, 3, 4, 5, 6, 7, 8, 9, 10, 11] rfl rfl rfl rfl rfl rfl (hl.1) rfl (Nat.le_of_ble_eq_true rfl) dX12_lift_17 ⟨Nat.zero_le _, Nat.zero_le _⟩ (fun r3 H locs hf hP hD hS => ?_)
    refine lv_aload_n hx hb dX12_lift_20 rfl (lv_at hl 0 rfl) ?_
    refine lv_iload_n hx hb dX12_lift_21 rfl (lv_at hl 1 rfl) ?_
    refine lv_iconst (v := 4) hx hb dX12_lift_22 (by decide) ?_
    refine q_cVr (wf := (wX12 cI cZ cS ad)) (wc := wX12 cI cZ cS ad) (rest := [.int r3]) ⟨hx, hb, hml, hown, hts⟩ hK hZ hA hP hD hS hf (fun x ho => kX12_thingIts l D cI cZ cS zz ad σ a1 (4 : Int32) x ho) (cwV 2 hts gX12_lift_X12_thingIts rfl rfl rfl ndX12_thingIts ⟨Nat.le_of_ble_eq_true rfl, Nat.le_of_ble_eq_true rfl⟩) [0, 1, 2, 3, 4, 5, 6, 7, 8, 9, 10, 11] rfl rfl rfl rfl rfl rfl (hl.1) rfl (Nat.le_of_ble_eq_true rfl) dX12_lift_23 ⟨Nat.zero_le _, Nat.zero_le _⟩ (fun r4 H locs hf hP hD hS => ?_)
    refine lv_iadd hx hb dX12_lift_26 ?_
    refine lv_if_le (tgt := 36) hx hb dX12_lift_27 (by decide) (fun h5 => ?_) (fun h5 => ?_)
    · have hf := (if_pos h5).symm.trans hf
      refine lv_aload_n hx hb dX12_lift_36 rfl (lv_at hl 0 rfl) ?_
      refine lv_aload_n hx hb dX12_lift_37 rfl (lv_at hl 0 rfl) ?_
      refine lv_iload_n hx hb dX12_lift_38 rfl (lv_at hl 1 rfl) ?_
      refine lv_iconst (v := 1) hx hb dX12_lift_39 (by decide) ?_
      refine q_cVr (wf := (wX12 cI cZ cS ad)) (wc := wX12 cI cZ cS ad) (rest := [.ref (ad 0)]) ⟨hx, hb, hml, hown, hts⟩ hK hZ hA hP hD hS hf (fun x ho => kX12_thingIts l D cI cZ cS zz ad σ a1 (1 : Int32) x ho) (cwV 2 hts gX12_lift_X12_thingIts rfl rfl rfl ndX12_thingIts ⟨Nat.le_of_ble_eq_true rfl, Nat.le_of_ble_eq_true rfl⟩) [0, 1, 2, 3, 4, 5, 6, 7, 8, 9, 10, 11] rfl rfl rfl rfl rfl rfl (hl.1) rfl (Nat.le_of_ble_eq_true rfl) dX12_lift_40 ⟨Nat.zero_le _, Nat.zero_le _⟩ (fun r6 H locs hf hP hD hS => ?_)
      refine q_cVv (wf := (wX12 cI cZ cS ad)) (wc := wX12 cI cZ cS ad) (rest := []) ⟨hx, hb, hml, hown, hts⟩ hK hZ hA hP hD hS hf (fun x ho => kX12_goesOn l D cI cZ cS zz ad σ r6 x ho) (cwV 1 hts gX12_lift_X12_goesOn rfl rfl rfl ndX12_goesOn ⟨Nat.le_of_ble_eq_true rfl, Nat.le_of_ble_eq_true rfl⟩) [0, 1, 2, 3, 4, 5, 6, 7, 8, 9, 10, 11] rfl rfl [some 0, some 1, some 2, some 3, some 4, some 5, some 6, some 7, some 8, some 9, some 10, some 11] (by decide +kernel) (Nat.le_of_ble_eq_true rfl) (fun _ => rfl) (fun _ => rfl) (fun _ => rfl) rfl rfl rfl rfl (hl.1) rfl (Nat.le_of_ble_eq_true rfl) dX12_lift_43 ⟨Nat.zero_le _, Nat.zero_le _⟩ (fun σ7 H locs hf hP hD hS => ?_)
      refine lv_aload_n hx hb dX12_lift_46 rfl (lv_at hl 0 rfl) ?_
      refine va_get (D := D) (ci := 12) (C := RX12) (T := TX12) (N := 19) hx hb hts fwX12_lift_X12 hown hK hP 0 rfl rfl 0 (by decide) (hts _ (List.mem_of_getElem? (i := 1) rfl)) (fun _ h9 => h9) rfl dX12_lift_47 ?_
      refine lv_bipush (v := 97) hx hb dX12_lift_50 (by decide) ?_
      refine lv_iconst (v := 5) hx hb dX12_lift_52 (by decide) ?_
      refine lv_iload_n hx hb dX12_lift_53 rfl (lv_at hl 1 rfl) ?_
      refine lv_imul hx hb dX12_lift_54 ?_
      refine lv_iadd hx hb dX12_lift_55 ?_
      refine lv_iconst (v := 3) hx hb dX12_lift_56 (by decide) ?_
      refine lv_iadd hx hb dX12_lift_57 ?_
      refine lv_iconst (v := 1) hx hb dX12_lift_58 (by decide) ?_
      refine w_iast (wf := (wX12 cI cZ cS ad)) (cid := 1) hx hb hK hP hD hS 1 0 rfl rfl hf (fun _ => rfl) dX12_lift_59 (fun σ8 H locs hf hP hD hS => ?_)
      refine lv_aload_n hx hb dX12_lift_60 rfl (lv_at hl 0 rfl) ?_
      refine va_get (D := D) (ci := 12) (C := RX12) (T := TX12) (N := 19) hx hb hts fwX12_lift_X12 hown hK hP 0 rfl rfl 0 (by decide) (hts _ (List.mem_of_getElem? (i := 1) rfl)) (fun _ h9 => h9) rfl dX12_lift_61 ?_
      refine lv_iconst (v := 2) hx hb dX12_lift_64 (by decide) ?_
      refine w_iald (wf := (wX12 cI cZ cS ad)) hx hb hK hP 1 0 rfl rfl hf dX12_lift_65 (fun v9 hf => ?_)
      obtain ⟨hi1, hi2⟩ := Prod.mk.inj (Option.some.inj hf)
      subst hi1
      subst hi2
      exact hret _ _ _ _ dX12_lift_66 rfl hP hS
    · have hf := (if_neg h5).symm.trans hf
      refine lv_aload_n hx hb dX12_lift_30 rfl (lv_at hl 0 rfl) ?_
      refine lv_iconst (v := 4) hx hb dX12_lift_31 (by decide) ?_
      refine q_cVi (wf := (wX12 cI cZ cS ad)) (wc := wX12 cI cZ cS ad) (rest := []) ⟨hx, hb, hml, hown, hts⟩ hK hZ hA hP hD hS hf (fun x τ ho => kX12_finding l D cI cZ cS zz ad σ (4 : Int32) x τ ho) (cwV 1 hts gX12_lift_X12_finding rfl rfl rfl ndX12_finding ⟨Nat.le_of_ble_eq_true rfl, Nat.le_of_ble_eq_true rfl⟩) [0, 1, 2, 3, 4, 5, 6, 7, 8, 9, 10, 11] rfl rfl [some 0, some 1, some 2, some 3, some 4, some 5, some 6, some 7, some 8, some 9, some 10, some 11] (by decide +kernel) (Nat.le_of_ble_eq_true rfl) (fun _ => rfl) (fun _ => rfl) (fun _ => rfl) rfl rfl rfl rfl (hl.1) rfl (Nat.le_of_ble_eq_true rfl) dX12_lift_32 ⟨Nat.zero_le _, Nat.zero_le _⟩ (fun r11 σ10 H locs hf hP hD hS => ?_)
      obtain ⟨hi1, hi2⟩ := Prod.mk.inj (Option.some.inj hf)
      subst hi1
      subst hi2
      exact hret _ _ _ _ dX12_lift_35 rfl hP hS
  · have hf := (if_pos h2).symm.trans hf
    refine lv_aload_n hx hb dX12_lift_8 rfl (lv_at hl 0 rfl) ?_
    refine lv_iconst (v := 0) hx hb dX12_lift_9 (by decide) ?_
    refine q_cVi (wf := (wX12 cI cZ cS ad)) (wc := wX12 cI cZ cS ad) (rest := []) ⟨hx, hb, hml, hown, hts⟩ hK hZ hA hP hD hS hf (fun x τ ho => kX12_finding l D cI cZ cS zz ad σ (0 : Int32) x τ ho) (cwV 1 hts gX12_lift_X12_finding rfl rfl rfl ndX12_finding ⟨Nat.le_of_ble_eq_true rfl, Nat.le_of_ble_eq_true rfl⟩) [0, 1, 2, 3, 4, 5, 6, 7, 8, 9, 10, 11] rfl rfl [some 0, some 1, some 2, some 3, some 4, some 5, some 6, some 7, some 8, some 9, some 10, some 11] (by decide +kernel) (Nat.le_of_ble_eq_true rfl) (fun _ => rfl) (fun _ => rfl) (fun _ => rfl) rfl rfl rfl rfl (hl.1) rfl (Nat.le_of_ble_eq_true rfl) dX12_lift_10 ⟨Nat.zero_le _, Nat.zero_le _⟩ (fun r13 σ12 H locs hf hP hD hS => ?_)
    obtain ⟨hi1, hi2⟩ := Prod.mk.inj (Option.some.inj hf)
    subst hi1
    subst hi2
    exact hret _ _ _ _ dX12_lift_13 rfl hP hS
def pX12_down (σ : SS) (a1 : Int32) (a2 : Int32) : Option (Int32 × SS) := q_cr (pX12_isThing σ a1) (fun (r1 : Int32) => q_lt (q_ci (pX12_finding σ (0 : Int32)) (fun (τ : SS) => τ) (fun (r4 : Int32) (σ3 : SS) => some (r4, σ3))) (fun j2 => (if r1 = (0 : Int32) then j2 else q_cr (pX12_in a2 (0 : Int32) (999 : Int32)) (fun (r6 : Int32) => (if r6 = (0 : Int32) then j2 else q_cr (pX12_thingIts σ a1 (3 : Int32)) (fun (r8 : Int32) => q_wr σ 1 307 (((97 : Int32) + ((5 : Int32) * a1)) + (3 : Int32)) (0 : Int32) (fun (σ9 : SS) => q_wr σ9 1 307 (((97 : Int32) + ((5 : Int32) * a1)) + (2 : Int32)) a2 (fun (σ10 : SS) => some (r8, σ10)))))))))
theorem fwX12_down_X12 : ∀ w ∈ wsX120, w ∈ wsX12_down := fun _ h => List.mem_cons_of_mem _ (List.mem_append_right _ h)
abbrev rmX12_down : Room := { frames := 2, cells := 0, slots := 0, locals := 43 }
set_option maxHeartbeats 4000000 in
set_option maxRecDepth 100000 in
theorem kX12_down (l : Launch) (D : va_G) (cI cZ cS : ClassId) (zz : ZT) (ad : Nat → Nat) (σ : SS) (a1 : Int32) (a2 : Int32) (rr : Int32) (σr : SS) (hf : pX12_down σ a1 a2 = some (rr, σr)) : CI l yX12_down wsX12_down rmX12_down D (K3 cI cZ cS) zz [.ref (ad 0), .int a1, .int a2] (wX12 cI cZ cS ad σ) (wX12 cI cZ cS ad σr) rr := by
  refine q_ofI (cc := cX12_down) (maxL := 4) (ty := .int) (by decide) rfl (Nat.le_of_ble_eq_true rfl) ?_
  intro p e s m below meth c Q A ls hx hb hml hown hts hK hZ hA hP hD hS hl hret
  have hl : lv_has ls 4 [(0, .ref (ad 0)), (1, .int a1), (2, .int a2)] := hl
  unfold pX12_down at hf
  refine lv_aload_n hx hb dX12_down_0 rfl (lv_at hl 0 rfl) ?_
  refine lv_iload_n hx hb dX12_down_1 rfl (lv_at hl 1 rfl) ?_
  refine q_cVr (wf := (wX12 cI cZ cS ad)) (wc := wX12 cI cZ cS ad) (rest := []) ⟨hx, hb, hml, hown, hts⟩ hK hZ hA hP hD hS hf (fun x ho => kX12_isThing l D cI cZ cS zz ad σ a1 x ho) (cwV 1 hts gX12_down_X12_isThing rfl rfl rfl ndX12_isThing ⟨Nat.le_of_ble_eq_true rfl, Nat.le_of_ble_eq_true rfl⟩) [0, 1, 2, 3, 4, 5, 6, 7, 8, 9, 10, 11] rfl rfl rfl rfl rfl rfl (hl.1) rfl (Nat.le_of_ble_eq_true rfl) dX12_down_2 ⟨Nat.zero_le _, Nat.zero_le _⟩ (fun r1 H locs hf hP hD hS => ?_)
  refine q_lt_go hf (fun j2 ej2 hf => ?_)
  have Jj2 : ∀ (H : Heap) (locs : List Loc) (ls : Array Slot), va_P D vwCl ((wX12 cI cZ cS ad) σ) H → va_D A ((wX12 cI cZ cS ad) σ) → va_S A s.heap H locs → lv_has ls 4 [(0, .ref (ad 0))] → j2 = some (rr, σr) → W p l e rmX12_down s m ([.ref (ad 0), .int a1, .int a2] : List Value).toArray below meth c H locs 0 0 Q (F0 m 19 ls []) := by
    intro  H locs ls hP hD hS hl hf
    have hf := ej2.symm.trans hf
    refine lv_aload_n hx hb dX12_down_19 rfl (lv_at hl 0 rfl) ?_
    refine lv_iconst (v := 0) hx hb dX12_down_20 (by decide) ?_
    refine q_cVi (wf := (wX12 cI cZ cS ad)) (wc := wX12 cI cZ cS ad) (rest := []) ⟨hx, hb, hml, hown, hts⟩ hK hZ hA hP hD hS hf (fun x τ ho => kX12_finding l D cI cZ cS zz ad σ (0 : Int32) x τ ho) (cwV 1 hts gX12_down_X12_finding rfl rfl rfl ndX12_finding ⟨Nat.le_of_ble_eq_true rfl, Nat.le_of_ble_eq_true rfl⟩) [0, 1, 2, 3, 4, 5, 6, 7, 8, 9, 10, 11] rfl rfl [some 0, some 1, some 2, some 3, some 4, some 5, some 6, some 7, some 8, some 9, some 10, some 11] (by decide +kernel) (Nat.le_of_ble_eq_true rfl) (fun _ => rfl) (fun _ => rfl) (fun _ => rfl) rfl rfl rfl rfl (hl.1) rfl (Nat.le_of_ble_eq_true rfl) dX12_down_21 ⟨Nat.zero_le _, Nat.zero_le _⟩ (fun r4 σ3 H locs hf hP hD hS => ?_)
    obtain ⟨hi1, hi2⟩ := Prod.mk.inj (Option.some.inj hf)
    subst hi1
    subst hi2
    exact hret _ _ _ _ dX12_down_24 rfl hP hS
  refine lv_if_eq (tgt := 19) hx hb dX12_down_5 (by decide) (fun h5 => ?_) (fun h5 => ?_)
  · have hf := (if_pos h5).symm.trans hf
    exact Jj2  _ _ _ hP hD hS (lv_sub hl [0] rfl) hf
  · have hf := (if_neg h5).symm.trans hf
    refine lv_iload_n hx hb dX12_down_8 rfl (lv_at hl 2 rfl) ?_
    refine lv_iconst (v := 0) hx hb dX12_down_9 (by decide) ?_
    refine lv_sipush (v := 999) hx hb dX12_down_10 (by decide) ?_
    refine q_cSr (wf := (wX12 cI cZ cS ad)) (rest := []) ⟨hx, hb, hml, hown, hts⟩ hK hZ hA hP hD hS hf (fun x ho => kX12_in l D cI cZ cS zz a2 (0 : Int32) (999 : Int32) x ho) (va_cwS 3 hts gX12_down_X12_in rfl rfl rfl ndX12_in.2 ⟨Nat.le_of_ble_eq_true rfl, Nat.le_of_ble_eq_true rfl⟩) rfl (hl.1) rfl (Nat.le_of_ble_eq_true rfl) dX12_down_13 ⟨Nat.zero_le _, Nat.zero_le _⟩ (fun r6 H locs hf hP hD hS => ?_)
    refine lv_if_ne (tgt := 25) hx hb dX12_down_16 (by decide) (fun h7 => ?_) (fun h7 => ?_)
    · have hf := (if_neg h7).symm.trans hf
      refine lv_aload_n hx hb dX12_down_25 rfl (lv_at hl 0 rfl) ?_
      refine lv_iload_n hx hb dX12_down_26 rfl (lv_at hl 1 rfl) ?_
      refine lv_iconst (v := 3) hx hb dX12_down_27 (by decide) ?_
      refine q_cVr (wf := (wX12 cI cZ cS ad)) (wc := wX12 cI cZ cS ad) (rest := []) ⟨hx, hb, hml, hown, hts⟩ hK hZ hA hP hD hS hf (fun x ho => kX12_thingIts l D cI cZ cS zz ad σ a1 (3 : Int32) x ho) (cwV 2 hts gX12_down_X12_thingIts rfl rfl rfl ndX12_thingIts ⟨Nat.le_of_ble_eq_true rfl, Nat.le_of_ble_eq_true rfl⟩) [0, 1, 2, 3, 4, 5, 6, 7, 8, 9, 10, 11] rfl rfl rfl rfl rfl rfl (hl.1) rfl (Nat.le_of_ble_eq_true rfl) dX12_down_28 ⟨Nat.zero_le _, Nat.zero_le _⟩ (fun r8 H locs hf hP hD hS => ?_)
      refine lv_istore_n (lv' := [(3, .int r8), (0, .ref (ad 0)), (1, .int a1), (2, .int a2)]) hx hb dX12_down_31 rfl hl (by decide) rfl (fun ls hl => ?_)
      refine lv_aload_n hx hb dX12_down_32 rfl (lv_at hl 1 rfl) ?_
      refine va_get (D := D) (ci := 12) (C := RX12) (T := TX12) (N := 19) hx hb hts fwX12_down_X12 hown hK hP 0 rfl rfl 0 (by decide) (hts _ (List.mem_of_getElem? (i := 1) rfl)) (fun _ h9 => h9) rfl dX12_down_33 ?_
      refine lv_bipush (v := 97) hx hb dX12_down_36 (by decide) ?_
      refine lv_iconst (v := 5) hx hb dX12_down_38 (by decide) ?_
      refine lv_iload_n hx hb dX12_down_39 rfl (lv_at hl 2 rfl) ?_
      refine lv_imul hx hb dX12_down_40 ?_
      refine lv_iadd hx hb dX12_down_41 ?_
      refine lv_iconst (v := 3) hx hb dX12_down_42 (by decide) ?_
      refine lv_iadd hx hb dX12_down_43 ?_
      refine lv_iconst (v := 0) hx hb dX12_down_44 (by decide) ?_
      refine w_iast (wf := (wX12 cI cZ cS ad)) (cid := 1) hx hb hK hP hD hS 1 0 rfl rfl hf (fun _ => rfl) dX12_down_45 (fun σ9 H locs hf hP hD hS => ?_)
      refine lv_aload_n hx hb dX12_down_46 rfl (lv_at hl 1 rfl) ?_
      refine va_get (D := D) (ci := 12) (C := RX12) (T := TX12) (N := 19) hx hb hts fwX12_down_X12 hown hK hP 0 rfl rfl 0 (by decide) (hts _ (List.mem_of_getElem? (i := 1) rfl)) (fun _ h9 => h9) rfl dX12_down_47 ?_
      refine lv_bipush (v := 97) hx hb dX12_down_50 (by decide) ?_
      refine lv_iconst (v := 5) hx hb dX12_down_52 (by decide) ?_
      refine lv_iload_n hx hb dX12_down_53 rfl (lv_at hl 2 rfl) ?_
      refine lv_imul hx hb dX12_down_54 ?_
      refine lv_iadd hx hb dX12_down_55 ?_
      refine lv_iconst (v := 2) hx hb dX12_down_56 (by decide) ?_
      refine lv_iadd hx hb dX12_down_57 ?_
      refine lv_iload_n hx hb dX12_down_58 rfl (lv_at hl 3 rfl) ?_
      refine w_iast (wf := (wX12 cI cZ cS ad)) (cid := 1) hx hb hK hP hD hS 1 0 rfl rfl hf (fun _ => rfl) dX12_down_59 (fun σ10 H locs hf hP hD hS => ?_)
      refine lv_iload_n hx hb dX12_down_60 rfl (lv_at hl 0 rfl) ?_
      obtain ⟨hi1, hi2⟩ := Prod.mk.inj (Option.some.inj hf)
      subst hi1
      subst hi2
      exact hret _ _ _ _ dX12_down_61 rfl hP hS
    · have hf := (if_pos h7).symm.trans hf
      exact Jj2  _ _ _ hP hD hS (lv_sub hl [0] rfl) hf
def pX12_harm (σ : SS) : Option Int32 := q_lp (fun _ _ => none) (fun (c3 : Int32 → Int32 → Option Int32) (x1_1 : Int32) (x2_2 : Int32) => q_rd (σ 1) 307 (17 : Int32) (fun (v6 : Int32) => (if v6 ≤ x2_2 then some x1_1 else q_cr (pX12_thingIts σ x2_2 (4 : Int32)) (fun (r8 : Int32) => q_lt (fun (y9 : Int32) => q_lt (x1_1 + y9) (fun x1_11 => c3 x1_11 (x2_2 + (1 : Int32)))) (fun j10 => (if r8 = (1 : Int32) then q_cr (pX12_thingIts σ x2_2 (0 : Int32)) (fun (r13 : Int32) => j10 r13) else j10 (0 : Int32))))))) q_fu (0 : Int32) (0 : Int32)
theorem fwX12_harm_X12 : ∀ w ∈ wsX120, w ∈ wsX12_harm := fun _ h => List.mem_cons_of_mem _ (List.mem_append_right _ h)
abbrev rmX12_harm : Room := { frames := 1, cells := 0, slots := 0, locals := 22 }
set_option maxHeartbeats 4000000 in
set_option maxRecDepth 100000 in
theorem kX12_harm (l : Launch) (D : va_G) (cI cZ cS : ClassId) (zz : ZT) (ad : Nat → Nat) (σ : SS) (rr : Int32) (hf : pX12_harm σ = some rr) : CI l yX12_harm wsX12_harm rmX12_harm D (K3 cI cZ cS) zz [.ref (ad 0)] (wX12 cI cZ cS ad σ) (wX12 cI cZ cS ad σ) rr := by
  refine q_ofI (cc := cX12_harm) (maxL := 3) (ty := .int) (by decide) rfl (Nat.le_of_ble_eq_true rfl) ?_
  intro p e s m below meth c Q A ls hx hb hml hown hts hK hZ hA hP hD hS hl hret
  have hl : lv_has ls 3 [(0, .ref (ad 0))] := hl
  unfold pX12_harm at hf
  refine lv_iconst (v := 0) hx hb dX12_harm_0 (by decide) ?_
  refine lv_istore_n (lv' := [(1, .int (0 : Int32)), (0, .ref (ad 0))]) hx hb dX12_harm_1 rfl hl (by decide) rfl (fun ls hl => ?_)
  refine lv_iconst (v := 0) hx hb dX12_harm_2 (by decide) ?_
  refine lv_istore_n (lv' := [(2, .int (0 : Int32)), (1, .int (0 : Int32)), (0, .ref (ad 0))]) hx hb dX12_harm_3 rfl hl (by decide) rfl (fun ls hl => ?_)
  refine q_lp_go (f := fun (zf : Int32 → Int32 → Option Int32) => zf (0 : Int32) (0 : Int32)) hf (fun z4 ez4 hf => ?_)
  have Lz4 : ∀ (n5 : Nat) (x1_1 : Int32) (x2_2 : Int32) (H : Heap) (locs : List Loc) (ls : Array Slot), va_P D vwCl ((wX12 cI cZ cS ad) σ) H → va_D A ((wX12 cI cZ cS ad) σ) → va_S A s.heap H locs → lv_has ls 3 [(0, .ref (ad 0)), (1, .int x1_1), (2, .int x2_2)] → q_lp (fun _ _ => none) z4 n5 x1_1 x2_2 = some rr → W p l e rmX12_harm s m ([.ref (ad 0)] : List Value).toArray below meth c H locs 0 0 Q (F0 m 4 ls []) := by
    intro n5
    induction n5 with
    | zero => exact fun _ _ _ _ _ _ _ _ _ hf => q_no hf
    | succ n5 ihz4 =>
      intro x1_1 x2_2 H locs ls hP hD hS hl hf
      have hf := (congrFun (congrFun (congrFun ez4 (q_lp (fun _ _ => none) z4 n5)) x1_1) x2_2).symm.trans hf
      refine lv_iload_n hx hb dX12_harm_4 rfl (lv_at hl 2 rfl) ?_
      refine lv_aload_n hx hb dX12_harm_5 rfl (lv_at hl 0 rfl) ?_
      refine va_get (D := D) (ci := 12) (C := RX12) (T := TX12) (N := 19) hx hb hts fwX12_harm_X12 hown hK hP 0 rfl rfl 0 (by decide) (hts _ (List.mem_of_getElem? (i := 1) rfl)) (fun _ h9 => h9) rfl dX12_harm_6 ?_
      refine lv_bipush (v := 17) hx hb dX12_harm_9 (by decide) ?_
      refine w_iald (wf := (wX12 cI cZ cS ad)) hx hb hK hP 1 0 rfl rfl hf dX12_harm_11 (fun v6 hf => ?_)
      refine lv_icmp_ge (tgt := 44) hx hb dX12_harm_12 (by decide) (fun h7 => ?_) (fun h7 => ?_)
      · have hf := (if_pos h7).symm.trans hf
        refine lv_iload_n hx hb dX12_harm_44 rfl (lv_at hl 1 rfl) ?_
        have hi1 := Option.some.inj hf
        subst hi1
        exact hret _ _ _ _ dX12_harm_45 rfl hP hS
      · have hf := (if_neg h7).symm.trans hf
        refine lv_iload_n hx hb dX12_harm_15 rfl (lv_at hl 1 rfl) ?_
        refine lv_aload_n hx hb dX12_harm_16 rfl (lv_at hl 0 rfl) ?_
        refine lv_iload_n hx hb dX12_harm_17 rfl (lv_at hl 2 rfl) ?_
        refine lv_iconst (v := 4) hx hb dX12_harm_18 (by decide) ?_
        refine q_cVr (wf := (wX12 cI cZ cS ad)) (wc := wX12 cI cZ cS ad) (rest := [.int x1_1]) ⟨hx, hb, hml, hown, hts⟩ hK hZ hA hP hD hS hf (fun x ho => kX12_thingIts l D cI cZ cS zz ad σ x2_2 (4 : Int32) x ho) (cwV 2 hts gX12_harm_X12_thingIts rfl rfl rfl ndX12_thingIts ⟨Nat.le_of_ble_eq_true rfl, Nat.le_of_ble_eq_true rfl⟩) [0, 1, 2, 3, 4, 5, 6, 7, 8, 9, 10, 11] rfl rfl rfl rfl rfl rfl (hl.1) rfl (Nat.le_of_ble_eq_true rfl) dX12_harm_19 ⟨Nat.zero_le _, Nat.zero_le _⟩ (fun r8 H locs hf hP hD hS => ?_)
        refine lv_iconst (v := 1) hx hb dX12_harm_22 (by decide) ?_
        refine q_lt_go hf (fun j10 ej10 hf => ?_)
        have Jj10 : ∀ (y9 : Int32) (H : Heap) (locs : List Loc) (ls : Array Slot), va_P D vwCl ((wX12 cI cZ cS ad) σ) H → va_D A ((wX12 cI cZ cS ad) σ) → va_S A s.heap H locs → lv_has ls 3 [(0, .ref (ad 0)), (2, .int x2_2)] → j10 y9 = some rr → W p l e rmX12_harm s m ([.ref (ad 0)] : List Value).toArray below meth c H locs 0 0 Q (F0 m 36 ls [.int y9, .int x1_1]) := by
          intro y9 H locs ls hP hD hS hl hf
          have hf := (congrFun ej10 y9).symm.trans hf
          refine lv_iadd hx hb dX12_harm_36 ?_
          refine lv_topi (fun x1_11 ex1_11 => ?_)
          have hf := q_lt_at ex1_11 hf
          refine lv_istore_n (lv' := [(1, .int x1_11), (0, .ref (ad 0)), (2, .int x2_2)]) hx hb dX12_harm_37 rfl hl (by decide) rfl (fun ls hl => ?_)
          refine lv_iinc (v := (x2_2 + (1 : Int32))) (lv' := [(2, .int (x2_2 + (1 : Int32))), (1, .int x1_11), (0, .ref (ad 0))]) hx hb dX12_harm_38 hl (k := 2) rfl rfl (by decide) rfl (fun ls hl => ?_)
          refine lv_goto (tgt := 4) hx hb dX12_harm_41 (by decide) ?_
          exact ihz4 x1_11 (x2_2 + (1 : Int32)) _ _ _ hP hD hS (lv_sub hl [2, 1, 0] rfl) hf
        refine lv_icmp_ne (tgt := 35) hx hb dX12_harm_23 (by decide) (fun h12 => ?_) (fun h12 => ?_)
        · have hf := (if_neg h12).symm.trans hf
          refine lv_iconst (v := 0) hx hb dX12_harm_35 (by decide) ?_
          exact Jj10 (0 : Int32) _ _ _ hP hD hS (lv_sub hl [0, 2] rfl) hf
        · have hf := (if_pos h12).symm.trans hf
          refine lv_aload_n hx hb dX12_harm_26 rfl (lv_at hl 0 rfl) ?_
          refine lv_iload_n hx hb dX12_harm_27 rfl (lv_at hl 2 rfl) ?_
          refine lv_iconst (v := 0) hx hb dX12_harm_28 (by decide) ?_
          refine q_cVr (wf := (wX12 cI cZ cS ad)) (wc := wX12 cI cZ cS ad) (rest := [.int x1_1]) ⟨hx, hb, hml, hown, hts⟩ hK hZ hA hP hD hS hf (fun x ho => kX12_thingIts l D cI cZ cS zz ad σ x2_2 (0 : Int32) x ho) (cwV 2 hts gX12_harm_X12_thingIts rfl rfl rfl ndX12_thingIts ⟨Nat.le_of_ble_eq_true rfl, Nat.le_of_ble_eq_true rfl⟩) [0, 1, 2, 3, 4, 5, 6, 7, 8, 9, 10, 11] rfl rfl rfl rfl rfl rfl (hl.1) rfl (Nat.le_of_ble_eq_true rfl) dX12_harm_29 ⟨Nat.zero_le _, Nat.zero_le _⟩ (fun r13 H locs hf hP hD hS => ?_)
          refine lv_goto (tgt := 36) hx hb dX12_harm_32 (by decide) ?_
          exact Jj10 r13 _ _ _ hP hD hS (lv_sub hl [0, 2] rfl) hf
  exact Lz4 q_fu (0 : Int32) (0 : Int32) _ _ _ hP hD hS (lv_sub hl [2, 1, 0] rfl) hf
def pX12_feed (σ : SS) (a1 : Int32) (a2 : Int32) : Option (Int32 × SS) := q_cr (pX12_in a2 (1 : Int32) (4 : Int32)) (fun (r1 : Int32) => (if r1 = (0 : Int32) then q_ci (pX12_finding σ (0 : Int32)) (fun (τ : SS) => τ) (fun (r16 : Int32) (σ15 : SS) => some (r16, σ15)) else (if ((σ 0 7) + a2) ≤ (100 : Int32) then q_lt (a2 - (1 : Int32)) (fun x3_4 => q_lp (fun _ _ => none) (fun (c7 : SS → Int32 → Option (Int32 × SS)) (σ6 : SS) (x3_5 : Int32) => (if x3_5 < (0 : Int32) then some ((σ6 0 7), σ6) else q_wr σ6 5 100 (σ6 0 7) ((a1 >>> (((8 : Int32) * x3_5) &&& (31 : Int32))) &&& (255 : Int32)) (fun (σ11 : SS) => q_lt (su σ11 0 7 ((σ11 0 7) + (1 : Int32))) (fun (σ12 : SS) => c7 σ12 (x3_5 + (-1 : Int32)))))) q_fu σ x3_4) else q_ci (pX12_finding σ (1 : Int32)) (fun (τ : SS) => τ) (fun (r14 : Int32) (σ13 : SS) => some (r14, σ13)))))
theorem fwX12_feed_X12 : ∀ w ∈ wsX120, w ∈ wsX12_feed := fun _ h => List.mem_cons_of_mem _ (List.mem_append_right _ h)
abbrev rmX12_feed : Room := { frames := 1, cells := 0, slots := 0, locals := 22 }
set_option maxHeartbeats 4000000 in
set_option maxRecDepth 100000 in
theorem kX12_feed (l : Launch) (D : va_G) (cI cZ cS : ClassId) (zz : ZT) (ad : Nat → Nat) (σ : SS) (a1 : Int32) (a2 : Int32) (rr : Int32) (σr : SS) (hf : pX12_feed σ a1 a2 = some (rr, σr)) : CI l yX12_feed wsX12_feed rmX12_feed D (K3 cI cZ cS) zz [.ref (ad 0), .int a1, .int a2] (wX12 cI cZ cS ad σ) (wX12 cI cZ cS ad σr) rr := by
  refine q_ofI (cc := cX12_feed) (maxL := 4) (ty := .int) (by decide) rfl (Nat.le_of_ble_eq_true rfl) ?_
  intro p e s m below meth c Q A ls hx hb hml hown hts hK hZ hA hP hD hS hl hret
  have hl : lv_has ls 4 [(0, .ref (ad 0)), (1, .int a1), (2, .int a2)] := hl
  unfold pX12_feed at hf
  refine lv_iload_n hx hb dX12_feed_0 rfl (lv_at hl 2 rfl) ?_
  refine lv_iconst (v := 1) hx hb dX12_feed_1 (by decide) ?_
  refine lv_iconst (v := 4) hx hb dX12_feed_2 (by decide) ?_
  refine q_cSr (wf := (wX12 cI cZ cS ad)) (rest := []) ⟨hx, hb, hml, hown, hts⟩ hK hZ hA hP hD hS hf (fun x ho => kX12_in l D cI cZ cS zz a2 (1 : Int32) (4 : Int32) x ho) (va_cwS 3 hts gX12_feed_X12_in rfl rfl rfl ndX12_in.2 ⟨Nat.le_of_ble_eq_true rfl, Nat.le_of_ble_eq_true rfl⟩) rfl (hl.1) rfl (Nat.le_of_ble_eq_true rfl) dX12_feed_3 ⟨Nat.zero_le _, Nat.zero_le _⟩ (fun r1 H locs hf hP hD hS => ?_)
  refine lv_if_ne (tgt := 15) hx hb dX12_feed_6 (by decide) (fun h2 => ?_) (fun h2 => ?_)
  · have hf := (if_neg h2).symm.trans hf
    refine lv_aload_n hx hb dX12_feed_15 rfl (lv_at hl 0 rfl) ?_
    refine va_get (D := D) (ci := 12) (C := RX12) (T := TX12) (N := 19) hx hb hts fwX12_feed_X12 hown hK hP 0 rfl rfl 7 (by decide) (hts _ (List.mem_of_getElem? (i := 1) rfl)) (fun _ h9 => h9) rfl dX12_feed_16 ?_
    refine lv_iload_n hx hb dX12_feed_19 rfl (lv_at hl 2 rfl) ?_
    refine lv_iadd hx hb dX12_feed_20 ?_
    refine lv_bipush (v := 100) hx hb dX12_feed_21 (by decide) ?_
    refine lv_icmp_le (tgt := 32) hx hb dX12_feed_23 (by decide) (fun h3 => ?_) (fun h3 => ?_)
    · have hf := (if_pos h3).symm.trans hf
      refine lv_iload_n hx hb dX12_feed_32 rfl (lv_at hl 2 rfl) ?_
      refine lv_iconst (v := 1) hx hb dX12_feed_33 (by decide) ?_
      refine lv_isub hx hb dX12_feed_34 ?_
      refine lv_topi (fun x3_4 ex3_4 => ?_)
      have hf := q_lt_at ex3_4 hf
      refine lv_istore_n (lv' := [(3, .int x3_4), (0, .ref (ad 0)), (1, .int a1), (2, .int a2)]) hx hb dX12_feed_35 rfl hl (by decide) rfl (fun ls hl => ?_)
      refine q_lp_go (f := fun (zf : SS → Int32 → Option (Int32 × SS)) => zf σ x3_4) hf (fun z8 ez8 hf => ?_)
      have Lz8 : ∀ (n9 : Nat) (σ6 : SS) (x3_5 : Int32) (H : Heap) (locs : List Loc) (ls : Array Slot), va_P D vwCl ((wX12 cI cZ cS ad) σ6) H → va_D A ((wX12 cI cZ cS ad) σ6) → va_S A s.heap H locs → lv_has ls 4 [(0, .ref (ad 0)), (1, .int a1), (3, .int x3_5)] → q_lp (fun _ _ => none) z8 n9 σ6 x3_5 = some (rr, σr) → W p l e rmX12_feed s m ([.ref (ad 0), .int a1, .int a2] : List Value).toArray below meth c H locs 0 0 Q (F0 m 36 ls []) := by
        intro n9
        induction n9 with
        | zero => exact fun _ _ _ _ _ _ _ _ _ hf => q_no hf
        | succ n9 ihz8 =>
          intro σ6 x3_5 H locs ls hP hD hS hl hf
          have hf := (congrFun (congrFun (congrFun ez8 (q_lp (fun _ _ => none) z8 n9)) σ6) x3_5).symm.trans hf
          refine lv_iload_n hx hb dX12_feed_36 rfl (lv_at hl 2 rfl) ?_
          refine lv_if_lt (tgt := 75) hx hb dX12_feed_37 (by decide) (fun h10 => ?_) (fun h10 => ?_)
          · have hf := (if_pos h10).symm.trans hf
            refine lv_aload_n hx hb dX12_feed_75 rfl (lv_at hl 0 rfl) ?_
            refine va_get (D := D) (ci := 12) (C := RX12) (T := TX12) (N := 19) hx hb hts fwX12_feed_X12 hown hK hP 0 rfl rfl 7 (by decide) (hts _ (List.mem_of_getElem? (i := 1) rfl)) (fun _ h9 => h9) rfl dX12_feed_76 ?_
            obtain ⟨hi1, hi2⟩ := Prod.mk.inj (Option.some.inj hf)
            subst hi1
            subst hi2
            exact hret _ _ _ _ dX12_feed_79 rfl hP hS
          · have hf := (if_neg h10).symm.trans hf
            refine lv_aload_n hx hb dX12_feed_40 rfl (lv_at hl 0 rfl) ?_
            refine va_get (D := D) (ci := 12) (C := RX12) (T := TX12) (N := 19) hx hb hts fwX12_feed_X12 hown hK hP 0 rfl rfl 6 (by decide) (hts _ (List.mem_of_getElem? (i := 2) rfl)) (fun _ h9 => h9) rfl dX12_feed_41 ?_
            refine lv_aload_n hx hb dX12_feed_44 rfl (lv_at hl 0 rfl) ?_
            refine va_get (D := D) (ci := 12) (C := RX12) (T := TX12) (N := 19) hx hb hts fwX12_feed_X12 hown hK hP 0 rfl rfl 7 (by decide) (hts _ (List.mem_of_getElem? (i := 1) rfl)) (fun _ h9 => h9) rfl dX12_feed_45 ?_
            refine lv_iload_n hx hb dX12_feed_48 rfl (lv_at hl 1 rfl) ?_
            refine lv_bipush (v := 8) hx hb dX12_feed_49 (by decide) ?_
            refine lv_iload_n hx hb dX12_feed_51 rfl (lv_at hl 2 rfl) ?_
            refine lv_imul hx hb dX12_feed_52 ?_
            refine lv_ishr hx hb dX12_feed_53 ?_
            refine lv_sipush (v := 255) hx hb dX12_feed_54 (by decide) ?_
            refine lv_iand hx hb dX12_feed_57 ?_
            refine w_iast (wf := (wX12 cI cZ cS ad)) (cid := 5) hx hb hK hP hD hS 5 0 rfl rfl hf (fun _ => rfl) dX12_feed_58 (fun σ11 H locs hf hP hD hS => ?_)
            refine lv_aload_n hx hb dX12_feed_59 rfl (lv_at hl 0 rfl) ?_
            refine lv_dup hx hb dX12_feed_60 rfl ?_
            refine va_get (D := D) (ci := 12) (C := RX12) (T := TX12) (N := 19) hx hb hts fwX12_feed_X12 hown hK hP 0 rfl rfl 7 (by decide) (hts _ (List.mem_of_getElem? (i := 1) rfl)) (fun _ h9 => h9) rfl dX12_feed_61 ?_
            refine lv_iconst (v := 1) hx hb dX12_feed_64 (by decide) ?_
            refine lv_iadd hx hb dX12_feed_65 ?_
            refine w_put (D := D) (wf := (wX12 cI cZ cS ad)) (cid := 0) (ci := 12) (C := RX12) (T := TX12) (N := 19) hx hb hts fwX12_feed_X12 tyX12 tyX12_ok nmX12 hown hK hP hD hS 0 rfl rfl 7 (by decide) (hts _ (List.mem_of_getElem? (i := 1) rfl)) (fun _ h9 => h9) rfl (tyX12_ok 7 (by decide)) (Nat.le_of_ble_eq_true rfl) hf rfl dX12_feed_66 (fun σ12 H locs hf hP hD hS => ?_)
            refine lv_iinc (v := (x3_5 + (-1 : Int32))) (lv' := [(3, .int (x3_5 + (-1 : Int32))), (0, .ref (ad 0)), (1, .int a1)]) hx hb dX12_feed_69 hl (k := 2) rfl rfl (by decide) rfl (fun ls hl => ?_)
            refine lv_goto (tgt := 36) hx hb dX12_feed_72 (by decide) ?_
            exact ihz8 σ12 (x3_5 + (-1 : Int32)) _ _ _ hP hD hS (lv_sub hl [1, 2, 0] rfl) hf
      exact Lz8 q_fu σ x3_4 _ _ _ hP hD hS (lv_sub hl [1, 2, 0] rfl) hf
    · have hf := (if_neg h3).symm.trans hf
      refine lv_aload_n hx hb dX12_feed_26 rfl (lv_at hl 0 rfl) ?_
      refine lv_iconst (v := 1) hx hb dX12_feed_27 (by decide) ?_
      refine q_cVi (wf := (wX12 cI cZ cS ad)) (wc := wX12 cI cZ cS ad) (rest := []) ⟨hx, hb, hml, hown, hts⟩ hK hZ hA hP hD hS hf (fun x τ ho => kX12_finding l D cI cZ cS zz ad σ (1 : Int32) x τ ho) (cwV 1 hts gX12_feed_X12_finding rfl rfl rfl ndX12_finding ⟨Nat.le_of_ble_eq_true rfl, Nat.le_of_ble_eq_true rfl⟩) [0, 1, 2, 3, 4, 5, 6, 7, 8, 9, 10, 11] rfl rfl [some 0, some 1, some 2, some 3, some 4, some 5, some 6, some 7, some 8, some 9, some 10, some 11] (by decide +kernel) (Nat.le_of_ble_eq_true rfl) (fun _ => rfl) (fun _ => rfl) (fun _ => rfl) rfl rfl rfl rfl (hl.1) rfl (Nat.le_of_ble_eq_true rfl) dX12_feed_28 ⟨Nat.zero_le _, Nat.zero_le _⟩ (fun r14 σ13 H locs hf hP hD hS => ?_)
      obtain ⟨hi1, hi2⟩ := Prod.mk.inj (Option.some.inj hf)
      subst hi1
      subst hi2
      exact hret _ _ _ _ dX12_feed_31 rfl hP hS
  · have hf := (if_pos h2).symm.trans hf
    refine lv_aload_n hx hb dX12_feed_9 rfl (lv_at hl 0 rfl) ?_
    refine lv_iconst (v := 0) hx hb dX12_feed_10 (by decide) ?_
    refine q_cVi (wf := (wX12 cI cZ cS ad)) (wc := wX12 cI cZ cS ad) (rest := []) ⟨hx, hb, hml, hown, hts⟩ hK hZ hA hP hD hS hf (fun x τ ho => kX12_finding l D cI cZ cS zz ad σ (0 : Int32) x τ ho) (cwV 1 hts gX12_feed_X12_finding rfl rfl rfl ndX12_finding ⟨Nat.le_of_ble_eq_true rfl, Nat.le_of_ble_eq_true rfl⟩) [0, 1, 2, 3, 4, 5, 6, 7, 8, 9, 10, 11] rfl rfl [some 0, some 1, some 2, some 3, some 4, some 5, some 6, some 7, some 8, some 9, some 10, some 11] (by decide +kernel) (Nat.le_of_ble_eq_true rfl) (fun _ => rfl) (fun _ => rfl) (fun _ => rfl) rfl rfl rfl rfl (hl.1) rfl (Nat.le_of_ble_eq_true rfl) dX12_feed_11 ⟨Nat.zero_le _, Nat.zero_le _⟩ (fun r16 σ15 H locs hf hP hD hS => ?_)
    obtain ⟨hi1, hi2⟩ := Prod.mk.inj (Option.some.inj hf)
    subst hi1
    subst hi2
    exact hret _ _ _ _ dX12_feed_14 rfl hP hS
def pX12_wipe (σ : SS) : Option (Int32 × SS) := q_lt (σ 0 7) (fun x1_1 => q_lt (su σ 0 7 (0 : Int32)) (fun (σ2 : SS) => some (x1_1, σ2)))
theorem fwX12_wipe_X12 : ∀ w ∈ wsX120, w ∈ wsX12_wipe := fun _ h => List.mem_cons_of_mem _ (List.mem_append_right _ h)
abbrev rmX12_wipe : Room := { frames := 0, cells := 0, slots := 0, locals := 0 }
set_option maxHeartbeats 4000000 in
set_option maxRecDepth 100000 in
theorem kX12_wipe (l : Launch) (D : va_G) (cI cZ cS : ClassId) (zz : ZT) (ad : Nat → Nat) (σ : SS) (rr : Int32) (σr : SS) (hf : pX12_wipe σ = some (rr, σr)) : CI l yX12_wipe wsX12_wipe rmX12_wipe D (K3 cI cZ cS) zz [.ref (ad 0)] (wX12 cI cZ cS ad σ) (wX12 cI cZ cS ad σr) rr := by
  refine q_ofI (cc := cX12_wipe) (maxL := 2) (ty := .int) (by decide) rfl (Nat.le_of_ble_eq_true rfl) ?_
  intro p e s m below meth c Q A ls hx hb hml hown hts hK hZ hA hP hD hS hl hret
  have hl : lv_has ls 2 [(0, .ref (ad 0))] := hl
  unfold pX12_wipe at hf
  refine lv_aload_n hx hb dX12_wipe_0 rfl (lv_at hl 0 rfl) ?_
  refine va_get (D := D) (ci := 12) (C := RX12) (T := TX12) (N := 19) hx hb hts fwX12_wipe_X12 hown hK hP 0 rfl rfl 7 (by decide) (hts _ (List.mem_of_getElem? (i := 1) rfl)) (fun _ h9 => h9) rfl dX12_wipe_1 ?_
  refine lv_topi (fun x1_1 ex1_1 => ?_)
  have hf := q_lt_at ex1_1 hf
  refine lv_istore_n (lv' := [(1, .int x1_1), (0, .ref (ad 0))]) hx hb dX12_wipe_4 rfl hl (by decide) rfl (fun ls hl => ?_)
  refine lv_aload_n hx hb dX12_wipe_5 rfl (lv_at hl 1 rfl) ?_
  refine lv_iconst (v := 0) hx hb dX12_wipe_6 (by decide) ?_
  refine w_put (D := D) (wf := (wX12 cI cZ cS ad)) (cid := 0) (ci := 12) (C := RX12) (T := TX12) (N := 19) hx hb hts fwX12_wipe_X12 tyX12 tyX12_ok nmX12 hown hK hP hD hS 0 rfl rfl 7 (by decide) (hts _ (List.mem_of_getElem? (i := 1) rfl)) (fun _ h9 => h9) rfl (tyX12_ok 7 (by decide)) (Nat.le_of_ble_eq_true rfl) hf rfl dX12_wipe_7 (fun σ2 H locs hf hP hD hS => ?_)
  refine lv_iload_n hx hb dX12_wipe_10 rfl (lv_at hl 0 rfl) ?_
  obtain ⟨hi1, hi2⟩ := Prod.mk.inj (Option.some.inj hf)
  subst hi1
  subst hi2
  exact hret _ _ _ _ dX12_wipe_11 rfl hP hS
def pX12_byteAt (σ : SS) (a1 : Int32) : Option Int32 := q_lt (fun (y1 : Int32) => some y1) (fun j2 => (if (σ 0 7) ≤ a1 then j2 (-1 : Int32) else q_rd (σ 5) 100 a1 (fun (v4 : Int32) => j2 v4)))
theorem fwX12_byteAt_X12 : ∀ w ∈ wsX120, w ∈ wsX12_byteAt := fun _ h => List.mem_cons_of_mem _ (List.mem_append_right _ h)
abbrev rmX12_byteAt : Room := { frames := 0, cells := 0, slots := 0, locals := 0 }
set_option maxHeartbeats 4000000 in
set_option maxRecDepth 100000 in
theorem kX12_byteAt (l : Launch) (D : va_G) (cI cZ cS : ClassId) (zz : ZT) (ad : Nat → Nat) (σ : SS) (a1 : Int32) (rr : Int32) (hf : pX12_byteAt σ a1 = some rr) : CI l yX12_byteAt wsX12_byteAt rmX12_byteAt D (K3 cI cZ cS) zz [.ref (ad 0), .int a1] (wX12 cI cZ cS ad σ) (wX12 cI cZ cS ad σ) rr := by
  refine q_ofI (cc := cX12_byteAt) (maxL := 2) (ty := .int) (by decide) rfl (Nat.le_of_ble_eq_true rfl) ?_
  intro p e s m below meth c Q A ls hx hb hml hown hts hK hZ hA hP hD hS hl hret
  have hl : lv_has ls 2 [(0, .ref (ad 0)), (1, .int a1)] := hl
  unfold pX12_byteAt at hf
  refine lv_iload_n hx hb dX12_byteAt_0 rfl (lv_at hl 1 rfl) ?_
  refine lv_aload_n hx hb dX12_byteAt_1 rfl (lv_at hl 0 rfl) ?_
  refine va_get (D := D) (ci := 12) (C := RX12) (T := TX12) (N := 19) hx hb hts fwX12_byteAt_X12 hown hK hP 0 rfl rfl 7 (by decide) (hts _ (List.mem_of_getElem? (i := 1) rfl)) (fun _ h9 => h9) rfl dX12_byteAt_2 ?_
  refine q_lt_go hf (fun j2 ej2 hf => ?_)
  have Jj2 : ∀ (y1 : Int32) (H : Heap) (locs : List Loc) (ls : Array Slot), va_P D vwCl ((wX12 cI cZ cS ad) σ) H → va_D A ((wX12 cI cZ cS ad) σ) → va_S A s.heap H locs → lv_has ls 2 [] → j2 y1 = some rr → W p l e rmX12_byteAt s m ([.ref (ad 0), .int a1] : List Value).toArray below meth c H locs 0 0 Q (F0 m 18 ls [.int y1]) := by
    intro y1 H locs ls hP hD hS hl hf
    have hf := (congrFun ej2 y1).symm.trans hf
    have hi1 := Option.some.inj hf
    subst hi1
    exact hret _ _ _ _ dX12_byteAt_18 rfl hP hS
  refine lv_icmp_ge (tgt := 17) hx hb dX12_byteAt_5 (by decide) (fun h3 => ?_) (fun h3 => ?_)
  · have hf := (if_pos h3).symm.trans hf
    refine lv_iconst (v := -1) hx hb dX12_byteAt_17 (by decide) ?_
    exact Jj2 (-1 : Int32) _ _ _ hP hD hS (lv_sub hl [] rfl) hf
  · have hf := (if_neg h3).symm.trans hf
    refine lv_aload_n hx hb dX12_byteAt_8 rfl (lv_at hl 0 rfl) ?_
    refine va_get (D := D) (ci := 12) (C := RX12) (T := TX12) (N := 19) hx hb hts fwX12_byteAt_X12 hown hK hP 0 rfl rfl 6 (by decide) (hts _ (List.mem_of_getElem? (i := 2) rfl)) (fun _ h9 => h9) rfl dX12_byteAt_9 ?_
    refine lv_iload_n hx hb dX12_byteAt_12 rfl (lv_at hl 1 rfl) ?_
    refine w_iald (wf := (wX12 cI cZ cS ad)) hx hb hK hP 5 0 rfl rfl hf dX12_byteAt_13 (fun v4 hf => ?_)
    refine lv_goto (tgt := 18) hx hb dX12_byteAt_14 (by decide) ?_
    exact Jj2 v4 _ _ _ hP hD hS (lv_sub hl [] rfl) hf
def pX12_next (σ : SS) : Option SS := q_lp (fun _ => none) (fun (c2 : SS → Option SS) (σ1 : SS) => q_cr (pX12_byteAt σ1 (σ1 0 8)) (fun (r5 : Int32) => (if r5 = (32 : Int32) then q_lt (su σ1 0 8 ((σ1 0 8) + (1 : Int32))) (fun (σ46 : SS) => c2 σ46) else q_lt (su σ1 0 10 (σ1 0 8)) (fun (σ7 : SS) => q_cr (pX12_byteAt σ7 (σ7 0 8)) (fun (r8 : Int32) => q_lt (fun (σ9 : SS) => some σ9) (fun j10 => (if (0 : Int32) ≤ r8 then q_cr (pX12_in r8 (97 : Int32) (122 : Int32)) (fun (r12 : Int32) => (if r12 = (0 : Int32) then q_cr (pX12_in r8 (48 : Int32) (57 : Int32)) (fun (r14 : Int32) => (if r14 = (0 : Int32) then q_lt (fun (y16 : Int32) => q_lt (su σ7 0 9 y16) (fun (σ18 : SS) => q_lt (su σ18 0 8 ((σ18 0 8) + (1 : Int32))) (fun (σ19 : SS) => j10 σ19))) (fun j17 => (if r8 = (59 : Int32) then j17 (3 : Int32) else j17 (4 : Int32))) else q_lt (su σ7 0 9 (2 : Int32)) (fun (σ21 : SS) => q_lt (su σ21 0 11 (0 : Int32)) (fun (σ22 : SS) => q_lp (fun _ => none) (fun (c24 : SS → Option SS) (σ23 : SS) => q_cr (pX12_byteAt σ23 (σ23 0 8)) (fun (r27 : Int32) => q_cr (pX12_in r27 (48 : Int32) (57 : Int32)) (fun (r28 : Int32) => (if r28 = (0 : Int32) then j10 σ23 else q_lt (fun (y30 : Int32) => q_lt (su σ23 0 11 y30) (fun (σ32 : SS) => q_lt (su σ32 0 8 ((σ32 0 8) + (1 : Int32))) (fun (σ33 : SS) => c24 σ33))) (fun j31 => (if (σ23 0 11) ≤ (999 : Int32) then q_cr (pX12_byteAt σ23 (σ23 0 8)) (fun (r35 : Int32) => j31 ((((10 : Int32) * (σ23 0 11)) + r35) - (48 : Int32))) else j31 (σ23 0 11))))))) q_fu σ22)))) else q_lt (su σ7 0 9 (1 : Int32)) (fun (σ36 : SS) => q_lp (fun _ => none) (fun (c38 : SS → Option SS) (σ37 : SS) => q_cr (pX12_byteAt σ37 (σ37 0 8)) (fun (r41 : Int32) => q_cr (pX12_in r41 (97 : Int32) (122 : Int32)) (fun (r42 : Int32) => (if r42 = (0 : Int32) then j10 σ37 else q_lt (su σ37 0 8 ((σ37 0 8) + (1 : Int32))) (fun (σ44 : SS) => c38 σ44))))) q_fu σ36))) else q_lt (su σ7 0 9 (0 : Int32)) (fun (σ45 : SS) => j10 σ45)))))))) q_fu σ
theorem fwX12_next_X12 : ∀ w ∈ wsX120, w ∈ wsX12_next := fun _ h => List.mem_cons_of_mem _ (List.mem_append_right _ h)
abbrev rmX12_next : Room := { frames := 1, cells := 0, slots := 0, locals := 22 }
set_option maxHeartbeats 4000000 in
set_option maxRecDepth 100000 in
theorem kX12_next (l : Launch) (D : va_G) (cI cZ cS : ClassId) (zz : ZT) (ad : Nat → Nat) (σ : SS) (σr : SS) (hf : pX12_next σ = some σr) : CV l yX12_next wsX12_next rmX12_next D (K3 cI cZ cS) zz [.ref (ad 0)] (wX12 cI cZ cS ad σ) (wX12 cI cZ cS ad σr) := by
  refine q_ofV (cc := cX12_next) (maxL := 2) (by decide) rfl (Nat.le_of_ble_eq_true rfl) ?_
  intro p e s m below meth c Q A ls hx hb hml hown hts hK hZ hA hP hD hS hl hret
  have hl : lv_has ls 2 [(0, .ref (ad 0))] := hl
  unfold pX12_next at hf
  refine q_lp_go (f := fun (zf : SS → Option SS) => zf σ) hf (fun z3 ez3 hf => ?_)
  have Lz3 : ∀ (n4 : Nat) (σ1 : SS) (H : Heap) (locs : List Loc) (ls : Array Slot), va_P D vwCl ((wX12 cI cZ cS ad) σ1) H → va_D A ((wX12 cI cZ cS ad) σ1) → va_S A s.heap H locs → lv_has ls 2 [(0, .ref (ad 0))] → q_lp (fun _ => none) z3 n4 σ1 = some σr → W p l e rmX12_next s m ([.ref (ad 0)] : List Value).toArray below meth c H locs 0 0 Q (F0 m 0 ls []) := by
    intro n4
    induction n4 with
    | zero => exact fun _ _ _ _ _ _ _ _ hf => q_no hf
    | succ n4 ihz3 =>
      intro σ1 H locs ls hP hD hS hl hf
      have hf := (congrFun (congrFun ez3 (q_lp (fun _ => none) z3 n4)) σ1).symm.trans hf
      refine lv_aload_n hx hb dX12_next_0 rfl (lv_at hl 0 rfl) ?_
      refine lv_aload_n hx hb dX12_next_1 rfl (lv_at hl 0 rfl) ?_
      refine va_get (D := D) (ci := 12) (C := RX12) (T := TX12) (N := 19) hx hb hts fwX12_next_X12 hown hK hP 0 rfl rfl 8 (by decide) (hts _ (List.mem_of_getElem? (i := 1) rfl)) (fun _ h9 => h9) rfl dX12_next_2 ?_
      refine q_cVr (wf := (wX12 cI cZ cS ad)) (wc := wX12 cI cZ cS ad) (rest := []) ⟨hx, hb, hml, hown, hts⟩ hK hZ hA hP hD hS hf (fun x ho => kX12_byteAt l D cI cZ cS zz ad σ1 (σ1 0 8) x ho) (cwV 1 hts gX12_next_X12_byteAt rfl rfl rfl ndX12_byteAt ⟨Nat.le_of_ble_eq_true rfl, Nat.le_of_ble_eq_true rfl⟩) [0, 1, 2, 3, 4, 5, 6, 7, 8, 9, 10, 11] rfl rfl rfl rfl rfl rfl (hl.1) rfl (Nat.le_of_ble_eq_true rfl) dX12_next_5 ⟨Nat.zero_le _, Nat.zero_le _⟩ (fun r5 H locs hf hP hD hS => ?_)
      refine lv_bipush (v := 32) hx hb dX12_next_8 (by decide) ?_
      refine lv_icmp_ne (tgt := 26) hx hb dX12_next_10 (by decide) (fun h6 => ?_) (fun h6 => ?_)
      · have hf := (if_neg h6).symm.trans hf
        refine lv_aload_n hx hb dX12_next_26 rfl (lv_at hl 0 rfl) ?_
        refine lv_aload_n hx hb dX12_next_27 rfl (lv_at hl 0 rfl) ?_
        refine va_get (D := D) (ci := 12) (C := RX12) (T := TX12) (N := 19) hx hb hts fwX12_next_X12 hown hK hP 0 rfl rfl 8 (by decide) (hts _ (List.mem_of_getElem? (i := 1) rfl)) (fun _ h9 => h9) rfl dX12_next_28 ?_
        refine w_put (D := D) (wf := (wX12 cI cZ cS ad)) (cid := 0) (ci := 12) (C := RX12) (T := TX12) (N := 19) hx hb hts fwX12_next_X12 tyX12 tyX12_ok nmX12 hown hK hP hD hS 0 rfl rfl 10 (by decide) (hts _ (List.mem_of_getElem? (i := 2) rfl)) (fun _ h9 => h9) rfl (tyX12_ok 10 (by decide)) (Nat.le_of_ble_eq_true rfl) hf rfl dX12_next_31 (fun σ7 H locs hf hP hD hS => ?_)
        refine lv_aload_n hx hb dX12_next_34 rfl (lv_at hl 0 rfl) ?_
        refine lv_aload_n hx hb dX12_next_35 rfl (lv_at hl 0 rfl) ?_
        refine va_get (D := D) (ci := 12) (C := RX12) (T := TX12) (N := 19) hx hb hts fwX12_next_X12 hown hK hP 0 rfl rfl 8 (by decide) (hts _ (List.mem_of_getElem? (i := 1) rfl)) (fun _ h9 => h9) rfl dX12_next_36 ?_
        refine q_cVr (wf := (wX12 cI cZ cS ad)) (wc := wX12 cI cZ cS ad) (rest := []) ⟨hx, hb, hml, hown, hts⟩ hK hZ hA hP hD hS hf (fun x ho => kX12_byteAt l D cI cZ cS zz ad σ7 (σ7 0 8) x ho) (cwV 1 hts gX12_next_X12_byteAt rfl rfl rfl ndX12_byteAt ⟨Nat.le_of_ble_eq_true rfl, Nat.le_of_ble_eq_true rfl⟩) [0, 1, 2, 3, 4, 5, 6, 7, 8, 9, 10, 11] rfl rfl rfl rfl rfl rfl (hl.1) rfl (Nat.le_of_ble_eq_true rfl) dX12_next_39 ⟨Nat.zero_le _, Nat.zero_le _⟩ (fun r8 H locs hf hP hD hS => ?_)
        refine lv_istore_n (lv' := [(1, .int r8), (0, .ref (ad 0))]) hx hb dX12_next_42 rfl hl (by decide) rfl (fun ls hl => ?_)
        refine lv_iload_n hx hb dX12_next_43 rfl (lv_at hl 0 rfl) ?_
        refine q_lt_go hf (fun j10 ej10 hf => ?_)
        have Jj10 : ∀ (σ9 : SS) (H : Heap) (locs : List Loc) (ls : Array Slot), va_P D vwCl ((wX12 cI cZ cS ad) σ9) H → va_D A ((wX12 cI cZ cS ad) σ9) → va_S A s.heap H locs → lv_has ls 2 [] → j10 σ9 = some σr → W p l e rmX12_next s m ([.ref (ad 0)] : List Value).toArray below meth c H locs 0 0 Q (F0 m 219 ls []) := by
          intro σ9 H locs ls hP hD hS hl hf
          have hf := (congrFun ej10 σ9).symm.trans hf
          have hi1 := Option.some.inj hf
          subst hi1
          exact hret _ _ _ _ dX12_next_219 hP hS
        refine lv_if_ge (tgt := 55) hx hb dX12_next_44 (by decide) (fun h11 => ?_) (fun h11 => ?_)
        · have hf := (if_pos h11).symm.trans hf
          refine lv_iload_n hx hb dX12_next_55 rfl (lv_at hl 0 rfl) ?_
          refine lv_bipush (v := 97) hx hb dX12_next_56 (by decide) ?_
          refine lv_bipush (v := 122) hx hb dX12_next_58 (by decide) ?_
          refine q_cSr (wf := (wX12 cI cZ cS ad)) (rest := []) ⟨hx, hb, hml, hown, hts⟩ hK hZ hA hP hD hS hf (fun x ho => kX12_in l D cI cZ cS zz r8 (97 : Int32) (122 : Int32) x ho) (va_cwS 3 hts gX12_next_X12_in rfl rfl rfl ndX12_in.2 ⟨Nat.le_of_ble_eq_true rfl, Nat.le_of_ble_eq_true rfl⟩) rfl (hl.1) rfl (Nat.le_of_ble_eq_true rfl) dX12_next_60 ⟨Nat.zero_le _, Nat.zero_le _⟩ (fun r12 H locs hf hP hD hS => ?_)
          refine lv_if_eq (tgt := 102) hx hb dX12_next_63 (by decide) (fun h13 => ?_) (fun h13 => ?_)
          · have hf := (if_pos h13).symm.trans hf
            refine lv_iload_n hx hb dX12_next_102 rfl (lv_at hl 0 rfl) ?_
            refine lv_bipush (v := 48) hx hb dX12_next_103 (by decide) ?_
            refine lv_bipush (v := 57) hx hb dX12_next_105 (by decide) ?_
            refine q_cSr (wf := (wX12 cI cZ cS ad)) (rest := []) ⟨hx, hb, hml, hown, hts⟩ hK hZ hA hP hD hS hf (fun x ho => kX12_in l D cI cZ cS zz r8 (48 : Int32) (57 : Int32) x ho) (va_cwS 3 hts gX12_next_X12_in rfl rfl rfl ndX12_in.2 ⟨Nat.le_of_ble_eq_true rfl, Nat.le_of_ble_eq_true rfl⟩) rfl (hl.1) rfl (Nat.le_of_ble_eq_true rfl) dX12_next_107 ⟨Nat.zero_le _, Nat.zero_le _⟩ (fun r14 H locs hf hP hD hS => ?_)
            refine lv_if_eq (tgt := 194) hx hb dX12_next_110 (by decide) (fun h15 => ?_) (fun h15 => ?_)
            · have hf := (if_pos h15).symm.trans hf
              refine lv_aload_n hx hb dX12_next_194 rfl (lv_at hl 1 rfl) ?_
              refine lv_iload_n hx hb dX12_next_195 rfl (lv_at hl 0 rfl) ?_
              refine lv_bipush (v := 59) hx hb dX12_next_196 (by decide) ?_
              refine q_lt_go hf (fun j17 ej17 hf => ?_)
              have Jj17 : ∀ (y16 : Int32) (H : Heap) (locs : List Loc) (ls : Array Slot), va_P D vwCl ((wX12 cI cZ cS ad) σ7) H → va_D A ((wX12 cI cZ cS ad) σ7) → va_S A s.heap H locs → lv_has ls 2 [(0, .ref (ad 0))] → j17 y16 = some σr → W p l e rmX12_next s m ([.ref (ad 0)] : List Value).toArray below meth c H locs 0 0 Q (F0 m 206 ls [.int y16, .ref (ad 0)]) := by
                intro y16 H locs ls hP hD hS hl hf
                have hf := (congrFun ej17 y16).symm.trans hf
                refine w_put (D := D) (wf := (wX12 cI cZ cS ad)) (cid := 0) (ci := 12) (C := RX12) (T := TX12) (N := 19) hx hb hts fwX12_next_X12 tyX12 tyX12_ok nmX12 hown hK hP hD hS 0 rfl rfl 9 (by decide) (hts _ (List.mem_of_getElem? (i := 3) rfl)) (fun _ h9 => h9) rfl (tyX12_ok 9 (by decide)) (Nat.le_of_ble_eq_true rfl) hf rfl dX12_next_206 (fun σ18 H locs hf hP hD hS => ?_)
                refine lv_aload_n hx hb dX12_next_209 rfl (lv_at hl 0 rfl) ?_
                refine lv_dup hx hb dX12_next_210 rfl ?_
                refine va_get (D := D) (ci := 12) (C := RX12) (T := TX12) (N := 19) hx hb hts fwX12_next_X12 hown hK hP 0 rfl rfl 8 (by decide) (hts _ (List.mem_of_getElem? (i := 1) rfl)) (fun _ h9 => h9) rfl dX12_next_211 ?_
                refine lv_iconst (v := 1) hx hb dX12_next_214 (by decide) ?_
                refine lv_iadd hx hb dX12_next_215 ?_
                refine w_put (D := D) (wf := (wX12 cI cZ cS ad)) (cid := 0) (ci := 12) (C := RX12) (T := TX12) (N := 19) hx hb hts fwX12_next_X12 tyX12 tyX12_ok nmX12 hown hK hP hD hS 0 rfl rfl 8 (by decide) (hts _ (List.mem_of_getElem? (i := 1) rfl)) (fun _ h9 => h9) rfl (tyX12_ok 8 (by decide)) (Nat.le_of_ble_eq_true rfl) hf rfl dX12_next_216 (fun σ19 H locs hf hP hD hS => ?_)
                exact Jj10 σ19 _ _ _ hP hD hS (lv_sub hl [] rfl) hf
              refine lv_icmp_ne (tgt := 205) hx hb dX12_next_198 (by decide) (fun h20 => ?_) (fun h20 => ?_)
              · have hf := (if_neg h20).symm.trans hf
                refine lv_iconst (v := 4) hx hb dX12_next_205 (by decide) ?_
                exact Jj17 (4 : Int32) _ _ _ hP hD hS (lv_sub hl [1] rfl) hf
              · have hf := (if_pos h20).symm.trans hf
                refine lv_iconst (v := 3) hx hb dX12_next_201 (by decide) ?_
                refine lv_goto (tgt := 206) hx hb dX12_next_202 (by decide) ?_
                exact Jj17 (3 : Int32) _ _ _ hP hD hS (lv_sub hl [1] rfl) hf
            · have hf := (if_neg h15).symm.trans hf
              refine lv_aload_n hx hb dX12_next_113 rfl (lv_at hl 1 rfl) ?_
              refine lv_iconst (v := 2) hx hb dX12_next_114 (by decide) ?_
              refine w_put (D := D) (wf := (wX12 cI cZ cS ad)) (cid := 0) (ci := 12) (C := RX12) (T := TX12) (N := 19) hx hb hts fwX12_next_X12 tyX12 tyX12_ok nmX12 hown hK hP hD hS 0 rfl rfl 9 (by decide) (hts _ (List.mem_of_getElem? (i := 3) rfl)) (fun _ h9 => h9) rfl (tyX12_ok 9 (by decide)) (Nat.le_of_ble_eq_true rfl) hf rfl dX12_next_115 (fun σ21 H locs hf hP hD hS => ?_)
              refine lv_aload_n hx hb dX12_next_118 rfl (lv_at hl 1 rfl) ?_
              refine lv_iconst (v := 0) hx hb dX12_next_119 (by decide) ?_
              refine w_put (D := D) (wf := (wX12 cI cZ cS ad)) (cid := 0) (ci := 12) (C := RX12) (T := TX12) (N := 19) hx hb hts fwX12_next_X12 tyX12 tyX12_ok nmX12 hown hK hP hD hS 0 rfl rfl 11 (by decide) (hts _ (List.mem_of_getElem? (i := 4) rfl)) (fun _ h9 => h9) rfl (tyX12_ok 11 (by decide)) (Nat.le_of_ble_eq_true rfl) hf rfl dX12_next_120 (fun σ22 H locs hf hP hD hS => ?_)
              refine q_lp_go (f := fun (zf : SS → Option SS) => zf σ22) hf (fun z25 ez25 hf => ?_)
              have Lz25 : ∀ (n26 : Nat) (σ23 : SS) (H : Heap) (locs : List Loc) (ls : Array Slot), va_P D vwCl ((wX12 cI cZ cS ad) σ23) H → va_D A ((wX12 cI cZ cS ad) σ23) → va_S A s.heap H locs → lv_has ls 2 [(0, .ref (ad 0))] → q_lp (fun _ => none) z25 n26 σ23 = some σr → W p l e rmX12_next s m ([.ref (ad 0)] : List Value).toArray below meth c H locs 0 0 Q (F0 m 123 ls []) := by
                intro n26
                induction n26 with
                | zero => exact fun _ _ _ _ _ _ _ _ hf => q_no hf
                | succ n26 ihz25 =>
                  intro σ23 H locs ls hP hD hS hl hf
                  have hf := (congrFun (congrFun ez25 (q_lp (fun _ => none) z25 n26)) σ23).symm.trans hf
                  refine lv_aload_n hx hb dX12_next_123 rfl (lv_at hl 0 rfl) ?_
                  refine lv_aload_n hx hb dX12_next_124 rfl (lv_at hl 0 rfl) ?_
                  refine va_get (D := D) (ci := 12) (C := RX12) (T := TX12) (N := 19) hx hb hts fwX12_next_X12 hown hK hP 0 rfl rfl 8 (by decide) (hts _ (List.mem_of_getElem? (i := 1) rfl)) (fun _ h9 => h9) rfl dX12_next_125 ?_
                  refine q_cVr (wf := (wX12 cI cZ cS ad)) (wc := wX12 cI cZ cS ad) (rest := []) ⟨hx, hb, hml, hown, hts⟩ hK hZ hA hP hD hS hf (fun x ho => kX12_byteAt l D cI cZ cS zz ad σ23 (σ23 0 8) x ho) (cwV 1 hts gX12_next_X12_byteAt rfl rfl rfl ndX12_byteAt ⟨Nat.le_of_ble_eq_true rfl, Nat.le_of_ble_eq_true rfl⟩) [0, 1, 2, 3, 4, 5, 6, 7, 8, 9, 10, 11] rfl rfl rfl rfl rfl rfl (hl.1) rfl (Nat.le_of_ble_eq_true rfl) dX12_next_128 ⟨Nat.zero_le _, Nat.zero_le _⟩ (fun r27 H locs hf hP hD hS => ?_)
                  refine lv_bipush (v := 48) hx hb dX12_next_131 (by decide) ?_
                  refine lv_bipush (v := 57) hx hb dX12_next_133 (by decide) ?_
                  refine q_cSr (wf := (wX12 cI cZ cS ad)) (rest := []) ⟨hx, hb, hml, hown, hts⟩ hK hZ hA hP hD hS hf (fun x ho => kX12_in l D cI cZ cS zz r27 (48 : Int32) (57 : Int32) x ho) (va_cwS 3 hts gX12_next_X12_in rfl rfl rfl ndX12_in.2 ⟨Nat.le_of_ble_eq_true rfl, Nat.le_of_ble_eq_true rfl⟩) rfl (hl.1) rfl (Nat.le_of_ble_eq_true rfl) dX12_next_135 ⟨Nat.zero_le _, Nat.zero_le _⟩ (fun r28 H locs hf hP hD hS => ?_)
                  refine lv_if_eq (tgt := 219) hx hb dX12_next_138 (by decide) (fun h29 => ?_) (fun h29 => ?_)
                  · have hf := (if_pos h29).symm.trans hf
                    exact Jj10 σ23 _ _ _ hP hD hS (lv_sub hl [] rfl) hf
                  · have hf := (if_neg h29).symm.trans hf
                    refine lv_aload_n hx hb dX12_next_141 rfl (lv_at hl 0 rfl) ?_
                    refine lv_aload_n hx hb dX12_next_142 rfl (lv_at hl 0 rfl) ?_
                    refine va_get (D := D) (ci := 12) (C := RX12) (T := TX12) (N := 19) hx hb hts fwX12_next_X12 hown hK hP 0 rfl rfl 11 (by decide) (hts _ (List.mem_of_getElem? (i := 4) rfl)) (fun _ h9 => h9) rfl dX12_next_143 ?_
                    refine lv_sipush (v := 999) hx hb dX12_next_146 (by decide) ?_
                    refine q_lt_go hf (fun j31 ej31 hf => ?_)
                    have Jj31 : ∀ (y30 : Int32) (H : Heap) (locs : List Loc) (ls : Array Slot), va_P D vwCl ((wX12 cI cZ cS ad) σ23) H → va_D A ((wX12 cI cZ cS ad) σ23) → va_S A s.heap H locs → lv_has ls 2 [(0, .ref (ad 0))] → j31 y30 = some σr → W p l e rmX12_next s m ([.ref (ad 0)] : List Value).toArray below meth c H locs 0 0 Q (F0 m 178 ls [.int y30, .ref (ad 0)]) := by
                      intro y30 H locs ls hP hD hS hl hf
                      have hf := (congrFun ej31 y30).symm.trans hf
                      refine w_put (D := D) (wf := (wX12 cI cZ cS ad)) (cid := 0) (ci := 12) (C := RX12) (T := TX12) (N := 19) hx hb hts fwX12_next_X12 tyX12 tyX12_ok nmX12 hown hK hP hD hS 0 rfl rfl 11 (by decide) (hts _ (List.mem_of_getElem? (i := 4) rfl)) (fun _ h9 => h9) rfl (tyX12_ok 11 (by decide)) (Nat.le_of_ble_eq_true rfl) hf rfl dX12_next_178 (fun σ32 H locs hf hP hD hS => ?_)
                      refine lv_aload_n hx hb dX12_next_181 rfl (lv_at hl 0 rfl) ?_
                      refine lv_dup hx hb dX12_next_182 rfl ?_
                      refine va_get (D := D) (ci := 12) (C := RX12) (T := TX12) (N := 19) hx hb hts fwX12_next_X12 hown hK hP 0 rfl rfl 8 (by decide) (hts _ (List.mem_of_getElem? (i := 1) rfl)) (fun _ h9 => h9) rfl dX12_next_183 ?_
                      refine lv_iconst (v := 1) hx hb dX12_next_186 (by decide) ?_
                      refine lv_iadd hx hb dX12_next_187 ?_
                      refine w_put (D := D) (wf := (wX12 cI cZ cS ad)) (cid := 0) (ci := 12) (C := RX12) (T := TX12) (N := 19) hx hb hts fwX12_next_X12 tyX12 tyX12_ok nmX12 hown hK hP hD hS 0 rfl rfl 8 (by decide) (hts _ (List.mem_of_getElem? (i := 1) rfl)) (fun _ h9 => h9) rfl (tyX12_ok 8 (by decide)) (Nat.le_of_ble_eq_true rfl) hf rfl dX12_next_188 (fun σ33 H locs hf hP hD hS => ?_)
                      refine lv_goto (tgt := 123) hx hb dX12_next_191 (by decide) ?_
                      exact ihz25 σ33 _ _ _ hP hD hS (lv_sub hl [0] rfl) hf
                    refine lv_icmp_le (tgt := 159) hx hb dX12_next_149 (by decide) (fun h34 => ?_) (fun h34 => ?_)
                    · have hf := (if_pos h34).symm.trans hf
                      refine lv_bipush (v := 10) hx hb dX12_next_159 (by decide) ?_
                      refine lv_aload_n hx hb dX12_next_161 rfl (lv_at hl 0 rfl) ?_
                      refine va_get (D := D) (ci := 12) (C := RX12) (T := TX12) (N := 19) hx hb hts fwX12_next_X12 hown hK hP 0 rfl rfl 11 (by decide) (hts _ (List.mem_of_getElem? (i := 4) rfl)) (fun _ h9 => h9) rfl dX12_next_162 ?_
                      refine lv_imul hx hb dX12_next_165 ?_
                      refine lv_aload_n hx hb dX12_next_166 rfl (lv_at hl 0 rfl) ?_
                      refine lv_aload_n hx hb dX12_next_167 rfl (lv_at hl 0 rfl) ?_
                      refine va_get (D := D) (ci := 12) (C := RX12) (T := TX12) (N := 19) hx hb hts fwX12_next_X12 hown hK hP 0 rfl rfl 8 (by decide) (hts _ (List.mem_of_getElem? (i := 1) rfl)) (fun _ h9 => h9) rfl dX12_next_168 ?_
                      refine q_cVr (wf := (wX12 cI cZ cS ad)) (wc := wX12 cI cZ cS ad) (rest := [.int ((10 : Int32) * (σ23 0 11)), .ref (ad 0)]) ⟨hx, hb, hml, hown, hts⟩ hK hZ hA hP hD hS hf (fun x ho => kX12_byteAt l D cI cZ cS zz ad σ23 (σ23 0 8) x ho) (cwV 1 hts gX12_next_X12_byteAt rfl rfl rfl ndX12_byteAt ⟨Nat.le_of_ble_eq_true rfl, Nat.le_of_ble_eq_true rfl⟩) [0, 1, 2, 3, 4, 5, 6, 7, 8, 9, 10, 11] rfl rfl rfl rfl rfl rfl (hl.1) rfl (Nat.le_of_ble_eq_true rfl) dX12_next_171 ⟨Nat.zero_le _, Nat.zero_le _⟩ (fun r35 H locs hf hP hD hS => ?_)
                      refine lv_iadd hx hb dX12_next_174 ?_
                      refine lv_bipush (v := 48) hx hb dX12_next_175 (by decide) ?_
                      refine lv_isub hx hb dX12_next_177 ?_
                      exact Jj31 ((((10 : Int32) * (σ23 0 11)) + r35) - (48 : Int32)) _ _ _ hP hD hS (lv_sub hl [0] rfl) hf
                    · have hf := (if_neg h34).symm.trans hf
                      refine lv_aload_n hx hb dX12_next_152 rfl (lv_at hl 0 rfl) ?_
                      refine va_get (D := D) (ci := 12) (C := RX12) (T := TX12) (N := 19) hx hb hts fwX12_next_X12 hown hK hP 0 rfl rfl 11 (by decide) (hts _ (List.mem_of_getElem? (i := 4) rfl)) (fun _ h9 => h9) rfl dX12_next_153 ?_
                      refine lv_goto (tgt := 178) hx hb dX12_next_156 (by decide) ?_
                      exact Jj31 (σ23 0 11) _ _ _ hP hD hS (lv_sub hl [0] rfl) hf
              exact Lz25 q_fu σ22 _ _ _ hP hD hS (lv_sub hl [1] rfl) hf
          · have hf := (if_neg h13).symm.trans hf
            refine lv_aload_n hx hb dX12_next_66 rfl (lv_at hl 1 rfl) ?_
            refine lv_iconst (v := 1) hx hb dX12_next_67 (by decide) ?_
            refine w_put (D := D) (wf := (wX12 cI cZ cS ad)) (cid := 0) (ci := 12) (C := RX12) (T := TX12) (N := 19) hx hb hts fwX12_next_X12 tyX12 tyX12_ok nmX12 hown hK hP hD hS 0 rfl rfl 9 (by decide) (hts _ (List.mem_of_getElem? (i := 3) rfl)) (fun _ h9 => h9) rfl (tyX12_ok 9 (by decide)) (Nat.le_of_ble_eq_true rfl) hf rfl dX12_next_68 (fun σ36 H locs hf hP hD hS => ?_)
            refine q_lp_go (f := fun (zf : SS → Option SS) => zf σ36) hf (fun z39 ez39 hf => ?_)
            have Lz39 : ∀ (n40 : Nat) (σ37 : SS) (H : Heap) (locs : List Loc) (ls : Array Slot), va_P D vwCl ((wX12 cI cZ cS ad) σ37) H → va_D A ((wX12 cI cZ cS ad) σ37) → va_S A s.heap H locs → lv_has ls 2 [(0, .ref (ad 0))] → q_lp (fun _ => none) z39 n40 σ37 = some σr → W p l e rmX12_next s m ([.ref (ad 0)] : List Value).toArray below meth c H locs 0 0 Q (F0 m 71 ls []) := by
              intro n40
              induction n40 with
              | zero => exact fun _ _ _ _ _ _ _ _ hf => q_no hf
              | succ n40 ihz39 =>
                intro σ37 H locs ls hP hD hS hl hf
                have hf := (congrFun (congrFun ez39 (q_lp (fun _ => none) z39 n40)) σ37).symm.trans hf
                refine lv_aload_n hx hb dX12_next_71 rfl (lv_at hl 0 rfl) ?_
                refine lv_aload_n hx hb dX12_next_72 rfl (lv_at hl 0 rfl) ?_
                refine va_get (D := D) (ci := 12) (C := RX12) (T := TX12) (N := 19) hx hb hts fwX12_next_X12 hown hK hP 0 rfl rfl 8 (by decide) (hts _ (List.mem_of_getElem? (i := 1) rfl)) (fun _ h9 => h9) rfl dX12_next_73 ?_
                refine q_cVr (wf := (wX12 cI cZ cS ad)) (wc := wX12 cI cZ cS ad) (rest := []) ⟨hx, hb, hml, hown, hts⟩ hK hZ hA hP hD hS hf (fun x ho => kX12_byteAt l D cI cZ cS zz ad σ37 (σ37 0 8) x ho) (cwV 1 hts gX12_next_X12_byteAt rfl rfl rfl ndX12_byteAt ⟨Nat.le_of_ble_eq_true rfl, Nat.le_of_ble_eq_true rfl⟩) [0, 1, 2, 3, 4, 5, 6, 7, 8, 9, 10, 11] rfl rfl rfl rfl rfl rfl (hl.1) rfl (Nat.le_of_ble_eq_true rfl) dX12_next_76 ⟨Nat.zero_le _, Nat.zero_le _⟩ (fun r41 H locs hf hP hD hS => ?_)
                refine lv_bipush (v := 97) hx hb dX12_next_79 (by decide) ?_
                refine lv_bipush (v := 122) hx hb dX12_next_81 (by decide) ?_
                refine q_cSr (wf := (wX12 cI cZ cS ad)) (rest := []) ⟨hx, hb, hml, hown, hts⟩ hK hZ hA hP hD hS hf (fun x ho => kX12_in l D cI cZ cS zz r41 (97 : Int32) (122 : Int32) x ho) (va_cwS 3 hts gX12_next_X12_in rfl rfl rfl ndX12_in.2 ⟨Nat.le_of_ble_eq_true rfl, Nat.le_of_ble_eq_true rfl⟩) rfl (hl.1) rfl (Nat.le_of_ble_eq_true rfl) dX12_next_83 ⟨Nat.zero_le _, Nat.zero_le _⟩ (fun r42 H locs hf hP hD hS => ?_)
                refine lv_if_eq (tgt := 219) hx hb dX12_next_86 (by decide) (fun h43 => ?_) (fun h43 => ?_)
                · have hf := (if_pos h43).symm.trans hf
                  exact Jj10 σ37 _ _ _ hP hD hS (lv_sub hl [] rfl) hf
                · have hf := (if_neg h43).symm.trans hf
                  refine lv_aload_n hx hb dX12_next_89 rfl (lv_at hl 0 rfl) ?_
                  refine lv_dup hx hb dX12_next_90 rfl ?_
                  refine va_get (D := D) (ci := 12) (C := RX12) (T := TX12) (N := 19) hx hb hts fwX12_next_X12 hown hK hP 0 rfl rfl 8 (by decide) (hts _ (List.mem_of_getElem? (i := 1) rfl)) (fun _ h9 => h9) rfl dX12_next_91 ?_
                  refine lv_iconst (v := 1) hx hb dX12_next_94 (by decide) ?_
                  refine lv_iadd hx hb dX12_next_95 ?_
                  refine w_put (D := D) (wf := (wX12 cI cZ cS ad)) (cid := 0) (ci := 12) (C := RX12) (T := TX12) (N := 19) hx hb hts fwX12_next_X12 tyX12 tyX12_ok nmX12 hown hK hP hD hS 0 rfl rfl 8 (by decide) (hts _ (List.mem_of_getElem? (i := 1) rfl)) (fun _ h9 => h9) rfl (tyX12_ok 8 (by decide)) (Nat.le_of_ble_eq_true rfl) hf rfl dX12_next_96 (fun σ44 H locs hf hP hD hS => ?_)
                  refine lv_goto (tgt := 71) hx hb dX12_next_99 (by decide) ?_
                  exact ihz39 σ44 _ _ _ hP hD hS (lv_sub hl [0] rfl) hf
            exact Lz39 q_fu σ36 _ _ _ hP hD hS (lv_sub hl [1] rfl) hf
        · have hf := (if_neg h11).symm.trans hf
          refine lv_aload_n hx hb dX12_next_47 rfl (lv_at hl 1 rfl) ?_
          refine lv_iconst (v := 0) hx hb dX12_next_48 (by decide) ?_
          refine w_put (D := D) (wf := (wX12 cI cZ cS ad)) (cid := 0) (ci := 12) (C := RX12) (T := TX12) (N := 19) hx hb hts fwX12_next_X12 tyX12 tyX12_ok nmX12 hown hK hP hD hS 0 rfl rfl 9 (by decide) (hts _ (List.mem_of_getElem? (i := 3) rfl)) (fun _ h9 => h9) rfl (tyX12_ok 9 (by decide)) (Nat.le_of_ble_eq_true rfl) hf rfl dX12_next_49 (fun σ45 H locs hf hP hD hS => ?_)
          refine lv_goto (tgt := 219) hx hb dX12_next_52 (by decide) ?_
          exact Jj10 σ45 _ _ _ hP hD hS (lv_sub hl [] rfl) hf
      · have hf := (if_pos h6).symm.trans hf
        refine lv_aload_n hx hb dX12_next_13 rfl (lv_at hl 0 rfl) ?_
        refine lv_dup hx hb dX12_next_14 rfl ?_
        refine va_get (D := D) (ci := 12) (C := RX12) (T := TX12) (N := 19) hx hb hts fwX12_next_X12 hown hK hP 0 rfl rfl 8 (by decide) (hts _ (List.mem_of_getElem? (i := 1) rfl)) (fun _ h9 => h9) rfl dX12_next_15 ?_
        refine lv_iconst (v := 1) hx hb dX12_next_18 (by decide) ?_
        refine lv_iadd hx hb dX12_next_19 ?_
        refine w_put (D := D) (wf := (wX12 cI cZ cS ad)) (cid := 0) (ci := 12) (C := RX12) (T := TX12) (N := 19) hx hb hts fwX12_next_X12 tyX12 tyX12_ok nmX12 hown hK hP hD hS 0 rfl rfl 8 (by decide) (hts _ (List.mem_of_getElem? (i := 1) rfl)) (fun _ h9 => h9) rfl (tyX12_ok 8 (by decide)) (Nat.le_of_ble_eq_true rfl) hf rfl dX12_next_20 (fun σ46 H locs hf hP hD hS => ?_)
        refine lv_goto (tgt := 0) hx hb dX12_next_23 (by decide) ?_
        exact ihz3 σ46 _ _ _ hP hD hS (lv_sub hl [0] rfl) hf
  exact Lz3 q_fu σ _ _ _ hP hD hS (lv_sub hl [0] rfl) hf
def pX12_lays (σ : SS) (a1 : Int32) (a2 : Int32) : Option SS := q_wr σ 6 26 ((2 : Int32) * (σ 0 13)) a1 (fun (σ1 : SS) => q_wr σ1 6 26 (((2 : Int32) * (σ1 0 13)) + (1 : Int32)) a2 (fun (σ2 : SS) => q_lt (su σ2 0 13 ((σ2 0 13) + (1 : Int32))) (fun (σ3 : SS) => some σ3)))
theorem fwX12_lays_X12 : ∀ w ∈ wsX120, w ∈ wsX12_lays := fun _ h => List.mem_cons_of_mem _ (List.mem_append_right _ h)
abbrev rmX12_lays : Room := { frames := 0, cells := 0, slots := 0, locals := 0 }
set_option maxHeartbeats 4000000 in
set_option maxRecDepth 100000 in
theorem kX12_lays (l : Launch) (D : va_G) (cI cZ cS : ClassId) (zz : ZT) (ad : Nat → Nat) (σ : SS) (a1 : Int32) (a2 : Int32) (σr : SS) (hf : pX12_lays σ a1 a2 = some σr) : CV l yX12_lays wsX12_lays rmX12_lays D (K3 cI cZ cS) zz [.ref (ad 0), .int a1, .int a2] (wX12 cI cZ cS ad σ) (wX12 cI cZ cS ad σr) := by
  refine q_ofV (cc := cX12_lays) (maxL := 3) (by decide) rfl (Nat.le_of_ble_eq_true rfl) ?_
  intro p e s m below meth c Q A ls hx hb hml hown hts hK hZ hA hP hD hS hl hret
  have hl : lv_has ls 3 [(0, .ref (ad 0)), (1, .int a1), (2, .int a2)] := hl
  unfold pX12_lays at hf
  refine lv_aload_n hx hb dX12_lays_0 rfl (lv_at hl 0 rfl) ?_
  refine va_get (D := D) (ci := 12) (C := RX12) (T := TX12) (N := 19) hx hb hts fwX12_lays_X12 hown hK hP 0 rfl rfl 12 (by decide) (hts _ (List.mem_of_getElem? (i := 1) rfl)) (fun _ h9 => h9) rfl dX12_lays_1 ?_
  refine lv_iconst (v := 2) hx hb dX12_lays_4 (by decide) ?_
  refine lv_aload_n hx hb dX12_lays_5 rfl (lv_at hl 0 rfl) ?_
  refine va_get (D := D) (ci := 12) (C := RX12) (T := TX12) (N := 19) hx hb hts fwX12_lays_X12 hown hK hP 0 rfl rfl 13 (by decide) (hts _ (List.mem_of_getElem? (i := 2) rfl)) (fun _ h9 => h9) rfl dX12_lays_6 ?_
  refine lv_imul hx hb dX12_lays_9 ?_
  refine lv_iload_n hx hb dX12_lays_10 rfl (lv_at hl 1 rfl) ?_
  refine w_iast (wf := (wX12 cI cZ cS ad)) (cid := 6) hx hb hK hP hD hS 6 0 rfl rfl hf (fun _ => rfl) dX12_lays_11 (fun σ1 H locs hf hP hD hS => ?_)
  refine lv_aload_n hx hb dX12_lays_12 rfl (lv_at hl 0 rfl) ?_
  refine va_get (D := D) (ci := 12) (C := RX12) (T := TX12) (N := 19) hx hb hts fwX12_lays_X12 hown hK hP 0 rfl rfl 12 (by decide) (hts _ (List.mem_of_getElem? (i := 1) rfl)) (fun _ h9 => h9) rfl dX12_lays_13 ?_
  refine lv_iconst (v := 2) hx hb dX12_lays_16 (by decide) ?_
  refine lv_aload_n hx hb dX12_lays_17 rfl (lv_at hl 0 rfl) ?_
  refine va_get (D := D) (ci := 12) (C := RX12) (T := TX12) (N := 19) hx hb hts fwX12_lays_X12 hown hK hP 0 rfl rfl 13 (by decide) (hts _ (List.mem_of_getElem? (i := 2) rfl)) (fun _ h9 => h9) rfl dX12_lays_18 ?_
  refine lv_imul hx hb dX12_lays_21 ?_
  refine lv_iconst (v := 1) hx hb dX12_lays_22 (by decide) ?_
  refine lv_iadd hx hb dX12_lays_23 ?_
  refine lv_iload_n hx hb dX12_lays_24 rfl (lv_at hl 2 rfl) ?_
  refine w_iast (wf := (wX12 cI cZ cS ad)) (cid := 6) hx hb hK hP hD hS 6 0 rfl rfl hf (fun _ => rfl) dX12_lays_25 (fun σ2 H locs hf hP hD hS => ?_)
  refine lv_aload_n hx hb dX12_lays_26 rfl (lv_at hl 0 rfl) ?_
  refine lv_dup hx hb dX12_lays_27 rfl ?_
  refine va_get (D := D) (ci := 12) (C := RX12) (T := TX12) (N := 19) hx hb hts fwX12_lays_X12 hown hK hP 0 rfl rfl 13 (by decide) (hts _ (List.mem_of_getElem? (i := 2) rfl)) (fun _ h9 => h9) rfl dX12_lays_28 ?_
  refine lv_iconst (v := 1) hx hb dX12_lays_31 (by decide) ?_
  refine lv_iadd hx hb dX12_lays_32 ?_
  refine w_put (D := D) (wf := (wX12 cI cZ cS ad)) (cid := 0) (ci := 12) (C := RX12) (T := TX12) (N := 19) hx hb hts fwX12_lays_X12 tyX12 tyX12_ok nmX12 hown hK hP hD hS 0 rfl rfl 13 (by decide) (hts _ (List.mem_of_getElem? (i := 2) rfl)) (fun _ h9 => h9) rfl (tyX12_ok 13 (by decide)) (Nat.le_of_ble_eq_true rfl) hf rfl dX12_lays_33 (fun σ3 H locs hf hP hD hS => ?_)
  have hi1 := Option.some.inj hf
  subst hi1
  exact hret _ _ _ _ dX12_lays_36 hP hS
def pX12_takesNumber (σ : SS) (a1 : Int32) (a2 : Int32) (a3 : Int32) : Option (Int32 × SS) := q_lt (q_zz (0 : Int32) (some ((0 : Int32), σ))) (fun j1 => (if (σ 0 9) = (2 : Int32) then q_cr (pX12_in (σ 0 11) a2 a3) (fun (r3 : Int32) => (if r3 = (0 : Int32) then j1 else q_cs (pX12_lays σ a1 (σ 0 11)) (fun (τ : SS) => τ) (fun (σ5 : SS) => q_cs (pX12_next σ5) (fun (τ : SS) => τ) (fun (σ6 : SS) => q_zz (1 : Int32) (some ((1 : Int32), σ6)))))) else j1))
theorem fwX12_takesNumber_X12 : ∀ w ∈ wsX120, w ∈ wsX12_takesNumber := fun _ h => List.mem_cons_of_mem _ (List.mem_append_right _ h)
abbrev rmX12_takesNumber : Room := { frames := 2, cells := 0, slots := 0, locals := 43 }
set_option maxHeartbeats 4000000 in
set_option maxRecDepth 100000 in
theorem kX12_takesNumber (l : Launch) (D : va_G) (cI cZ cS : ClassId) (zz : ZT) (ad : Nat → Nat) (σ : SS) (a1 : Int32) (a2 : Int32) (a3 : Int32) (rr : Int32) (σr : SS) (hf : pX12_takesNumber σ a1 a2 a3 = some (rr, σr)) : CI l yX12_takesNumber wsX12_takesNumber rmX12_takesNumber D (K3 cI cZ cS) zz [.ref (ad 0), .int a1, .int a2, .int a3] (wX12 cI cZ cS ad σ) (wX12 cI cZ cS ad σr) rr := by
  refine q_ofI (cc := cX12_takesNumber) (maxL := 4) (ty := .boolean) (by decide) rfl (Nat.le_of_ble_eq_true rfl) ?_
  intro p e s m below meth c Q A ls hx hb hml hown hts hK hZ hA hP hD hS hl hret
  have hl : lv_has ls 4 [(0, .ref (ad 0)), (1, .int a1), (2, .int a2), (3, .int a3)] := hl
  unfold pX12_takesNumber at hf
  refine lv_aload_n hx hb dX12_takesNumber_0 rfl (lv_at hl 0 rfl) ?_
  refine va_get (D := D) (ci := 12) (C := RX12) (T := TX12) (N := 19) hx hb hts fwX12_takesNumber_X12 hown hK hP 0 rfl rfl 9 (by decide) (hts _ (List.mem_of_getElem? (i := 1) rfl)) (fun _ h9 => h9) rfl dX12_takesNumber_1 ?_
  refine lv_iconst (v := 2) hx hb dX12_takesNumber_4 (by decide) ?_
  refine q_lt_go hf (fun j1 ej1 hf => ?_)
  have Jj1 : ∀ (H : Heap) (locs : List Loc) (ls : Array Slot), va_P D vwCl ((wX12 cI cZ cS ad) σ) H → va_D A ((wX12 cI cZ cS ad) σ) → va_S A s.heap H locs → lv_has ls 4 [] → j1 = some (rr, σr) → W p l e rmX12_takesNumber s m ([.ref (ad 0), .int a1, .int a2, .int a3] : List Value).toArray below meth c H locs 0 0 Q (F0 m 20 ls []) := by
    intro  H locs ls hP hD hS hl hf
    have hf := ej1.symm.trans hf
    refine lv_iconst (v := 0) hx hb dX12_takesNumber_20 (by decide) ?_
    obtain ⟨hz, hf⟩ := q_zz_o hf
    obtain ⟨hi1, hi2⟩ := Prod.mk.inj (Option.some.inj hf)
    subst hi1
    subst hi2
    exact hret _ _ _ _ dX12_takesNumber_21 (q_zz_n hz).1 hP hS
  refine lv_icmp_ne (tgt := 20) hx hb dX12_takesNumber_5 (by decide) (fun h2 => ?_) (fun h2 => ?_)
  · have hf := (if_neg h2).symm.trans hf
    exact Jj1  _ _ _ hP hD hS (lv_sub hl [] rfl) hf
  · have hf := (if_pos h2).symm.trans hf
    refine lv_aload_n hx hb dX12_takesNumber_8 rfl (lv_at hl 0 rfl) ?_
    refine va_get (D := D) (ci := 12) (C := RX12) (T := TX12) (N := 19) hx hb hts fwX12_takesNumber_X12 hown hK hP 0 rfl rfl 11 (by decide) (hts _ (List.mem_of_getElem? (i := 2) rfl)) (fun _ h9 => h9) rfl dX12_takesNumber_9 ?_
    refine lv_iload_n hx hb dX12_takesNumber_12 rfl (lv_at hl 2 rfl) ?_
    refine lv_iload_n hx hb dX12_takesNumber_13 rfl (lv_at hl 3 rfl) ?_
    refine q_cSr (wf := (wX12 cI cZ cS ad)) (rest := []) ⟨hx, hb, hml, hown, hts⟩ hK hZ hA hP hD hS hf (fun x ho => kX12_in l D cI cZ cS zz (σ 0 11) a2 a3 x ho) (va_cwS 3 hts gX12_takesNumber_X12_in rfl rfl rfl ndX12_in.2 ⟨Nat.le_of_ble_eq_true rfl, Nat.le_of_ble_eq_true rfl⟩) rfl (hl.1) rfl (Nat.le_of_ble_eq_true rfl) dX12_takesNumber_14 ⟨Nat.zero_le _, Nat.zero_le _⟩ (fun r3 H locs hf hP hD hS => ?_)
    refine lv_if_ne (tgt := 22) hx hb dX12_takesNumber_17 (by decide) (fun h4 => ?_) (fun h4 => ?_)
    · have hf := (if_neg h4).symm.trans hf
      refine lv_aload_n hx hb dX12_takesNumber_22 rfl (lv_at hl 0 rfl) ?_
      refine lv_iload_n hx hb dX12_takesNumber_23 rfl (lv_at hl 1 rfl) ?_
      refine lv_aload_n hx hb dX12_takesNumber_24 rfl (lv_at hl 0 rfl) ?_
      refine va_get (D := D) (ci := 12) (C := RX12) (T := TX12) (N := 19) hx hb hts fwX12_takesNumber_X12 hown hK hP 0 rfl rfl 11 (by decide) (hts _ (List.mem_of_getElem? (i := 2) rfl)) (fun _ h9 => h9) rfl dX12_takesNumber_25 ?_
      refine q_cVv (wf := (wX12 cI cZ cS ad)) (wc := wX12 cI cZ cS ad) (rest := []) ⟨hx, hb, hml, hown, hts⟩ hK hZ hA hP hD hS hf (fun x ho => kX12_lays l D cI cZ cS zz ad σ a1 (σ 0 11) x ho) (cwV 2 hts gX12_takesNumber_X12_lays rfl rfl rfl ndX12_lays ⟨Nat.le_of_ble_eq_true rfl, Nat.le_of_ble_eq_true rfl⟩) [0, 1, 2, 3, 4, 5, 6, 7, 8, 9, 10, 11] rfl rfl [some 0, some 1, some 2, some 3, some 4, some 5, some 6, some 7, some 8, some 9, some 10, some 11] (by decide +kernel) (Nat.le_of_ble_eq_true rfl) (fun _ => rfl) (fun _ => rfl) (fun _ => rfl) rfl rfl rfl rfl (hl.1) rfl (Nat.le_of_ble_eq_true rfl) dX12_takesNumber_28 ⟨Nat.zero_le _, Nat.zero_le _⟩ (fun σ5 H locs hf hP hD hS => ?_)
      refine lv_aload_n hx hb dX12_takesNumber_31 rfl (lv_at hl 0 rfl) ?_
      refine q_cVv (wf := (wX12 cI cZ cS ad)) (wc := wX12 cI cZ cS ad) (rest := []) ⟨hx, hb, hml, hown, hts⟩ hK hZ hA hP hD hS hf (fun x ho => kX12_next l D cI cZ cS zz ad σ5 x ho) (cwV 0 hts gX12_takesNumber_X12_next rfl rfl rfl ndX12_next ⟨Nat.le_of_ble_eq_true rfl, Nat.le_of_ble_eq_true rfl⟩) [0, 1, 2, 3, 4, 5, 6, 7, 8, 9, 10, 11] rfl rfl [some 0, some 1, some 2, some 3, some 4, some 5, some 6, some 7, some 8, some 9, some 10, some 11] (by decide +kernel) (Nat.le_of_ble_eq_true rfl) (fun _ => rfl) (fun _ => rfl) (fun _ => rfl) rfl rfl rfl rfl (hl.1) rfl (Nat.le_of_ble_eq_true rfl) dX12_takesNumber_32 ⟨Nat.zero_le _, Nat.zero_le _⟩ (fun σ6 H locs hf hP hD hS => ?_)
      refine lv_iconst (v := 1) hx hb dX12_takesNumber_35 (by decide) ?_
      obtain ⟨hz, hf⟩ := q_zz_o hf
      obtain ⟨hi1, hi2⟩ := Prod.mk.inj (Option.some.inj hf)
      subst hi1
      subst hi2
      exact hret _ _ _ _ dX12_takesNumber_36 (q_zz_n hz).1 hP hS
    · have hf := (if_pos h4).symm.trans hf
      exact Jj1  _ _ _ hP hD hS (lv_sub hl [] rfl) hf
