def pX0_has (σ : SS) (a1 : Int32) : Option Int32 := q_lt (fun (y1 : Int32) => q_zz y1 (some y1)) (fun j2 => (if ((σ 0 4) &&& ((1 : Int32) <<< (a1 &&& (31 : Int32)))) = (0 : Int32) then j2 (0 : Int32) else j2 (1 : Int32)))
theorem fwX0_has_X0 : ∀ w ∈ wsX00, w ∈ wsX0_has := fun _ h => List.mem_cons_of_mem _ (List.mem_append_right _ h)
abbrev rmX0_has : Room := { frames := 0, cells := 0, slots := 0, locals := 0 }
set_option maxHeartbeats 4000000 in
set_option maxRecDepth 100000 in
theorem kX0_has (l : Launch) (D : va_G) (cI cZ cS : ClassId) (zz : ZT) (ad : Nat → Nat) (σ : SS) (a1 : Int32) (rr : Int32) (hf : pX0_has σ a1 = some rr) : CI l yX0_has wsX0_has rmX0_has D (K3 cI cZ cS) zz [.ref (ad 0), .int a1] (wX0 cI cZ cS ad σ) (wX0 cI cZ cS ad σ) rr := by
  refine q_ofI (cc := cX0_has) (maxL := 2) (ty := .boolean) (by decide) rfl (Nat.le_of_ble_eq_true rfl) ?_
  intro p e s m below meth c Q A ls hx hb hml hown hts hK hZ hA hP hD hS hl hret
  have hl : lv_has ls 2 [(0, .ref (ad 0)), (1, .int a1)] := hl
  unfold pX0_has at hf
  refine lv_aload_n hx hb dX0_has_0 rfl (lv_at hl 0 rfl) ?_
  refine va_get (D := D) (ci := 0) (C := RX0) (T := TX0) (N := 13) hx hb hts fwX0_has_X0 hown hK hP 0 rfl rfl 4 (by decide) (hts _ (List.mem_of_getElem? (i := 1) rfl)) (fun _ h9 => h9) rfl dX0_has_1 ?_
  refine lv_iconst (v := 1) hx hb dX0_has_4 (by decide) ?_
  refine lv_iload_n hx hb dX0_has_5 rfl (lv_at hl 1 rfl) ?_
  refine lv_ishl hx hb dX0_has_6 ?_
  refine lv_iand hx hb dX0_has_7 ?_
  refine q_lt_go hf (fun j2 ej2 hf => ?_)
  have Jj2 : ∀ (y1 : Int32) (H : Heap) (locs : List Loc) (ls : Array Slot), va_P D vwCl ((wX0 cI cZ cS ad) σ) H → va_D A ((wX0 cI cZ cS ad) σ) → va_S A s.heap H locs → lv_has ls 2 [] → j2 y1 = some rr → W p l e rmX0_has s m ([.ref (ad 0), .int a1] : List Value).toArray below meth c H locs 0 0 Q (F0 m 16 ls [.int y1]) := by
    intro y1 H locs ls hP hD hS hl hf
    have hf := (congrFun ej2 y1).symm.trans hf
    obtain ⟨hz, hf⟩ := q_zz_o hf
    have hi1 := Option.some.inj hf
    subst hi1
    exact hret _ _ _ _ dX0_has_16 (q_zz_n hz).1 hP hS
  refine lv_if_eq (tgt := 15) hx hb dX0_has_8 (by decide) (fun h3 => ?_) (fun h3 => ?_)
  · have hf := (if_pos h3).symm.trans hf
    refine lv_iconst (v := 0) hx hb dX0_has_15 (by decide) ?_
    exact Jj2 (0 : Int32) _ _ _ hP hD hS (lv_sub hl [] rfl) hf
  · have hf := (if_neg h3).symm.trans hf
    refine lv_iconst (v := 1) hx hb dX0_has_11 (by decide) ?_
    refine lv_goto (tgt := 16) hx hb dX0_has_12 (by decide) ?_
    exact Jj2 (1 : Int32) _ _ _ hP hD hS (lv_sub hl [] rfl) hf
def pX0_construct (σ : SS) (a1 : Int32) : Option SS := q_lt (su σ 0 4 ((σ 0 4) ||| ((1 : Int32) <<< (a1 &&& (31 : Int32))))) (fun (σ1 : SS) => q_lt (fun (σ2 : SS) => some σ2) (fun j3 => (if a1 = (1 : Int32) then q_zz (0 : Int32) (q_lt (su σ1 0 5 (0 : Int32)) (fun (σ5 : SS) => j3 σ5)) else (if a1 = (2 : Int32) then q_zz (1 : Int32) (q_lt (su σ1 6 6 (1 : Int32)) (fun (σ7 : SS) => j3 σ7)) else (if a1 = (3 : Int32) then q_lt (su σ1 6 4 (if ((σ1 6 4) + (240 : Int32)) < (999 : Int32) then ((σ1 6 4) + (240 : Int32)) else (999 : Int32))) (fun (σ9 : SS) => j3 σ9) else j3 σ1)))))
theorem fwX0_construct_X0 : ∀ w ∈ wsX00, w ∈ wsX0_construct := fun _ h => List.mem_cons_of_mem _ (List.mem_append_left _ (List.mem_append_right _ h))
theorem fwX0_construct_X4 : ∀ w ∈ wsX40, w ∈ wsX0_construct := fun _ h => List.mem_cons_of_mem _ (List.mem_append_right _ h)
abbrev rmX0_construct : Room := { frames := 1, cells := 0, slots := 0, locals := 24 }
set_option maxHeartbeats 4000000 in
set_option maxRecDepth 100000 in
theorem kX0_construct (l : Launch) (D : va_G) (cI cZ cS : ClassId) (zz : ZT) (ad : Nat → Nat) (σ : SS) (a1 : Int32) (σr : SS) (hf : pX0_construct σ a1 = some σr) : CV l yX0_construct wsX0_construct rmX0_construct D (K3 cI cZ cS) zz [.ref (ad 0), .int a1] (wX0 cI cZ cS ad σ) (wX0 cI cZ cS ad σr) := by
  refine q_ofV (cc := cX0_construct) (maxL := 2) (by decide) rfl (Nat.le_of_ble_eq_true rfl) ?_
  intro p e s m below meth c Q A ls hx hb hml hown hts hK hZ hA hP hD hS hl hret
  have hl : lv_has ls 2 [(0, .ref (ad 0)), (1, .int a1)] := hl
  unfold pX0_construct at hf
  refine lv_aload_n hx hb dX0_construct_0 rfl (lv_at hl 0 rfl) ?_
  refine lv_dup hx hb dX0_construct_1 rfl ?_
  refine va_get (D := D) (ci := 0) (C := RX0) (T := TX0) (N := 13) hx hb hts fwX0_construct_X0 hown hK hP 0 rfl rfl 4 (by decide) (hts _ (List.mem_of_getElem? (i := 1) rfl)) (fun _ h9 => h9) rfl dX0_construct_2 ?_
  refine lv_iconst (v := 1) hx hb dX0_construct_5 (by decide) ?_
  refine lv_iload_n hx hb dX0_construct_6 rfl (lv_at hl 1 rfl) ?_
  refine lv_ishl hx hb dX0_construct_7 ?_
  refine lv_ior hx hb dX0_construct_8 ?_
  refine w_put (D := D) (wf := (wX0 cI cZ cS ad)) (cid := 0) (ci := 0) (C := RX0) (T := TX0) (N := 13) hx hb hts fwX0_construct_X0 tyX0 tyX0_ok nmX0 hown hK hP hD hS 0 rfl rfl 4 (by decide) (hts _ (List.mem_of_getElem? (i := 1) rfl)) (fun _ h9 => h9) rfl (tyX0_ok 4 (by decide)) (Nat.le_of_ble_eq_true rfl) hf rfl dX0_construct_9 (fun σ1 H locs hf hP hD hS => ?_)
  refine lv_iload_n hx hb dX0_construct_12 rfl (lv_at hl 1 rfl) ?_
  refine q_lt_go hf (fun j3 ej3 hf => ?_)
  have Jj3 : ∀ (σ2 : SS) (H : Heap) (locs : List Loc) (ls : Array Slot), va_P D vwCl ((wX0 cI cZ cS ad) σ2) H → va_D A ((wX0 cI cZ cS ad) σ2) → va_S A s.heap H locs → lv_has ls 2 [] → j3 σ2 = some σr → W p l e rmX0_construct s m ([.ref (ad 0), .int a1] : List Value).toArray below meth c H locs 0 0 Q (F0 m 86 ls []) := by
    intro σ2 H locs ls hP hD hS hl hf
    have hf := (congrFun ej3 σ2).symm.trans hf
    have hi1 := Option.some.inj hf
    subst hi1
    exact hret _ _ _ _ dX0_construct_86 hP hS
  by_cases h4 : a1 = (1 : Int32)
  · have hf := (if_pos h4).symm.trans hf
    refine lv_tableIn (tgt := 40) hx hb dX0_construct_13 (by rw [h4]; decide) (by rw [h4]; decide) (by rw [h4]; rfl) (by decide) ?_
    refine lv_aload_n hx hb dX0_construct_40 rfl (lv_at hl 0 rfl) ?_
    refine lv_iconst (v := 0) hx hb dX0_construct_41 (by decide) ?_
    refine w_putZ (D := D) (wf := (wX0 cI cZ cS ad)) (cid := 0) (ci := 0) (C := RX0) (T := TX0) (N := 13) hx hb hts fwX0_construct_X0 tyX0 tyX0_ok nmX0 hown hK hP hD hS 0 rfl rfl 5 (by decide) (hts _ (List.mem_of_getElem? (i := 2) rfl)) (fun _ h9 => h9) rfl (tyX0_ok 5 (by decide)) (Nat.le_of_ble_eq_true rfl) hf rfl dX0_construct_42 (fun σ5 H locs hf hP hD hS => ?_)
    refine lv_goto (tgt := 86) hx hb dX0_construct_45 (by decide) ?_
    exact Jj3 σ5 _ _ _ hP hD hS (lv_sub hl [] rfl) hf
  have hf := (if_neg h4).symm.trans hf
  by_cases h6 : a1 = (2 : Int32)
  · have hf := (if_pos h6).symm.trans hf
    refine lv_tableIn (tgt := 48) hx hb dX0_construct_13 (by rw [h6]; decide) (by rw [h6]; decide) (by rw [h6]; rfl) (by decide) ?_
    refine lv_aload_n hx hb dX0_construct_48 rfl (lv_at hl 0 rfl) ?_
    refine va_get (D := D) (ci := 0) (C := RX0) (T := TX0) (N := 13) hx hb hts fwX0_construct_X0 hown hK hP 0 rfl rfl 1 (by decide) (hts _ (List.mem_of_getElem? (i := 3) rfl)) (fun _ h9 => h9) rfl dX0_construct_49 ?_
    refine lv_iconst (v := 1) hx hb dX0_construct_52 (by decide) ?_
    refine w_putZ (D := D) (wf := (wX0 cI cZ cS ad)) (cid := 6) (ci := 4) (C := RX4) (T := TX4) (N := 11) hx hb hts fwX0_construct_X4 tyX4 tyX4_ok nmX4 hown hK hP hD hS 6 rfl rfl 6 (by decide) (hts _ (List.mem_of_getElem? (i := 4) rfl)) (fun _ h9 => h9) rfl (tyX4_ok 6 (by decide)) (Nat.le_of_ble_eq_true rfl) hf rfl dX0_construct_53 (fun σ7 H locs hf hP hD hS => ?_)
    refine lv_goto (tgt := 86) hx hb dX0_construct_56 (by decide) ?_
    exact Jj3 σ7 _ _ _ hP hD hS (lv_sub hl [] rfl) hf
  have hf := (if_neg h6).symm.trans hf
  by_cases h8 : a1 = (3 : Int32)
  · have hf := (if_pos h8).symm.trans hf
    refine lv_tableIn (tgt := 59) hx hb dX0_construct_13 (by rw [h8]; decide) (by rw [h8]; decide) (by rw [h8]; rfl) (by decide) ?_
    refine lv_aload_n hx hb dX0_construct_59 rfl (lv_at hl 0 rfl) ?_
    refine va_get (D := D) (ci := 0) (C := RX0) (T := TX0) (N := 13) hx hb hts fwX0_construct_X0 hown hK hP 0 rfl rfl 1 (by decide) (hts _ (List.mem_of_getElem? (i := 3) rfl)) (fun _ h9 => h9) rfl dX0_construct_60 ?_
    refine lv_sipush (v := 999) hx hb dX0_construct_63 (by decide) ?_
    refine lv_aload_n hx hb dX0_construct_66 rfl (lv_at hl 0 rfl) ?_
    refine va_get (D := D) (ci := 0) (C := RX0) (T := TX0) (N := 13) hx hb hts fwX0_construct_X0 hown hK hP 0 rfl rfl 1 (by decide) (hts _ (List.mem_of_getElem? (i := 3) rfl)) (fun _ h9 => h9) rfl dX0_construct_67 ?_
    refine va_get (D := D) (ci := 4) (C := RX4) (T := TX4) (N := 11) hx hb hts fwX0_construct_X4 hown hK hP 6 rfl rfl 4 (by decide) (hts _ (List.mem_of_getElem? (i := 5) rfl)) (fun _ h9 => h9) rfl dX0_construct_70 ?_
    refine lv_sipush (v := 240) hx hb dX0_construct_73 (by decide) ?_
    refine lv_iadd hx hb dX0_construct_76 ?_
    refine va_mmin hx hb (hml.trans hl.1.symm) hown (hts _ (List.mem_of_getElem? (i := 6) rfl)) (hts _ (List.mem_of_getElem? (i := 7) rfl)) (hts _ (List.mem_of_getElem? (i := 8) rfl)) (hts _ (List.mem_of_getElem? (i := 9) rfl)) (Nat.le_of_ble_eq_true rfl) (Nat.le_of_ble_eq_true rfl) (Nat.zero_le _) (Nat.zero_le _) dX0_construct_77 ?_
    refine w_put (D := D) (wf := (wX0 cI cZ cS ad)) (cid := 6) (ci := 4) (C := RX4) (T := TX4) (N := 11) hx hb hts fwX0_construct_X4 tyX4 tyX4_ok nmX4 hown hK hP hD hS 6 rfl rfl 4 (by decide) (hts _ (List.mem_of_getElem? (i := 5) rfl)) (fun _ h9 => h9) rfl (tyX4_ok 4 (by decide)) (Nat.le_of_ble_eq_true rfl) hf rfl dX0_construct_80 (fun σ9 H locs hf hP hD hS => ?_)
    refine lv_goto (tgt := 86) hx hb dX0_construct_83 (by decide) ?_
    exact Jj3 σ9 _ _ _ hP hD hS (lv_sub hl [] rfl) hf
  have hf := (if_neg h8).symm.trans hf
  refine lv_tableOut (tgt := 86) hx hb dX0_construct_13 (by have := q_ne h4 (z := 1) rfl; have := q_ne h6 (z := 2) rfl; have := q_ne h8 (z := 3) rfl; omega) (by decide) ?_
  exact Jj3 σ1 _ _ _ hP hD hS (lv_sub hl [] rfl) hf
def pX0_constructAll (σ : SS) (a1 : Int32) : Option SS := q_lp (fun _ _ => none) (fun (c3 : SS → Int32 → Option SS) (σ2 : SS) (x2_1 : Int32) => (if (4 : Int32) ≤ x2_1 then some σ2 else q_lt (fun (σ7 : SS) => c3 σ7 (x2_1 + (1 : Int32))) (fun j8 => (if (a1 &&& ((1 : Int32) <<< (x2_1 &&& (31 : Int32)))) = (0 : Int32) then j8 σ2 else q_cs (pX0_construct σ2 x2_1) (fun (τ : SS) => τ) (fun (σ10 : SS) => j8 σ10))))) q_fu σ (0 : Int32)
abbrev rmX0_constructAll : Room := { frames := 2, cells := 0, slots := 0, locals := 45 }
set_option maxHeartbeats 4000000 in
set_option maxRecDepth 100000 in
theorem kX0_constructAll (l : Launch) (D : va_G) (cI cZ cS : ClassId) (zz : ZT) (ad : Nat → Nat) (σ : SS) (a1 : Int32) (σr : SS) (hf : pX0_constructAll σ a1 = some σr) : CV l yX0_constructAll wsX0_constructAll rmX0_constructAll D (K3 cI cZ cS) zz [.ref (ad 0), .int a1] (wX0 cI cZ cS ad σ) (wX0 cI cZ cS ad σr) := by
  refine q_ofV (cc := cX0_constructAll) (maxL := 3) (by decide) rfl (Nat.le_of_ble_eq_true rfl) ?_
  intro p e s m below meth c Q A ls hx hb hml hown hts hK hZ hA hP hD hS hl hret
  have hl : lv_has ls 3 [(0, .ref (ad 0)), (1, .int a1)] := hl
  unfold pX0_constructAll at hf
  refine lv_iconst (v := 0) hx hb dX0_constructAll_0 (by decide) ?_
  refine lv_istore_n (lv' := [(2, .int (0 : Int32)), (0, .ref (ad 0)), (1, .int a1)]) hx hb dX0_constructAll_1 rfl hl (by decide) rfl (fun ls hl => ?_)
  refine q_lp_go (f := fun (zf : SS → Int32 → Option SS) => zf σ (0 : Int32)) hf (fun z4 ez4 hf => ?_)
  have Lz4 : ∀ (n5 : Nat) (σ2 : SS) (x2_1 : Int32) (H : Heap) (locs : List Loc) (ls : Array Slot), va_P D vwCl ((wX0 cI cZ cS ad) σ2) H → va_D A ((wX0 cI cZ cS ad) σ2) → va_S A s.heap H locs → lv_has ls 3 [(0, .ref (ad 0)), (1, .int a1), (2, .int x2_1)] → q_lp (fun _ _ => none) z4 n5 σ2 x2_1 = some σr → W p l e rmX0_constructAll s m ([.ref (ad 0), .int a1] : List Value).toArray below meth c H locs 0 0 Q (F0 m 2 ls []) := by
    intro n5
    induction n5 with
    | zero => exact fun _ _ _ _ _ _ _ _ _ hf => q_no hf
    | succ n5 ihz4 =>
      intro σ2 x2_1 H locs ls hP hD hS hl hf
      have hf := (congrFun (congrFun (congrFun ez4 (q_lp (fun _ _ => none) z4 n5)) σ2) x2_1).symm.trans hf
      refine lv_iload_n hx hb dX0_constructAll_2 rfl (lv_at hl 2 rfl) ?_
      refine lv_iconst (v := 4) hx hb dX0_constructAll_3 (by decide) ?_
      refine lv_icmp_ge (tgt := 26) hx hb dX0_constructAll_4 (by decide) (fun h6 => ?_) (fun h6 => ?_)
      · have hf := (if_pos h6).symm.trans hf
        have hi1 := Option.some.inj hf
        subst hi1
        exact hret _ _ _ _ dX0_constructAll_26 hP hS
      · have hf := (if_neg h6).symm.trans hf
        refine lv_iload_n hx hb dX0_constructAll_7 rfl (lv_at hl 1 rfl) ?_
        refine lv_iconst (v := 1) hx hb dX0_constructAll_8 (by decide) ?_
        refine lv_iload_n hx hb dX0_constructAll_9 rfl (lv_at hl 2 rfl) ?_
        refine lv_ishl hx hb dX0_constructAll_10 ?_
        refine lv_iand hx hb dX0_constructAll_11 ?_
        refine q_lt_go hf (fun j8 ej8 hf => ?_)
        have Jj8 : ∀ (σ7 : SS) (H : Heap) (locs : List Loc) (ls : Array Slot), va_P D vwCl ((wX0 cI cZ cS ad) σ7) H → va_D A ((wX0 cI cZ cS ad) σ7) → va_S A s.heap H locs → lv_has ls 3 [(0, .ref (ad 0)), (1, .int a1), (2, .int x2_1)] → j8 σ7 = some σr → W p l e rmX0_constructAll s m ([.ref (ad 0), .int a1] : List Value).toArray below meth c H locs 0 0 Q (F0 m 20 ls []) := by
          intro σ7 H locs ls hP hD hS hl hf
          have hf := (congrFun ej8 σ7).symm.trans hf
          refine lv_iinc (v := (x2_1 + (1 : Int32))) (lv' := [(2, .int (x2_1 + (1 : Int32))), (0, .ref (ad 0)), (1, .int a1)]) hx hb dX0_constructAll_20 hl (k := 2) rfl rfl (by decide) rfl (fun ls hl => ?_)
          refine lv_goto (tgt := 2) hx hb dX0_constructAll_23 (by decide) ?_
          exact ihz4 σ7 (x2_1 + (1 : Int32)) _ _ _ hP hD hS (lv_sub hl [1, 2, 0] rfl) hf
        refine lv_if_eq (tgt := 20) hx hb dX0_constructAll_12 (by decide) (fun h9 => ?_) (fun h9 => ?_)
        · have hf := (if_pos h9).symm.trans hf
          exact Jj8 σ2 _ _ _ hP hD hS (lv_sub hl [0, 1, 2] rfl) hf
        · have hf := (if_neg h9).symm.trans hf
          refine lv_aload_n hx hb dX0_constructAll_15 rfl (lv_at hl 0 rfl) ?_
          refine lv_iload_n hx hb dX0_constructAll_16 rfl (lv_at hl 2 rfl) ?_
          refine q_cVv (wf := (wX0 cI cZ cS ad)) (wc := wX0 cI cZ cS ad) (rest := []) ⟨hx, hb, hml, hown, hts⟩ hK hZ hA hP hD hS hf (fun x ho => kX0_construct l D cI cZ cS zz ad σ2 x2_1 x ho) (cwV 1 hts gX0_constructAll_X0_construct rfl rfl rfl ndX0_construct ⟨Nat.le_of_ble_eq_true rfl, Nat.le_of_ble_eq_true rfl⟩) [0, 1, 2, 3, 4, 5, 6, 7, 8, 9, 10, 11, 12] rfl rfl [some 0, some 1, some 2, some 3, some 4, some 5, some 6, some 7, some 8, some 9, some 10, some 11, some 12] (by decide +kernel) (Nat.le_of_ble_eq_true rfl) (fun _ => rfl) (fun _ => rfl) (fun _ => rfl) rfl rfl rfl rfl (hl.1) rfl (Nat.le_of_ble_eq_true rfl) dX0_constructAll_17 ⟨Nat.zero_le _, Nat.zero_le _⟩ (fun σ10 H locs hf hP hD hS => ?_)
          exact Jj8 σ10 _ _ _ hP hD hS (lv_sub hl [0, 1, 2] rfl) hf
  exact Lz4 q_fu σ (0 : Int32) _ _ _ hP hD hS (lv_sub hl [1, 2, 0] rfl) hf
def pX0_costOf (σ : SS) (a1 : Int32) : Option Int32 := q_lp (fun _ _ => none) (fun (c3 : Int32 → Int32 → Option Int32) (x2_1 : Int32) (x3_2 : Int32) => (if (4 : Int32) ≤ x3_2 then some x2_1 else q_lt (fun (x2_7 : Int32) => c3 x2_7 (x3_2 + (1 : Int32))) (fun j8 => (if (a1 &&& ((1 : Int32) <<< (x3_2 &&& (31 : Int32)))) = (0 : Int32) then j8 x2_1 else q_rd (σ 12) 4 x3_2 (fun (v10 : Int32) => q_lt (x2_1 + v10) (fun x2_11 => j8 x2_11)))))) q_fu (0 : Int32) (0 : Int32)
theorem fwX0_costOf_X0 : ∀ w ∈ wsX00, w ∈ wsX0_costOf := fun _ h => List.mem_cons_of_mem _ (List.mem_append_right _ h)
abbrev rmX0_costOf : Room := { frames := 0, cells := 0, slots := 0, locals := 0 }
set_option maxHeartbeats 4000000 in
set_option maxRecDepth 100000 in
theorem kX0_costOf (l : Launch) (D : va_G) (cI cZ cS : ClassId) (zz : ZT) (ad : Nat → Nat) (σ : SS) (a1 : Int32) (rr : Int32) (hf : pX0_costOf σ a1 = some rr) : CI l yX0_costOf wsX0_costOf rmX0_costOf D (K3 cI cZ cS) zz [.ref (ad 0), .int a1] (wX0 cI cZ cS ad σ) (wX0 cI cZ cS ad σ) rr := by
  refine q_ofI (cc := cX0_costOf) (maxL := 4) (ty := .int) (by decide) rfl (Nat.le_of_ble_eq_true rfl) ?_
  intro p e s m below meth c Q A ls hx hb hml hown hts hK hZ hA hP hD hS hl hret
  have hl : lv_has ls 4 [(0, .ref (ad 0)), (1, .int a1)] := hl
  unfold pX0_costOf at hf
  refine lv_iconst (v := 0) hx hb dX0_costOf_0 (by decide) ?_
  refine lv_istore_n (lv' := [(2, .int (0 : Int32)), (0, .ref (ad 0)), (1, .int a1)]) hx hb dX0_costOf_1 rfl hl (by decide) rfl (fun ls hl => ?_)
  refine lv_iconst (v := 0) hx hb dX0_costOf_2 (by decide) ?_
  refine lv_istore_n (lv' := [(3, .int (0 : Int32)), (2, .int (0 : Int32)), (0, .ref (ad 0)), (1, .int a1)]) hx hb dX0_costOf_3 rfl hl (by decide) rfl (fun ls hl => ?_)
  refine q_lp_go (f := fun (zf : Int32 → Int32 → Option Int32) => zf (0 : Int32) (0 : Int32)) hf (fun z4 ez4 hf => ?_)
  have Lz4 : ∀ (n5 : Nat) (x2_1 : Int32) (x3_2 : Int32) (H : Heap) (locs : List Loc) (ls : Array Slot), va_P D vwCl ((wX0 cI cZ cS ad) σ) H → va_D A ((wX0 cI cZ cS ad) σ) → va_S A s.heap H locs → lv_has ls 4 [(0, .ref (ad 0)), (1, .int a1), (2, .int x2_1), (3, .int x3_2)] → q_lp (fun _ _ => none) z4 n5 x2_1 x3_2 = some rr → W p l e rmX0_costOf s m ([.ref (ad 0), .int a1] : List Value).toArray below meth c H locs 0 0 Q (F0 m 4 ls []) := by
    intro n5
    induction n5 with
    | zero => exact fun _ _ _ _ _ _ _ _ _ hf => q_no hf
    | succ n5 ihz4 =>
      intro x2_1 x3_2 H locs ls hP hD hS hl hf
      have hf := (congrFun (congrFun (congrFun ez4 (q_lp (fun _ _ => none) z4 n5)) x2_1) x3_2).symm.trans hf
      refine lv_iload_n hx hb dX0_costOf_4 rfl (lv_at hl 3 rfl) ?_
      refine lv_iconst (v := 4) hx hb dX0_costOf_5 (by decide) ?_
      refine lv_icmp_ge (tgt := 32) hx hb dX0_costOf_6 (by decide) (fun h6 => ?_) (fun h6 => ?_)
      · have hf := (if_pos h6).symm.trans hf
        refine lv_iload_n hx hb dX0_costOf_32 rfl (lv_at hl 2 rfl) ?_
        have hi1 := Option.some.inj hf
        subst hi1
        exact hret _ _ _ _ dX0_costOf_33 rfl hP hS
      · have hf := (if_neg h6).symm.trans hf
        refine lv_iload_n hx hb dX0_costOf_9 rfl (lv_at hl 1 rfl) ?_
        refine lv_iconst (v := 1) hx hb dX0_costOf_10 (by decide) ?_
        refine lv_iload_n hx hb dX0_costOf_11 rfl (lv_at hl 3 rfl) ?_
        refine lv_ishl hx hb dX0_costOf_12 ?_
        refine lv_iand hx hb dX0_costOf_13 ?_
        refine q_lt_go hf (fun j8 ej8 hf => ?_)
        have Jj8 : ∀ (x2_7 : Int32) (H : Heap) (locs : List Loc) (ls : Array Slot), va_P D vwCl ((wX0 cI cZ cS ad) σ) H → va_D A ((wX0 cI cZ cS ad) σ) → va_S A s.heap H locs → lv_has ls 4 [(0, .ref (ad 0)), (1, .int a1), (2, .int x2_7), (3, .int x3_2)] → j8 x2_7 = some rr → W p l e rmX0_costOf s m ([.ref (ad 0), .int a1] : List Value).toArray below meth c H locs 0 0 Q (F0 m 26 ls []) := by
          intro x2_7 H locs ls hP hD hS hl hf
          have hf := (congrFun ej8 x2_7).symm.trans hf
          refine lv_iinc (v := (x3_2 + (1 : Int32))) (lv' := [(3, .int (x3_2 + (1 : Int32))), (0, .ref (ad 0)), (1, .int a1), (2, .int x2_7)]) hx hb dX0_costOf_26 hl (k := 3) rfl rfl (by decide) rfl (fun ls hl => ?_)
          refine lv_goto (tgt := 4) hx hb dX0_costOf_29 (by decide) ?_
          exact ihz4 x2_7 (x3_2 + (1 : Int32)) _ _ _ hP hD hS (lv_sub hl [1, 2, 3, 0] rfl) hf
        refine lv_if_eq (tgt := 26) hx hb dX0_costOf_14 (by decide) (fun h9 => ?_) (fun h9 => ?_)
        · have hf := (if_pos h9).symm.trans hf
          exact Jj8 x2_1 _ _ _ hP hD hS (lv_sub hl [0, 1, 2, 3] rfl) hf
        · have hf := (if_neg h9).symm.trans hf
          refine lv_iload_n hx hb dX0_costOf_17 rfl (lv_at hl 2 rfl) ?_
          refine lv_aload_n hx hb dX0_costOf_18 rfl (lv_at hl 0 rfl) ?_
          refine va_get (D := D) (ci := 0) (C := RX0) (T := TX0) (N := 13) hx hb hts fwX0_costOf_X0 hown hK hP 0 rfl rfl 3 (by decide) (hts _ (List.mem_of_getElem? (i := 1) rfl)) (fun _ h9 => h9) rfl dX0_costOf_19 ?_
          refine lv_iload_n hx hb dX0_costOf_22 rfl (lv_at hl 3 rfl) ?_
          refine w_iald (wf := (wX0 cI cZ cS ad)) hx hb hK hP 12 0 rfl rfl hf dX0_costOf_23 (fun v10 hf => ?_)
          refine lv_iadd hx hb dX0_costOf_24 ?_
          refine lv_topi (fun x2_11 ex2_11 => ?_)
          have hf := q_lt_at ex2_11 hf
          refine lv_istore_n (lv' := [(2, .int x2_11), (0, .ref (ad 0)), (1, .int a1), (3, .int x3_2)]) hx hb dX0_costOf_25 rfl hl (by decide) rfl (fun ls hl => ?_)
          exact Jj8 x2_11 _ _ _ hP hD hS (lv_sub hl [1, 2, 0, 3] rfl) hf
  exact Lz4 q_fu (0 : Int32) (0 : Int32) _ _ _ hP hD hS (lv_sub hl [2, 3, 1, 0] rfl) hf
def pX0_measure (σ : SS) (a1 : Int32) : Option Int32 := (if a1 = (0 : Int32) then some (σ 0 6) else (if a1 = (1 : Int32) then some (σ 0 7) else (if a1 = (2 : Int32) then some (σ 0 8) else (if a1 = (3 : Int32) then some (σ 6 0) else (if a1 = (4 : Int32) then some (σ 6 1) else (if a1 = (5 : Int32) then some (σ 6 2) else (if a1 = (6 : Int32) then some (σ 6 3) else some (σ 6 4))))))))
theorem fwX0_measure_X0 : ∀ w ∈ wsX00, w ∈ wsX0_measure := fun _ h => List.mem_cons_of_mem _ (List.mem_append_left _ (List.mem_append_right _ h))
theorem fwX0_measure_X4 : ∀ w ∈ wsX40, w ∈ wsX0_measure := fun _ h => List.mem_cons_of_mem _ (List.mem_append_right _ h)
abbrev rmX0_measure : Room := { frames := 0, cells := 0, slots := 0, locals := 0 }
set_option maxHeartbeats 4000000 in
set_option maxRecDepth 100000 in
theorem kX0_measure (l : Launch) (D : va_G) (cI cZ cS : ClassId) (zz : ZT) (ad : Nat → Nat) (σ : SS) (a1 : Int32) (rr : Int32) (hf : pX0_measure σ a1 = some rr) : CI l yX0_measure wsX0_measure rmX0_measure D (K3 cI cZ cS) zz [.ref (ad 0), .int a1] (wX0 cI cZ cS ad σ) (wX0 cI cZ cS ad σ) rr := by
  refine q_ofI (cc := cX0_measure) (maxL := 2) (ty := .int) (by decide) rfl (Nat.le_of_ble_eq_true rfl) ?_
  intro p e s m below meth c Q A ls hx hb hml hown hts hK hZ hA hP hD hS hl hret
  have hl : lv_has ls 2 [(0, .ref (ad 0)), (1, .int a1)] := hl
  unfold pX0_measure at hf
  refine lv_iload_n hx hb dX0_measure_0 rfl (lv_at hl 1 rfl) ?_
  by_cases h1 : a1 = (0 : Int32)
  · have hf := (if_pos h1).symm.trans hf
    refine lv_tableIn (tgt := 44) hx hb dX0_measure_1 (by rw [h1]; decide) (by rw [h1]; decide) (by rw [h1]; rfl) (by decide) ?_
    refine lv_aload_n hx hb dX0_measure_44 rfl (lv_at hl 0 rfl) ?_
    refine va_get (D := D) (ci := 0) (C := RX0) (T := TX0) (N := 13) hx hb hts fwX0_measure_X0 hown hK hP 0 rfl rfl 6 (by decide) (hts _ (List.mem_of_getElem? (i := 1) rfl)) (fun _ h9 => h9) rfl dX0_measure_45 ?_
    have hi1 := Option.some.inj hf
    subst hi1
    exact hret _ _ _ _ dX0_measure_48 rfl hP hS
  have hf := (if_neg h1).symm.trans hf
  by_cases h2 : a1 = (1 : Int32)
  · have hf := (if_pos h2).symm.trans hf
    refine lv_tableIn (tgt := 49) hx hb dX0_measure_1 (by rw [h2]; decide) (by rw [h2]; decide) (by rw [h2]; rfl) (by decide) ?_
    refine lv_aload_n hx hb dX0_measure_49 rfl (lv_at hl 0 rfl) ?_
    refine va_get (D := D) (ci := 0) (C := RX0) (T := TX0) (N := 13) hx hb hts fwX0_measure_X0 hown hK hP 0 rfl rfl 7 (by decide) (hts _ (List.mem_of_getElem? (i := 2) rfl)) (fun _ h9 => h9) rfl dX0_measure_50 ?_
    have hi1 := Option.some.inj hf
    subst hi1
    exact hret _ _ _ _ dX0_measure_53 rfl hP hS
  have hf := (if_neg h2).symm.trans hf
  by_cases h3 : a1 = (2 : Int32)
  · have hf := (if_pos h3).symm.trans hf
    refine lv_tableIn (tgt := 54) hx hb dX0_measure_1 (by rw [h3]; decide) (by rw [h3]; decide) (by rw [h3]; rfl) (by decide) ?_
    refine lv_aload_n hx hb dX0_measure_54 rfl (lv_at hl 0 rfl) ?_
    refine va_get (D := D) (ci := 0) (C := RX0) (T := TX0) (N := 13) hx hb hts fwX0_measure_X0 hown hK hP 0 rfl rfl 8 (by decide) (hts _ (List.mem_of_getElem? (i := 3) rfl)) (fun _ h9 => h9) rfl dX0_measure_55 ?_
    have hi1 := Option.some.inj hf
    subst hi1
    exact hret _ _ _ _ dX0_measure_58 rfl hP hS
  have hf := (if_neg h3).symm.trans hf
  by_cases h4 : a1 = (3 : Int32)
  · have hf := (if_pos h4).symm.trans hf
    refine lv_tableIn (tgt := 59) hx hb dX0_measure_1 (by rw [h4]; decide) (by rw [h4]; decide) (by rw [h4]; rfl) (by decide) ?_
    refine lv_aload_n hx hb dX0_measure_59 rfl (lv_at hl 0 rfl) ?_
    refine va_get (D := D) (ci := 0) (C := RX0) (T := TX0) (N := 13) hx hb hts fwX0_measure_X0 hown hK hP 0 rfl rfl 1 (by decide) (hts _ (List.mem_of_getElem? (i := 4) rfl)) (fun _ h9 => h9) rfl dX0_measure_60 ?_
    refine va_get (D := D) (ci := 4) (C := RX4) (T := TX4) (N := 11) hx hb hts fwX0_measure_X4 hown hK hP 6 rfl rfl 0 (by decide) (hts _ (List.mem_of_getElem? (i := 5) rfl)) (fun _ h9 => h9) rfl dX0_measure_63 ?_
    have hi1 := Option.some.inj hf
    subst hi1
    exact hret _ _ _ _ dX0_measure_66 rfl hP hS
  have hf := (if_neg h4).symm.trans hf
  by_cases h5 : a1 = (4 : Int32)
  · have hf := (if_pos h5).symm.trans hf
    refine lv_tableIn (tgt := 67) hx hb dX0_measure_1 (by rw [h5]; decide) (by rw [h5]; decide) (by rw [h5]; rfl) (by decide) ?_
    refine lv_aload_n hx hb dX0_measure_67 rfl (lv_at hl 0 rfl) ?_
    refine va_get (D := D) (ci := 0) (C := RX0) (T := TX0) (N := 13) hx hb hts fwX0_measure_X0 hown hK hP 0 rfl rfl 1 (by decide) (hts _ (List.mem_of_getElem? (i := 4) rfl)) (fun _ h9 => h9) rfl dX0_measure_68 ?_
    refine va_get (D := D) (ci := 4) (C := RX4) (T := TX4) (N := 11) hx hb hts fwX0_measure_X4 hown hK hP 6 rfl rfl 1 (by decide) (hts _ (List.mem_of_getElem? (i := 6) rfl)) (fun _ h9 => h9) rfl dX0_measure_71 ?_
    have hi1 := Option.some.inj hf
    subst hi1
    exact hret _ _ _ _ dX0_measure_74 rfl hP hS
  have hf := (if_neg h5).symm.trans hf
  by_cases h6 : a1 = (5 : Int32)
  · have hf := (if_pos h6).symm.trans hf
    refine lv_tableIn (tgt := 75) hx hb dX0_measure_1 (by rw [h6]; decide) (by rw [h6]; decide) (by rw [h6]; rfl) (by decide) ?_
    refine lv_aload_n hx hb dX0_measure_75 rfl (lv_at hl 0 rfl) ?_
    refine va_get (D := D) (ci := 0) (C := RX0) (T := TX0) (N := 13) hx hb hts fwX0_measure_X0 hown hK hP 0 rfl rfl 1 (by decide) (hts _ (List.mem_of_getElem? (i := 4) rfl)) (fun _ h9 => h9) rfl dX0_measure_76 ?_
    refine va_get (D := D) (ci := 4) (C := RX4) (T := TX4) (N := 11) hx hb hts fwX0_measure_X4 hown hK hP 6 rfl rfl 2 (by decide) (hts _ (List.mem_of_getElem? (i := 7) rfl)) (fun _ h9 => h9) rfl dX0_measure_79 ?_
    have hi1 := Option.some.inj hf
    subst hi1
    exact hret _ _ _ _ dX0_measure_82 rfl hP hS
  have hf := (if_neg h6).symm.trans hf
  by_cases h7 : a1 = (6 : Int32)
  · have hf := (if_pos h7).symm.trans hf
    refine lv_tableIn (tgt := 83) hx hb dX0_measure_1 (by rw [h7]; decide) (by rw [h7]; decide) (by rw [h7]; rfl) (by decide) ?_
    refine lv_aload_n hx hb dX0_measure_83 rfl (lv_at hl 0 rfl) ?_
    refine va_get (D := D) (ci := 0) (C := RX0) (T := TX0) (N := 13) hx hb hts fwX0_measure_X0 hown hK hP 0 rfl rfl 1 (by decide) (hts _ (List.mem_of_getElem? (i := 4) rfl)) (fun _ h9 => h9) rfl dX0_measure_84 ?_
    refine va_get (D := D) (ci := 4) (C := RX4) (T := TX4) (N := 11) hx hb hts fwX0_measure_X4 hown hK hP 6 rfl rfl 3 (by decide) (hts _ (List.mem_of_getElem? (i := 8) rfl)) (fun _ h9 => h9) rfl dX0_measure_87 ?_
    have hi1 := Option.some.inj hf
    subst hi1
    exact hret _ _ _ _ dX0_measure_90 rfl hP hS
  have hf := (if_neg h7).symm.trans hf
  refine lv_tableOut (tgt := 91) hx hb dX0_measure_1 (by have := q_ne h1 (z := 0) rfl; have := q_ne h2 (z := 1) rfl; have := q_ne h3 (z := 2) rfl; have := q_ne h4 (z := 3) rfl; have := q_ne h5 (z := 4) rfl; have := q_ne h6 (z := 5) rfl; have := q_ne h7 (z := 6) rfl; omega) (by decide) ?_
  refine lv_aload_n hx hb dX0_measure_91 rfl (lv_at hl 0 rfl) ?_
  refine va_get (D := D) (ci := 0) (C := RX0) (T := TX0) (N := 13) hx hb hts fwX0_measure_X0 hown hK hP 0 rfl rfl 1 (by decide) (hts _ (List.mem_of_getElem? (i := 4) rfl)) (fun _ h9 => h9) rfl dX0_measure_92 ?_
  refine va_get (D := D) (ci := 4) (C := RX4) (T := TX4) (N := 11) hx hb hts fwX0_measure_X4 hown hK hP 6 rfl rfl 4 (by decide) (hts _ (List.mem_of_getElem? (i := 9) rfl)) (fun _ h9 => h9) rfl dX0_measure_95 ?_
  have hi1 := Option.some.inj hf
  subst hi1
  exact hret _ _ _ _ dX0_measure_98 rfl hP hS
def pX0_putMeasure (σ : SS) (a1 : Int32) (a2 : Int32) : Option SS := q_lt (fun (σ1 : SS) => some σ1) (fun j2 => (if a1 = (0 : Int32) then q_lt (su σ 0 6 a2) (fun (σ4 : SS) => j2 σ4) else (if a1 = (1 : Int32) then q_lt (su σ 0 7 a2) (fun (σ6 : SS) => j2 σ6) else (if a1 = (2 : Int32) then q_lt (su σ 0 8 a2) (fun (σ8 : SS) => j2 σ8) else (if a1 = (3 : Int32) then q_lt (su σ 6 0 a2) (fun (σ10 : SS) => j2 σ10) else (if a1 = (4 : Int32) then q_lt (su σ 6 1 a2) (fun (σ12 : SS) => j2 σ12) else (if a1 = (5 : Int32) then q_lt (su σ 6 2 a2) (fun (σ14 : SS) => j2 σ14) else (if a1 = (6 : Int32) then q_lt (su σ 6 3 a2) (fun (σ16 : SS) => j2 σ16) else q_lt (su σ 6 4 a2) (fun (σ17 : SS) => j2 σ17)))))))))
theorem fwX0_putMeasure_X0 : ∀ w ∈ wsX00, w ∈ wsX0_putMeasure := fun _ h => List.mem_cons_of_mem _ (List.mem_append_left _ (List.mem_append_right _ h))
theorem fwX0_putMeasure_X4 : ∀ w ∈ wsX40, w ∈ wsX0_putMeasure := fun _ h => List.mem_cons_of_mem _ (List.mem_append_right _ h)
abbrev rmX0_putMeasure : Room := { frames := 0, cells := 0, slots := 0, locals := 0 }
set_option maxHeartbeats 4000000 in
set_option maxRecDepth 100000 in
theorem kX0_putMeasure (l : Launch) (D : va_G) (cI cZ cS : ClassId) (zz : ZT) (ad : Nat → Nat) (σ : SS) (a1 : Int32) (a2 : Int32) (σr : SS) (hf : pX0_putMeasure σ a1 a2 = some σr) : CV l yX0_putMeasure wsX0_putMeasure rmX0_putMeasure D (K3 cI cZ cS) zz [.ref (ad 0), .int a1, .int a2] (wX0 cI cZ cS ad σ) (wX0 cI cZ cS ad σr) := by
  refine q_ofV (cc := cX0_putMeasure) (maxL := 3) (by decide) rfl (Nat.le_of_ble_eq_true rfl) ?_
  intro p e s m below meth c Q A ls hx hb hml hown hts hK hZ hA hP hD hS hl hret
  have hl : lv_has ls 3 [(0, .ref (ad 0)), (1, .int a1), (2, .int a2)] := hl
  unfold pX0_putMeasure at hf
  refine lv_iload_n hx hb dX0_putMeasure_0 rfl (lv_at hl 1 rfl) ?_
  refine q_lt_go hf (fun j2 ej2 hf => ?_)
  have Jj2 : ∀ (σ1 : SS) (H : Heap) (locs : List Loc) (ls : Array Slot), va_P D vwCl ((wX0 cI cZ cS ad) σ1) H → va_D A ((wX0 cI cZ cS ad) σ1) → va_S A s.heap H locs → lv_has ls 3 [] → j2 σ1 = some σr → W p l e rmX0_putMeasure s m ([.ref (ad 0), .int a1, .int a2] : List Value).toArray below meth c H locs 0 0 Q (F0 m 120 ls []) := by
    intro σ1 H locs ls hP hD hS hl hf
    have hf := (congrFun ej2 σ1).symm.trans hf
    have hi1 := Option.some.inj hf
    subst hi1
    exact hret _ _ _ _ dX0_putMeasure_120 hP hS
  by_cases h3 : a1 = (0 : Int32)
  · have hf := (if_pos h3).symm.trans hf
    refine lv_tableIn (tgt := 44) hx hb dX0_putMeasure_1 (by rw [h3]; decide) (by rw [h3]; decide) (by rw [h3]; rfl) (by decide) ?_
    refine lv_aload_n hx hb dX0_putMeasure_44 rfl (lv_at hl 0 rfl) ?_
    refine lv_iload_n hx hb dX0_putMeasure_45 rfl (lv_at hl 2 rfl) ?_
    refine w_put (D := D) (wf := (wX0 cI cZ cS ad)) (cid := 0) (ci := 0) (C := RX0) (T := TX0) (N := 13) hx hb hts fwX0_putMeasure_X0 tyX0 tyX0_ok nmX0 hown hK hP hD hS 0 rfl rfl 6 (by decide) (hts _ (List.mem_of_getElem? (i := 1) rfl)) (fun _ h9 => h9) rfl (tyX0_ok 6 (by decide)) (Nat.le_of_ble_eq_true rfl) hf rfl dX0_putMeasure_46 (fun σ4 H locs hf hP hD hS => ?_)
    refine lv_goto (tgt := 120) hx hb dX0_putMeasure_49 (by decide) ?_
    exact Jj2 σ4 _ _ _ hP hD hS (lv_sub hl [] rfl) hf
  have hf := (if_neg h3).symm.trans hf
  by_cases h5 : a1 = (1 : Int32)
  · have hf := (if_pos h5).symm.trans hf
    refine lv_tableIn (tgt := 52) hx hb dX0_putMeasure_1 (by rw [h5]; decide) (by rw [h5]; decide) (by rw [h5]; rfl) (by decide) ?_
    refine lv_aload_n hx hb dX0_putMeasure_52 rfl (lv_at hl 0 rfl) ?_
    refine lv_iload_n hx hb dX0_putMeasure_53 rfl (lv_at hl 2 rfl) ?_
    refine w_put (D := D) (wf := (wX0 cI cZ cS ad)) (cid := 0) (ci := 0) (C := RX0) (T := TX0) (N := 13) hx hb hts fwX0_putMeasure_X0 tyX0 tyX0_ok nmX0 hown hK hP hD hS 0 rfl rfl 7 (by decide) (hts _ (List.mem_of_getElem? (i := 2) rfl)) (fun _ h9 => h9) rfl (tyX0_ok 7 (by decide)) (Nat.le_of_ble_eq_true rfl) hf rfl dX0_putMeasure_54 (fun σ6 H locs hf hP hD hS => ?_)
    refine lv_goto (tgt := 120) hx hb dX0_putMeasure_57 (by decide) ?_
    exact Jj2 σ6 _ _ _ hP hD hS (lv_sub hl [] rfl) hf
  have hf := (if_neg h5).symm.trans hf
  by_cases h7 : a1 = (2 : Int32)
  · have hf := (if_pos h7).symm.trans hf
    refine lv_tableIn (tgt := 60) hx hb dX0_putMeasure_1 (by rw [h7]; decide) (by rw [h7]; decide) (by rw [h7]; rfl) (by decide) ?_
    refine lv_aload_n hx hb dX0_putMeasure_60 rfl (lv_at hl 0 rfl) ?_
    refine lv_iload_n hx hb dX0_putMeasure_61 rfl (lv_at hl 2 rfl) ?_
    refine w_put (D := D) (wf := (wX0 cI cZ cS ad)) (cid := 0) (ci := 0) (C := RX0) (T := TX0) (N := 13) hx hb hts fwX0_putMeasure_X0 tyX0 tyX0_ok nmX0 hown hK hP hD hS 0 rfl rfl 8 (by decide) (hts _ (List.mem_of_getElem? (i := 3) rfl)) (fun _ h9 => h9) rfl (tyX0_ok 8 (by decide)) (Nat.le_of_ble_eq_true rfl) hf rfl dX0_putMeasure_62 (fun σ8 H locs hf hP hD hS => ?_)
    refine lv_goto (tgt := 120) hx hb dX0_putMeasure_65 (by decide) ?_
    exact Jj2 σ8 _ _ _ hP hD hS (lv_sub hl [] rfl) hf
  have hf := (if_neg h7).symm.trans hf
  by_cases h9 : a1 = (3 : Int32)
  · have hf := (if_pos h9).symm.trans hf
    refine lv_tableIn (tgt := 68) hx hb dX0_putMeasure_1 (by rw [h9]; decide) (by rw [h9]; decide) (by rw [h9]; rfl) (by decide) ?_
    refine lv_aload_n hx hb dX0_putMeasure_68 rfl (lv_at hl 0 rfl) ?_
    refine va_get (D := D) (ci := 0) (C := RX0) (T := TX0) (N := 13) hx hb hts fwX0_putMeasure_X0 hown hK hP 0 rfl rfl 1 (by decide) (hts _ (List.mem_of_getElem? (i := 4) rfl)) (fun _ h9 => h9) rfl dX0_putMeasure_69 ?_
    refine lv_iload_n hx hb dX0_putMeasure_72 rfl (lv_at hl 2 rfl) ?_
    refine w_put (D := D) (wf := (wX0 cI cZ cS ad)) (cid := 6) (ci := 4) (C := RX4) (T := TX4) (N := 11) hx hb hts fwX0_putMeasure_X4 tyX4 tyX4_ok nmX4 hown hK hP hD hS 6 rfl rfl 0 (by decide) (hts _ (List.mem_of_getElem? (i := 5) rfl)) (fun _ h9 => h9) rfl (tyX4_ok 0 (by decide)) (Nat.le_of_ble_eq_true rfl) hf rfl dX0_putMeasure_73 (fun σ10 H locs hf hP hD hS => ?_)
    refine lv_goto (tgt := 120) hx hb dX0_putMeasure_76 (by decide) ?_
    exact Jj2 σ10 _ _ _ hP hD hS (lv_sub hl [] rfl) hf
  have hf := (if_neg h9).symm.trans hf
  by_cases h11 : a1 = (4 : Int32)
  · have hf := (if_pos h11).symm.trans hf
    refine lv_tableIn (tgt := 79) hx hb dX0_putMeasure_1 (by rw [h11]; decide) (by rw [h11]; decide) (by rw [h11]; rfl) (by decide) ?_
    refine lv_aload_n hx hb dX0_putMeasure_79 rfl (lv_at hl 0 rfl) ?_
    refine va_get (D := D) (ci := 0) (C := RX0) (T := TX0) (N := 13) hx hb hts fwX0_putMeasure_X0 hown hK hP 0 rfl rfl 1 (by decide) (hts _ (List.mem_of_getElem? (i := 4) rfl)) (fun _ h9 => h9) rfl dX0_putMeasure_80 ?_
    refine lv_iload_n hx hb dX0_putMeasure_83 rfl (lv_at hl 2 rfl) ?_
    refine w_put (D := D) (wf := (wX0 cI cZ cS ad)) (cid := 6) (ci := 4) (C := RX4) (T := TX4) (N := 11) hx hb hts fwX0_putMeasure_X4 tyX4 tyX4_ok nmX4 hown hK hP hD hS 6 rfl rfl 1 (by decide) (hts _ (List.mem_of_getElem? (i := 6) rfl)) (fun _ h9 => h9) rfl (tyX4_ok 1 (by decide)) (Nat.le_of_ble_eq_true rfl) hf rfl dX0_putMeasure_84 (fun σ12 H locs hf hP hD hS => ?_)
    refine lv_goto (tgt := 120) hx hb dX0_putMeasure_87 (by decide) ?_
    exact Jj2 σ12 _ _ _ hP hD hS (lv_sub hl [] rfl) hf
  have hf := (if_neg h11).symm.trans hf
  by_cases h13 : a1 = (5 : Int32)
  · have hf := (if_pos h13).symm.trans hf
    refine lv_tableIn (tgt := 90) hx hb dX0_putMeasure_1 (by rw [h13]; decide) (by rw [h13]; decide) (by rw [h13]; rfl) (by decide) ?_
    refine lv_aload_n hx hb dX0_putMeasure_90 rfl (lv_at hl 0 rfl) ?_
    refine va_get (D := D) (ci := 0) (C := RX0) (T := TX0) (N := 13) hx hb hts fwX0_putMeasure_X0 hown hK hP 0 rfl rfl 1 (by decide) (hts _ (List.mem_of_getElem? (i := 4) rfl)) (fun _ h9 => h9) rfl dX0_putMeasure_91 ?_
    refine lv_iload_n hx hb dX0_putMeasure_94 rfl (lv_at hl 2 rfl) ?_
    refine w_put (D := D) (wf := (wX0 cI cZ cS ad)) (cid := 6) (ci := 4) (C := RX4) (T := TX4) (N := 11) hx hb hts fwX0_putMeasure_X4 tyX4 tyX4_ok nmX4 hown hK hP hD hS 6 rfl rfl 2 (by decide) (hts _ (List.mem_of_getElem? (i := 7) rfl)) (fun _ h9 => h9) rfl (tyX4_ok 2 (by decide)) (Nat.le_of_ble_eq_true rfl) hf rfl dX0_putMeasure_95 (fun σ14 H locs hf hP hD hS => ?_)
    refine lv_goto (tgt := 120) hx hb dX0_putMeasure_98 (by decide) ?_
    exact Jj2 σ14 _ _ _ hP hD hS (lv_sub hl [] rfl) hf
  have hf := (if_neg h13).symm.trans hf
  by_cases h15 : a1 = (6 : Int32)
  · have hf := (if_pos h15).symm.trans hf
    refine lv_tableIn (tgt := 101) hx hb dX0_putMeasure_1 (by rw [h15]; decide) (by rw [h15]; decide) (by rw [h15]; rfl) (by decide) ?_
    refine lv_aload_n hx hb dX0_putMeasure_101 rfl (lv_at hl 0 rfl) ?_
    refine va_get (D := D) (ci := 0) (C := RX0) (T := TX0) (N := 13) hx hb hts fwX0_putMeasure_X0 hown hK hP 0 rfl rfl 1 (by decide) (hts _ (List.mem_of_getElem? (i := 4) rfl)) (fun _ h9 => h9) rfl dX0_putMeasure_102 ?_
    refine lv_iload_n hx hb dX0_putMeasure_105 rfl (lv_at hl 2 rfl) ?_
    refine w_put (D := D) (wf := (wX0 cI cZ cS ad)) (cid := 6) (ci := 4) (C := RX4) (T := TX4) (N := 11) hx hb hts fwX0_putMeasure_X4 tyX4 tyX4_ok nmX4 hown hK hP hD hS 6 rfl rfl 3 (by decide) (hts _ (List.mem_of_getElem? (i := 8) rfl)) (fun _ h9 => h9) rfl (tyX4_ok 3 (by decide)) (Nat.le_of_ble_eq_true rfl) hf rfl dX0_putMeasure_106 (fun σ16 H locs hf hP hD hS => ?_)
    refine lv_goto (tgt := 120) hx hb dX0_putMeasure_109 (by decide) ?_
    exact Jj2 σ16 _ _ _ hP hD hS (lv_sub hl [] rfl) hf
  have hf := (if_neg h15).symm.trans hf
  refine lv_tableOut (tgt := 112) hx hb dX0_putMeasure_1 (by have := q_ne h3 (z := 0) rfl; have := q_ne h5 (z := 1) rfl; have := q_ne h7 (z := 2) rfl; have := q_ne h9 (z := 3) rfl; have := q_ne h11 (z := 4) rfl; have := q_ne h13 (z := 5) rfl; have := q_ne h15 (z := 6) rfl; omega) (by decide) ?_
  refine lv_aload_n hx hb dX0_putMeasure_112 rfl (lv_at hl 0 rfl) ?_
  refine va_get (D := D) (ci := 0) (C := RX0) (T := TX0) (N := 13) hx hb hts fwX0_putMeasure_X0 hown hK hP 0 rfl rfl 1 (by decide) (hts _ (List.mem_of_getElem? (i := 4) rfl)) (fun _ h9 => h9) rfl dX0_putMeasure_113 ?_
  refine lv_iload_n hx hb dX0_putMeasure_116 rfl (lv_at hl 2 rfl) ?_
  refine w_put (D := D) (wf := (wX0 cI cZ cS ad)) (cid := 6) (ci := 4) (C := RX4) (T := TX4) (N := 11) hx hb hts fwX0_putMeasure_X4 tyX4 tyX4_ok nmX4 hown hK hP hD hS 6 rfl rfl 4 (by decide) (hts _ (List.mem_of_getElem? (i := 9) rfl)) (fun _ h9 => h9) rfl (tyX4_ok 4 (by decide)) (Nat.le_of_ble_eq_true rfl) hf rfl dX0_putMeasure_117 (fun σ17 H locs hf hP hD hS => ?_)
  exact Jj2 σ17 _ _ _ hP hD hS (lv_sub hl [] rfl) hf
def pX0_comesOf (σ : SS) (a1 : Int32) : Option Int32 := q_rd (σ 3) 8 a1 (fun (v1 : Int32) => q_rd (σ 4) 8 a1 (fun (v2 : Int32) => q_cr (pX0_has σ (0 : Int32)) (fun (r3 : Int32) => q_lt (fun (y4 : Int32) => q_rd (σ 2) 8 a1 (fun (v6 : Int32) => (if v6 = (1 : Int32) then some y4 else (if v6 = (2 : Int32) then some (v1 * (if (0 : Int32) < ((σ 0 6) - v2) then ((σ 0 6) - v2) else (0 : Int32))) else (if v6 = (3 : Int32) then q_lt (fun (y10 : Int32) => some y10) (fun j11 => (if (σ 0 5) = (0 : Int32) then j11 (0 : Int32) else j11 (v1 * (if (0 : Int32) < ((σ 0 6) - v2) then ((σ 0 6) - v2) else (0 : Int32))))) else (if v6 = (4 : Int32) then some (y4 / (2 : Int32)) else (if v6 = (5 : Int32) then q_lt (fun (y15 : Int32) => some y15) (fun j16 => (if (σ 0 9) < v2 then j16 (0 : Int32) else j16 v1)) else (if v6 = (6 : Int32) then q_lt (fun (y19 : Int32) => some ((y4 / (2 : Int32)) + y19)) (fun j20 => (if r3 = (0 : Int32) then j20 (0 : Int32) else j20 v1)) else some v1)))))))) (fun j5 => (if r3 = (0 : Int32) then j5 ((v1 * (σ 0 7)) / (100 : Int32)) else j5 (((v1 * (σ 0 7)) / (100 : Int32)) / (2 : Int32)))))))
theorem fwX0_comesOf_X0 : ∀ w ∈ wsX00, w ∈ wsX0_comesOf := fun _ h => List.mem_cons_of_mem _ (List.mem_append_left _ (List.mem_append_right _ h))
theorem fwX0_comesOf_X10 : ∀ w ∈ wsX100, w ∈ wsX0_comesOf := fun _ h => List.mem_cons_of_mem _ (List.mem_append_right _ h)
abbrev rmX0_comesOf : Room := { frames := 1, cells := 0, slots := 0, locals := 24 }
set_option maxHeartbeats 4000000 in
set_option maxRecDepth 100000 in
theorem kX0_comesOf (l : Launch) (D : va_G) (cI cZ cS : ClassId) (zz : ZT) (ad : Nat → Nat) (σ : SS) (a1 : Int32) (rr : Int32) (hf : pX0_comesOf σ a1 = some rr) : CI l yX0_comesOf wsX0_comesOf rmX0_comesOf D (K3 cI cZ cS) zz [.ref (ad 0), .int a1] (wX0 cI cZ cS ad σ) (wX0 cI cZ cS ad σ) rr := by
  refine q_ofI (cc := cX0_comesOf) (maxL := 6) (ty := .int) (by decide) rfl (Nat.le_of_ble_eq_true rfl) ?_
  intro p e s m below meth c Q A ls hx hb hml hown hts hK hZ hA hP hD hS hl hret
  have hl : lv_has ls 6 [(0, .ref (ad 0)), (1, .int a1)] := hl
  unfold pX0_comesOf at hf
  refine lv_aload_n hx hb dX0_comesOf_0 rfl (lv_at hl 0 rfl) ?_
  refine va_get (D := D) (ci := 0) (C := RX0) (T := TX0) (N := 13) hx hb hts fwX0_comesOf_X0 hown hK hP 0 rfl rfl 0 (by decide) (hts _ (List.mem_of_getElem? (i := 1) rfl)) (fun _ h9 => h9) rfl dX0_comesOf_1 ?_
  refine va_get (D := D) (ci := 10) (C := RX10) (T := TX10) (N := 5) hx hb hts fwX0_comesOf_X10 hown hK hP 1 rfl rfl 2 (by decide) (hts _ (List.mem_of_getElem? (i := 2) rfl)) (fun _ h9 => h9) rfl dX0_comesOf_4 ?_
  refine lv_iload_n hx hb dX0_comesOf_7 rfl (lv_at hl 1 rfl) ?_
  refine w_iald (wf := (wX0 cI cZ cS ad)) hx hb hK hP 3 0 rfl rfl hf dX0_comesOf_8 (fun v1 hf => ?_)
  refine lv_istore_n (lv' := [(2, .int v1), (0, .ref (ad 0)), (1, .int a1)]) hx hb dX0_comesOf_9 rfl hl (by decide) rfl (fun ls hl => ?_)
  refine lv_aload_n hx hb dX0_comesOf_10 rfl (lv_at hl 1 rfl) ?_
  refine va_get (D := D) (ci := 0) (C := RX0) (T := TX0) (N := 13) hx hb hts fwX0_comesOf_X0 hown hK hP 0 rfl rfl 0 (by decide) (hts _ (List.mem_of_getElem? (i := 1) rfl)) (fun _ h9 => h9) rfl dX0_comesOf_11 ?_
  refine va_get (D := D) (ci := 10) (C := RX10) (T := TX10) (N := 5) hx hb hts fwX0_comesOf_X10 hown hK hP 1 rfl rfl 3 (by decide) (hts _ (List.mem_of_getElem? (i := 3) rfl)) (fun _ h9 => h9) rfl dX0_comesOf_14 ?_
  refine lv_iload_n hx hb dX0_comesOf_17 rfl (lv_at hl 2 rfl) ?_
  refine w_iald (wf := (wX0 cI cZ cS ad)) hx hb hK hP 4 0 rfl rfl hf dX0_comesOf_18 (fun v2 hf => ?_)
  refine lv_istore_n (lv' := [(3, .int v2), (2, .int v1), (0, .ref (ad 0)), (1, .int a1)]) hx hb dX0_comesOf_19 rfl hl (by decide) rfl (fun ls hl => ?_)
  refine lv_aload_n hx hb dX0_comesOf_20 rfl (lv_at hl 2 rfl) ?_
  refine lv_iconst (v := 0) hx hb dX0_comesOf_21 (by decide) ?_
  refine q_cVr (wf := (wX0 cI cZ cS ad)) (wc := wX0 cI cZ cS ad) (rest := []) ⟨hx, hb, hml, hown, hts⟩ hK hZ hA hP hD hS hf (fun x ho => kX0_has l D cI cZ cS zz ad σ (0 : Int32) x ho) (cwV 1 hts gX0_comesOf_X0_has rfl rfl rfl ndX0_has ⟨Nat.le_of_ble_eq_true rfl, Nat.le_of_ble_eq_true rfl⟩) [0, 1, 2, 3, 4, 5, 6, 7, 8, 9, 10, 11, 12] rfl rfl rfl rfl rfl rfl (hl.1) rfl (Nat.le_of_ble_eq_true rfl) dX0_comesOf_22 ⟨Nat.zero_le _, Nat.zero_le _⟩ (fun r3 H locs hf hP hD hS => ?_)
  refine lv_istore (lv' := [(4, .int r3), (3, .int v2), (2, .int v1), (0, .ref (ad 0)), (1, .int a1)]) hx hb dX0_comesOf_25 hl (by decide) rfl (fun ls hl => ?_)
  refine lv_iload hx hb dX0_comesOf_27 (lv_at hl 0 rfl) ?_
  refine q_lt_go hf (fun j5 ej5 hf => ?_)
  have Jj5 : ∀ (y4 : Int32) (H : Heap) (locs : List Loc) (ls : Array Slot), va_P D vwCl ((wX0 cI cZ cS ad) σ) H → va_D A ((wX0 cI cZ cS ad) σ) → va_S A s.heap H locs → lv_has ls 6 [(0, .ref (ad 0)), (1, .int a1), (2, .int v1), (3, .int v2), (4, .int r3)] → j5 y4 = some rr → W p l e rmX0_comesOf s m ([.ref (ad 0), .int a1] : List Value).toArray below meth c H locs 0 0 Q (F0 m 55 ls [.int y4]) := by
    intro y4 H locs ls hP hD hS hl hf
    have hf := (congrFun ej5 y4).symm.trans hf
    refine lv_istore (lv' := [(5, .int y4), (0, .ref (ad 0)), (1, .int a1), (2, .int v1), (3, .int v2), (4, .int r3)]) hx hb dX0_comesOf_55 hl (by decide) rfl (fun ls hl => ?_)
    refine lv_aload_n hx hb dX0_comesOf_57 rfl (lv_at hl 1 rfl) ?_
    refine va_get (D := D) (ci := 0) (C := RX0) (T := TX0) (N := 13) hx hb hts fwX0_comesOf_X0 hown hK hP 0 rfl rfl 0 (by decide) (hts _ (List.mem_of_getElem? (i := 1) rfl)) (fun _ h9 => h9) rfl dX0_comesOf_58 ?_
    refine va_get (D := D) (ci := 10) (C := RX10) (T := TX10) (N := 5) hx hb hts fwX0_comesOf_X10 hown hK hP 1 rfl rfl 1 (by decide) (hts _ (List.mem_of_getElem? (i := 5) rfl)) (fun _ h9 => h9) rfl dX0_comesOf_61 ?_
    refine lv_iload_n hx hb dX0_comesOf_64 rfl (lv_at hl 2 rfl) ?_
    refine w_iald (wf := (wX0 cI cZ cS ad)) hx hb hK hP 2 0 rfl rfl hf dX0_comesOf_65 (fun v6 hf => ?_)
    by_cases h7 : v6 = (1 : Int32)
    · have hf := (if_pos h7).symm.trans hf
      refine lv_tableIn (tgt := 104) hx hb dX0_comesOf_66 (by rw [h7]; decide) (by rw [h7]; decide) (by rw [h7]; rfl) (by decide) ?_
      refine lv_iload hx hb dX0_comesOf_104 (lv_at hl 0 rfl) ?_
      have hi1 := Option.some.inj hf
      subst hi1
      exact hret _ _ _ _ dX0_comesOf_106 rfl hP hS
    have hf := (if_neg h7).symm.trans hf
    by_cases h8 : v6 = (2 : Int32)
    · have hf := (if_pos h8).symm.trans hf
      refine lv_tableIn (tgt := 107) hx hb dX0_comesOf_66 (by rw [h8]; decide) (by rw [h8]; decide) (by rw [h8]; rfl) (by decide) ?_
      refine lv_iload_n hx hb dX0_comesOf_107 rfl (lv_at hl 3 rfl) ?_
      refine lv_iconst (v := 0) hx hb dX0_comesOf_108 (by decide) ?_
      refine lv_aload_n hx hb dX0_comesOf_109 rfl (lv_at hl 1 rfl) ?_
      refine va_get (D := D) (ci := 0) (C := RX0) (T := TX0) (N := 13) hx hb hts fwX0_comesOf_X0 hown hK hP 0 rfl rfl 6 (by decide) (hts _ (List.mem_of_getElem? (i := 6) rfl)) (fun _ h9 => h9) rfl dX0_comesOf_110 ?_
      refine lv_iload_n hx hb dX0_comesOf_113 rfl (lv_at hl 4 rfl) ?_
      refine lv_isub hx hb dX0_comesOf_114 ?_
      refine va_mmax hx hb (hml.trans hl.1.symm) hown (hts _ (List.mem_of_getElem? (i := 7) rfl)) (hts _ (List.mem_of_getElem? (i := 8) rfl)) (hts _ (List.mem_of_getElem? (i := 9) rfl)) (hts _ (List.mem_of_getElem? (i := 10) rfl)) (Nat.le_of_ble_eq_true rfl) (Nat.le_of_ble_eq_true rfl) (Nat.zero_le _) (Nat.zero_le _) dX0_comesOf_115 ?_
      refine lv_imul hx hb dX0_comesOf_118 ?_
      have hi1 := Option.some.inj hf
      subst hi1
      exact hret _ _ _ _ dX0_comesOf_119 rfl hP hS
    have hf := (if_neg h8).symm.trans hf
    by_cases h9 : v6 = (3 : Int32)
    · have hf := (if_pos h9).symm.trans hf
      refine lv_tableIn (tgt := 120) hx hb dX0_comesOf_66 (by rw [h9]; decide) (by rw [h9]; decide) (by rw [h9]; rfl) (by decide) ?_
      refine lv_aload_n hx hb dX0_comesOf_120 rfl (lv_at hl 1 rfl) ?_
      refine va_get (D := D) (ci := 0) (C := RX0) (T := TX0) (N := 13) hx hb hts fwX0_comesOf_X0 hown hK hP 0 rfl rfl 5 (by decide) (hts _ (List.mem_of_getElem? (i := 11) rfl)) (fun _ h9 => h9) rfl dX0_comesOf_121 ?_
      refine q_lt_go hf (fun j11 ej11 hf => ?_)
      have Jj11 : ∀ (y10 : Int32) (H : Heap) (locs : List Loc) (ls : Array Slot), va_P D vwCl ((wX0 cI cZ cS ad) σ) H → va_D A ((wX0 cI cZ cS ad) σ) → va_S A s.heap H locs → lv_has ls 6 [] → j11 y10 = some rr → W p l e rmX0_comesOf s m ([.ref (ad 0), .int a1] : List Value).toArray below meth c H locs 0 0 Q (F0 m 143 ls [.int y10]) := by
        intro y10 H locs ls hP hD hS hl hf
        have hf := (congrFun ej11 y10).symm.trans hf
        have hi1 := Option.some.inj hf
        subst hi1
        exact hret _ _ _ _ dX0_comesOf_143 rfl hP hS
      refine lv_if_eq (tgt := 142) hx hb dX0_comesOf_124 (by decide) (fun h12 => ?_) (fun h12 => ?_)
      · have hf := (if_pos h12).symm.trans hf
        refine lv_iconst (v := 0) hx hb dX0_comesOf_142 (by decide) ?_
        exact Jj11 (0 : Int32) _ _ _ hP hD hS (lv_sub hl [] rfl) hf
      · have hf := (if_neg h12).symm.trans hf
        refine lv_iload_n hx hb dX0_comesOf_127 rfl (lv_at hl 3 rfl) ?_
        refine lv_iconst (v := 0) hx hb dX0_comesOf_128 (by decide) ?_
        refine lv_aload_n hx hb dX0_comesOf_129 rfl (lv_at hl 1 rfl) ?_
        refine va_get (D := D) (ci := 0) (C := RX0) (T := TX0) (N := 13) hx hb hts fwX0_comesOf_X0 hown hK hP 0 rfl rfl 6 (by decide) (hts _ (List.mem_of_getElem? (i := 6) rfl)) (fun _ h9 => h9) rfl dX0_comesOf_130 ?_
        refine lv_iload_n hx hb dX0_comesOf_133 rfl (lv_at hl 4 rfl) ?_
        refine lv_isub hx hb dX0_comesOf_134 ?_
        refine va_mmax hx hb (hml.trans hl.1.symm) hown (hts _ (List.mem_of_getElem? (i := 7) rfl)) (hts _ (List.mem_of_getElem? (i := 8) rfl)) (hts _ (List.mem_of_getElem? (i := 9) rfl)) (hts _ (List.mem_of_getElem? (i := 10) rfl)) (Nat.le_of_ble_eq_true rfl) (Nat.le_of_ble_eq_true rfl) (Nat.zero_le _) (Nat.zero_le _) dX0_comesOf_135 ?_
        refine lv_imul hx hb dX0_comesOf_138 ?_
        refine lv_goto (tgt := 143) hx hb dX0_comesOf_139 (by decide) ?_
        exact Jj11 (v1 * (if (0 : Int32) < ((σ 0 6) - v2) then ((σ 0 6) - v2) else (0 : Int32))) _ _ _ hP hD hS (lv_sub hl [] rfl) hf
    have hf := (if_neg h9).symm.trans hf
    by_cases h13 : v6 = (4 : Int32)
    · have hf := (if_pos h13).symm.trans hf
      refine lv_tableIn (tgt := 144) hx hb dX0_comesOf_66 (by rw [h13]; decide) (by rw [h13]; decide) (by rw [h13]; rfl) (by decide) ?_
      refine lv_iload hx hb dX0_comesOf_144 (lv_at hl 0 rfl) ?_
      refine lv_iconst (v := 2) hx hb dX0_comesOf_146 (by decide) ?_
      refine lv_idiv hx hb dX0_comesOf_147 (by decide) ?_
      have hi1 := Option.some.inj hf
      subst hi1
      exact hret _ _ _ _ dX0_comesOf_148 rfl hP hS
    have hf := (if_neg h13).symm.trans hf
    by_cases h14 : v6 = (5 : Int32)
    · have hf := (if_pos h14).symm.trans hf
      refine lv_tableIn (tgt := 149) hx hb dX0_comesOf_66 (by rw [h14]; decide) (by rw [h14]; decide) (by rw [h14]; rfl) (by decide) ?_
      refine lv_aload_n hx hb dX0_comesOf_149 rfl (lv_at hl 1 rfl) ?_
      refine va_get (D := D) (ci := 0) (C := RX0) (T := TX0) (N := 13) hx hb hts fwX0_comesOf_X0 hown hK hP 0 rfl rfl 9 (by decide) (hts _ (List.mem_of_getElem? (i := 12) rfl)) (fun _ h9 => h9) rfl dX0_comesOf_150 ?_
      refine lv_iload_n hx hb dX0_comesOf_153 rfl (lv_at hl 4 rfl) ?_
      refine q_lt_go hf (fun j16 ej16 hf => ?_)
      have Jj16 : ∀ (y15 : Int32) (H : Heap) (locs : List Loc) (ls : Array Slot), va_P D vwCl ((wX0 cI cZ cS ad) σ) H → va_D A ((wX0 cI cZ cS ad) σ) → va_S A s.heap H locs → lv_has ls 6 [] → j16 y15 = some rr → W p l e rmX0_comesOf s m ([.ref (ad 0), .int a1] : List Value).toArray below meth c H locs 0 0 Q (F0 m 162 ls [.int y15]) := by
        intro y15 H locs ls hP hD hS hl hf
        have hf := (congrFun ej16 y15).symm.trans hf
        have hi1 := Option.some.inj hf
        subst hi1
        exact hret _ _ _ _ dX0_comesOf_162 rfl hP hS
      refine lv_icmp_lt (tgt := 161) hx hb dX0_comesOf_154 (by decide) (fun h17 => ?_) (fun h17 => ?_)
      · have hf := (if_pos h17).symm.trans hf
        refine lv_iconst (v := 0) hx hb dX0_comesOf_161 (by decide) ?_
        exact Jj16 (0 : Int32) _ _ _ hP hD hS (lv_sub hl [] rfl) hf
      · have hf := (if_neg h17).symm.trans hf
        refine lv_iload_n hx hb dX0_comesOf_157 rfl (lv_at hl 3 rfl) ?_
        refine lv_goto (tgt := 162) hx hb dX0_comesOf_158 (by decide) ?_
        exact Jj16 v1 _ _ _ hP hD hS (lv_sub hl [] rfl) hf
    have hf := (if_neg h14).symm.trans hf
    by_cases h18 : v6 = (6 : Int32)
    · have hf := (if_pos h18).symm.trans hf
      refine lv_tableIn (tgt := 163) hx hb dX0_comesOf_66 (by rw [h18]; decide) (by rw [h18]; decide) (by rw [h18]; rfl) (by decide) ?_
      refine lv_iload hx hb dX0_comesOf_163 (lv_at hl 0 rfl) ?_
      refine lv_iconst (v := 2) hx hb dX0_comesOf_165 (by decide) ?_
      refine lv_idiv hx hb dX0_comesOf_166 (by decide) ?_
      refine lv_iload hx hb dX0_comesOf_167 (lv_at hl 5 rfl) ?_
      refine q_lt_go hf (fun j20 ej20 hf => ?_)
      have Jj20 : ∀ (y19 : Int32) (H : Heap) (locs : List Loc) (ls : Array Slot), va_P D vwCl ((wX0 cI cZ cS ad) σ) H → va_D A ((wX0 cI cZ cS ad) σ) → va_S A s.heap H locs → lv_has ls 6 [] → j20 y19 = some rr → W p l e rmX0_comesOf s m ([.ref (ad 0), .int a1] : List Value).toArray below meth c H locs 0 0 Q (F0 m 177 ls [.int y19, .int (y4 / (2 : Int32))]) := by
        intro y19 H locs ls hP hD hS hl hf
        have hf := (congrFun ej20 y19).symm.trans hf
        refine lv_iadd hx hb dX0_comesOf_177 ?_
        have hi1 := Option.some.inj hf
        subst hi1
        exact hret _ _ _ _ dX0_comesOf_178 rfl hP hS
      refine lv_if_eq (tgt := 176) hx hb dX0_comesOf_169 (by decide) (fun h21 => ?_) (fun h21 => ?_)
      · have hf := (if_pos h21).symm.trans hf
        refine lv_iconst (v := 0) hx hb dX0_comesOf_176 (by decide) ?_
        exact Jj20 (0 : Int32) _ _ _ hP hD hS (lv_sub hl [] rfl) hf
      · have hf := (if_neg h21).symm.trans hf
        refine lv_iload_n hx hb dX0_comesOf_172 rfl (lv_at hl 3 rfl) ?_
        refine lv_goto (tgt := 177) hx hb dX0_comesOf_173 (by decide) ?_
        exact Jj20 v1 _ _ _ hP hD hS (lv_sub hl [] rfl) hf
    have hf := (if_neg h18).symm.trans hf
    refine lv_tableOut (tgt := 179) hx hb dX0_comesOf_66 (by have := q_ne h7 (z := 1) rfl; have := q_ne h8 (z := 2) rfl; have := q_ne h9 (z := 3) rfl; have := q_ne h13 (z := 4) rfl; have := q_ne h14 (z := 5) rfl; have := q_ne h18 (z := 6) rfl; omega) (by decide) ?_
    refine lv_iload_n hx hb dX0_comesOf_179 rfl (lv_at hl 3 rfl) ?_
    have hi1 := Option.some.inj hf
    subst hi1
    exact hret _ _ _ _ dX0_comesOf_180 rfl hP hS
  refine lv_if_eq (tgt := 46) hx hb dX0_comesOf_29 (by decide) (fun h22 => ?_) (fun h22 => ?_)
  · have hf := (if_pos h22).symm.trans hf
    refine lv_iload_n hx hb dX0_comesOf_46 rfl (lv_at hl 2 rfl) ?_
    refine lv_aload_n hx hb dX0_comesOf_47 rfl (lv_at hl 3 rfl) ?_
    refine va_get (D := D) (ci := 0) (C := RX0) (T := TX0) (N := 13) hx hb hts fwX0_comesOf_X0 hown hK hP 0 rfl rfl 7 (by decide) (hts _ (List.mem_of_getElem? (i := 4) rfl)) (fun _ h9 => h9) rfl dX0_comesOf_48 ?_
    refine lv_imul hx hb dX0_comesOf_51 ?_
    refine lv_bipush (v := 100) hx hb dX0_comesOf_52 (by decide) ?_
    refine lv_idiv hx hb dX0_comesOf_54 (by decide) ?_
    exact Jj5 ((v1 * (σ 0 7)) / (100 : Int32)) _ _ _ hP hD hS (lv_sub hl [3, 4, 2, 1, 0] rfl) hf
  · have hf := (if_neg h22).symm.trans hf
    refine lv_iload_n hx hb dX0_comesOf_32 rfl (lv_at hl 2 rfl) ?_
    refine lv_aload_n hx hb dX0_comesOf_33 rfl (lv_at hl 3 rfl) ?_
    refine va_get (D := D) (ci := 0) (C := RX0) (T := TX0) (N := 13) hx hb hts fwX0_comesOf_X0 hown hK hP 0 rfl rfl 7 (by decide) (hts _ (List.mem_of_getElem? (i := 4) rfl)) (fun _ h9 => h9) rfl dX0_comesOf_34 ?_
    refine lv_imul hx hb dX0_comesOf_37 ?_
    refine lv_bipush (v := 100) hx hb dX0_comesOf_38 (by decide) ?_
    refine lv_idiv hx hb dX0_comesOf_40 (by decide) ?_
    refine lv_iconst (v := 2) hx hb dX0_comesOf_41 (by decide) ?_
    refine lv_idiv hx hb dX0_comesOf_42 (by decide) ?_
    refine lv_goto (tgt := 55) hx hb dX0_comesOf_43 (by decide) ?_
    exact Jj5 (((v1 * (σ 0 7)) / (100 : Int32)) / (2 : Int32)) _ _ _ hP hD hS (lv_sub hl [3, 4, 2, 1, 0] rfl) hf
def pX0_soakGround (σ : SS) : Option SS := q_lt (su σ 0 7 ((σ 0 7) + (σ 0 6))) (fun (σ1 : SS) => q_lt (su σ1 0 7 ((σ1 0 7) - ((σ1 0 7) / (50 : Int32)))) (fun (σ2 : SS) => q_rd k_most 8 (1 : Int32) (fun (v3 : Int32) => q_lt (su σ2 0 7 (if v3 < (σ2 0 7) then v3 else (σ2 0 7))) (fun (σ4 : SS) => some σ4))))
theorem fwX0_soakGround_X0 : ∀ w ∈ wsX00, w ∈ wsX0_soakGround := fun _ h => List.mem_cons_of_mem _ (List.mem_append_right _ h)
abbrev rmX0_soakGround : Room := { frames := 1, cells := 0, slots := 0, locals := 24 }
set_option maxHeartbeats 4000000 in
set_option maxRecDepth 100000 in
theorem kX0_soakGround (l : Launch) (D : va_G) (cI cZ cS : ClassId) (zz : ZT) (ad : Nat → Nat) (σ : SS) (σr : SS) (hf : pX0_soakGround σ = some σr) : CV l yX0_soakGround wsX0_soakGround rmX0_soakGround D (K3 cI cZ cS) zz [.ref (ad 0)] (wX0 cI cZ cS ad σ) (wX0 cI cZ cS ad σr) := by
  refine q_ofV (cc := cX0_soakGround) (maxL := 1) (by decide) rfl (Nat.le_of_ble_eq_true rfl) ?_
  intro p e s m below meth c Q A ls hx hb hml hown hts hK hZ hA hP hD hS hl hret
  have hl : lv_has ls 1 [(0, .ref (ad 0))] := hl
  unfold pX0_soakGround at hf
  refine lv_aload_n hx hb dX0_soakGround_0 rfl (lv_at hl 0 rfl) ?_
  refine lv_dup hx hb dX0_soakGround_1 rfl ?_
  refine va_get (D := D) (ci := 0) (C := RX0) (T := TX0) (N := 13) hx hb hts fwX0_soakGround_X0 hown hK hP 0 rfl rfl 7 (by decide) (hts _ (List.mem_of_getElem? (i := 1) rfl)) (fun _ h9 => h9) rfl dX0_soakGround_2 ?_
  refine lv_aload_n hx hb dX0_soakGround_5 rfl (lv_at hl 0 rfl) ?_
  refine va_get (D := D) (ci := 0) (C := RX0) (T := TX0) (N := 13) hx hb hts fwX0_soakGround_X0 hown hK hP 0 rfl rfl 6 (by decide) (hts _ (List.mem_of_getElem? (i := 2) rfl)) (fun _ h9 => h9) rfl dX0_soakGround_6 ?_
  refine lv_iadd hx hb dX0_soakGround_9 ?_
  refine w_put (D := D) (wf := (wX0 cI cZ cS ad)) (cid := 0) (ci := 0) (C := RX0) (T := TX0) (N := 13) hx hb hts fwX0_soakGround_X0 tyX0 tyX0_ok nmX0 hown hK hP hD hS 0 rfl rfl 7 (by decide) (hts _ (List.mem_of_getElem? (i := 1) rfl)) (fun _ h9 => h9) rfl (tyX0_ok 7 (by decide)) (Nat.le_of_ble_eq_true rfl) hf rfl dX0_soakGround_10 (fun σ1 H locs hf hP hD hS => ?_)
  refine lv_aload_n hx hb dX0_soakGround_13 rfl (lv_at hl 0 rfl) ?_
  refine lv_dup hx hb dX0_soakGround_14 rfl ?_
  refine va_get (D := D) (ci := 0) (C := RX0) (T := TX0) (N := 13) hx hb hts fwX0_soakGround_X0 hown hK hP 0 rfl rfl 7 (by decide) (hts _ (List.mem_of_getElem? (i := 1) rfl)) (fun _ h9 => h9) rfl dX0_soakGround_15 ?_
  refine lv_aload_n hx hb dX0_soakGround_18 rfl (lv_at hl 0 rfl) ?_
  refine va_get (D := D) (ci := 0) (C := RX0) (T := TX0) (N := 13) hx hb hts fwX0_soakGround_X0 hown hK hP 0 rfl rfl 7 (by decide) (hts _ (List.mem_of_getElem? (i := 1) rfl)) (fun _ h9 => h9) rfl dX0_soakGround_19 ?_
  refine lv_bipush (v := 50) hx hb dX0_soakGround_22 (by decide) ?_
  refine lv_idiv hx hb dX0_soakGround_24 (by decide) ?_
  refine lv_isub hx hb dX0_soakGround_25 ?_
  refine w_put (D := D) (wf := (wX0 cI cZ cS ad)) (cid := 0) (ci := 0) (C := RX0) (T := TX0) (N := 13) hx hb hts fwX0_soakGround_X0 tyX0 tyX0_ok nmX0 hown hK hP hD hS 0 rfl rfl 7 (by decide) (hts _ (List.mem_of_getElem? (i := 1) rfl)) (fun _ h9 => h9) rfl (tyX0_ok 7 (by decide)) (Nat.le_of_ble_eq_true rfl) hf rfl dX0_soakGround_26 (fun σ2 H locs hf hP hD hS => ?_)
  refine lv_aload_n hx hb dX0_soakGround_29 rfl (lv_at hl 0 rfl) ?_
  refine lv_aload_n hx hb dX0_soakGround_30 rfl (lv_at hl 0 rfl) ?_
  refine va_get (D := D) (ci := 0) (C := RX0) (T := TX0) (N := 13) hx hb hts fwX0_soakGround_X0 hown hK hP 0 rfl rfl 7 (by decide) (hts _ (List.mem_of_getElem? (i := 1) rfl)) (fun _ h9 => h9) rfl dX0_soakGround_31 ?_
  refine va_getsN hx hb hZ.2.2.1.1 hS hown (va_Nw.use rfl hZ.2.2.2.2.2.1.1) (fun _ h9 => h9) dX0_soakGround_34 ?_
  refine lv_iconst (v := 1) hx hb dX0_soakGround_37 (by decide) ?_
  refine w_tald hx hb hZ.2.2.1 hS hf dX0_soakGround_38 (fun v3 hf => ?_)
  refine va_mmin hx hb (hml.trans hl.1.symm) hown (hts _ (List.mem_of_getElem? (i := 3) rfl)) (hts _ (List.mem_of_getElem? (i := 4) rfl)) (hts _ (List.mem_of_getElem? (i := 5) rfl)) (hts _ (List.mem_of_getElem? (i := 6) rfl)) (Nat.le_of_ble_eq_true rfl) (Nat.le_of_ble_eq_true rfl) (Nat.zero_le _) (Nat.zero_le _) dX0_soakGround_39 ?_
  refine w_put (D := D) (wf := (wX0 cI cZ cS ad)) (cid := 0) (ci := 0) (C := RX0) (T := TX0) (N := 13) hx hb hts fwX0_soakGround_X0 tyX0 tyX0_ok nmX0 hown hK hP hD hS 0 rfl rfl 7 (by decide) (hts _ (List.mem_of_getElem? (i := 1) rfl)) (fun _ h9 => h9) rfl (tyX0_ok 7 (by decide)) (Nat.le_of_ble_eq_true rfl) hf rfl dX0_soakGround_42 (fun σ4 H locs hf hP hD hS => ?_)
  have hi1 := Option.some.inj hf
  subst hi1
  exact hret _ _ _ _ dX0_soakGround_45 hP hS
def pX0_takeIn (σ : SS) : Option (Int32 × SS) := q_lp (fun _ _ _ => none) (fun (c4 : SS → Int32 → Int32 → Option (Int32 × SS)) (σ3 : SS) (x1_1 : Int32) (x2_2 : Int32) => (if (σ3 1 0) ≤ x2_2 then q_lt (su σ3 0 10 ((σ3 0 10) + x1_1)) (fun (σ8 : SS) => some (x1_1, σ8)) else q_cr (pX0_comesOf σ3 x2_2) (fun (r9 : Int32) => q_rd (σ3 5) 8 x2_2 (fun (v10 : Int32) => q_wr σ3 5 8 x2_2 (v10 + r9) (fun (σ11 : SS) => q_lt (x1_1 + r9) (fun x1_12 => c4 σ11 x1_12 (x2_2 + (1 : Int32)))))))) q_fu σ (0 : Int32) (0 : Int32)
theorem fwX0_takeIn_X0 : ∀ w ∈ wsX00, w ∈ wsX0_takeIn := fun _ h => List.mem_cons_of_mem _ (List.mem_append_left _ (List.mem_append_right _ h))
theorem fwX0_takeIn_X10 : ∀ w ∈ wsX100, w ∈ wsX0_takeIn := fun _ h => List.mem_cons_of_mem _ (List.mem_append_right _ h)
abbrev rmX0_takeIn : Room := { frames := 2, cells := 0, slots := 0, locals := 49 }
set_option maxHeartbeats 4000000 in
set_option maxRecDepth 100000 in
theorem kX0_takeIn (l : Launch) (D : va_G) (cI cZ cS : ClassId) (zz : ZT) (ad : Nat → Nat) (σ : SS) (rr : Int32) (σr : SS) (hf : pX0_takeIn σ = some (rr, σr)) : CI l yX0_takeIn wsX0_takeIn rmX0_takeIn D (K3 cI cZ cS) zz [.ref (ad 0)] (wX0 cI cZ cS ad σ) (wX0 cI cZ cS ad σr) rr := by
  refine q_ofI (cc := cX0_takeIn) (maxL := 4) (ty := .int) (by decide) rfl (Nat.le_of_ble_eq_true rfl) ?_
  intro p e s m below meth c Q A ls hx hb hml hown hts hK hZ hA hP hD hS hl hret
  have hl : lv_has ls 4 [(0, .ref (ad 0))] := hl
  unfold pX0_takeIn at hf
  refine lv_iconst (v := 0) hx hb dX0_takeIn_0 (by decide) ?_
  refine lv_istore_n (lv' := [(1, .int (0 : Int32)), (0, .ref (ad 0))]) hx hb dX0_takeIn_1 rfl hl (by decide) rfl (fun ls hl => ?_)
  refine lv_iconst (v := 0) hx hb dX0_takeIn_2 (by decide) ?_
  refine lv_istore_n (lv' := [(2, .int (0 : Int32)), (1, .int (0 : Int32)), (0, .ref (ad 0))]) hx hb dX0_takeIn_3 rfl hl (by decide) rfl (fun ls hl => ?_)
  refine q_lp_go (f := fun (zf : SS → Int32 → Int32 → Option (Int32 × SS)) => zf σ (0 : Int32) (0 : Int32)) hf (fun z5 ez5 hf => ?_)
  have Lz5 : ∀ (n6 : Nat) (σ3 : SS) (x1_1 : Int32) (x2_2 : Int32) (H : Heap) (locs : List Loc) (ls : Array Slot), va_P D vwCl ((wX0 cI cZ cS ad) σ3) H → va_D A ((wX0 cI cZ cS ad) σ3) → va_S A s.heap H locs → lv_has ls 4 [(0, .ref (ad 0)), (1, .int x1_1), (2, .int x2_2)] → q_lp (fun _ _ _ => none) z5 n6 σ3 x1_1 x2_2 = some (rr, σr) → W p l e rmX0_takeIn s m ([.ref (ad 0)] : List Value).toArray below meth c H locs 0 0 Q (F0 m 4 ls []) := by
    intro n6
    induction n6 with
    | zero => exact fun _ _ _ _ _ _ _ _ _ _ hf => q_no hf
    | succ n6 ihz5 =>
      intro σ3 x1_1 x2_2 H locs ls hP hD hS hl hf
      have hf := (congrFun (congrFun (congrFun (congrFun ez5 (q_lp (fun _ _ _ => none) z5 n6)) σ3) x1_1) x2_2).symm.trans hf
      refine lv_iload_n hx hb dX0_takeIn_4 rfl (lv_at hl 2 rfl) ?_
      refine lv_aload_n hx hb dX0_takeIn_5 rfl (lv_at hl 0 rfl) ?_
      refine va_get (D := D) (ci := 0) (C := RX0) (T := TX0) (N := 13) hx hb hts fwX0_takeIn_X0 hown hK hP 0 rfl rfl 0 (by decide) (hts _ (List.mem_of_getElem? (i := 1) rfl)) (fun _ h9 => h9) rfl dX0_takeIn_6 ?_
      refine va_get (D := D) (ci := 10) (C := RX10) (T := TX10) (N := 5) hx hb hts fwX0_takeIn_X10 hown hK hP 1 rfl rfl 0 (by decide) (hts _ (List.mem_of_getElem? (i := 2) rfl)) (fun _ h9 => h9) rfl dX0_takeIn_9 ?_
      refine lv_icmp_ge (tgt := 44) hx hb dX0_takeIn_12 (by decide) (fun h7 => ?_) (fun h7 => ?_)
      · have hf := (if_pos h7).symm.trans hf
        refine lv_aload_n hx hb dX0_takeIn_44 rfl (lv_at hl 0 rfl) ?_
        refine lv_dup hx hb dX0_takeIn_45 rfl ?_
        refine va_get (D := D) (ci := 0) (C := RX0) (T := TX0) (N := 13) hx hb hts fwX0_takeIn_X0 hown hK hP 0 rfl rfl 10 (by decide) (hts _ (List.mem_of_getElem? (i := 4) rfl)) (fun _ h9 => h9) rfl dX0_takeIn_46 ?_
        refine lv_iload_n hx hb dX0_takeIn_49 rfl (lv_at hl 1 rfl) ?_
        refine lv_iadd hx hb dX0_takeIn_50 ?_
        refine w_put (D := D) (wf := (wX0 cI cZ cS ad)) (cid := 0) (ci := 0) (C := RX0) (T := TX0) (N := 13) hx hb hts fwX0_takeIn_X0 tyX0 tyX0_ok nmX0 hown hK hP hD hS 0 rfl rfl 10 (by decide) (hts _ (List.mem_of_getElem? (i := 4) rfl)) (fun _ h9 => h9) rfl (tyX0_ok 10 (by decide)) (Nat.le_of_ble_eq_true rfl) hf rfl dX0_takeIn_51 (fun σ8 H locs hf hP hD hS => ?_)
        refine lv_iload_n hx hb dX0_takeIn_54 rfl (lv_at hl 1 rfl) ?_
        obtain ⟨hi1, hi2⟩ := Prod.mk.inj (Option.some.inj hf)
        subst hi1
        subst hi2
        exact hret _ _ _ _ dX0_takeIn_55 rfl hP hS
      · have hf := (if_neg h7).symm.trans hf
        refine lv_aload_n hx hb dX0_takeIn_15 rfl (lv_at hl 0 rfl) ?_
        refine lv_iload_n hx hb dX0_takeIn_16 rfl (lv_at hl 2 rfl) ?_
        refine q_cVr (wf := (wX0 cI cZ cS ad)) (wc := wX0 cI cZ cS ad) (rest := []) ⟨hx, hb, hml, hown, hts⟩ hK hZ hA hP hD hS hf (fun x ho => kX0_comesOf l D cI cZ cS zz ad σ3 x2_2 x ho) (cwV 1 hts gX0_takeIn_X0_comesOf rfl rfl rfl ndX0_comesOf ⟨Nat.le_of_ble_eq_true rfl, Nat.le_of_ble_eq_true rfl⟩) [0, 1, 2, 3, 4, 5, 6, 7, 8, 9, 10, 11, 12] rfl rfl rfl rfl rfl rfl (hl.1) rfl (Nat.le_of_ble_eq_true rfl) dX0_takeIn_17 ⟨Nat.zero_le _, Nat.zero_le _⟩ (fun r9 H locs hf hP hD hS => ?_)
        refine lv_istore_n (lv' := [(3, .int r9), (0, .ref (ad 0)), (1, .int x1_1), (2, .int x2_2)]) hx hb dX0_takeIn_20 rfl hl (by decide) rfl (fun ls hl => ?_)
        refine lv_aload_n hx hb dX0_takeIn_21 rfl (lv_at hl 1 rfl) ?_
        refine va_get (D := D) (ci := 0) (C := RX0) (T := TX0) (N := 13) hx hb hts fwX0_takeIn_X0 hown hK hP 0 rfl rfl 0 (by decide) (hts _ (List.mem_of_getElem? (i := 1) rfl)) (fun _ h9 => h9) rfl dX0_takeIn_22 ?_
        refine va_get (D := D) (ci := 10) (C := RX10) (T := TX10) (N := 5) hx hb hts fwX0_takeIn_X10 hown hK hP 1 rfl rfl 4 (by decide) (hts _ (List.mem_of_getElem? (i := 3) rfl)) (fun _ h9 => h9) rfl dX0_takeIn_25 ?_
        refine lv_iload_n hx hb dX0_takeIn_28 rfl (lv_at hl 3 rfl) ?_
        refine lv_dup2_11 hx hb dX0_takeIn_29 rfl rfl ?_
        refine w_iald (wf := (wX0 cI cZ cS ad)) hx hb hK hP 5 0 rfl rfl hf dX0_takeIn_30 (fun v10 hf => ?_)
        refine lv_iload_n hx hb dX0_takeIn_31 rfl (lv_at hl 0 rfl) ?_
        refine lv_iadd hx hb dX0_takeIn_32 ?_
        refine w_iast (wf := (wX0 cI cZ cS ad)) (cid := 5) hx hb hK hP hD hS 5 0 rfl rfl hf (fun _ => rfl) dX0_takeIn_33 (fun σ11 H locs hf hP hD hS => ?_)
        refine lv_iload_n hx hb dX0_takeIn_34 rfl (lv_at hl 2 rfl) ?_
        refine lv_iload_n hx hb dX0_takeIn_35 rfl (lv_at hl 0 rfl) ?_
        refine lv_iadd hx hb dX0_takeIn_36 ?_
        refine lv_topi (fun x1_12 ex1_12 => ?_)
        have hf := q_lt_at ex1_12 hf
        refine lv_istore_n (lv' := [(1, .int x1_12), (3, .int r9), (0, .ref (ad 0)), (2, .int x2_2)]) hx hb dX0_takeIn_37 rfl hl (by decide) rfl (fun ls hl => ?_)
        refine lv_iinc (v := (x2_2 + (1 : Int32))) (lv' := [(2, .int (x2_2 + (1 : Int32))), (1, .int x1_12), (3, .int r9), (0, .ref (ad 0))]) hx hb dX0_takeIn_38 hl (k := 3) rfl rfl (by decide) rfl (fun ls hl => ?_)
        refine lv_goto (tgt := 4) hx hb dX0_takeIn_41 (by decide) ?_
        exact ihz5 σ11 x1_12 (x2_2 + (1 : Int32)) _ _ _ hP hD hS (lv_sub hl [3, 1, 0] rfl) hf
  exact Lz5 q_fu σ (0 : Int32) (0 : Int32) _ _ _ hP hD hS (lv_sub hl [2, 1, 0] rfl) hf
def pX4_hasPower (σ : SS) : Option Int32 := q_lt (fun (y1 : Int32) => q_zz y1 (some y1)) (fun j2 => q_lt (j2 (1 : Int32)) (fun j3 => (if (σ 0 5) = (0 : Int32) then (if (σ 0 4) ≤ (0 : Int32) then j2 (0 : Int32) else j3) else j3)))
theorem fwX4_hasPower_X4 : ∀ w ∈ wsX40, w ∈ wsX4_hasPower := fun _ h => List.mem_cons_of_mem _ (List.mem_append_right _ h)
abbrev rmX4_hasPower : Room := { frames := 0, cells := 0, slots := 0, locals := 0 }
set_option maxHeartbeats 4000000 in
set_option maxRecDepth 100000 in
theorem kX4_hasPower (l : Launch) (D : va_G) (cI cZ cS : ClassId) (zz : ZT) (ad : Nat → Nat) (σ : SS) (rr : Int32) (hf : pX4_hasPower σ = some rr) : CI l yX4_hasPower wsX4_hasPower rmX4_hasPower D (K3 cI cZ cS) zz [.ref (ad 0)] (wX4 cI cZ cS ad σ) (wX4 cI cZ cS ad σ) rr := by
  refine q_ofI (cc := cX4_hasPower) (maxL := 1) (ty := .boolean) (by decide) rfl (Nat.le_of_ble_eq_true rfl) ?_
  intro p e s m below meth c Q A ls hx hb hml hown hts hK hZ hA hP hD hS hl hret
  have hl : lv_has ls 1 [(0, .ref (ad 0))] := hl
  unfold pX4_hasPower at hf
  refine lv_aload_n hx hb dX4_hasPower_0 rfl (lv_at hl 0 rfl) ?_
  refine va_get (D := D) (ci := 4) (C := RX4) (T := TX4) (N := 11) hx hb hts fwX4_hasPower_X4 hown hK hP 0 rfl rfl 5 (by decide) (hts _ (List.mem_of_getElem? (i := 1) rfl)) (fun _ h9 => h9) rfl dX4_hasPower_1 ?_
  refine q_lt_go hf (fun j2 ej2 hf => ?_)
  have Jj2 : ∀ (y1 : Int32) (H : Heap) (locs : List Loc) (ls : Array Slot), va_P D vwCl ((wX4 cI cZ cS ad) σ) H → va_D A ((wX4 cI cZ cS ad) σ) → va_S A s.heap H locs → lv_has ls 1 [] → j2 y1 = some rr → W p l e rmX4_hasPower s m ([.ref (ad 0)] : List Value).toArray below meth c H locs 0 0 Q (F0 m 19 ls [.int y1]) := by
    intro y1 H locs ls hP hD hS hl hf
    have hf := (congrFun ej2 y1).symm.trans hf
    obtain ⟨hz, hf⟩ := q_zz_o hf
    have hi1 := Option.some.inj hf
    subst hi1
    exact hret _ _ _ _ dX4_hasPower_19 (q_zz_n hz).1 hP hS
  refine q_lt_go hf (fun j3 ej3 hf => ?_)
  have Jj3 : ∀ (H : Heap) (locs : List Loc) (ls : Array Slot), va_P D vwCl ((wX4 cI cZ cS ad) σ) H → va_D A ((wX4 cI cZ cS ad) σ) → va_S A s.heap H locs → lv_has ls 1 [] → j3 = some rr → W p l e rmX4_hasPower s m ([.ref (ad 0)] : List Value).toArray below meth c H locs 0 0 Q (F0 m 14 ls []) := by
    intro  H locs ls hP hD hS hl hf
    have hf := ej3.symm.trans hf
    refine lv_iconst (v := 1) hx hb dX4_hasPower_14 (by decide) ?_
    refine lv_goto (tgt := 19) hx hb dX4_hasPower_15 (by decide) ?_
    exact Jj2 (1 : Int32) _ _ _ hP hD hS (lv_sub hl [] rfl) hf
  refine lv_if_ne (tgt := 14) hx hb dX4_hasPower_4 (by decide) (fun h4 => ?_) (fun h4 => ?_)
  · have hf := (if_neg h4).symm.trans hf
    exact Jj3  _ _ _ hP hD hS (lv_sub hl [] rfl) hf
  · have hf := (if_pos h4).symm.trans hf
    refine lv_aload_n hx hb dX4_hasPower_7 rfl (lv_at hl 0 rfl) ?_
    refine va_get (D := D) (ci := 4) (C := RX4) (T := TX4) (N := 11) hx hb hts fwX4_hasPower_X4 hown hK hP 0 rfl rfl 4 (by decide) (hts _ (List.mem_of_getElem? (i := 2) rfl)) (fun _ h9 => h9) rfl dX4_hasPower_8 ?_
    refine lv_if_le (tgt := 18) hx hb dX4_hasPower_11 (by decide) (fun h5 => ?_) (fun h5 => ?_)
    · have hf := (if_pos h5).symm.trans hf
      refine lv_iconst (v := 0) hx hb dX4_hasPower_18 (by decide) ?_
      exact Jj2 (0 : Int32) _ _ _ hP hD hS (lv_sub hl [] rfl) hf
    · have hf := (if_neg h5).symm.trans hf
      exact Jj3  _ _ _ hP hD hS (lv_sub hl [] rfl) hf
def pX4_isDead (σ : SS) : Option Int32 := q_lt (fun (y1 : Int32) => q_zz y1 (some y1)) (fun j2 => (if (σ 0 8) ≤ (σ 0 3) then j2 (0 : Int32) else j2 (1 : Int32)))
theorem fwX4_isDead_X4 : ∀ w ∈ wsX40, w ∈ wsX4_isDead := fun _ h => List.mem_cons_of_mem _ (List.mem_append_right _ h)
abbrev rmX4_isDead : Room := { frames := 0, cells := 0, slots := 0, locals := 0 }
set_option maxHeartbeats 4000000 in
set_option maxRecDepth 100000 in
theorem kX4_isDead (l : Launch) (D : va_G) (cI cZ cS : ClassId) (zz : ZT) (ad : Nat → Nat) (σ : SS) (rr : Int32) (hf : pX4_isDead σ = some rr) : CI l yX4_isDead wsX4_isDead rmX4_isDead D (K3 cI cZ cS) zz [.ref (ad 0)] (wX4 cI cZ cS ad σ) (wX4 cI cZ cS ad σ) rr := by
  refine q_ofI (cc := cX4_isDead) (maxL := 1) (ty := .boolean) (by decide) rfl (Nat.le_of_ble_eq_true rfl) ?_
  intro p e s m below meth c Q A ls hx hb hml hown hts hK hZ hA hP hD hS hl hret
  have hl : lv_has ls 1 [(0, .ref (ad 0))] := hl
  unfold pX4_isDead at hf
  refine lv_aload_n hx hb dX4_isDead_0 rfl (lv_at hl 0 rfl) ?_
  refine va_get (D := D) (ci := 4) (C := RX4) (T := TX4) (N := 11) hx hb hts fwX4_isDead_X4 hown hK hP 0 rfl rfl 8 (by decide) (hts _ (List.mem_of_getElem? (i := 1) rfl)) (fun _ h9 => h9) rfl dX4_isDead_1 ?_
  refine lv_aload_n hx hb dX4_isDead_4 rfl (lv_at hl 0 rfl) ?_
  refine va_get (D := D) (ci := 4) (C := RX4) (T := TX4) (N := 11) hx hb hts fwX4_isDead_X4 hown hK hP 0 rfl rfl 3 (by decide) (hts _ (List.mem_of_getElem? (i := 2) rfl)) (fun _ h9 => h9) rfl dX4_isDead_5 ?_
  refine q_lt_go hf (fun j2 ej2 hf => ?_)
  have Jj2 : ∀ (y1 : Int32) (H : Heap) (locs : List Loc) (ls : Array Slot), va_P D vwCl ((wX4 cI cZ cS ad) σ) H → va_D A ((wX4 cI cZ cS ad) σ) → va_S A s.heap H locs → lv_has ls 1 [] → j2 y1 = some rr → W p l e rmX4_isDead s m ([.ref (ad 0)] : List Value).toArray below meth c H locs 0 0 Q (F0 m 16 ls [.int y1]) := by
    intro y1 H locs ls hP hD hS hl hf
    have hf := (congrFun ej2 y1).symm.trans hf
    obtain ⟨hz, hf⟩ := q_zz_o hf
    have hi1 := Option.some.inj hf
    subst hi1
    exact hret _ _ _ _ dX4_isDead_16 (q_zz_n hz).1 hP hS
  refine lv_icmp_le (tgt := 15) hx hb dX4_isDead_8 (by decide) (fun h3 => ?_) (fun h3 => ?_)
  · have hf := (if_pos h3).symm.trans hf
    refine lv_iconst (v := 0) hx hb dX4_isDead_15 (by decide) ?_
    exact Jj2 (0 : Int32) _ _ _ hP hD hS (lv_sub hl [] rfl) hf
  · have hf := (if_neg h3).symm.trans hf
    refine lv_iconst (v := 1) hx hb dX4_isDead_11 (by decide) ?_
    refine lv_goto (tgt := 16) hx hb dX4_isDead_12 (by decide) ?_
    exact Jj2 (1 : Int32) _ _ _ hP hD hS (lv_sub hl [] rfl) hf
def pX4_begin (σ : SS) (a1 : Int32) : Option SS := q_lt (fun (σ1 : SS) => q_lt (su σ1 0 8 ((σ1 0 8) + (1 : Int32))) (fun (σ3 : SS) => q_cr (pX4_isDead σ3) (fun (r4 : Int32) => q_lt (fun (y5 : Int32) => q_zz y5 (q_lt (su σ3 0 7 y5) (fun (σ7 : SS) => some σ7))) (fun j6 => (if r4 = (0 : Int32) then j6 (1 : Int32) else j6 (0 : Int32)))))) (fun j2 => (if (40 : Int32) ≤ (σ 0 8) then j2 σ else q_wr σ 1 40 (σ 0 8) a1 (fun (σ10 : SS) => j2 σ10)))
theorem fwX4_begin_X4 : ∀ w ∈ wsX40, w ∈ wsX4_begin := fun _ h => List.mem_cons_of_mem _ (List.mem_append_right _ h)
abbrev rmX4_begin : Room := { frames := 1, cells := 0, slots := 0, locals := 20 }
set_option maxHeartbeats 4000000 in
set_option maxRecDepth 100000 in
theorem kX4_begin (l : Launch) (D : va_G) (cI cZ cS : ClassId) (zz : ZT) (ad : Nat → Nat) (σ : SS) (a1 : Int32) (σr : SS) (hf : pX4_begin σ a1 = some σr) : CV l yX4_begin wsX4_begin rmX4_begin D (K3 cI cZ cS) zz [.ref (ad 0), .int a1] (wX4 cI cZ cS ad σ) (wX4 cI cZ cS ad σr) := by
  refine q_ofV (cc := cX4_begin) (maxL := 2) (by decide) rfl (Nat.le_of_ble_eq_true rfl) ?_
  intro p e s m below meth c Q A ls hx hb hml hown hts hK hZ hA hP hD hS hl hret
  have hl : lv_has ls 2 [(0, .ref (ad 0)), (1, .int a1)] := hl
  unfold pX4_begin at hf
  refine lv_aload_n hx hb dX4_begin_0 rfl (lv_at hl 0 rfl) ?_
  refine va_get (D := D) (ci := 4) (C := RX4) (T := TX4) (N := 11) hx hb hts fwX4_begin_X4 hown hK hP 0 rfl rfl 8 (by decide) (hts _ (List.mem_of_getElem? (i := 1) rfl)) (fun _ h9 => h9) rfl dX4_begin_1 ?_
  refine lv_bipush (v := 40) hx hb dX4_begin_4 (by decide) ?_
  refine q_lt_go hf (fun j2 ej2 hf => ?_)
  have Jj2 : ∀ (σ1 : SS) (H : Heap) (locs : List Loc) (ls : Array Slot), va_P D vwCl ((wX4 cI cZ cS ad) σ1) H → va_D A ((wX4 cI cZ cS ad) σ1) → va_S A s.heap H locs → lv_has ls 2 [(0, .ref (ad 0))] → j2 σ1 = some σr → W p l e rmX4_begin s m ([.ref (ad 0), .int a1] : List Value).toArray below meth c H locs 0 0 Q (F0 m 19 ls []) := by
    intro σ1 H locs ls hP hD hS hl hf
    have hf := (congrFun ej2 σ1).symm.trans hf
    refine lv_aload_n hx hb dX4_begin_19 rfl (lv_at hl 0 rfl) ?_
    refine lv_dup hx hb dX4_begin_20 rfl ?_
    refine va_get (D := D) (ci := 4) (C := RX4) (T := TX4) (N := 11) hx hb hts fwX4_begin_X4 hown hK hP 0 rfl rfl 8 (by decide) (hts _ (List.mem_of_getElem? (i := 1) rfl)) (fun _ h9 => h9) rfl dX4_begin_21 ?_
    refine lv_iconst (v := 1) hx hb dX4_begin_24 (by decide) ?_
    refine lv_iadd hx hb dX4_begin_25 ?_
    refine w_put (D := D) (wf := (wX4 cI cZ cS ad)) (cid := 0) (ci := 4) (C := RX4) (T := TX4) (N := 11) hx hb hts fwX4_begin_X4 tyX4 tyX4_ok nmX4 hown hK hP hD hS 0 rfl rfl 8 (by decide) (hts _ (List.mem_of_getElem? (i := 1) rfl)) (fun _ h9 => h9) rfl (tyX4_ok 8 (by decide)) (Nat.le_of_ble_eq_true rfl) hf rfl dX4_begin_26 (fun σ3 H locs hf hP hD hS => ?_)
    refine lv_aload_n hx hb dX4_begin_29 rfl (lv_at hl 0 rfl) ?_
    refine lv_aload_n hx hb dX4_begin_30 rfl (lv_at hl 0 rfl) ?_
    refine q_cVr (wf := (wX4 cI cZ cS ad)) (wc := wX4 cI cZ cS ad) (rest := [.ref (ad 0)]) ⟨hx, hb, hml, hown, hts⟩ hK hZ hA hP hD hS hf (fun x ho => kX4_isDead l D cI cZ cS zz ad σ3 x ho) (cwV 0 hts gX4_begin_X4_isDead rfl rfl rfl ndX4_isDead ⟨Nat.le_of_ble_eq_true rfl, Nat.le_of_ble_eq_true rfl⟩) [0, 1] rfl rfl rfl rfl rfl rfl (hl.1) rfl (Nat.le_of_ble_eq_true rfl) dX4_begin_31 ⟨Nat.zero_le _, Nat.zero_le _⟩ (fun r4 H locs hf hP hD hS => ?_)
    refine q_lt_go hf (fun j6 ej6 hf => ?_)
    have Jj6 : ∀ (y5 : Int32) (H : Heap) (locs : List Loc) (ls : Array Slot), va_P D vwCl ((wX4 cI cZ cS ad) σ3) H → va_D A ((wX4 cI cZ cS ad) σ3) → va_S A s.heap H locs → lv_has ls 2 [] → j6 y5 = some σr → W p l e rmX4_begin s m ([.ref (ad 0), .int a1] : List Value).toArray below meth c H locs 0 0 Q (F0 m 42 ls [.int y5, .ref (ad 0)]) := by
      intro y5 H locs ls hP hD hS hl hf
      have hf := (congrFun ej6 y5).symm.trans hf
      refine w_putZ (D := D) (wf := (wX4 cI cZ cS ad)) (cid := 0) (ci := 4) (C := RX4) (T := TX4) (N := 11) hx hb hts fwX4_begin_X4 tyX4 tyX4_ok nmX4 hown hK hP hD hS 0 rfl rfl 7 (by decide) (hts _ (List.mem_of_getElem? (i := 3) rfl)) (fun _ h9 => h9) rfl (tyX4_ok 7 (by decide)) (Nat.le_of_ble_eq_true rfl) hf rfl dX4_begin_42 (fun σ7 H locs hf hP hD hS => ?_)
      have hi1 := Option.some.inj hf
      subst hi1
      exact hret _ _ _ _ dX4_begin_45 hP hS
    refine lv_if_ne (tgt := 41) hx hb dX4_begin_34 (by decide) (fun h8 => ?_) (fun h8 => ?_)
    · have hf := (if_neg h8).symm.trans hf
      refine lv_iconst (v := 0) hx hb dX4_begin_41 (by decide) ?_
      exact Jj6 (0 : Int32) _ _ _ hP hD hS (lv_sub hl [] rfl) hf
    · have hf := (if_pos h8).symm.trans hf
      refine lv_iconst (v := 1) hx hb dX4_begin_37 (by decide) ?_
      refine lv_goto (tgt := 42) hx hb dX4_begin_38 (by decide) ?_
      exact Jj6 (1 : Int32) _ _ _ hP hD hS (lv_sub hl [] rfl) hf
  refine lv_icmp_ge (tgt := 19) hx hb dX4_begin_6 (by decide) (fun h9 => ?_) (fun h9 => ?_)
  · have hf := (if_pos h9).symm.trans hf
    exact Jj2 σ _ _ _ hP hD hS (lv_sub hl [0] rfl) hf
  · have hf := (if_neg h9).symm.trans hf
    refine lv_aload_n hx hb dX4_begin_9 rfl (lv_at hl 0 rfl) ?_
    refine va_get (D := D) (ci := 4) (C := RX4) (T := TX4) (N := 11) hx hb hts fwX4_begin_X4 hown hK hP 0 rfl rfl 10 (by decide) (hts _ (List.mem_of_getElem? (i := 2) rfl)) (fun _ h9 => h9) rfl dX4_begin_10 ?_
    refine lv_aload_n hx hb dX4_begin_13 rfl (lv_at hl 0 rfl) ?_
    refine va_get (D := D) (ci := 4) (C := RX4) (T := TX4) (N := 11) hx hb hts fwX4_begin_X4 hown hK hP 0 rfl rfl 8 (by decide) (hts _ (List.mem_of_getElem? (i := 1) rfl)) (fun _ h9 => h9) rfl dX4_begin_14 ?_
    refine lv_iload_n hx hb dX4_begin_17 rfl (lv_at hl 1 rfl) ?_
    refine w_iast (wf := (wX4 cI cZ cS ad)) (cid := 1) hx hb hK hP hD hS 1 0 rfl rfl hf (fun _ => rfl) dX4_begin_18 (fun σ10 H locs hf hP hD hS => ?_)
    exact Jj2 σ10 _ _ _ hP hD hS (lv_sub hl [0] rfl) hf
def pX4_leaves (σ : SS) (a1 : Int32) (a2 : Int32) : Option (Int32 × SS) := q_lt (fun (σ1 : SS) => (if (σ1 0 7) = (0 : Int32) then some (a1, σ1) else q_cr (pX4_hasPower σ1) (fun (r4 : Int32) => (if r4 = (0 : Int32) then q_zz (0 : Int32) (q_lt (su σ1 0 7 (0 : Int32)) (fun (σ19 : SS) => some (a1, σ19))) else q_lt (fun (σ6 : SS) => q_lt (fun (y8 : Int32) => q_lt (if y8 < a1 then y8 else a1) (fun x3_10 => q_lt (su σ6 0 9 ((σ6 0 9) + x3_10)) (fun (σ11 : SS) => q_lt (fun (y12 : Int32) => q_zz y12 (q_lt (su σ11 0 7 y12) (fun (σ14 : SS) => some ((a1 - x3_10), σ14)))) (fun j13 => (if (a1 - x3_10) ≤ (σ11 0 1) then j13 (0 : Int32) else j13 (1 : Int32)))))) (fun j9 => (if (σ6 0 6) = (0 : Int32) then j9 (σ6 0 2) else j9 ((2 : Int32) * (σ6 0 2))))) (fun j7 => (if (σ1 0 5) = (0 : Int32) then q_lt (su σ1 0 4 ((σ1 0 4) - (1 : Int32))) (fun (σ18 : SS) => j7 σ18) else j7 σ1)))))) (fun j2 => (if (σ 0 7) = (0 : Int32) then (if a1 < (σ 0 0) then j2 σ else q_cr (pX4_hasPower σ) (fun (r22 : Int32) => (if r22 = (0 : Int32) then j2 σ else q_cr (pX4_isDead σ) (fun (r24 : Int32) => (if r24 = (0 : Int32) then q_cs (pX4_begin σ a2) (fun (τ : SS) => τ) (fun (σ26 : SS) => j2 σ26) else j2 σ))))) else j2 σ))
theorem fwX4_leaves_X4 : ∀ w ∈ wsX40, w ∈ wsX4_leaves := fun _ h => List.mem_cons_of_mem _ (List.mem_append_right _ h)
abbrev rmX4_leaves : Room := { frames := 2, cells := 0, slots := 0, locals := 41 }
set_option maxHeartbeats 4000000 in
set_option maxRecDepth 100000 in
theorem kX4_leaves (l : Launch) (D : va_G) (cI cZ cS : ClassId) (zz : ZT) (ad : Nat → Nat) (σ : SS) (a1 : Int32) (a2 : Int32) (rr : Int32) (σr : SS) (hf : pX4_leaves σ a1 a2 = some (rr, σr)) : CI l yX4_leaves wsX4_leaves rmX4_leaves D (K3 cI cZ cS) zz [.ref (ad 0), .int a1, .int a2] (wX4 cI cZ cS ad σ) (wX4 cI cZ cS ad σr) rr := by
  refine q_ofI (cc := cX4_leaves) (maxL := 4) (ty := .int) (by decide) rfl (Nat.le_of_ble_eq_true rfl) ?_
  intro p e s m below meth c Q A ls hx hb hml hown hts hK hZ hA hP hD hS hl hret
  have hl : lv_has ls 4 [(0, .ref (ad 0)), (1, .int a1), (2, .int a2)] := hl
  unfold pX4_leaves at hf
  refine lv_aload_n hx hb dX4_leaves_0 rfl (lv_at hl 0 rfl) ?_
  refine va_get (D := D) (ci := 4) (C := RX4) (T := TX4) (N := 11) hx hb hts fwX4_leaves_X4 hown hK hP 0 rfl rfl 7 (by decide) (hts _ (List.mem_of_getElem? (i := 1) rfl)) (fun _ h9 => h9) rfl dX4_leaves_1 ?_
  refine q_lt_go hf (fun j2 ej2 hf => ?_)
  have Jj2 : ∀ (σ1 : SS) (H : Heap) (locs : List Loc) (ls : Array Slot), va_P D vwCl ((wX4 cI cZ cS ad) σ1) H → va_D A ((wX4 cI cZ cS ad) σ1) → va_S A s.heap H locs → lv_has ls 4 [(0, .ref (ad 0)), (1, .int a1)] → j2 σ1 = some (rr, σr) → W p l e rmX4_leaves s m ([.ref (ad 0), .int a1, .int a2] : List Value).toArray below meth c H locs 0 0 Q (F0 m 34 ls []) := by
    intro σ1 H locs ls hP hD hS hl hf
    have hf := (congrFun ej2 σ1).symm.trans hf
    refine lv_aload_n hx hb dX4_leaves_34 rfl (lv_at hl 0 rfl) ?_
    refine va_get (D := D) (ci := 4) (C := RX4) (T := TX4) (N := 11) hx hb hts fwX4_leaves_X4 hown hK hP 0 rfl rfl 7 (by decide) (hts _ (List.mem_of_getElem? (i := 1) rfl)) (fun _ h9 => h9) rfl dX4_leaves_35 ?_
    refine lv_if_ne (tgt := 43) hx hb dX4_leaves_38 (by decide) (fun h3 => ?_) (fun h3 => ?_)
    · have hf := (if_neg h3).symm.trans hf
      refine lv_aload_n hx hb dX4_leaves_43 rfl (lv_at hl 0 rfl) ?_
      refine q_cVr (wf := (wX4 cI cZ cS ad)) (wc := wX4 cI cZ cS ad) (rest := []) ⟨hx, hb, hml, hown, hts⟩ hK hZ hA hP hD hS hf (fun x ho => kX4_hasPower l D cI cZ cS zz ad σ1 x ho) (cwV 0 hts gX4_leaves_X4_hasPower rfl rfl rfl ndX4_hasPower ⟨Nat.le_of_ble_eq_true rfl, Nat.le_of_ble_eq_true rfl⟩) [0, 1] rfl rfl rfl rfl rfl rfl (hl.1) rfl (Nat.le_of_ble_eq_true rfl) dX4_leaves_44 ⟨Nat.zero_le _, Nat.zero_le _⟩ (fun r4 H locs hf hP hD hS => ?_)
      refine lv_if_ne (tgt := 57) hx hb dX4_leaves_47 (by decide) (fun h5 => ?_) (fun h5 => ?_)
      · have hf := (if_neg h5).symm.trans hf
        refine lv_aload_n hx hb dX4_leaves_57 rfl (lv_at hl 0 rfl) ?_
        refine va_get (D := D) (ci := 4) (C := RX4) (T := TX4) (N := 11) hx hb hts fwX4_leaves_X4 hown hK hP 0 rfl rfl 5 (by decide) (hts _ (List.mem_of_getElem? (i := 3) rfl)) (fun _ h9 => h9) rfl dX4_leaves_58 ?_
        refine q_lt_go hf (fun j7 ej7 hf => ?_)
        have Jj7 : ∀ (σ6 : SS) (H : Heap) (locs : List Loc) (ls : Array Slot), va_P D vwCl ((wX4 cI cZ cS ad) σ6) H → va_D A ((wX4 cI cZ cS ad) σ6) → va_S A s.heap H locs → lv_has ls 4 [(0, .ref (ad 0)), (1, .int a1)] → j7 σ6 = some (rr, σr) → W p l e rmX4_leaves s m ([.ref (ad 0), .int a1, .int a2] : List Value).toArray below meth c H locs 0 0 Q (F0 m 74 ls []) := by
          intro σ6 H locs ls hP hD hS hl hf
          have hf := (congrFun ej7 σ6).symm.trans hf
          refine lv_iload_n hx hb dX4_leaves_74 rfl (lv_at hl 1 rfl) ?_
          refine lv_aload_n hx hb dX4_leaves_75 rfl (lv_at hl 0 rfl) ?_
          refine va_get (D := D) (ci := 4) (C := RX4) (T := TX4) (N := 11) hx hb hts fwX4_leaves_X4 hown hK hP 0 rfl rfl 6 (by decide) (hts _ (List.mem_of_getElem? (i := 5) rfl)) (fun _ h9 => h9) rfl dX4_leaves_76 ?_
          refine q_lt_go hf (fun j9 ej9 hf => ?_)
          have Jj9 : ∀ (y8 : Int32) (H : Heap) (locs : List Loc) (ls : Array Slot), va_P D vwCl ((wX4 cI cZ cS ad) σ6) H → va_D A ((wX4 cI cZ cS ad) σ6) → va_S A s.heap H locs → lv_has ls 4 [(0, .ref (ad 0)), (1, .int a1)] → j9 y8 = some (rr, σr) → W p l e rmX4_leaves s m ([.ref (ad 0), .int a1, .int a2] : List Value).toArray below meth c H locs 0 0 Q (F0 m 95 ls [.int y8, .int a1]) := by
            intro y8 H locs ls hP hD hS hl hf
            have hf := (congrFun ej9 y8).symm.trans hf
            refine va_mmin hx hb (hml.trans hl.1.symm) hown (hts _ (List.mem_of_getElem? (i := 7) rfl)) (hts _ (List.mem_of_getElem? (i := 8) rfl)) (hts _ (List.mem_of_getElem? (i := 9) rfl)) (hts _ (List.mem_of_getElem? (i := 10) rfl)) (Nat.le_of_ble_eq_true rfl) (Nat.le_of_ble_eq_true rfl) (Nat.zero_le _) (Nat.zero_le _) dX4_leaves_95 ?_
            refine lv_topi (fun x3_10 ex3_10 => ?_)
            have hf := q_lt_at ex3_10 hf
            refine lv_istore_n (lv' := [(3, .int x3_10), (0, .ref (ad 0)), (1, .int a1)]) hx hb dX4_leaves_98 rfl hl (by decide) rfl (fun ls hl => ?_)
            refine lv_aload_n hx hb dX4_leaves_99 rfl (lv_at hl 1 rfl) ?_
            refine lv_dup hx hb dX4_leaves_100 rfl ?_
            refine va_get (D := D) (ci := 4) (C := RX4) (T := TX4) (N := 11) hx hb hts fwX4_leaves_X4 hown hK hP 0 rfl rfl 9 (by decide) (hts _ (List.mem_of_getElem? (i := 11) rfl)) (fun _ h9 => h9) rfl dX4_leaves_101 ?_
            refine lv_iload_n hx hb dX4_leaves_104 rfl (lv_at hl 0 rfl) ?_
            refine lv_iadd hx hb dX4_leaves_105 ?_
            refine w_put (D := D) (wf := (wX4 cI cZ cS ad)) (cid := 0) (ci := 4) (C := RX4) (T := TX4) (N := 11) hx hb hts fwX4_leaves_X4 tyX4 tyX4_ok nmX4 hown hK hP hD hS 0 rfl rfl 9 (by decide) (hts _ (List.mem_of_getElem? (i := 11) rfl)) (fun _ h9 => h9) rfl (tyX4_ok 9 (by decide)) (Nat.le_of_ble_eq_true rfl) hf rfl dX4_leaves_106 (fun σ11 H locs hf hP hD hS => ?_)
            refine lv_aload_n hx hb dX4_leaves_109 rfl (lv_at hl 1 rfl) ?_
            refine lv_iload_n hx hb dX4_leaves_110 rfl (lv_at hl 2 rfl) ?_
            refine lv_iload_n hx hb dX4_leaves_111 rfl (lv_at hl 0 rfl) ?_
            refine lv_isub hx hb dX4_leaves_112 ?_
            refine lv_aload_n hx hb dX4_leaves_113 rfl (lv_at hl 1 rfl) ?_
            refine va_get (D := D) (ci := 4) (C := RX4) (T := TX4) (N := 11) hx hb hts fwX4_leaves_X4 hown hK hP 0 rfl rfl 1 (by decide) (hts _ (List.mem_of_getElem? (i := 12) rfl)) (fun _ h9 => h9) rfl dX4_leaves_114 ?_
            refine q_lt_go hf (fun j13 ej13 hf => ?_)
            have Jj13 : ∀ (y12 : Int32) (H : Heap) (locs : List Loc) (ls : Array Slot), va_P D vwCl ((wX4 cI cZ cS ad) σ11) H → va_D A ((wX4 cI cZ cS ad) σ11) → va_S A s.heap H locs → lv_has ls 4 [(1, .int a1), (3, .int x3_10)] → j13 y12 = some (rr, σr) → W p l e rmX4_leaves s m ([.ref (ad 0), .int a1, .int a2] : List Value).toArray below meth c H locs 0 0 Q (F0 m 125 ls [.int y12, .ref (ad 0)]) := by
              intro y12 H locs ls hP hD hS hl hf
              have hf := (congrFun ej13 y12).symm.trans hf
              refine w_putZ (D := D) (wf := (wX4 cI cZ cS ad)) (cid := 0) (ci := 4) (C := RX4) (T := TX4) (N := 11) hx hb hts fwX4_leaves_X4 tyX4 tyX4_ok nmX4 hown hK hP hD hS 0 rfl rfl 7 (by decide) (hts _ (List.mem_of_getElem? (i := 1) rfl)) (fun _ h9 => h9) rfl (tyX4_ok 7 (by decide)) (Nat.le_of_ble_eq_true rfl) hf rfl dX4_leaves_125 (fun σ14 H locs hf hP hD hS => ?_)
              refine lv_iload_n hx hb dX4_leaves_128 rfl (lv_at hl 0 rfl) ?_
              refine lv_iload_n hx hb dX4_leaves_129 rfl (lv_at hl 1 rfl) ?_
              refine lv_isub hx hb dX4_leaves_130 ?_
              obtain ⟨hi1, hi2⟩ := Prod.mk.inj (Option.some.inj hf)
              subst hi1
              subst hi2
              exact hret _ _ _ _ dX4_leaves_131 rfl hP hS
            refine lv_icmp_le (tgt := 124) hx hb dX4_leaves_117 (by decide) (fun h15 => ?_) (fun h15 => ?_)
            · have hf := (if_pos h15).symm.trans hf
              refine lv_iconst (v := 0) hx hb dX4_leaves_124 (by decide) ?_
              exact Jj13 (0 : Int32) _ _ _ hP hD hS (lv_sub hl [2, 0] rfl) hf
            · have hf := (if_neg h15).symm.trans hf
              refine lv_iconst (v := 1) hx hb dX4_leaves_120 (by decide) ?_
              refine lv_goto (tgt := 125) hx hb dX4_leaves_121 (by decide) ?_
              exact Jj13 (1 : Int32) _ _ _ hP hD hS (lv_sub hl [2, 0] rfl) hf
          refine lv_if_eq (tgt := 91) hx hb dX4_leaves_79 (by decide) (fun h16 => ?_) (fun h16 => ?_)
          · have hf := (if_pos h16).symm.trans hf
            refine lv_aload_n hx hb dX4_leaves_91 rfl (lv_at hl 0 rfl) ?_
            refine va_get (D := D) (ci := 4) (C := RX4) (T := TX4) (N := 11) hx hb hts fwX4_leaves_X4 hown hK hP 0 rfl rfl 2 (by decide) (hts _ (List.mem_of_getElem? (i := 6) rfl)) (fun _ h9 => h9) rfl dX4_leaves_92 ?_
            exact Jj9 (σ6 0 2) _ _ _ hP hD hS (lv_sub hl [0, 1] rfl) hf
          · have hf := (if_neg h16).symm.trans hf
            refine lv_iconst (v := 2) hx hb dX4_leaves_82 (by decide) ?_
            refine lv_aload_n hx hb dX4_leaves_83 rfl (lv_at hl 0 rfl) ?_
            refine va_get (D := D) (ci := 4) (C := RX4) (T := TX4) (N := 11) hx hb hts fwX4_leaves_X4 hown hK hP 0 rfl rfl 2 (by decide) (hts _ (List.mem_of_getElem? (i := 6) rfl)) (fun _ h9 => h9) rfl dX4_leaves_84 ?_
            refine lv_imul hx hb dX4_leaves_87 ?_
            refine lv_goto (tgt := 95) hx hb dX4_leaves_88 (by decide) ?_
            exact Jj9 ((2 : Int32) * (σ6 0 2)) _ _ _ hP hD hS (lv_sub hl [0, 1] rfl) hf
        refine lv_if_ne (tgt := 74) hx hb dX4_leaves_61 (by decide) (fun h17 => ?_) (fun h17 => ?_)
        · have hf := (if_neg h17).symm.trans hf
          exact Jj7 σ1 _ _ _ hP hD hS (lv_sub hl [0, 1] rfl) hf
        · have hf := (if_pos h17).symm.trans hf
          refine lv_aload_n hx hb dX4_leaves_64 rfl (lv_at hl 0 rfl) ?_
          refine lv_dup hx hb dX4_leaves_65 rfl ?_
          refine va_get (D := D) (ci := 4) (C := RX4) (T := TX4) (N := 11) hx hb hts fwX4_leaves_X4 hown hK hP 0 rfl rfl 4 (by decide) (hts _ (List.mem_of_getElem? (i := 4) rfl)) (fun _ h9 => h9) rfl dX4_leaves_66 ?_
          refine lv_iconst (v := 1) hx hb dX4_leaves_69 (by decide) ?_
          refine lv_isub hx hb dX4_leaves_70 ?_
          refine w_put (D := D) (wf := (wX4 cI cZ cS ad)) (cid := 0) (ci := 4) (C := RX4) (T := TX4) (N := 11) hx hb hts fwX4_leaves_X4 tyX4 tyX4_ok nmX4 hown hK hP hD hS 0 rfl rfl 4 (by decide) (hts _ (List.mem_of_getElem? (i := 4) rfl)) (fun _ h9 => h9) rfl (tyX4_ok 4 (by decide)) (Nat.le_of_ble_eq_true rfl) hf rfl dX4_leaves_71 (fun σ18 H locs hf hP hD hS => ?_)
          exact Jj7 σ18 _ _ _ hP hD hS (lv_sub hl [0, 1] rfl) hf
      · have hf := (if_pos h5).symm.trans hf
        refine lv_aload_n hx hb dX4_leaves_50 rfl (lv_at hl 0 rfl) ?_
        refine lv_iconst (v := 0) hx hb dX4_leaves_51 (by decide) ?_
        refine w_putZ (D := D) (wf := (wX4 cI cZ cS ad)) (cid := 0) (ci := 4) (C := RX4) (T := TX4) (N := 11) hx hb hts fwX4_leaves_X4 tyX4 tyX4_ok nmX4 hown hK hP hD hS 0 rfl rfl 7 (by decide) (hts _ (List.mem_of_getElem? (i := 1) rfl)) (fun _ h9 => h9) rfl (tyX4_ok 7 (by decide)) (Nat.le_of_ble_eq_true rfl) hf rfl dX4_leaves_52 (fun σ19 H locs hf hP hD hS => ?_)
        refine lv_iload_n hx hb dX4_leaves_55 rfl (lv_at hl 1 rfl) ?_
        obtain ⟨hi1, hi2⟩ := Prod.mk.inj (Option.some.inj hf)
        subst hi1
        subst hi2
        exact hret _ _ _ _ dX4_leaves_56 rfl hP hS
    · have hf := (if_pos h3).symm.trans hf
      refine lv_iload_n hx hb dX4_leaves_41 rfl (lv_at hl 1 rfl) ?_
      obtain ⟨hi1, hi2⟩ := Prod.mk.inj (Option.some.inj hf)
      subst hi1
      subst hi2
      exact hret _ _ _ _ dX4_leaves_42 rfl hP hS
  refine lv_if_ne (tgt := 34) hx hb dX4_leaves_4 (by decide) (fun h20 => ?_) (fun h20 => ?_)
  · have hf := (if_neg h20).symm.trans hf
    exact Jj2 σ _ _ _ hP hD hS (lv_sub hl [0, 1] rfl) hf
  · have hf := (if_pos h20).symm.trans hf
    refine lv_iload_n hx hb dX4_leaves_7 rfl (lv_at hl 1 rfl) ?_
    refine lv_aload_n hx hb dX4_leaves_8 rfl (lv_at hl 0 rfl) ?_
    refine va_get (D := D) (ci := 4) (C := RX4) (T := TX4) (N := 11) hx hb hts fwX4_leaves_X4 hown hK hP 0 rfl rfl 0 (by decide) (hts _ (List.mem_of_getElem? (i := 2) rfl)) (fun _ h9 => h9) rfl dX4_leaves_9 ?_
    refine lv_icmp_lt (tgt := 34) hx hb dX4_leaves_12 (by decide) (fun h21 => ?_) (fun h21 => ?_)
    · have hf := (if_pos h21).symm.trans hf
      exact Jj2 σ _ _ _ hP hD hS (lv_sub hl [0, 1] rfl) hf
    · have hf := (if_neg h21).symm.trans hf
      refine lv_aload_n hx hb dX4_leaves_15 rfl (lv_at hl 0 rfl) ?_
      refine q_cVr (wf := (wX4 cI cZ cS ad)) (wc := wX4 cI cZ cS ad) (rest := []) ⟨hx, hb, hml, hown, hts⟩ hK hZ hA hP hD hS hf (fun x ho => kX4_hasPower l D cI cZ cS zz ad σ x ho) (cwV 0 hts gX4_leaves_X4_hasPower rfl rfl rfl ndX4_hasPower ⟨Nat.le_of_ble_eq_true rfl, Nat.le_of_ble_eq_true rfl⟩) [0, 1] rfl rfl rfl rfl rfl rfl (hl.1) rfl (Nat.le_of_ble_eq_true rfl) dX4_leaves_16 ⟨Nat.zero_le _, Nat.zero_le _⟩ (fun r22 H locs hf hP hD hS => ?_)
      refine lv_if_eq (tgt := 34) hx hb dX4_leaves_19 (by decide) (fun h23 => ?_) (fun h23 => ?_)
      · have hf := (if_pos h23).symm.trans hf
        exact Jj2 σ _ _ _ hP hD hS (lv_sub hl [0, 1] rfl) hf
      · have hf := (if_neg h23).symm.trans hf
        refine lv_aload_n hx hb dX4_leaves_22 rfl (lv_at hl 0 rfl) ?_
        refine q_cVr (wf := (wX4 cI cZ cS ad)) (wc := wX4 cI cZ cS ad) (rest := []) ⟨hx, hb, hml, hown, hts⟩ hK hZ hA hP hD hS hf (fun x ho => kX4_isDead l D cI cZ cS zz ad σ x ho) (cwV 0 hts gX4_leaves_X4_isDead rfl rfl rfl ndX4_isDead ⟨Nat.le_of_ble_eq_true rfl, Nat.le_of_ble_eq_true rfl⟩) [0, 1] rfl rfl rfl rfl rfl rfl (hl.1) rfl (Nat.le_of_ble_eq_true rfl) dX4_leaves_23 ⟨Nat.zero_le _, Nat.zero_le _⟩ (fun r24 H locs hf hP hD hS => ?_)
        refine lv_if_ne (tgt := 34) hx hb dX4_leaves_26 (by decide) (fun h25 => ?_) (fun h25 => ?_)
        · have hf := (if_neg h25).symm.trans hf
          exact Jj2 σ _ _ _ hP hD hS (lv_sub hl [0, 1] rfl) hf
        · have hf := (if_pos h25).symm.trans hf
          refine lv_aload_n hx hb dX4_leaves_29 rfl (lv_at hl 0 rfl) ?_
          refine lv_iload_n hx hb dX4_leaves_30 rfl (lv_at hl 2 rfl) ?_
          refine q_cVv (wf := (wX4 cI cZ cS ad)) (wc := wX4 cI cZ cS ad) (rest := []) ⟨hx, hb, hml, hown, hts⟩ hK hZ hA hP hD hS hf (fun x ho => kX4_begin l D cI cZ cS zz ad σ a2 x ho) (cwV 1 hts gX4_leaves_X4_begin rfl rfl rfl ndX4_begin ⟨Nat.le_of_ble_eq_true rfl, Nat.le_of_ble_eq_true rfl⟩) [0, 1] rfl rfl [some 0, some 1] (by decide +kernel) (Nat.le_of_ble_eq_true rfl) (fun _ => rfl) (fun _ => rfl) (fun _ => rfl) rfl rfl rfl rfl (hl.1) rfl (Nat.le_of_ble_eq_true rfl) dX4_leaves_31 ⟨Nat.zero_le _, Nat.zero_le _⟩ (fun σ26 H locs hf hP hD hS => ?_)
          exact Jj2 σ26 _ _ _ hP hD hS (lv_sub hl [0, 1] rfl) hf
def pX9_standIn (σ : SS) (a1 : Int32) : Option SS := q_lp (fun _ _ => none) (fun (c3 : SS → Int32 → Option SS) (σ2 : SS) (x2_1 : Int32) => (if (σ2 0 0) ≤ x2_1 then some σ2 else q_rd (σ2 3) 10 x2_1 (fun (v7 : Int32) => q_lt (fun (σ8 : SS) => c3 σ8 (x2_1 + (1 : Int32))) (fun j9 => (if a1 ≤ v7 then j9 σ2 else (if ((σ2 0 4) &&& ((1 : Int32) <<< (x2_1 &&& (31 : Int32)))) = (0 : Int32) then q_lt (su σ2 0 5 ((σ2 0 5) ||| ((1 : Int32) <<< (x2_1 &&& (31 : Int32))))) (fun (σ12 : SS) => j9 σ12) else j9 σ2)))))) q_fu σ (0 : Int32)
theorem fwX9_standIn_X9 : ∀ w ∈ wsX90, w ∈ wsX9_standIn := fun _ h => List.mem_cons_of_mem _ (List.mem_append_right _ h)
abbrev rmX9_standIn : Room := { frames := 0, cells := 0, slots := 0, locals := 0 }
set_option maxHeartbeats 4000000 in
set_option maxRecDepth 100000 in
theorem kX9_standIn (l : Launch) (D : va_G) (cI cZ cS : ClassId) (zz : ZT) (ad : Nat → Nat) (σ : SS) (a1 : Int32) (σr : SS) (hf : pX9_standIn σ a1 = some σr) : CV l yX9_standIn wsX9_standIn rmX9_standIn D (K3 cI cZ cS) zz [.ref (ad 0), .int a1] (wX9 cI cZ cS ad σ) (wX9 cI cZ cS ad σr) := by
  refine q_ofV (cc := cX9_standIn) (maxL := 3) (by decide) rfl (Nat.le_of_ble_eq_true rfl) ?_
  intro p e s m below meth c Q A ls hx hb hml hown hts hK hZ hA hP hD hS hl hret
  have hl : lv_has ls 3 [(0, .ref (ad 0)), (1, .int a1)] := hl
  unfold pX9_standIn at hf
  refine lv_iconst (v := 0) hx hb dX9_standIn_0 (by decide) ?_
  refine lv_istore_n (lv' := [(2, .int (0 : Int32)), (0, .ref (ad 0)), (1, .int a1)]) hx hb dX9_standIn_1 rfl hl (by decide) rfl (fun ls hl => ?_)
  refine q_lp_go (f := fun (zf : SS → Int32 → Option SS) => zf σ (0 : Int32)) hf (fun z4 ez4 hf => ?_)
  have Lz4 : ∀ (n5 : Nat) (σ2 : SS) (x2_1 : Int32) (H : Heap) (locs : List Loc) (ls : Array Slot), va_P D vwCl ((wX9 cI cZ cS ad) σ2) H → va_D A ((wX9 cI cZ cS ad) σ2) → va_S A s.heap H locs → lv_has ls 3 [(0, .ref (ad 0)), (1, .int a1), (2, .int x2_1)] → q_lp (fun _ _ => none) z4 n5 σ2 x2_1 = some σr → W p l e rmX9_standIn s m ([.ref (ad 0), .int a1] : List Value).toArray below meth c H locs 0 0 Q (F0 m 2 ls []) := by
    intro n5
    induction n5 with
    | zero => exact fun _ _ _ _ _ _ _ _ _ hf => q_no hf
    | succ n5 ihz4 =>
      intro σ2 x2_1 H locs ls hP hD hS hl hf
      have hf := (congrFun (congrFun (congrFun ez4 (q_lp (fun _ _ => none) z4 n5)) σ2) x2_1).symm.trans hf
      refine lv_iload_n hx hb dX9_standIn_2 rfl (lv_at hl 2 rfl) ?_
      refine lv_aload_n hx hb dX9_standIn_3 rfl (lv_at hl 0 rfl) ?_
      refine va_get (D := D) (ci := 9) (C := RX9) (T := TX9) (N := 6) hx hb hts fwX9_standIn_X9 hown hK hP 0 rfl rfl 0 (by decide) (hts _ (List.mem_of_getElem? (i := 1) rfl)) (fun _ h9 => h9) rfl dX9_standIn_4 ?_
      refine lv_icmp_ge (tgt := 49) hx hb dX9_standIn_7 (by decide) (fun h6 => ?_) (fun h6 => ?_)
      · have hf := (if_pos h6).symm.trans hf
        have hi1 := Option.some.inj hf
        subst hi1
        exact hret _ _ _ _ dX9_standIn_49 hP hS
      · have hf := (if_neg h6).symm.trans hf
        refine lv_iload_n hx hb dX9_standIn_10 rfl (lv_at hl 1 rfl) ?_
        refine lv_aload_n hx hb dX9_standIn_11 rfl (lv_at hl 0 rfl) ?_
        refine va_get (D := D) (ci := 9) (C := RX9) (T := TX9) (N := 6) hx hb hts fwX9_standIn_X9 hown hK hP 0 rfl rfl 3 (by decide) (hts _ (List.mem_of_getElem? (i := 2) rfl)) (fun _ h9 => h9) rfl dX9_standIn_12 ?_
        refine lv_iload_n hx hb dX9_standIn_15 rfl (lv_at hl 2 rfl) ?_
        refine w_iald (wf := (wX9 cI cZ cS ad)) hx hb hK hP 3 0 rfl rfl hf dX9_standIn_16 (fun v7 hf => ?_)
        refine q_lt_go hf (fun j9 ej9 hf => ?_)
        have Jj9 : ∀ (σ8 : SS) (H : Heap) (locs : List Loc) (ls : Array Slot), va_P D vwCl ((wX9 cI cZ cS ad) σ8) H → va_D A ((wX9 cI cZ cS ad) σ8) → va_S A s.heap H locs → lv_has ls 3 [(0, .ref (ad 0)), (1, .int a1), (2, .int x2_1)] → j9 σ8 = some σr → W p l e rmX9_standIn s m ([.ref (ad 0), .int a1] : List Value).toArray below meth c H locs 0 0 Q (F0 m 43 ls []) := by
          intro σ8 H locs ls hP hD hS hl hf
          have hf := (congrFun ej9 σ8).symm.trans hf
          refine lv_iinc (v := (x2_1 + (1 : Int32))) (lv' := [(2, .int (x2_1 + (1 : Int32))), (0, .ref (ad 0)), (1, .int a1)]) hx hb dX9_standIn_43 hl (k := 2) rfl rfl (by decide) rfl (fun ls hl => ?_)
          refine lv_goto (tgt := 2) hx hb dX9_standIn_46 (by decide) ?_
          exact ihz4 σ8 (x2_1 + (1 : Int32)) _ _ _ hP hD hS (lv_sub hl [1, 2, 0] rfl) hf
        refine lv_icmp_le (tgt := 43) hx hb dX9_standIn_17 (by decide) (fun h10 => ?_) (fun h10 => ?_)
        · have hf := (if_pos h10).symm.trans hf
          exact Jj9 σ2 _ _ _ hP hD hS (lv_sub hl [0, 1, 2] rfl) hf
        · have hf := (if_neg h10).symm.trans hf
          refine lv_aload_n hx hb dX9_standIn_20 rfl (lv_at hl 0 rfl) ?_
          refine va_get (D := D) (ci := 9) (C := RX9) (T := TX9) (N := 6) hx hb hts fwX9_standIn_X9 hown hK hP 0 rfl rfl 4 (by decide) (hts _ (List.mem_of_getElem? (i := 3) rfl)) (fun _ h9 => h9) rfl dX9_standIn_21 ?_
          refine lv_iconst (v := 1) hx hb dX9_standIn_24 (by decide) ?_
          refine lv_iload_n hx hb dX9_standIn_25 rfl (lv_at hl 2 rfl) ?_
          refine lv_ishl hx hb dX9_standIn_26 ?_
          refine lv_iand hx hb dX9_standIn_27 ?_
          refine lv_if_ne (tgt := 43) hx hb dX9_standIn_28 (by decide) (fun h11 => ?_) (fun h11 => ?_)
          · have hf := (if_neg h11).symm.trans hf
            exact Jj9 σ2 _ _ _ hP hD hS (lv_sub hl [0, 1, 2] rfl) hf
          · have hf := (if_pos h11).symm.trans hf
            refine lv_aload_n hx hb dX9_standIn_31 rfl (lv_at hl 0 rfl) ?_
            refine lv_dup hx hb dX9_standIn_32 rfl ?_
            refine va_get (D := D) (ci := 9) (C := RX9) (T := TX9) (N := 6) hx hb hts fwX9_standIn_X9 hown hK hP 0 rfl rfl 5 (by decide) (hts _ (List.mem_of_getElem? (i := 4) rfl)) (fun _ h9 => h9) rfl dX9_standIn_33 ?_
            refine lv_iconst (v := 1) hx hb dX9_standIn_36 (by decide) ?_
            refine lv_iload_n hx hb dX9_standIn_37 rfl (lv_at hl 2 rfl) ?_
            refine lv_ishl hx hb dX9_standIn_38 ?_
            refine lv_ior hx hb dX9_standIn_39 ?_
            refine w_put (D := D) (wf := (wX9 cI cZ cS ad)) (cid := 0) (ci := 9) (C := RX9) (T := TX9) (N := 6) hx hb hts fwX9_standIn_X9 tyX9 tyX9_ok nmX9 hown hK hP hD hS 0 rfl rfl 5 (by decide) (hts _ (List.mem_of_getElem? (i := 4) rfl)) (fun _ h9 => h9) rfl (tyX9_ok 5 (by decide)) (Nat.le_of_ble_eq_true rfl) hf rfl dX9_standIn_40 (fun σ12 H locs hf hP hD hS => ?_)
            exact Jj9 σ12 _ _ _ hP hD hS (lv_sub hl [0, 1, 2] rfl) hf
  exact Lz4 q_fu σ (0 : Int32) _ _ _ hP hD hS (lv_sub hl [1, 2, 0] rfl) hf
def pX0_passMinute (σ : SS) : Option SS := q_cs (pX0_soakGround σ) (fun (τ : SS) => τ) (fun (σ1 : SS) => q_ci (pX0_takeIn σ1) (fun (τ : SS) => τ) (fun (r3 : Int32) (σ2 : SS) => q_lt (su σ2 0 8 ((σ1 0 8) + r3)) (fun (σ4 : SS) => q_lt (fun (σ5 : SS) => q_ci (pX4_leaves (q_sb σ5 6) (σ5 0 8) (σ5 0 9)) (fun (τ : SS) => (q_em σ5 6 0 2 τ)) (fun (r8 : Int32) (σ7 : SS) => q_lt (su σ7 0 8 r8) (fun (σ9 : SS) => q_lt (su σ9 0 9 ((σ9 0 9) + (1 : Int32))) (fun (σ10 : SS) => q_cs (pX9_standIn (q_sb σ10 8) (σ10 0 8)) (fun (τ : SS) => (q_em σ10 8 0 4 τ)) (fun (σ11 : SS) => q_lt (su σ11 0 12 (if (σ11 0 12) < (σ11 0 8) then (σ11 0 8) else (σ11 0 12))) (fun (σ12 : SS) => some σ12)))))) (fun j6 => (if (σ4 0 8) ≤ (9999 : Int32) then j6 σ4 else q_lt (su σ4 0 11 ((σ4 0 11) + ((σ4 0 8) - (9999 : Int32)))) (fun (σ14 : SS) => q_lt (su σ14 0 8 (9999 : Int32)) (fun (σ15 : SS) => j6 σ15)))))))
theorem fwX0_passMinute_X0 : ∀ w ∈ wsX00, w ∈ wsX0_passMinute := fun _ h => List.mem_cons_of_mem _ (List.mem_append_left _ (List.mem_append_left _ (List.mem_append_left _ (List.mem_append_right _ h))))
abbrev rmX0_passMinute : Room := { frames := 3, cells := 0, slots := 0, locals := 72 }
set_option maxHeartbeats 4000000 in
set_option maxRecDepth 100000 in
theorem kX0_passMinute (l : Launch) (D : va_G) (cI cZ cS : ClassId) (zz : ZT) (ad : Nat → Nat) (σ : SS) (σr : SS) (hf : pX0_passMinute σ = some σr) : CV l yX0_passMinute wsX0_passMinute rmX0_passMinute D (K3 cI cZ cS) zz [.ref (ad 0)] (wX0 cI cZ cS ad σ) (wX0 cI cZ cS ad σr) := by
  refine q_ofV (cc := cX0_passMinute) (maxL := 1) (by decide) rfl (Nat.le_of_ble_eq_true rfl) ?_
  intro p e s m below meth c Q A ls hx hb hml hown hts hK hZ hA hP hD hS hl hret
  have hl : lv_has ls 1 [(0, .ref (ad 0))] := hl
  unfold pX0_passMinute at hf
  refine lv_aload_n hx hb dX0_passMinute_0 rfl (lv_at hl 0 rfl) ?_
  refine q_cVv (wf := (wX0 cI cZ cS ad)) (wc := wX0 cI cZ cS ad) (rest := []) ⟨hx, hb, hml, hown, hts⟩ hK hZ hA hP hD hS hf (fun x ho => kX0_soakGround l D cI cZ cS zz ad σ x ho) (cwV 0 hts gX0_passMinute_X0_soakGround rfl rfl rfl ndX0_soakGround ⟨Nat.le_of_ble_eq_true rfl, Nat.le_of_ble_eq_true rfl⟩) [0, 1, 2, 3, 4, 5, 6, 7, 8, 9, 10, 11, 12] rfl rfl [some 0, some 1, some 2, some 3, some 4, some 5, some 6, some 7, some 8, some 9, some 10, some 11, some 12] (by decide +kernel) (Nat.le_of_ble_eq_true rfl) (fun _ => rfl) (fun _ => rfl) (fun _ => rfl) rfl rfl rfl rfl (hl.1) rfl (Nat.le_of_ble_eq_true rfl) dX0_passMinute_1 ⟨Nat.zero_le _, Nat.zero_le _⟩ (fun σ1 H locs hf hP hD hS => ?_)
  refine lv_aload_n hx hb dX0_passMinute_4 rfl (lv_at hl 0 rfl) ?_
  refine lv_dup hx hb dX0_passMinute_5 rfl ?_
  refine va_get (D := D) (ci := 0) (C := RX0) (T := TX0) (N := 13) hx hb hts fwX0_passMinute_X0 hown hK hP 0 rfl rfl 8 (by decide) (hts _ (List.mem_of_getElem? (i := 1) rfl)) (fun _ h9 => h9) rfl dX0_passMinute_6 ?_
  refine lv_aload_n hx hb dX0_passMinute_9 rfl (lv_at hl 0 rfl) ?_
  refine q_cVi (wf := (wX0 cI cZ cS ad)) (wc := wX0 cI cZ cS ad) (rest := [.int (σ1 0 8), .ref (ad 0)]) ⟨hx, hb, hml, hown, hts⟩ hK hZ hA hP hD hS hf (fun x τ ho => kX0_takeIn l D cI cZ cS zz ad σ1 x τ ho) (cwV 0 hts gX0_passMinute_X0_takeIn rfl rfl rfl ndX0_takeIn ⟨Nat.le_of_ble_eq_true rfl, Nat.le_of_ble_eq_true rfl⟩) [0, 1, 2, 3, 4, 5, 6, 7, 8, 9, 10, 11, 12] rfl rfl [some 0, some 1, some 2, some 3, some 4, some 5, some 6, some 7, some 8, some 9, some 10, some 11, some 12] (by decide +kernel) (Nat.le_of_ble_eq_true rfl) (fun _ => rfl) (fun _ => rfl) (fun _ => rfl) rfl rfl rfl rfl (hl.1) rfl (Nat.le_of_ble_eq_true rfl) dX0_passMinute_10 ⟨Nat.zero_le _, Nat.zero_le _⟩ (fun r3 σ2 H locs hf hP hD hS => ?_)
  refine lv_iadd hx hb dX0_passMinute_13 ?_
  refine w_put (D := D) (wf := (wX0 cI cZ cS ad)) (cid := 0) (ci := 0) (C := RX0) (T := TX0) (N := 13) hx hb hts fwX0_passMinute_X0 tyX0 tyX0_ok nmX0 hown hK hP hD hS 0 rfl rfl 8 (by decide) (hts _ (List.mem_of_getElem? (i := 1) rfl)) (fun _ h9 => h9) rfl (tyX0_ok 8 (by decide)) (Nat.le_of_ble_eq_true rfl) hf rfl dX0_passMinute_14 (fun σ4 H locs hf hP hD hS => ?_)
  refine lv_aload_n hx hb dX0_passMinute_17 rfl (lv_at hl 0 rfl) ?_
  refine va_get (D := D) (ci := 0) (C := RX0) (T := TX0) (N := 13) hx hb hts fwX0_passMinute_X0 hown hK hP 0 rfl rfl 8 (by decide) (hts _ (List.mem_of_getElem? (i := 1) rfl)) (fun _ h9 => h9) rfl dX0_passMinute_18 ?_
  refine lv_sipush (v := 9999) hx hb dX0_passMinute_21 (by decide) ?_
  refine q_lt_go hf (fun j6 ej6 hf => ?_)
  have Jj6 : ∀ (σ5 : SS) (H : Heap) (locs : List Loc) (ls : Array Slot), va_P D vwCl ((wX0 cI cZ cS ad) σ5) H → va_D A ((wX0 cI cZ cS ad) σ5) → va_S A s.heap H locs → lv_has ls 1 [(0, .ref (ad 0))] → j6 σ5 = some σr → W p l e rmX0_passMinute s m ([.ref (ad 0)] : List Value).toArray below meth c H locs 0 0 Q (F0 m 51 ls []) := by
    intro σ5 H locs ls hP hD hS hl hf
    have hf := (congrFun ej6 σ5).symm.trans hf
    refine lv_aload_n hx hb dX0_passMinute_51 rfl (lv_at hl 0 rfl) ?_
    refine lv_aload_n hx hb dX0_passMinute_52 rfl (lv_at hl 0 rfl) ?_
    refine va_get (D := D) (ci := 0) (C := RX0) (T := TX0) (N := 13) hx hb hts fwX0_passMinute_X0 hown hK hP 0 rfl rfl 1 (by decide) (hts _ (List.mem_of_getElem? (i := 3) rfl)) (fun _ h9 => h9) rfl dX0_passMinute_53 ?_
    refine lv_aload_n hx hb dX0_passMinute_56 rfl (lv_at hl 0 rfl) ?_
    refine va_get (D := D) (ci := 0) (C := RX0) (T := TX0) (N := 13) hx hb hts fwX0_passMinute_X0 hown hK hP 0 rfl rfl 8 (by decide) (hts _ (List.mem_of_getElem? (i := 1) rfl)) (fun _ h9 => h9) rfl dX0_passMinute_57 ?_
    refine lv_aload_n hx hb dX0_passMinute_60 rfl (lv_at hl 0 rfl) ?_
    refine va_get (D := D) (ci := 0) (C := RX0) (T := TX0) (N := 13) hx hb hts fwX0_passMinute_X0 hown hK hP 0 rfl rfl 9 (by decide) (hts _ (List.mem_of_getElem? (i := 4) rfl)) (fun _ h9 => h9) rfl dX0_passMinute_61 ?_
    refine q_cVi (wf := (wX0 cI cZ cS ad)) (wc := wX4 cI cZ cS (fun i => ad (6 + i))) (rest := [.ref (ad 0)]) ⟨hx, hb, hml, hown, hts⟩ hK hZ hA hP hD hS hf (fun x τ ho => kX4_leaves l D cI cZ cS zz (fun i => ad (6 + i)) (q_sb σ5 6) (σ5 0 8) (σ5 0 9) x τ ho) (cwV 2 hts gX0_passMinute_X4_leaves rfl rfl rfl ndX4_leaves ⟨Nat.le_of_ble_eq_true rfl, Nat.le_of_ble_eq_true rfl⟩) [6, 7] rfl rfl [none, none, none, none, none, none, some 0, some 1, none, none, none, none, none] (by decide +kernel) (Nat.le_of_ble_eq_true rfl) (fun _ => rfl) (fun _ => rfl) (fun _ => rfl) rfl rfl rfl rfl (hl.1) rfl (Nat.le_of_ble_eq_true rfl) dX0_passMinute_64 ⟨Nat.zero_le _, Nat.zero_le _⟩ (fun r8 σ7 H locs hf hP hD hS => ?_)
    refine w_put (D := D) (wf := (wX0 cI cZ cS ad)) (cid := 0) (ci := 0) (C := RX0) (T := TX0) (N := 13) hx hb hts fwX0_passMinute_X0 tyX0 tyX0_ok nmX0 hown hK hP hD hS 0 rfl rfl 8 (by decide) (hts _ (List.mem_of_getElem? (i := 1) rfl)) (fun _ h9 => h9) rfl (tyX0_ok 8 (by decide)) (Nat.le_of_ble_eq_true rfl) hf rfl dX0_passMinute_67 (fun σ9 H locs hf hP hD hS => ?_)
    refine lv_aload_n hx hb dX0_passMinute_70 rfl (lv_at hl 0 rfl) ?_
    refine lv_dup hx hb dX0_passMinute_71 rfl ?_
    refine va_get (D := D) (ci := 0) (C := RX0) (T := TX0) (N := 13) hx hb hts fwX0_passMinute_X0 hown hK hP 0 rfl rfl 9 (by decide) (hts _ (List.mem_of_getElem? (i := 4) rfl)) (fun _ h9 => h9) rfl dX0_passMinute_72 ?_
    refine lv_iconst (v := 1) hx hb dX0_passMinute_75 (by decide) ?_
    refine lv_iadd hx hb dX0_passMinute_76 ?_
    refine w_put (D := D) (wf := (wX0 cI cZ cS ad)) (cid := 0) (ci := 0) (C := RX0) (T := TX0) (N := 13) hx hb hts fwX0_passMinute_X0 tyX0 tyX0_ok nmX0 hown hK hP hD hS 0 rfl rfl 9 (by decide) (hts _ (List.mem_of_getElem? (i := 4) rfl)) (fun _ h9 => h9) rfl (tyX0_ok 9 (by decide)) (Nat.le_of_ble_eq_true rfl) hf rfl dX0_passMinute_77 (fun σ10 H locs hf hP hD hS => ?_)
    refine lv_aload_n hx hb dX0_passMinute_80 rfl (lv_at hl 0 rfl) ?_
    refine va_get (D := D) (ci := 0) (C := RX0) (T := TX0) (N := 13) hx hb hts fwX0_passMinute_X0 hown hK hP 0 rfl rfl 2 (by decide) (hts _ (List.mem_of_getElem? (i := 5) rfl)) (fun _ h9 => h9) rfl dX0_passMinute_81 ?_
    refine lv_aload_n hx hb dX0_passMinute_84 rfl (lv_at hl 0 rfl) ?_
    refine va_get (D := D) (ci := 0) (C := RX0) (T := TX0) (N := 13) hx hb hts fwX0_passMinute_X0 hown hK hP 0 rfl rfl 8 (by decide) (hts _ (List.mem_of_getElem? (i := 1) rfl)) (fun _ h9 => h9) rfl dX0_passMinute_85 ?_
    refine q_cVv (wf := (wX0 cI cZ cS ad)) (wc := wX9 cI cZ cS (fun i => ad (8 + i))) (rest := []) ⟨hx, hb, hml, hown, hts⟩ hK hZ hA hP hD hS hf (fun x ho => kX9_standIn l D cI cZ cS zz (fun i => ad (8 + i)) (q_sb σ10 8) (σ10 0 8) x ho) (cwV 1 hts gX0_passMinute_X9_standIn rfl rfl rfl ndX9_standIn ⟨Nat.le_of_ble_eq_true rfl, Nat.le_of_ble_eq_true rfl⟩) [8, 9, 10, 11] rfl rfl [none, none, none, none, none, none, none, none, some 0, some 1, some 2, some 3, none] (by decide +kernel) (Nat.le_of_ble_eq_true rfl) (fun _ => rfl) (fun _ => rfl) (fun _ => rfl) rfl rfl rfl rfl (hl.1) rfl (Nat.le_of_ble_eq_true rfl) dX0_passMinute_88 ⟨Nat.zero_le _, Nat.zero_le _⟩ (fun σ11 H locs hf hP hD hS => ?_)
    refine lv_aload_n hx hb dX0_passMinute_91 rfl (lv_at hl 0 rfl) ?_
    refine lv_aload_n hx hb dX0_passMinute_92 rfl (lv_at hl 0 rfl) ?_
    refine va_get (D := D) (ci := 0) (C := RX0) (T := TX0) (N := 13) hx hb hts fwX0_passMinute_X0 hown hK hP 0 rfl rfl 12 (by decide) (hts _ (List.mem_of_getElem? (i := 6) rfl)) (fun _ h9 => h9) rfl dX0_passMinute_93 ?_
    refine lv_aload_n hx hb dX0_passMinute_96 rfl (lv_at hl 0 rfl) ?_
    refine va_get (D := D) (ci := 0) (C := RX0) (T := TX0) (N := 13) hx hb hts fwX0_passMinute_X0 hown hK hP 0 rfl rfl 8 (by decide) (hts _ (List.mem_of_getElem? (i := 1) rfl)) (fun _ h9 => h9) rfl dX0_passMinute_97 ?_
    refine va_mmax hx hb (hml.trans hl.1.symm) hown (hts _ (List.mem_of_getElem? (i := 7) rfl)) (hts _ (List.mem_of_getElem? (i := 8) rfl)) (hts _ (List.mem_of_getElem? (i := 9) rfl)) (hts _ (List.mem_of_getElem? (i := 10) rfl)) (Nat.le_of_ble_eq_true rfl) (Nat.le_of_ble_eq_true rfl) (Nat.zero_le _) (Nat.zero_le _) dX0_passMinute_100 ?_
    refine w_put (D := D) (wf := (wX0 cI cZ cS ad)) (cid := 0) (ci := 0) (C := RX0) (T := TX0) (N := 13) hx hb hts fwX0_passMinute_X0 tyX0 tyX0_ok nmX0 hown hK hP hD hS 0 rfl rfl 12 (by decide) (hts _ (List.mem_of_getElem? (i := 6) rfl)) (fun _ h9 => h9) rfl (tyX0_ok 12 (by decide)) (Nat.le_of_ble_eq_true rfl) hf rfl dX0_passMinute_103 (fun σ12 H locs hf hP hD hS => ?_)
    have hi1 := Option.some.inj hf
    subst hi1
    exact hret _ _ _ _ dX0_passMinute_106 hP hS
  refine lv_icmp_le (tgt := 51) hx hb dX0_passMinute_24 (by decide) (fun h13 => ?_) (fun h13 => ?_)
  · have hf := (if_pos h13).symm.trans hf
    exact Jj6 σ4 _ _ _ hP hD hS (lv_sub hl [0] rfl) hf
  · have hf := (if_neg h13).symm.trans hf
    refine lv_aload_n hx hb dX0_passMinute_27 rfl (lv_at hl 0 rfl) ?_
    refine lv_dup hx hb dX0_passMinute_28 rfl ?_
    refine va_get (D := D) (ci := 0) (C := RX0) (T := TX0) (N := 13) hx hb hts fwX0_passMinute_X0 hown hK hP 0 rfl rfl 11 (by decide) (hts _ (List.mem_of_getElem? (i := 2) rfl)) (fun _ h9 => h9) rfl dX0_passMinute_29 ?_
    refine lv_aload_n hx hb dX0_passMinute_32 rfl (lv_at hl 0 rfl) ?_
    refine va_get (D := D) (ci := 0) (C := RX0) (T := TX0) (N := 13) hx hb hts fwX0_passMinute_X0 hown hK hP 0 rfl rfl 8 (by decide) (hts _ (List.mem_of_getElem? (i := 1) rfl)) (fun _ h9 => h9) rfl dX0_passMinute_33 ?_
    refine lv_sipush (v := 9999) hx hb dX0_passMinute_36 (by decide) ?_
    refine lv_isub hx hb dX0_passMinute_39 ?_
    refine lv_iadd hx hb dX0_passMinute_40 ?_
    refine w_put (D := D) (wf := (wX0 cI cZ cS ad)) (cid := 0) (ci := 0) (C := RX0) (T := TX0) (N := 13) hx hb hts fwX0_passMinute_X0 tyX0 tyX0_ok nmX0 hown hK hP hD hS 0 rfl rfl 11 (by decide) (hts _ (List.mem_of_getElem? (i := 2) rfl)) (fun _ h9 => h9) rfl (tyX0_ok 11 (by decide)) (Nat.le_of_ble_eq_true rfl) hf rfl dX0_passMinute_41 (fun σ14 H locs hf hP hD hS => ?_)
    refine lv_aload_n hx hb dX0_passMinute_44 rfl (lv_at hl 0 rfl) ?_
    refine lv_sipush (v := 9999) hx hb dX0_passMinute_45 (by decide) ?_
    refine w_put (D := D) (wf := (wX0 cI cZ cS ad)) (cid := 0) (ci := 0) (C := RX0) (T := TX0) (N := 13) hx hb hts fwX0_passMinute_X0 tyX0 tyX0_ok nmX0 hown hK hP hD hS 0 rfl rfl 8 (by decide) (hts _ (List.mem_of_getElem? (i := 1) rfl)) (fun _ h9 => h9) rfl (tyX0_ok 8 (by decide)) (Nat.le_of_ble_eq_true rfl) hf rfl dX0_passMinute_48 (fun σ15 H locs hf hP hD hS => ?_)
    exact Jj6 σ15 _ _ _ hP hD hS (lv_sub hl [0] rfl) hf
def pX0_passMinutes (σ : SS) (a1 : Int32) : Option SS := q_lp (fun _ _ => none) (fun (c3 : SS → Int32 → Option SS) (σ2 : SS) (x2_1 : Int32) => (if a1 ≤ x2_1 then some σ2 else q_cs (pX0_passMinute σ2) (fun (τ : SS) => τ) (fun (σ7 : SS) => c3 σ7 (x2_1 + (1 : Int32))))) q_fu σ (0 : Int32)
abbrev rmX0_passMinutes : Room := { frames := 4, cells := 0, slots := 0, locals := 92 }
set_option maxHeartbeats 4000000 in
set_option maxRecDepth 100000 in
theorem kX0_passMinutes (l : Launch) (D : va_G) (cI cZ cS : ClassId) (zz : ZT) (ad : Nat → Nat) (σ : SS) (a1 : Int32) (σr : SS) (hf : pX0_passMinutes σ a1 = some σr) : CV l yX0_passMinutes wsX0_passMinutes rmX0_passMinutes D (K3 cI cZ cS) zz [.ref (ad 0), .int a1] (wX0 cI cZ cS ad σ) (wX0 cI cZ cS ad σr) := by
  refine q_ofV (cc := cX0_passMinutes) (maxL := 3) (by decide) rfl (Nat.le_of_ble_eq_true rfl) ?_
  intro p e s m below meth c Q A ls hx hb hml hown hts hK hZ hA hP hD hS hl hret
  have hl : lv_has ls 3 [(0, .ref (ad 0)), (1, .int a1)] := hl
  unfold pX0_passMinutes at hf
  refine lv_iconst (v := 0) hx hb dX0_passMinutes_0 (by decide) ?_
  refine lv_istore_n (lv' := [(2, .int (0 : Int32)), (0, .ref (ad 0)), (1, .int a1)]) hx hb dX0_passMinutes_1 rfl hl (by decide) rfl (fun ls hl => ?_)
  refine q_lp_go (f := fun (zf : SS → Int32 → Option SS) => zf σ (0 : Int32)) hf (fun z4 ez4 hf => ?_)
  have Lz4 : ∀ (n5 : Nat) (σ2 : SS) (x2_1 : Int32) (H : Heap) (locs : List Loc) (ls : Array Slot), va_P D vwCl ((wX0 cI cZ cS ad) σ2) H → va_D A ((wX0 cI cZ cS ad) σ2) → va_S A s.heap H locs → lv_has ls 3 [(0, .ref (ad 0)), (1, .int a1), (2, .int x2_1)] → q_lp (fun _ _ => none) z4 n5 σ2 x2_1 = some σr → W p l e rmX0_passMinutes s m ([.ref (ad 0), .int a1] : List Value).toArray below meth c H locs 0 0 Q (F0 m 2 ls []) := by
    intro n5
    induction n5 with
    | zero => exact fun _ _ _ _ _ _ _ _ _ hf => q_no hf
    | succ n5 ihz4 =>
      intro σ2 x2_1 H locs ls hP hD hS hl hf
      have hf := (congrFun (congrFun (congrFun ez4 (q_lp (fun _ _ => none) z4 n5)) σ2) x2_1).symm.trans hf
      refine lv_iload_n hx hb dX0_passMinutes_2 rfl (lv_at hl 2 rfl) ?_
      refine lv_iload_n hx hb dX0_passMinutes_3 rfl (lv_at hl 1 rfl) ?_
      refine lv_icmp_ge (tgt := 17) hx hb dX0_passMinutes_4 (by decide) (fun h6 => ?_) (fun h6 => ?_)
      · have hf := (if_pos h6).symm.trans hf
        have hi1 := Option.some.inj hf
        subst hi1
        exact hret _ _ _ _ dX0_passMinutes_17 hP hS
      · have hf := (if_neg h6).symm.trans hf
        refine lv_aload_n hx hb dX0_passMinutes_7 rfl (lv_at hl 0 rfl) ?_
        refine q_cVv (wf := (wX0 cI cZ cS ad)) (wc := wX0 cI cZ cS ad) (rest := []) ⟨hx, hb, hml, hown, hts⟩ hK hZ hA hP hD hS hf (fun x ho => kX0_passMinute l D cI cZ cS zz ad σ2 x ho) (cwV 0 hts gX0_passMinutes_X0_passMinute rfl rfl rfl ndX0_passMinute ⟨Nat.le_of_ble_eq_true rfl, Nat.le_of_ble_eq_true rfl⟩) [0, 1, 2, 3, 4, 5, 6, 7, 8, 9, 10, 11, 12] rfl rfl [some 0, some 1, some 2, some 3, some 4, some 5, some 6, some 7, some 8, some 9, some 10, some 11, some 12] (by decide +kernel) (Nat.le_of_ble_eq_true rfl) (fun _ => rfl) (fun _ => rfl) (fun _ => rfl) rfl rfl rfl rfl (hl.1) rfl (Nat.le_of_ble_eq_true rfl) dX0_passMinutes_8 ⟨Nat.zero_le _, Nat.zero_le _⟩ (fun σ7 H locs hf hP hD hS => ?_)
        refine lv_iinc (v := (x2_1 + (1 : Int32))) (lv' := [(2, .int (x2_1 + (1 : Int32))), (0, .ref (ad 0)), (1, .int a1)]) hx hb dX0_passMinutes_11 hl (k := 2) rfl rfl (by decide) rfl (fun ls hl => ?_)
        refine lv_goto (tgt := 2) hx hb dX0_passMinutes_14 (by decide) ?_
        exact ihz4 σ7 (x2_1 + (1 : Int32)) _ _ _ hP hD hS (lv_sub hl [1, 2, 0] rfl) hf
  exact Lz4 q_fu σ (0 : Int32) _ _ _ hP hD hS (lv_sub hl [1, 2, 0] rfl) hf
def pX0_undergo (σ : SS) (a1 : Int32) (a2 : Int32) : Option SS := q_lt (fun (σ1 : SS) => some σ1) (fun j2 => (if a1 = (0 : Int32) then q_lt (su σ 0 6 a2) (fun (σ4 : SS) => j2 σ4) else (if a1 = (1 : Int32) then j2 σ else (if a1 = (2 : Int32) then q_lt (fun (y7 : Int32) => q_zz y7 (q_lt (su σ 6 5 y7) (fun (σ9 : SS) => j2 σ9))) (fun j8 => (if a2 = (1 : Int32) then j8 (1 : Int32) else j8 (0 : Int32))) else (if a1 = (3 : Int32) then q_lt (fun (y12 : Int32) => q_zz y12 (q_lt (su σ 0 5 y12) (fun (σ14 : SS) => j2 σ14))) (fun j13 => q_lt (j13 (0 : Int32)) (fun j15 => (if a2 = (1 : Int32) then q_cr (pX0_has σ (1 : Int32)) (fun (r17 : Int32) => (if r17 = (0 : Int32) then j13 (1 : Int32) else j15)) else j15))) else (if a1 = (4 : Int32) then q_lt (su σ 6 4 a2) (fun (σ20 : SS) => j2 σ20) else (if a1 = (5 : Int32) then q_lt (su σ 0 8 (if (0 : Int32) < ((σ 0 8) - a2) then ((σ 0 8) - a2) else (0 : Int32))) (fun (σ22 : SS) => j2 σ22) else j2 σ)))))))
theorem fwX0_undergo_X0 : ∀ w ∈ wsX00, w ∈ wsX0_undergo := fun _ h => List.mem_cons_of_mem _ (List.mem_append_left _ (List.mem_append_right _ h))
theorem fwX0_undergo_X4 : ∀ w ∈ wsX40, w ∈ wsX0_undergo := fun _ h => List.mem_cons_of_mem _ (List.mem_append_right _ h)
abbrev rmX0_undergo : Room := { frames := 1, cells := 0, slots := 0, locals := 24 }
set_option maxHeartbeats 4000000 in
set_option maxRecDepth 100000 in
theorem kX0_undergo (l : Launch) (D : va_G) (cI cZ cS : ClassId) (zz : ZT) (ad : Nat → Nat) (σ : SS) (a1 : Int32) (a2 : Int32) (σr : SS) (hf : pX0_undergo σ a1 a2 = some σr) : CV l yX0_undergo wsX0_undergo rmX0_undergo D (K3 cI cZ cS) zz [.ref (ad 0), .int a1, .int a2] (wX0 cI cZ cS ad σ) (wX0 cI cZ cS ad σr) := by
  refine q_ofV (cc := cX0_undergo) (maxL := 3) (by decide) rfl (Nat.le_of_ble_eq_true rfl) ?_
  intro p e s m below meth c Q A ls hx hb hml hown hts hK hZ hA hP hD hS hl hret
  have hl : lv_has ls 3 [(0, .ref (ad 0)), (1, .int a1), (2, .int a2)] := hl
  unfold pX0_undergo at hf
  refine lv_iload_n hx hb dX0_undergo_0 rfl (lv_at hl 1 rfl) ?_
  refine q_lt_go hf (fun j2 ej2 hf => ?_)
  have Jj2 : ∀ (σ1 : SS) (H : Heap) (locs : List Loc) (ls : Array Slot), va_P D vwCl ((wX0 cI cZ cS ad) σ1) H → va_D A ((wX0 cI cZ cS ad) σ1) → va_S A s.heap H locs → lv_has ls 3 [] → j2 σ1 = some σr → W p l e rmX0_undergo s m ([.ref (ad 0), .int a1, .int a2] : List Value).toArray below meth c H locs 0 0 Q (F0 m 121 ls []) := by
    intro σ1 H locs ls hP hD hS hl hf
    have hf := (congrFun ej2 σ1).symm.trans hf
    have hi1 := Option.some.inj hf
    subst hi1
    exact hret _ _ _ _ dX0_undergo_121 hP hS
  by_cases h3 : a1 = (0 : Int32)
  · have hf := (if_pos h3).symm.trans hf
    refine lv_tableIn (tgt := 40) hx hb dX0_undergo_1 (by rw [h3]; decide) (by rw [h3]; decide) (by rw [h3]; rfl) (by decide) ?_
    refine lv_aload_n hx hb dX0_undergo_40 rfl (lv_at hl 0 rfl) ?_
    refine lv_iload_n hx hb dX0_undergo_41 rfl (lv_at hl 2 rfl) ?_
    refine w_put (D := D) (wf := (wX0 cI cZ cS ad)) (cid := 0) (ci := 0) (C := RX0) (T := TX0) (N := 13) hx hb hts fwX0_undergo_X0 tyX0 tyX0_ok nmX0 hown hK hP hD hS 0 rfl rfl 6 (by decide) (hts _ (List.mem_of_getElem? (i := 1) rfl)) (fun _ h9 => h9) rfl (tyX0_ok 6 (by decide)) (Nat.le_of_ble_eq_true rfl) hf rfl dX0_undergo_42 (fun σ4 H locs hf hP hD hS => ?_)
    refine lv_goto (tgt := 121) hx hb dX0_undergo_45 (by decide) ?_
    exact Jj2 σ4 _ _ _ hP hD hS (lv_sub hl [] rfl) hf
  have hf := (if_neg h3).symm.trans hf
  by_cases h5 : a1 = (1 : Int32)
  · have hf := (if_pos h5).symm.trans hf
    refine lv_tableIn (tgt := 121) hx hb dX0_undergo_1 (by rw [h5]; decide) (by rw [h5]; decide) (by rw [h5]; rfl) (by decide) ?_
    exact Jj2 σ _ _ _ hP hD hS (lv_sub hl [] rfl) hf
  have hf := (if_neg h5).symm.trans hf
  by_cases h6 : a1 = (2 : Int32)
  · have hf := (if_pos h6).symm.trans hf
    refine lv_tableIn (tgt := 48) hx hb dX0_undergo_1 (by rw [h6]; decide) (by rw [h6]; decide) (by rw [h6]; rfl) (by decide) ?_
    refine lv_aload_n hx hb dX0_undergo_48 rfl (lv_at hl 0 rfl) ?_
    refine va_get (D := D) (ci := 0) (C := RX0) (T := TX0) (N := 13) hx hb hts fwX0_undergo_X0 hown hK hP 0 rfl rfl 1 (by decide) (hts _ (List.mem_of_getElem? (i := 2) rfl)) (fun _ h9 => h9) rfl dX0_undergo_49 ?_
    refine lv_iload_n hx hb dX0_undergo_52 rfl (lv_at hl 2 rfl) ?_
    refine lv_iconst (v := 1) hx hb dX0_undergo_53 (by decide) ?_
    refine q_lt_go hf (fun j8 ej8 hf => ?_)
    have Jj8 : ∀ (y7 : Int32) (H : Heap) (locs : List Loc) (ls : Array Slot), va_P D vwCl ((wX0 cI cZ cS ad) σ) H → va_D A ((wX0 cI cZ cS ad) σ) → va_S A s.heap H locs → lv_has ls 3 [] → j8 y7 = some σr → W p l e rmX0_undergo s m ([.ref (ad 0), .int a1, .int a2] : List Value).toArray below meth c H locs 0 0 Q (F0 m 62 ls [.int y7, .ref (ad 6)]) := by
      intro y7 H locs ls hP hD hS hl hf
      have hf := (congrFun ej8 y7).symm.trans hf
      refine w_putZ (D := D) (wf := (wX0 cI cZ cS ad)) (cid := 6) (ci := 4) (C := RX4) (T := TX4) (N := 11) hx hb hts fwX0_undergo_X4 tyX4 tyX4_ok nmX4 hown hK hP hD hS 6 rfl rfl 5 (by decide) (hts _ (List.mem_of_getElem? (i := 3) rfl)) (fun _ h9 => h9) rfl (tyX4_ok 5 (by decide)) (Nat.le_of_ble_eq_true rfl) hf rfl dX0_undergo_62 (fun σ9 H locs hf hP hD hS => ?_)
      refine lv_goto (tgt := 121) hx hb dX0_undergo_65 (by decide) ?_
      exact Jj2 σ9 _ _ _ hP hD hS (lv_sub hl [] rfl) hf
    refine lv_icmp_ne (tgt := 61) hx hb dX0_undergo_54 (by decide) (fun h10 => ?_) (fun h10 => ?_)
    · have hf := (if_neg h10).symm.trans hf
      refine lv_iconst (v := 0) hx hb dX0_undergo_61 (by decide) ?_
      exact Jj8 (0 : Int32) _ _ _ hP hD hS (lv_sub hl [] rfl) hf
    · have hf := (if_pos h10).symm.trans hf
      refine lv_iconst (v := 1) hx hb dX0_undergo_57 (by decide) ?_
      refine lv_goto (tgt := 62) hx hb dX0_undergo_58 (by decide) ?_
      exact Jj8 (1 : Int32) _ _ _ hP hD hS (lv_sub hl [] rfl) hf
  have hf := (if_neg h6).symm.trans hf
  by_cases h11 : a1 = (3 : Int32)
  · have hf := (if_pos h11).symm.trans hf
    refine lv_tableIn (tgt := 68) hx hb dX0_undergo_1 (by rw [h11]; decide) (by rw [h11]; decide) (by rw [h11]; rfl) (by decide) ?_
    refine lv_aload_n hx hb dX0_undergo_68 rfl (lv_at hl 0 rfl) ?_
    refine lv_iload_n hx hb dX0_undergo_69 rfl (lv_at hl 2 rfl) ?_
    refine lv_iconst (v := 1) hx hb dX0_undergo_70 (by decide) ?_
    refine q_lt_go hf (fun j13 ej13 hf => ?_)
    have Jj13 : ∀ (y12 : Int32) (H : Heap) (locs : List Loc) (ls : Array Slot), va_P D vwCl ((wX0 cI cZ cS ad) σ) H → va_D A ((wX0 cI cZ cS ad) σ) → va_S A s.heap H locs → lv_has ls 3 [] → j13 y12 = some σr → W p l e rmX0_undergo s m ([.ref (ad 0), .int a1, .int a2] : List Value).toArray below meth c H locs 0 0 Q (F0 m 87 ls [.int y12, .ref (ad 0)]) := by
      intro y12 H locs ls hP hD hS hl hf
      have hf := (congrFun ej13 y12).symm.trans hf
      refine w_putZ (D := D) (wf := (wX0 cI cZ cS ad)) (cid := 0) (ci := 0) (C := RX0) (T := TX0) (N := 13) hx hb hts fwX0_undergo_X0 tyX0 tyX0_ok nmX0 hown hK hP hD hS 0 rfl rfl 5 (by decide) (hts _ (List.mem_of_getElem? (i := 4) rfl)) (fun _ h9 => h9) rfl (tyX0_ok 5 (by decide)) (Nat.le_of_ble_eq_true rfl) hf rfl dX0_undergo_87 (fun σ14 H locs hf hP hD hS => ?_)
      refine lv_goto (tgt := 121) hx hb dX0_undergo_90 (by decide) ?_
      exact Jj2 σ14 _ _ _ hP hD hS (lv_sub hl [] rfl) hf
    refine q_lt_go hf (fun j15 ej15 hf => ?_)
    have Jj15 : ∀ (H : Heap) (locs : List Loc) (ls : Array Slot), va_P D vwCl ((wX0 cI cZ cS ad) σ) H → va_D A ((wX0 cI cZ cS ad) σ) → va_S A s.heap H locs → lv_has ls 3 [] → j15 = some σr → W p l e rmX0_undergo s m ([.ref (ad 0), .int a1, .int a2] : List Value).toArray below meth c H locs 0 0 Q (F0 m 86 ls [.ref (ad 0)]) := by
      intro  H locs ls hP hD hS hl hf
      have hf := ej15.symm.trans hf
      refine lv_iconst (v := 0) hx hb dX0_undergo_86 (by decide) ?_
      exact Jj13 (0 : Int32) _ _ _ hP hD hS (lv_sub hl [] rfl) hf
    refine lv_icmp_ne (tgt := 86) hx hb dX0_undergo_71 (by decide) (fun h16 => ?_) (fun h16 => ?_)
    · have hf := (if_neg h16).symm.trans hf
      exact Jj15  _ _ _ hP hD hS (lv_sub hl [] rfl) hf
    · have hf := (if_pos h16).symm.trans hf
      refine lv_aload_n hx hb dX0_undergo_74 rfl (lv_at hl 0 rfl) ?_
      refine lv_iconst (v := 1) hx hb dX0_undergo_75 (by decide) ?_
      refine q_cVr (wf := (wX0 cI cZ cS ad)) (wc := wX0 cI cZ cS ad) (rest := [.ref (ad 0)]) ⟨hx, hb, hml, hown, hts⟩ hK hZ hA hP hD hS hf (fun x ho => kX0_has l D cI cZ cS zz ad σ (1 : Int32) x ho) (cwV 1 hts gX0_undergo_X0_has rfl rfl rfl ndX0_has ⟨Nat.le_of_ble_eq_true rfl, Nat.le_of_ble_eq_true rfl⟩) [0, 1, 2, 3, 4, 5, 6, 7, 8, 9, 10, 11, 12] rfl rfl rfl rfl rfl rfl (hl.1) rfl (Nat.le_of_ble_eq_true rfl) dX0_undergo_76 ⟨Nat.zero_le _, Nat.zero_le _⟩ (fun r17 H locs hf hP hD hS => ?_)
      refine lv_if_ne (tgt := 86) hx hb dX0_undergo_79 (by decide) (fun h18 => ?_) (fun h18 => ?_)
      · have hf := (if_neg h18).symm.trans hf
        exact Jj15  _ _ _ hP hD hS (lv_sub hl [] rfl) hf
      · have hf := (if_pos h18).symm.trans hf
        refine lv_iconst (v := 1) hx hb dX0_undergo_82 (by decide) ?_
        refine lv_goto (tgt := 87) hx hb dX0_undergo_83 (by decide) ?_
        exact Jj13 (1 : Int32) _ _ _ hP hD hS (lv_sub hl [] rfl) hf
  have hf := (if_neg h11).symm.trans hf
  by_cases h19 : a1 = (4 : Int32)
  · have hf := (if_pos h19).symm.trans hf
    refine lv_tableIn (tgt := 93) hx hb dX0_undergo_1 (by rw [h19]; decide) (by rw [h19]; decide) (by rw [h19]; rfl) (by decide) ?_
    refine lv_aload_n hx hb dX0_undergo_93 rfl (lv_at hl 0 rfl) ?_
    refine va_get (D := D) (ci := 0) (C := RX0) (T := TX0) (N := 13) hx hb hts fwX0_undergo_X0 hown hK hP 0 rfl rfl 1 (by decide) (hts _ (List.mem_of_getElem? (i := 2) rfl)) (fun _ h9 => h9) rfl dX0_undergo_94 ?_
    refine lv_iload_n hx hb dX0_undergo_97 rfl (lv_at hl 2 rfl) ?_
    refine w_put (D := D) (wf := (wX0 cI cZ cS ad)) (cid := 6) (ci := 4) (C := RX4) (T := TX4) (N := 11) hx hb hts fwX0_undergo_X4 tyX4 tyX4_ok nmX4 hown hK hP hD hS 6 rfl rfl 4 (by decide) (hts _ (List.mem_of_getElem? (i := 5) rfl)) (fun _ h9 => h9) rfl (tyX4_ok 4 (by decide)) (Nat.le_of_ble_eq_true rfl) hf rfl dX0_undergo_98 (fun σ20 H locs hf hP hD hS => ?_)
    refine lv_goto (tgt := 121) hx hb dX0_undergo_101 (by decide) ?_
    exact Jj2 σ20 _ _ _ hP hD hS (lv_sub hl [] rfl) hf
  have hf := (if_neg h19).symm.trans hf
  by_cases h21 : a1 = (5 : Int32)
  · have hf := (if_pos h21).symm.trans hf
    refine lv_tableIn (tgt := 104) hx hb dX0_undergo_1 (by rw [h21]; decide) (by rw [h21]; decide) (by rw [h21]; rfl) (by decide) ?_
    refine lv_aload_n hx hb dX0_undergo_104 rfl (lv_at hl 0 rfl) ?_
    refine lv_iconst (v := 0) hx hb dX0_undergo_105 (by decide) ?_
    refine lv_aload_n hx hb dX0_undergo_106 rfl (lv_at hl 0 rfl) ?_
    refine va_get (D := D) (ci := 0) (C := RX0) (T := TX0) (N := 13) hx hb hts fwX0_undergo_X0 hown hK hP 0 rfl rfl 8 (by decide) (hts _ (List.mem_of_getElem? (i := 6) rfl)) (fun _ h9 => h9) rfl dX0_undergo_107 ?_
    refine lv_iload_n hx hb dX0_undergo_110 rfl (lv_at hl 2 rfl) ?_
    refine lv_isub hx hb dX0_undergo_111 ?_
    refine va_mmax hx hb (hml.trans hl.1.symm) hown (hts _ (List.mem_of_getElem? (i := 7) rfl)) (hts _ (List.mem_of_getElem? (i := 8) rfl)) (hts _ (List.mem_of_getElem? (i := 9) rfl)) (hts _ (List.mem_of_getElem? (i := 10) rfl)) (Nat.le_of_ble_eq_true rfl) (Nat.le_of_ble_eq_true rfl) (Nat.zero_le _) (Nat.zero_le _) dX0_undergo_112 ?_
    refine w_put (D := D) (wf := (wX0 cI cZ cS ad)) (cid := 0) (ci := 0) (C := RX0) (T := TX0) (N := 13) hx hb hts fwX0_undergo_X0 tyX0 tyX0_ok nmX0 hown hK hP hD hS 0 rfl rfl 8 (by decide) (hts _ (List.mem_of_getElem? (i := 6) rfl)) (fun _ h9 => h9) rfl (tyX0_ok 8 (by decide)) (Nat.le_of_ble_eq_true rfl) hf rfl dX0_undergo_115 (fun σ22 H locs hf hP hD hS => ?_)
    refine lv_goto (tgt := 121) hx hb dX0_undergo_118 (by decide) ?_
    exact Jj2 σ22 _ _ _ hP hD hS (lv_sub hl [] rfl) hf
  have hf := (if_neg h21).symm.trans hf
  refine lv_tableOut (tgt := 121) hx hb dX0_undergo_1 (by have := q_ne h3 (z := 0) rfl; have := q_ne h5 (z := 1) rfl; have := q_ne h6 (z := 2) rfl; have := q_ne h11 (z := 3) rfl; have := q_ne h19 (z := 4) rfl; have := q_ne h21 (z := 5) rfl; omega) (by decide) ?_
  exact Jj2 σ _ _ _ hP hD hS (lv_sub hl [] rfl) hf
def pX10_becomeLike (σ : SS) : Option SS := q_lt (su σ 0 0 (σ 5 0)) (fun (σ1 : SS) => q_ac σ1 6 8 1 8 (0 : Int32) (0 : Int32) (σ1 0 0) (fun (σ2 : SS) => q_ac σ2 7 8 2 8 (0 : Int32) (0 : Int32) (σ2 0 0) (fun (σ3 : SS) => q_ac σ3 8 8 3 8 (0 : Int32) (0 : Int32) (σ3 0 0) (fun (σ4 : SS) => q_ac σ4 9 8 4 8 (0 : Int32) (0 : Int32) (σ4 0 0) (fun (σ5 : SS) => some σ5)))))
theorem fwX10_becomeLike_X10 : ∀ w ∈ wsX100, w ∈ wsX10_becomeLike := fun _ h => List.mem_cons_of_mem _ (List.mem_append_right _ h)
abbrev rmX10_becomeLike : Room := { frames := 1, cells := 0, slots := 0, locals := 80 }
set_option maxHeartbeats 4000000 in
set_option maxRecDepth 100000 in
theorem kX10_becomeLike (l : Launch) (D : va_G) (cI cZ cS : ClassId) (zz : ZT) (ad : Nat → Nat) (σ : SS) (σr : SS) (hf : pX10_becomeLike σ = some σr) : CV l yX10_becomeLike wsX10_becomeLike rmX10_becomeLike D (K3 cI cZ cS) zz [.ref (ad 0), .ref (ad 5)] (wX10_X10 cI cZ cS ad σ) (wX10_X10 cI cZ cS ad σr) := by
  refine q_ofV (cc := cX10_becomeLike) (maxL := 2) (by decide) rfl (Nat.le_of_ble_eq_true rfl) ?_
  intro p e s m below meth c Q A ls hx hb hml hown hts hK hZ hA hP hD hS hl hret
  have hl : lv_has ls 2 [(0, .ref (ad 0)), (1, .ref (ad 5))] := hl
  unfold pX10_becomeLike at hf
  refine lv_aload_n hx hb dX10_becomeLike_0 rfl (lv_at hl 0 rfl) ?_
  refine lv_aload_n hx hb dX10_becomeLike_1 rfl (lv_at hl 1 rfl) ?_
  refine va_get (D := D) (ci := 10) (C := RX10) (T := TX10) (N := 5) hx hb hts fwX10_becomeLike_X10 hown hK hP 5 rfl rfl 0 (by decide) (hts _ (List.mem_of_getElem? (i := 1) rfl)) (fun _ h9 => h9) rfl dX10_becomeLike_2 ?_
  refine w_put (D := D) (wf := (wX10_X10 cI cZ cS ad)) (cid := 0) (ci := 10) (C := RX10) (T := TX10) (N := 5) hx hb hts fwX10_becomeLike_X10 tyX10 tyX10_ok nmX10 hown hK hP hD hS 0 rfl rfl 0 (by decide) (hts _ (List.mem_of_getElem? (i := 1) rfl)) (fun _ h9 => h9) rfl (tyX10_ok 0 (by decide)) (Nat.le_of_ble_eq_true rfl) hf rfl dX10_becomeLike_5 (fun σ1 H locs hf hP hD hS => ?_)
  refine lv_aload_n hx hb dX10_becomeLike_8 rfl (lv_at hl 1 rfl) ?_
  refine va_get (D := D) (ci := 10) (C := RX10) (T := TX10) (N := 5) hx hb hts fwX10_becomeLike_X10 hown hK hP 5 rfl rfl 1 (by decide) (hts _ (List.mem_of_getElem? (i := 2) rfl)) (fun _ h9 => h9) rfl dX10_becomeLike_9 ?_
  refine lv_iconst (v := 0) hx hb dX10_becomeLike_12 (by decide) ?_
  refine lv_aload_n hx hb dX10_becomeLike_13 rfl (lv_at hl 0 rfl) ?_
  refine va_get (D := D) (ci := 10) (C := RX10) (T := TX10) (N := 5) hx hb hts fwX10_becomeLike_X10 hown hK hP 0 rfl rfl 1 (by decide) (hts _ (List.mem_of_getElem? (i := 2) rfl)) (fun _ h9 => h9) rfl dX10_becomeLike_14 ?_
  refine lv_iconst (v := 0) hx hb dX10_becomeLike_17 (by decide) ?_
  refine lv_aload_n hx hb dX10_becomeLike_18 rfl (lv_at hl 0 rfl) ?_
  refine va_get (D := D) (ci := 10) (C := RX10) (T := TX10) (N := 5) hx hb hts fwX10_becomeLike_X10 hown hK hP 0 rfl rfl 0 (by decide) (hts _ (List.mem_of_getElem? (i := 1) rfl)) (fun _ h9 => h9) rfl dX10_becomeLike_19 ?_
  refine w_copy (D := D) (wf := (wX10_X10 cI cZ cS ad)) (i0 := 6) (i1 := 1) hx hb (hml.trans hl.1.symm) hown (hts _ (List.mem_of_getElem? (i := 3) rfl)) (hts _ (List.mem_of_getElem? (i := 4) rfl)) (hts _ (List.mem_of_getElem? (i := 5) rfl)) (hts _ (List.mem_of_getElem? (i := 6) rfl)) hK hP hD hS 6 1 0 rfl rfl rfl hf (fun _ => rfl) (Nat.le_of_ble_eq_true rfl) (Nat.le_of_ble_eq_true rfl) dX10_becomeLike_22 (fun σ2 H locs hf hP hD hS => ?_)
  refine lv_aload_n hx hb dX10_becomeLike_25 rfl (lv_at hl 1 rfl) ?_
  refine va_get (D := D) (ci := 10) (C := RX10) (T := TX10) (N := 5) hx hb hts fwX10_becomeLike_X10 hown hK hP 5 rfl rfl 2 (by decide) (hts _ (List.mem_of_getElem? (i := 7) rfl)) (fun _ h9 => h9) rfl dX10_becomeLike_26 ?_
  refine lv_iconst (v := 0) hx hb dX10_becomeLike_29 (by decide) ?_
  refine lv_aload_n hx hb dX10_becomeLike_30 rfl (lv_at hl 0 rfl) ?_
  refine va_get (D := D) (ci := 10) (C := RX10) (T := TX10) (N := 5) hx hb hts fwX10_becomeLike_X10 hown hK hP 0 rfl rfl 2 (by decide) (hts _ (List.mem_of_getElem? (i := 7) rfl)) (fun _ h9 => h9) rfl dX10_becomeLike_31 ?_
  refine lv_iconst (v := 0) hx hb dX10_becomeLike_34 (by decide) ?_
  refine lv_aload_n hx hb dX10_becomeLike_35 rfl (lv_at hl 0 rfl) ?_
  refine va_get (D := D) (ci := 10) (C := RX10) (T := TX10) (N := 5) hx hb hts fwX10_becomeLike_X10 hown hK hP 0 rfl rfl 0 (by decide) (hts _ (List.mem_of_getElem? (i := 1) rfl)) (fun _ h9 => h9) rfl dX10_becomeLike_36 ?_
  refine w_copy (D := D) (wf := (wX10_X10 cI cZ cS ad)) (i0 := 7) (i1 := 2) hx hb (hml.trans hl.1.symm) hown (hts _ (List.mem_of_getElem? (i := 3) rfl)) (hts _ (List.mem_of_getElem? (i := 4) rfl)) (hts _ (List.mem_of_getElem? (i := 5) rfl)) (hts _ (List.mem_of_getElem? (i := 6) rfl)) hK hP hD hS 7 2 0 rfl rfl rfl hf (fun _ => rfl) (Nat.le_of_ble_eq_true rfl) (Nat.le_of_ble_eq_true rfl) dX10_becomeLike_39 (fun σ3 H locs hf hP hD hS => ?_)
  refine lv_aload_n hx hb dX10_becomeLike_42 rfl (lv_at hl 1 rfl) ?_
  refine va_get (D := D) (ci := 10) (C := RX10) (T := TX10) (N := 5) hx hb hts fwX10_becomeLike_X10 hown hK hP 5 rfl rfl 3 (by decide) (hts _ (List.mem_of_getElem? (i := 8) rfl)) (fun _ h9 => h9) rfl dX10_becomeLike_43 ?_
  refine lv_iconst (v := 0) hx hb dX10_becomeLike_46 (by decide) ?_
  refine lv_aload_n hx hb dX10_becomeLike_47 rfl (lv_at hl 0 rfl) ?_
  refine va_get (D := D) (ci := 10) (C := RX10) (T := TX10) (N := 5) hx hb hts fwX10_becomeLike_X10 hown hK hP 0 rfl rfl 3 (by decide) (hts _ (List.mem_of_getElem? (i := 8) rfl)) (fun _ h9 => h9) rfl dX10_becomeLike_48 ?_
  refine lv_iconst (v := 0) hx hb dX10_becomeLike_51 (by decide) ?_
  refine lv_aload_n hx hb dX10_becomeLike_52 rfl (lv_at hl 0 rfl) ?_
  refine va_get (D := D) (ci := 10) (C := RX10) (T := TX10) (N := 5) hx hb hts fwX10_becomeLike_X10 hown hK hP 0 rfl rfl 0 (by decide) (hts _ (List.mem_of_getElem? (i := 1) rfl)) (fun _ h9 => h9) rfl dX10_becomeLike_53 ?_
  refine w_copy (D := D) (wf := (wX10_X10 cI cZ cS ad)) (i0 := 8) (i1 := 3) hx hb (hml.trans hl.1.symm) hown (hts _ (List.mem_of_getElem? (i := 3) rfl)) (hts _ (List.mem_of_getElem? (i := 4) rfl)) (hts _ (List.mem_of_getElem? (i := 5) rfl)) (hts _ (List.mem_of_getElem? (i := 6) rfl)) hK hP hD hS 8 3 0 rfl rfl rfl hf (fun _ => rfl) (Nat.le_of_ble_eq_true rfl) (Nat.le_of_ble_eq_true rfl) dX10_becomeLike_56 (fun σ4 H locs hf hP hD hS => ?_)
  refine lv_aload_n hx hb dX10_becomeLike_59 rfl (lv_at hl 1 rfl) ?_
  refine va_get (D := D) (ci := 10) (C := RX10) (T := TX10) (N := 5) hx hb hts fwX10_becomeLike_X10 hown hK hP 5 rfl rfl 4 (by decide) (hts _ (List.mem_of_getElem? (i := 9) rfl)) (fun _ h9 => h9) rfl dX10_becomeLike_60 ?_
  refine lv_iconst (v := 0) hx hb dX10_becomeLike_63 (by decide) ?_
  refine lv_aload_n hx hb dX10_becomeLike_64 rfl (lv_at hl 0 rfl) ?_
  refine va_get (D := D) (ci := 10) (C := RX10) (T := TX10) (N := 5) hx hb hts fwX10_becomeLike_X10 hown hK hP 0 rfl rfl 4 (by decide) (hts _ (List.mem_of_getElem? (i := 9) rfl)) (fun _ h9 => h9) rfl dX10_becomeLike_65 ?_
  refine lv_iconst (v := 0) hx hb dX10_becomeLike_68 (by decide) ?_
  refine lv_aload_n hx hb dX10_becomeLike_69 rfl (lv_at hl 0 rfl) ?_
  refine va_get (D := D) (ci := 10) (C := RX10) (T := TX10) (N := 5) hx hb hts fwX10_becomeLike_X10 hown hK hP 0 rfl rfl 0 (by decide) (hts _ (List.mem_of_getElem? (i := 1) rfl)) (fun _ h9 => h9) rfl dX10_becomeLike_70 ?_
  refine w_copy (D := D) (wf := (wX10_X10 cI cZ cS ad)) (i0 := 9) (i1 := 4) hx hb (hml.trans hl.1.symm) hown (hts _ (List.mem_of_getElem? (i := 3) rfl)) (hts _ (List.mem_of_getElem? (i := 4) rfl)) (hts _ (List.mem_of_getElem? (i := 5) rfl)) (hts _ (List.mem_of_getElem? (i := 6) rfl)) hK hP hD hS 9 4 0 rfl rfl rfl hf (fun _ => rfl) (Nat.le_of_ble_eq_true rfl) (Nat.le_of_ble_eq_true rfl) dX10_becomeLike_73 (fun σ5 H locs hf hP hD hS => ?_)
  have hi1 := Option.some.inj hf
  subst hi1
  exact hret _ _ _ _ dX10_becomeLike_76 hP hS
def pX4_logged (σ : SS) : Option Int32 := some (if (40 : Int32) < (σ 0 8) then (40 : Int32) else (σ 0 8))
theorem fwX4_logged_X4 : ∀ w ∈ wsX40, w ∈ wsX4_logged := fun _ h => List.mem_cons_of_mem _ (List.mem_append_right _ h)
abbrev rmX4_logged : Room := { frames := 1, cells := 0, slots := 0, locals := 24 }
set_option maxHeartbeats 4000000 in
set_option maxRecDepth 100000 in
theorem kX4_logged (l : Launch) (D : va_G) (cI cZ cS : ClassId) (zz : ZT) (ad : Nat → Nat) (σ : SS) (rr : Int32) (hf : pX4_logged σ = some rr) : CI l yX4_logged wsX4_logged rmX4_logged D (K3 cI cZ cS) zz [.ref (ad 0)] (wX4 cI cZ cS ad σ) (wX4 cI cZ cS ad σ) rr := by
  refine q_ofI (cc := cX4_logged) (maxL := 1) (ty := .int) (by decide) rfl (Nat.le_of_ble_eq_true rfl) ?_
  intro p e s m below meth c Q A ls hx hb hml hown hts hK hZ hA hP hD hS hl hret
  have hl : lv_has ls 1 [(0, .ref (ad 0))] := hl
  unfold pX4_logged at hf
  refine lv_aload_n hx hb dX4_logged_0 rfl (lv_at hl 0 rfl) ?_
  refine va_get (D := D) (ci := 4) (C := RX4) (T := TX4) (N := 11) hx hb hts fwX4_logged_X4 hown hK hP 0 rfl rfl 8 (by decide) (hts _ (List.mem_of_getElem? (i := 1) rfl)) (fun _ h9 => h9) rfl dX4_logged_1 ?_
  refine lv_bipush (v := 40) hx hb dX4_logged_4 (by decide) ?_
  refine va_mmin hx hb (hml.trans hl.1.symm) hown (hts _ (List.mem_of_getElem? (i := 2) rfl)) (hts _ (List.mem_of_getElem? (i := 3) rfl)) (hts _ (List.mem_of_getElem? (i := 4) rfl)) (hts _ (List.mem_of_getElem? (i := 5) rfl)) (Nat.le_of_ble_eq_true rfl) (Nat.le_of_ble_eq_true rfl) (Nat.zero_le _) (Nat.zero_le _) dX4_logged_6 ?_
  have hi1 := Option.some.inj hf
  subst hi1
  exact hret _ _ _ _ dX4_logged_9 rfl hP hS
def pX4_becomeLike (σ : SS) : Option SS := q_lt (su σ 0 0 (σ 2 0)) (fun (σ1 : SS) => q_lt (su σ1 0 1 (σ1 2 1)) (fun (σ2 : SS) => q_lt (su σ2 0 2 (σ2 2 2)) (fun (σ3 : SS) => q_lt (su σ3 0 3 (σ3 2 3)) (fun (σ4 : SS) => q_lt (su σ4 0 4 (σ4 2 4)) (fun (σ5 : SS) => q_zz (σ5 2 5) (q_lt (su σ5 0 5 (σ5 2 5)) (fun (σ6 : SS) => q_zz (σ6 2 6) (q_lt (su σ6 0 6 (σ6 2 6)) (fun (σ7 : SS) => q_zz (σ7 2 7) (q_lt (su σ7 0 7 (σ7 2 7)) (fun (σ8 : SS) => q_lt (su σ8 0 8 (σ8 2 8)) (fun (σ9 : SS) => q_lt (su σ9 0 9 (σ9 2 9)) (fun (σ10 : SS) => q_cr (pX4_logged (q_sb σ10 2)) (fun (r11 : Int32) => q_ac σ10 3 40 1 40 (0 : Int32) (0 : Int32) r11 (fun (σ12 : SS) => some σ12)))))))))))))))
theorem fwX4_becomeLike_X4 : ∀ w ∈ wsX40, w ∈ wsX4_becomeLike := fun _ h => List.mem_cons_of_mem _ (List.mem_append_right _ h)
abbrev rmX4_becomeLike : Room := { frames := 2, cells := 0, slots := 0, locals := 80 }
set_option maxHeartbeats 4000000 in
set_option maxRecDepth 100000 in
theorem kX4_becomeLike (l : Launch) (D : va_G) (cI cZ cS : ClassId) (zz : ZT) (ad : Nat → Nat) (σ : SS) (σr : SS) (hf : pX4_becomeLike σ = some σr) : CV l yX4_becomeLike wsX4_becomeLike rmX4_becomeLike D (K3 cI cZ cS) zz [.ref (ad 0), .ref (ad 2)] (wX4_X4 cI cZ cS ad σ) (wX4_X4 cI cZ cS ad σr) := by
  refine q_ofV (cc := cX4_becomeLike) (maxL := 2) (by decide) rfl (Nat.le_of_ble_eq_true rfl) ?_
  intro p e s m below meth c Q A ls hx hb hml hown hts hK hZ hA hP hD hS hl hret
  have hl : lv_has ls 2 [(0, .ref (ad 0)), (1, .ref (ad 2))] := hl
  unfold pX4_becomeLike at hf
  refine lv_aload_n hx hb dX4_becomeLike_0 rfl (lv_at hl 0 rfl) ?_
  refine lv_aload_n hx hb dX4_becomeLike_1 rfl (lv_at hl 1 rfl) ?_
  refine va_get (D := D) (ci := 4) (C := RX4) (T := TX4) (N := 11) hx hb hts fwX4_becomeLike_X4 hown hK hP 2 rfl rfl 0 (by decide) (hts _ (List.mem_of_getElem? (i := 1) rfl)) (fun _ h9 => h9) rfl dX4_becomeLike_2 ?_
  refine w_put (D := D) (wf := (wX4_X4 cI cZ cS ad)) (cid := 0) (ci := 4) (C := RX4) (T := TX4) (N := 11) hx hb hts fwX4_becomeLike_X4 tyX4 tyX4_ok nmX4 hown hK hP hD hS 0 rfl rfl 0 (by decide) (hts _ (List.mem_of_getElem? (i := 1) rfl)) (fun _ h9 => h9) rfl (tyX4_ok 0 (by decide)) (Nat.le_of_ble_eq_true rfl) hf rfl dX4_becomeLike_5 (fun σ1 H locs hf hP hD hS => ?_)
  refine lv_aload_n hx hb dX4_becomeLike_8 rfl (lv_at hl 0 rfl) ?_
  refine lv_aload_n hx hb dX4_becomeLike_9 rfl (lv_at hl 1 rfl) ?_
  refine va_get (D := D) (ci := 4) (C := RX4) (T := TX4) (N := 11) hx hb hts fwX4_becomeLike_X4 hown hK hP 2 rfl rfl 1 (by decide) (hts _ (List.mem_of_getElem? (i := 2) rfl)) (fun _ h9 => h9) rfl dX4_becomeLike_10 ?_
  refine w_put (D := D) (wf := (wX4_X4 cI cZ cS ad)) (cid := 0) (ci := 4) (C := RX4) (T := TX4) (N := 11) hx hb hts fwX4_becomeLike_X4 tyX4 tyX4_ok nmX4 hown hK hP hD hS 0 rfl rfl 1 (by decide) (hts _ (List.mem_of_getElem? (i := 2) rfl)) (fun _ h9 => h9) rfl (tyX4_ok 1 (by decide)) (Nat.le_of_ble_eq_true rfl) hf rfl dX4_becomeLike_13 (fun σ2 H locs hf hP hD hS => ?_)
  refine lv_aload_n hx hb dX4_becomeLike_16 rfl (lv_at hl 0 rfl) ?_
  refine lv_aload_n hx hb dX4_becomeLike_17 rfl (lv_at hl 1 rfl) ?_
  refine va_get (D := D) (ci := 4) (C := RX4) (T := TX4) (N := 11) hx hb hts fwX4_becomeLike_X4 hown hK hP 2 rfl rfl 2 (by decide) (hts _ (List.mem_of_getElem? (i := 3) rfl)) (fun _ h9 => h9) rfl dX4_becomeLike_18 ?_
  refine w_put (D := D) (wf := (wX4_X4 cI cZ cS ad)) (cid := 0) (ci := 4) (C := RX4) (T := TX4) (N := 11) hx hb hts fwX4_becomeLike_X4 tyX4 tyX4_ok nmX4 hown hK hP hD hS 0 rfl rfl 2 (by decide) (hts _ (List.mem_of_getElem? (i := 3) rfl)) (fun _ h9 => h9) rfl (tyX4_ok 2 (by decide)) (Nat.le_of_ble_eq_true rfl) hf rfl dX4_becomeLike_21 (fun σ3 H locs hf hP hD hS => ?_)
  refine lv_aload_n hx hb dX4_becomeLike_24 rfl (lv_at hl 0 rfl) ?_
  refine lv_aload_n hx hb dX4_becomeLike_25 rfl (lv_at hl 1 rfl) ?_
  refine va_get (D := D) (ci := 4) (C := RX4) (T := TX4) (N := 11) hx hb hts fwX4_becomeLike_X4 hown hK hP 2 rfl rfl 3 (by decide) (hts _ (List.mem_of_getElem? (i := 4) rfl)) (fun _ h9 => h9) rfl dX4_becomeLike_26 ?_
  refine w_put (D := D) (wf := (wX4_X4 cI cZ cS ad)) (cid := 0) (ci := 4) (C := RX4) (T := TX4) (N := 11) hx hb hts fwX4_becomeLike_X4 tyX4 tyX4_ok nmX4 hown hK hP hD hS 0 rfl rfl 3 (by decide) (hts _ (List.mem_of_getElem? (i := 4) rfl)) (fun _ h9 => h9) rfl (tyX4_ok 3 (by decide)) (Nat.le_of_ble_eq_true rfl) hf rfl dX4_becomeLike_29 (fun σ4 H locs hf hP hD hS => ?_)
  refine lv_aload_n hx hb dX4_becomeLike_32 rfl (lv_at hl 0 rfl) ?_
  refine lv_aload_n hx hb dX4_becomeLike_33 rfl (lv_at hl 1 rfl) ?_
  refine va_get (D := D) (ci := 4) (C := RX4) (T := TX4) (N := 11) hx hb hts fwX4_becomeLike_X4 hown hK hP 2 rfl rfl 4 (by decide) (hts _ (List.mem_of_getElem? (i := 5) rfl)) (fun _ h9 => h9) rfl dX4_becomeLike_34 ?_
  refine w_put (D := D) (wf := (wX4_X4 cI cZ cS ad)) (cid := 0) (ci := 4) (C := RX4) (T := TX4) (N := 11) hx hb hts fwX4_becomeLike_X4 tyX4 tyX4_ok nmX4 hown hK hP hD hS 0 rfl rfl 4 (by decide) (hts _ (List.mem_of_getElem? (i := 5) rfl)) (fun _ h9 => h9) rfl (tyX4_ok 4 (by decide)) (Nat.le_of_ble_eq_true rfl) hf rfl dX4_becomeLike_37 (fun σ5 H locs hf hP hD hS => ?_)
  refine lv_aload_n hx hb dX4_becomeLike_40 rfl (lv_at hl 0 rfl) ?_
  refine lv_aload_n hx hb dX4_becomeLike_41 rfl (lv_at hl 1 rfl) ?_
  refine va_get (D := D) (ci := 4) (C := RX4) (T := TX4) (N := 11) hx hb hts fwX4_becomeLike_X4 hown hK hP 2 rfl rfl 5 (by decide) (hts _ (List.mem_of_getElem? (i := 6) rfl)) (fun _ h9 => h9) rfl dX4_becomeLike_42 ?_
  refine w_putZ (D := D) (wf := (wX4_X4 cI cZ cS ad)) (cid := 0) (ci := 4) (C := RX4) (T := TX4) (N := 11) hx hb hts fwX4_becomeLike_X4 tyX4 tyX4_ok nmX4 hown hK hP hD hS 0 rfl rfl 5 (by decide) (hts _ (List.mem_of_getElem? (i := 6) rfl)) (fun _ h9 => h9) rfl (tyX4_ok 5 (by decide)) (Nat.le_of_ble_eq_true rfl) hf rfl dX4_becomeLike_45 (fun σ6 H locs hf hP hD hS => ?_)
  refine lv_aload_n hx hb dX4_becomeLike_48 rfl (lv_at hl 0 rfl) ?_
  refine lv_aload_n hx hb dX4_becomeLike_49 rfl (lv_at hl 1 rfl) ?_
  refine va_get (D := D) (ci := 4) (C := RX4) (T := TX4) (N := 11) hx hb hts fwX4_becomeLike_X4 hown hK hP 2 rfl rfl 6 (by decide) (hts _ (List.mem_of_getElem? (i := 7) rfl)) (fun _ h9 => h9) rfl dX4_becomeLike_50 ?_
  refine w_putZ (D := D) (wf := (wX4_X4 cI cZ cS ad)) (cid := 0) (ci := 4) (C := RX4) (T := TX4) (N := 11) hx hb hts fwX4_becomeLike_X4 tyX4 tyX4_ok nmX4 hown hK hP hD hS 0 rfl rfl 6 (by decide) (hts _ (List.mem_of_getElem? (i := 7) rfl)) (fun _ h9 => h9) rfl (tyX4_ok 6 (by decide)) (Nat.le_of_ble_eq_true rfl) hf rfl dX4_becomeLike_53 (fun σ7 H locs hf hP hD hS => ?_)
  refine lv_aload_n hx hb dX4_becomeLike_56 rfl (lv_at hl 0 rfl) ?_
  refine lv_aload_n hx hb dX4_becomeLike_57 rfl (lv_at hl 1 rfl) ?_
  refine va_get (D := D) (ci := 4) (C := RX4) (T := TX4) (N := 11) hx hb hts fwX4_becomeLike_X4 hown hK hP 2 rfl rfl 7 (by decide) (hts _ (List.mem_of_getElem? (i := 8) rfl)) (fun _ h9 => h9) rfl dX4_becomeLike_58 ?_
  refine w_putZ (D := D) (wf := (wX4_X4 cI cZ cS ad)) (cid := 0) (ci := 4) (C := RX4) (T := TX4) (N := 11) hx hb hts fwX4_becomeLike_X4 tyX4 tyX4_ok nmX4 hown hK hP hD hS 0 rfl rfl 7 (by decide) (hts _ (List.mem_of_getElem? (i := 8) rfl)) (fun _ h9 => h9) rfl (tyX4_ok 7 (by decide)) (Nat.le_of_ble_eq_true rfl) hf rfl dX4_becomeLike_61 (fun σ8 H locs hf hP hD hS => ?_)
  refine lv_aload_n hx hb dX4_becomeLike_64 rfl (lv_at hl 0 rfl) ?_
  refine lv_aload_n hx hb dX4_becomeLike_65 rfl (lv_at hl 1 rfl) ?_
  refine va_get (D := D) (ci := 4) (C := RX4) (T := TX4) (N := 11) hx hb hts fwX4_becomeLike_X4 hown hK hP 2 rfl rfl 8 (by decide) (hts _ (List.mem_of_getElem? (i := 9) rfl)) (fun _ h9 => h9) rfl dX4_becomeLike_66 ?_
  refine w_put (D := D) (wf := (wX4_X4 cI cZ cS ad)) (cid := 0) (ci := 4) (C := RX4) (T := TX4) (N := 11) hx hb hts fwX4_becomeLike_X4 tyX4 tyX4_ok nmX4 hown hK hP hD hS 0 rfl rfl 8 (by decide) (hts _ (List.mem_of_getElem? (i := 9) rfl)) (fun _ h9 => h9) rfl (tyX4_ok 8 (by decide)) (Nat.le_of_ble_eq_true rfl) hf rfl dX4_becomeLike_69 (fun σ9 H locs hf hP hD hS => ?_)
  refine lv_aload_n hx hb dX4_becomeLike_72 rfl (lv_at hl 0 rfl) ?_
  refine lv_aload_n hx hb dX4_becomeLike_73 rfl (lv_at hl 1 rfl) ?_
  refine va_get (D := D) (ci := 4) (C := RX4) (T := TX4) (N := 11) hx hb hts fwX4_becomeLike_X4 hown hK hP 2 rfl rfl 9 (by decide) (hts _ (List.mem_of_getElem? (i := 10) rfl)) (fun _ h9 => h9) rfl dX4_becomeLike_74 ?_
  refine w_put (D := D) (wf := (wX4_X4 cI cZ cS ad)) (cid := 0) (ci := 4) (C := RX4) (T := TX4) (N := 11) hx hb hts fwX4_becomeLike_X4 tyX4 tyX4_ok nmX4 hown hK hP hD hS 0 rfl rfl 9 (by decide) (hts _ (List.mem_of_getElem? (i := 10) rfl)) (fun _ h9 => h9) rfl (tyX4_ok 9 (by decide)) (Nat.le_of_ble_eq_true rfl) hf rfl dX4_becomeLike_77 (fun σ10 H locs hf hP hD hS => ?_)
  refine lv_aload_n hx hb dX4_becomeLike_80 rfl (lv_at hl 1 rfl) ?_
  refine va_get (D := D) (ci := 4) (C := RX4) (T := TX4) (N := 11) hx hb hts fwX4_becomeLike_X4 hown hK hP 2 rfl rfl 10 (by decide) (hts _ (List.mem_of_getElem? (i := 11) rfl)) (fun _ h9 => h9) rfl dX4_becomeLike_81 ?_
  refine lv_iconst (v := 0) hx hb dX4_becomeLike_84 (by decide) ?_
  refine lv_aload_n hx hb dX4_becomeLike_85 rfl (lv_at hl 0 rfl) ?_
  refine va_get (D := D) (ci := 4) (C := RX4) (T := TX4) (N := 11) hx hb hts fwX4_becomeLike_X4 hown hK hP 0 rfl rfl 10 (by decide) (hts _ (List.mem_of_getElem? (i := 11) rfl)) (fun _ h9 => h9) rfl dX4_becomeLike_86 ?_
  refine lv_iconst (v := 0) hx hb dX4_becomeLike_89 (by decide) ?_
  refine lv_aload_n hx hb dX4_becomeLike_90 rfl (lv_at hl 1 rfl) ?_
  refine q_cVr (wf := (wX4_X4 cI cZ cS ad)) (wc := wX4 cI cZ cS (fun i => ad (2 + i))) (rest := [.int (0 : Int32), .ref (ad 1), .int (0 : Int32), .ref (ad 3)]) ⟨hx, hb, hml, hown, hts⟩ hK hZ hA hP hD hS hf (fun x ho => kX4_logged l D cI cZ cS zz (fun i => ad (2 + i)) (q_sb σ10 2) x ho) (cwV 0 hts gX4_becomeLike_X4_logged rfl rfl rfl ndX4_logged ⟨Nat.le_of_ble_eq_true rfl, Nat.le_of_ble_eq_true rfl⟩) [2, 3] rfl rfl rfl rfl rfl rfl (hl.1) rfl (Nat.le_of_ble_eq_true rfl) dX4_becomeLike_91 ⟨Nat.zero_le _, Nat.zero_le _⟩ (fun r11 H locs hf hP hD hS => ?_)
  refine w_copy (D := D) (wf := (wX4_X4 cI cZ cS ad)) (i0 := 3) (i1 := 1) hx hb (hml.trans hl.1.symm) hown (hts _ (List.mem_of_getElem? (i := 12) rfl)) (hts _ (List.mem_of_getElem? (i := 13) rfl)) (hts _ (List.mem_of_getElem? (i := 14) rfl)) (hts _ (List.mem_of_getElem? (i := 15) rfl)) hK hP hD hS 3 1 0 rfl rfl rfl hf (fun _ => rfl) (Nat.le_of_ble_eq_true rfl) (Nat.le_of_ble_eq_true rfl) dX4_becomeLike_94 (fun σ12 H locs hf hP hD hS => ?_)
  have hi1 := Option.some.inj hf
  subst hi1
  exact hret _ _ _ _ dX4_becomeLike_97 hP hS
def pX9_becomeLike (σ : SS) : Option SS := q_lt (su σ 0 0 (σ 4 0)) (fun (σ1 : SS) => q_ac σ1 5 10 1 10 (0 : Int32) (0 : Int32) (σ1 0 0) (fun (σ2 : SS) => q_ac σ2 6 10 2 10 (0 : Int32) (0 : Int32) (σ2 0 0) (fun (σ3 : SS) => q_ac σ3 7 10 3 10 (0 : Int32) (0 : Int32) (σ3 0 0) (fun (σ4 : SS) => q_lt (su σ4 0 4 (σ4 4 4)) (fun (σ5 : SS) => q_lt (su σ5 0 5 (σ5 4 5)) (fun (σ6 : SS) => some σ6))))))
theorem fwX9_becomeLike_X9 : ∀ w ∈ wsX90, w ∈ wsX9_becomeLike := fun _ h => List.mem_cons_of_mem _ (List.mem_append_right _ h)
abbrev rmX9_becomeLike : Room := { frames := 1, cells := 0, slots := 0, locals := 80 }
set_option maxHeartbeats 4000000 in
set_option maxRecDepth 100000 in
theorem kX9_becomeLike (l : Launch) (D : va_G) (cI cZ cS : ClassId) (zz : ZT) (ad : Nat → Nat) (σ : SS) (σr : SS) (hf : pX9_becomeLike σ = some σr) : CV l yX9_becomeLike wsX9_becomeLike rmX9_becomeLike D (K3 cI cZ cS) zz [.ref (ad 0), .ref (ad 4)] (wX9_X9 cI cZ cS ad σ) (wX9_X9 cI cZ cS ad σr) := by
  refine q_ofV (cc := cX9_becomeLike) (maxL := 2) (by decide) rfl (Nat.le_of_ble_eq_true rfl) ?_
  intro p e s m below meth c Q A ls hx hb hml hown hts hK hZ hA hP hD hS hl hret
  have hl : lv_has ls 2 [(0, .ref (ad 0)), (1, .ref (ad 4))] := hl
  unfold pX9_becomeLike at hf
  refine lv_aload_n hx hb dX9_becomeLike_0 rfl (lv_at hl 0 rfl) ?_
  refine lv_aload_n hx hb dX9_becomeLike_1 rfl (lv_at hl 1 rfl) ?_
  refine va_get (D := D) (ci := 9) (C := RX9) (T := TX9) (N := 6) hx hb hts fwX9_becomeLike_X9 hown hK hP 4 rfl rfl 0 (by decide) (hts _ (List.mem_of_getElem? (i := 1) rfl)) (fun _ h9 => h9) rfl dX9_becomeLike_2 ?_
  refine w_put (D := D) (wf := (wX9_X9 cI cZ cS ad)) (cid := 0) (ci := 9) (C := RX9) (T := TX9) (N := 6) hx hb hts fwX9_becomeLike_X9 tyX9 tyX9_ok nmX9 hown hK hP hD hS 0 rfl rfl 0 (by decide) (hts _ (List.mem_of_getElem? (i := 1) rfl)) (fun _ h9 => h9) rfl (tyX9_ok 0 (by decide)) (Nat.le_of_ble_eq_true rfl) hf rfl dX9_becomeLike_5 (fun σ1 H locs hf hP hD hS => ?_)
  refine lv_aload_n hx hb dX9_becomeLike_8 rfl (lv_at hl 1 rfl) ?_
  refine va_get (D := D) (ci := 9) (C := RX9) (T := TX9) (N := 6) hx hb hts fwX9_becomeLike_X9 hown hK hP 4 rfl rfl 1 (by decide) (hts _ (List.mem_of_getElem? (i := 2) rfl)) (fun _ h9 => h9) rfl dX9_becomeLike_9 ?_
  refine lv_iconst (v := 0) hx hb dX9_becomeLike_12 (by decide) ?_
  refine lv_aload_n hx hb dX9_becomeLike_13 rfl (lv_at hl 0 rfl) ?_
  refine va_get (D := D) (ci := 9) (C := RX9) (T := TX9) (N := 6) hx hb hts fwX9_becomeLike_X9 hown hK hP 0 rfl rfl 1 (by decide) (hts _ (List.mem_of_getElem? (i := 2) rfl)) (fun _ h9 => h9) rfl dX9_becomeLike_14 ?_
  refine lv_iconst (v := 0) hx hb dX9_becomeLike_17 (by decide) ?_
  refine lv_aload_n hx hb dX9_becomeLike_18 rfl (lv_at hl 0 rfl) ?_
  refine va_get (D := D) (ci := 9) (C := RX9) (T := TX9) (N := 6) hx hb hts fwX9_becomeLike_X9 hown hK hP 0 rfl rfl 0 (by decide) (hts _ (List.mem_of_getElem? (i := 1) rfl)) (fun _ h9 => h9) rfl dX9_becomeLike_19 ?_
  refine w_copy (D := D) (wf := (wX9_X9 cI cZ cS ad)) (i0 := 5) (i1 := 1) hx hb (hml.trans hl.1.symm) hown (hts _ (List.mem_of_getElem? (i := 3) rfl)) (hts _ (List.mem_of_getElem? (i := 4) rfl)) (hts _ (List.mem_of_getElem? (i := 5) rfl)) (hts _ (List.mem_of_getElem? (i := 6) rfl)) hK hP hD hS 5 1 0 rfl rfl rfl hf (fun _ => rfl) (Nat.le_of_ble_eq_true rfl) (Nat.le_of_ble_eq_true rfl) dX9_becomeLike_22 (fun σ2 H locs hf hP hD hS => ?_)
  refine lv_aload_n hx hb dX9_becomeLike_25 rfl (lv_at hl 1 rfl) ?_
  refine va_get (D := D) (ci := 9) (C := RX9) (T := TX9) (N := 6) hx hb hts fwX9_becomeLike_X9 hown hK hP 4 rfl rfl 2 (by decide) (hts _ (List.mem_of_getElem? (i := 7) rfl)) (fun _ h9 => h9) rfl dX9_becomeLike_26 ?_
  refine lv_iconst (v := 0) hx hb dX9_becomeLike_29 (by decide) ?_
  refine lv_aload_n hx hb dX9_becomeLike_30 rfl (lv_at hl 0 rfl) ?_
  refine va_get (D := D) (ci := 9) (C := RX9) (T := TX9) (N := 6) hx hb hts fwX9_becomeLike_X9 hown hK hP 0 rfl rfl 2 (by decide) (hts _ (List.mem_of_getElem? (i := 7) rfl)) (fun _ h9 => h9) rfl dX9_becomeLike_31 ?_
  refine lv_iconst (v := 0) hx hb dX9_becomeLike_34 (by decide) ?_
  refine lv_aload_n hx hb dX9_becomeLike_35 rfl (lv_at hl 0 rfl) ?_
  refine va_get (D := D) (ci := 9) (C := RX9) (T := TX9) (N := 6) hx hb hts fwX9_becomeLike_X9 hown hK hP 0 rfl rfl 0 (by decide) (hts _ (List.mem_of_getElem? (i := 1) rfl)) (fun _ h9 => h9) rfl dX9_becomeLike_36 ?_
  refine w_copy (D := D) (wf := (wX9_X9 cI cZ cS ad)) (i0 := 6) (i1 := 2) hx hb (hml.trans hl.1.symm) hown (hts _ (List.mem_of_getElem? (i := 3) rfl)) (hts _ (List.mem_of_getElem? (i := 4) rfl)) (hts _ (List.mem_of_getElem? (i := 5) rfl)) (hts _ (List.mem_of_getElem? (i := 6) rfl)) hK hP hD hS 6 2 0 rfl rfl rfl hf (fun _ => rfl) (Nat.le_of_ble_eq_true rfl) (Nat.le_of_ble_eq_true rfl) dX9_becomeLike_39 (fun σ3 H locs hf hP hD hS => ?_)
  refine lv_aload_n hx hb dX9_becomeLike_42 rfl (lv_at hl 1 rfl) ?_
  refine va_get (D := D) (ci := 9) (C := RX9) (T := TX9) (N := 6) hx hb hts fwX9_becomeLike_X9 hown hK hP 4 rfl rfl 3 (by decide) (hts _ (List.mem_of_getElem? (i := 8) rfl)) (fun _ h9 => h9) rfl dX9_becomeLike_43 ?_
  refine lv_iconst (v := 0) hx hb dX9_becomeLike_46 (by decide) ?_
  refine lv_aload_n hx hb dX9_becomeLike_47 rfl (lv_at hl 0 rfl) ?_
  refine va_get (D := D) (ci := 9) (C := RX9) (T := TX9) (N := 6) hx hb hts fwX9_becomeLike_X9 hown hK hP 0 rfl rfl 3 (by decide) (hts _ (List.mem_of_getElem? (i := 8) rfl)) (fun _ h9 => h9) rfl dX9_becomeLike_48 ?_
  refine lv_iconst (v := 0) hx hb dX9_becomeLike_51 (by decide) ?_
  refine lv_aload_n hx hb dX9_becomeLike_52 rfl (lv_at hl 0 rfl) ?_
  refine va_get (D := D) (ci := 9) (C := RX9) (T := TX9) (N := 6) hx hb hts fwX9_becomeLike_X9 hown hK hP 0 rfl rfl 0 (by decide) (hts _ (List.mem_of_getElem? (i := 1) rfl)) (fun _ h9 => h9) rfl dX9_becomeLike_53 ?_
  refine w_copy (D := D) (wf := (wX9_X9 cI cZ cS ad)) (i0 := 7) (i1 := 3) hx hb (hml.trans hl.1.symm) hown (hts _ (List.mem_of_getElem? (i := 3) rfl)) (hts _ (List.mem_of_getElem? (i := 4) rfl)) (hts _ (List.mem_of_getElem? (i := 5) rfl)) (hts _ (List.mem_of_getElem? (i := 6) rfl)) hK hP hD hS 7 3 0 rfl rfl rfl hf (fun _ => rfl) (Nat.le_of_ble_eq_true rfl) (Nat.le_of_ble_eq_true rfl) dX9_becomeLike_56 (fun σ4 H locs hf hP hD hS => ?_)
  refine lv_aload_n hx hb dX9_becomeLike_59 rfl (lv_at hl 0 rfl) ?_
  refine lv_aload_n hx hb dX9_becomeLike_60 rfl (lv_at hl 1 rfl) ?_
  refine va_get (D := D) (ci := 9) (C := RX9) (T := TX9) (N := 6) hx hb hts fwX9_becomeLike_X9 hown hK hP 4 rfl rfl 4 (by decide) (hts _ (List.mem_of_getElem? (i := 9) rfl)) (fun _ h9 => h9) rfl dX9_becomeLike_61 ?_
  refine w_put (D := D) (wf := (wX9_X9 cI cZ cS ad)) (cid := 0) (ci := 9) (C := RX9) (T := TX9) (N := 6) hx hb hts fwX9_becomeLike_X9 tyX9 tyX9_ok nmX9 hown hK hP hD hS 0 rfl rfl 4 (by decide) (hts _ (List.mem_of_getElem? (i := 9) rfl)) (fun _ h9 => h9) rfl (tyX9_ok 4 (by decide)) (Nat.le_of_ble_eq_true rfl) hf rfl dX9_becomeLike_64 (fun σ5 H locs hf hP hD hS => ?_)
  refine lv_aload_n hx hb dX9_becomeLike_67 rfl (lv_at hl 0 rfl) ?_
  refine lv_aload_n hx hb dX9_becomeLike_68 rfl (lv_at hl 1 rfl) ?_
  refine va_get (D := D) (ci := 9) (C := RX9) (T := TX9) (N := 6) hx hb hts fwX9_becomeLike_X9 hown hK hP 4 rfl rfl 5 (by decide) (hts _ (List.mem_of_getElem? (i := 10) rfl)) (fun _ h9 => h9) rfl dX9_becomeLike_69 ?_
  refine w_put (D := D) (wf := (wX9_X9 cI cZ cS ad)) (cid := 0) (ci := 9) (C := RX9) (T := TX9) (N := 6) hx hb hts fwX9_becomeLike_X9 tyX9 tyX9_ok nmX9 hown hK hP hD hS 0 rfl rfl 5 (by decide) (hts _ (List.mem_of_getElem? (i := 10) rfl)) (fun _ h9 => h9) rfl (tyX9_ok 5 (by decide)) (Nat.le_of_ble_eq_true rfl) hf rfl dX9_becomeLike_72 (fun σ6 H locs hf hP hD hS => ?_)
  have hi1 := Option.some.inj hf
  subst hi1
  exact hret _ _ _ _ dX9_becomeLike_75 hP hS
def pX0_becomeLike (σ : SS) : Option SS := q_cs (pX10_becomeLike (q_ap 5 (q_sb σ 1) (q_sb σ 14))) (fun (τ : SS) => (q_em (q_em σ 1 0 5 τ) 14 5 5 τ)) (fun (σ1 : SS) => q_cs (pX4_becomeLike (q_ap 2 (q_sb σ1 6) (q_sb σ1 19))) (fun (τ : SS) => (q_em (q_em σ1 6 0 2 τ) 19 2 2 τ)) (fun (σ2 : SS) => q_cs (pX9_becomeLike (q_ap 4 (q_sb σ2 8) (q_sb σ2 21))) (fun (τ : SS) => (q_em (q_em σ2 8 0 4 τ) 21 4 4 τ)) (fun (σ3 : SS) => q_ac σ3 25 4 12 4 (0 : Int32) (0 : Int32) (4 : Int32) (fun (σ4 : SS) => q_lt (su σ4 0 4 (σ4 13 4)) (fun (σ5 : SS) => q_zz (σ5 13 5) (q_lt (su σ5 0 5 (σ5 13 5)) (fun (σ6 : SS) => q_lt (su σ6 0 6 (σ6 13 6)) (fun (σ7 : SS) => q_lt (su σ7 0 7 (σ7 13 7)) (fun (σ8 : SS) => q_lt (su σ8 0 8 (σ8 13 8)) (fun (σ9 : SS) => q_lt (su σ9 0 9 (σ9 13 9)) (fun (σ10 : SS) => q_lt (su σ10 0 10 (σ10 13 10)) (fun (σ11 : SS) => q_lt (su σ11 0 11 (σ11 13 11)) (fun (σ12 : SS) => q_lt (su σ12 0 12 (σ12 13 12)) (fun (σ13 : SS) => some σ13))))))))))))))
theorem fwX0_becomeLike_X0 : ∀ w ∈ wsX00, w ∈ wsX0_becomeLike := fun _ h => List.mem_cons_of_mem _ (List.mem_append_left _ (List.mem_append_left _ (List.mem_append_left _ (List.mem_append_right _ h))))
abbrev rmX0_becomeLike : Room := { frames := 3, cells := 0, slots := 0, locals := 101 }
set_option maxHeartbeats 4000000 in
set_option maxRecDepth 100000 in
theorem kX0_becomeLike (l : Launch) (D : va_G) (cI cZ cS : ClassId) (zz : ZT) (ad : Nat → Nat) (σ : SS) (σr : SS) (hf : pX0_becomeLike σ = some σr) : CV l yX0_becomeLike wsX0_becomeLike rmX0_becomeLike D (K3 cI cZ cS) zz [.ref (ad 0), .ref (ad 13)] (wX0_X0 cI cZ cS ad σ) (wX0_X0 cI cZ cS ad σr) := by
  refine q_ofV (cc := cX0_becomeLike) (maxL := 2) (by decide) rfl (Nat.le_of_ble_eq_true rfl) ?_
  intro p e s m below meth c Q A ls hx hb hml hown hts hK hZ hA hP hD hS hl hret
  have hl : lv_has ls 2 [(0, .ref (ad 0)), (1, .ref (ad 13))] := hl
  unfold pX0_becomeLike at hf
  refine lv_aload_n hx hb dX0_becomeLike_0 rfl (lv_at hl 0 rfl) ?_
  refine va_get (D := D) (ci := 0) (C := RX0) (T := TX0) (N := 13) hx hb hts fwX0_becomeLike_X0 hown hK hP 0 rfl rfl 0 (by decide) (hts _ (List.mem_of_getElem? (i := 1) rfl)) (fun _ h9 => h9) rfl dX0_becomeLike_1 ?_
  refine lv_aload_n hx hb dX0_becomeLike_4 rfl (lv_at hl 1 rfl) ?_
  refine va_get (D := D) (ci := 0) (C := RX0) (T := TX0) (N := 13) hx hb hts fwX0_becomeLike_X0 hown hK hP 13 rfl rfl 0 (by decide) (hts _ (List.mem_of_getElem? (i := 1) rfl)) (fun _ h9 => h9) rfl dX0_becomeLike_5 ?_
  refine q_cVv (wf := (wX0_X0 cI cZ cS ad)) (wc := wX10_X10 cI cZ cS (fun i => ad (if i < 5 then 1 + i else 14 + (i - 5)))) (rest := []) ⟨hx, hb, hml, hown, hts⟩ hK hZ hA hP hD hS hf (fun x ho => kX10_becomeLike l D cI cZ cS zz (fun i => ad (if i < 5 then 1 + i else 14 + (i - 5))) (q_ap 5 (q_sb σ 1) (q_sb σ 14)) x ho) (cwV 1 hts gX0_becomeLike_X10_becomeLike rfl rfl rfl ndX10_becomeLike ⟨Nat.le_of_ble_eq_true rfl, Nat.le_of_ble_eq_true rfl⟩) [1, 2, 3, 4, 5, 14, 15, 16, 17, 18] rfl rfl [none, some 0, some 1, some 2, some 3, some 4, none, none, none, none, none, none, none, none, some 5, some 6, some 7, some 8, some 9, none, none, none, none, none, none, none] (by decide +kernel) (Nat.le_of_ble_eq_true rfl) (fun _ => rfl) (fun _ => rfl) (fun _ => rfl) rfl rfl rfl rfl (hl.1) rfl (Nat.le_of_ble_eq_true rfl) dX0_becomeLike_8 ⟨Nat.zero_le _, Nat.zero_le _⟩ (fun σ1 H locs hf hP hD hS => ?_)
  refine lv_aload_n hx hb dX0_becomeLike_11 rfl (lv_at hl 0 rfl) ?_
  refine va_get (D := D) (ci := 0) (C := RX0) (T := TX0) (N := 13) hx hb hts fwX0_becomeLike_X0 hown hK hP 0 rfl rfl 1 (by decide) (hts _ (List.mem_of_getElem? (i := 2) rfl)) (fun _ h9 => h9) rfl dX0_becomeLike_12 ?_
  refine lv_aload_n hx hb dX0_becomeLike_15 rfl (lv_at hl 1 rfl) ?_
  refine va_get (D := D) (ci := 0) (C := RX0) (T := TX0) (N := 13) hx hb hts fwX0_becomeLike_X0 hown hK hP 13 rfl rfl 1 (by decide) (hts _ (List.mem_of_getElem? (i := 2) rfl)) (fun _ h9 => h9) rfl dX0_becomeLike_16 ?_
  refine q_cVv (wf := (wX0_X0 cI cZ cS ad)) (wc := wX4_X4 cI cZ cS (fun i => ad (if i < 2 then 6 + i else 19 + (i - 2)))) (rest := []) ⟨hx, hb, hml, hown, hts⟩ hK hZ hA hP hD hS hf (fun x ho => kX4_becomeLike l D cI cZ cS zz (fun i => ad (if i < 2 then 6 + i else 19 + (i - 2))) (q_ap 2 (q_sb σ1 6) (q_sb σ1 19)) x ho) (cwV 1 hts gX0_becomeLike_X4_becomeLike rfl rfl rfl ndX4_becomeLike ⟨Nat.le_of_ble_eq_true rfl, Nat.le_of_ble_eq_true rfl⟩) [6, 7, 19, 20] rfl rfl [none, none, none, none, none, none, some 0, some 1, none, none, none, none, none, none, none, none, none, none, none, some 2, some 3, none, none, none, none, none] (by decide +kernel) (Nat.le_of_ble_eq_true rfl) (fun _ => rfl) (fun _ => rfl) (fun _ => rfl) rfl rfl rfl rfl (hl.1) rfl (Nat.le_of_ble_eq_true rfl) dX0_becomeLike_19 ⟨Nat.zero_le _, Nat.zero_le _⟩ (fun σ2 H locs hf hP hD hS => ?_)
  refine lv_aload_n hx hb dX0_becomeLike_22 rfl (lv_at hl 0 rfl) ?_
  refine va_get (D := D) (ci := 0) (C := RX0) (T := TX0) (N := 13) hx hb hts fwX0_becomeLike_X0 hown hK hP 0 rfl rfl 2 (by decide) (hts _ (List.mem_of_getElem? (i := 3) rfl)) (fun _ h9 => h9) rfl dX0_becomeLike_23 ?_
  refine lv_aload_n hx hb dX0_becomeLike_26 rfl (lv_at hl 1 rfl) ?_
  refine va_get (D := D) (ci := 0) (C := RX0) (T := TX0) (N := 13) hx hb hts fwX0_becomeLike_X0 hown hK hP 13 rfl rfl 2 (by decide) (hts _ (List.mem_of_getElem? (i := 3) rfl)) (fun _ h9 => h9) rfl dX0_becomeLike_27 ?_
  refine q_cVv (wf := (wX0_X0 cI cZ cS ad)) (wc := wX9_X9 cI cZ cS (fun i => ad (if i < 4 then 8 + i else 21 + (i - 4)))) (rest := []) ⟨hx, hb, hml, hown, hts⟩ hK hZ hA hP hD hS hf (fun x ho => kX9_becomeLike l D cI cZ cS zz (fun i => ad (if i < 4 then 8 + i else 21 + (i - 4))) (q_ap 4 (q_sb σ2 8) (q_sb σ2 21)) x ho) (cwV 1 hts gX0_becomeLike_X9_becomeLike rfl rfl rfl ndX9_becomeLike ⟨Nat.le_of_ble_eq_true rfl, Nat.le_of_ble_eq_true rfl⟩) [8, 9, 10, 11, 21, 22, 23, 24] rfl rfl [none, none, none, none, none, none, none, none, some 0, some 1, some 2, some 3, none, none, none, none, none, none, none, none, none, some 4, some 5, some 6, some 7, none] (by decide +kernel) (Nat.le_of_ble_eq_true rfl) (fun _ => rfl) (fun _ => rfl) (fun _ => rfl) rfl rfl rfl rfl (hl.1) rfl (Nat.le_of_ble_eq_true rfl) dX0_becomeLike_30 ⟨Nat.zero_le _, Nat.zero_le _⟩ (fun σ3 H locs hf hP hD hS => ?_)
  refine lv_aload_n hx hb dX0_becomeLike_33 rfl (lv_at hl 1 rfl) ?_
  refine va_get (D := D) (ci := 0) (C := RX0) (T := TX0) (N := 13) hx hb hts fwX0_becomeLike_X0 hown hK hP 13 rfl rfl 3 (by decide) (hts _ (List.mem_of_getElem? (i := 4) rfl)) (fun _ h9 => h9) rfl dX0_becomeLike_34 ?_
  refine lv_iconst (v := 0) hx hb dX0_becomeLike_37 (by decide) ?_
  refine lv_aload_n hx hb dX0_becomeLike_38 rfl (lv_at hl 0 rfl) ?_
  refine va_get (D := D) (ci := 0) (C := RX0) (T := TX0) (N := 13) hx hb hts fwX0_becomeLike_X0 hown hK hP 0 rfl rfl 3 (by decide) (hts _ (List.mem_of_getElem? (i := 4) rfl)) (fun _ h9 => h9) rfl dX0_becomeLike_39 ?_
  refine lv_iconst (v := 0) hx hb dX0_becomeLike_42 (by decide) ?_
  refine lv_iconst (v := 4) hx hb dX0_becomeLike_43 (by decide) ?_
  refine w_copy (D := D) (wf := (wX0_X0 cI cZ cS ad)) (i0 := 25) (i1 := 12) hx hb (hml.trans hl.1.symm) hown (hts _ (List.mem_of_getElem? (i := 5) rfl)) (hts _ (List.mem_of_getElem? (i := 6) rfl)) (hts _ (List.mem_of_getElem? (i := 7) rfl)) (hts _ (List.mem_of_getElem? (i := 8) rfl)) hK hP hD hS 25 12 0 rfl rfl rfl hf (fun _ => rfl) (Nat.le_of_ble_eq_true rfl) (Nat.le_of_ble_eq_true rfl) dX0_becomeLike_44 (fun σ4 H locs hf hP hD hS => ?_)
  refine lv_aload_n hx hb dX0_becomeLike_47 rfl (lv_at hl 0 rfl) ?_
  refine lv_aload_n hx hb dX0_becomeLike_48 rfl (lv_at hl 1 rfl) ?_
  refine va_get (D := D) (ci := 0) (C := RX0) (T := TX0) (N := 13) hx hb hts fwX0_becomeLike_X0 hown hK hP 13 rfl rfl 4 (by decide) (hts _ (List.mem_of_getElem? (i := 9) rfl)) (fun _ h9 => h9) rfl dX0_becomeLike_49 ?_
  refine w_put (D := D) (wf := (wX0_X0 cI cZ cS ad)) (cid := 0) (ci := 0) (C := RX0) (T := TX0) (N := 13) hx hb hts fwX0_becomeLike_X0 tyX0 tyX0_ok nmX0 hown hK hP hD hS 0 rfl rfl 4 (by decide) (hts _ (List.mem_of_getElem? (i := 9) rfl)) (fun _ h9 => h9) rfl (tyX0_ok 4 (by decide)) (Nat.le_of_ble_eq_true rfl) hf rfl dX0_becomeLike_52 (fun σ5 H locs hf hP hD hS => ?_)
  refine lv_aload_n hx hb dX0_becomeLike_55 rfl (lv_at hl 0 rfl) ?_
  refine lv_aload_n hx hb dX0_becomeLike_56 rfl (lv_at hl 1 rfl) ?_
  refine va_get (D := D) (ci := 0) (C := RX0) (T := TX0) (N := 13) hx hb hts fwX0_becomeLike_X0 hown hK hP 13 rfl rfl 5 (by decide) (hts _ (List.mem_of_getElem? (i := 10) rfl)) (fun _ h9 => h9) rfl dX0_becomeLike_57 ?_
  refine w_putZ (D := D) (wf := (wX0_X0 cI cZ cS ad)) (cid := 0) (ci := 0) (C := RX0) (T := TX0) (N := 13) hx hb hts fwX0_becomeLike_X0 tyX0 tyX0_ok nmX0 hown hK hP hD hS 0 rfl rfl 5 (by decide) (hts _ (List.mem_of_getElem? (i := 10) rfl)) (fun _ h9 => h9) rfl (tyX0_ok 5 (by decide)) (Nat.le_of_ble_eq_true rfl) hf rfl dX0_becomeLike_60 (fun σ6 H locs hf hP hD hS => ?_)
  refine lv_aload_n hx hb dX0_becomeLike_63 rfl (lv_at hl 0 rfl) ?_
  refine lv_aload_n hx hb dX0_becomeLike_64 rfl (lv_at hl 1 rfl) ?_
  refine va_get (D := D) (ci := 0) (C := RX0) (T := TX0) (N := 13) hx hb hts fwX0_becomeLike_X0 hown hK hP 13 rfl rfl 6 (by decide) (hts _ (List.mem_of_getElem? (i := 11) rfl)) (fun _ h9 => h9) rfl dX0_becomeLike_65 ?_
  refine w_put (D := D) (wf := (wX0_X0 cI cZ cS ad)) (cid := 0) (ci := 0) (C := RX0) (T := TX0) (N := 13) hx hb hts fwX0_becomeLike_X0 tyX0 tyX0_ok nmX0 hown hK hP hD hS 0 rfl rfl 6 (by decide) (hts _ (List.mem_of_getElem? (i := 11) rfl)) (fun _ h9 => h9) rfl (tyX0_ok 6 (by decide)) (Nat.le_of_ble_eq_true rfl) hf rfl dX0_becomeLike_68 (fun σ7 H locs hf hP hD hS => ?_)
  refine lv_aload_n hx hb dX0_becomeLike_71 rfl (lv_at hl 0 rfl) ?_
  refine lv_aload_n hx hb dX0_becomeLike_72 rfl (lv_at hl 1 rfl) ?_
  refine va_get (D := D) (ci := 0) (C := RX0) (T := TX0) (N := 13) hx hb hts fwX0_becomeLike_X0 hown hK hP 13 rfl rfl 7 (by decide) (hts _ (List.mem_of_getElem? (i := 12) rfl)) (fun _ h9 => h9) rfl dX0_becomeLike_73 ?_
  refine w_put (D := D) (wf := (wX0_X0 cI cZ cS ad)) (cid := 0) (ci := 0) (C := RX0) (T := TX0) (N := 13) hx hb hts fwX0_becomeLike_X0 tyX0 tyX0_ok nmX0 hown hK hP hD hS 0 rfl rfl 7 (by decide) (hts _ (List.mem_of_getElem? (i := 12) rfl)) (fun _ h9 => h9) rfl (tyX0_ok 7 (by decide)) (Nat.le_of_ble_eq_true rfl) hf rfl dX0_becomeLike_76 (fun σ8 H locs hf hP hD hS => ?_)
  refine lv_aload_n hx hb dX0_becomeLike_79 rfl (lv_at hl 0 rfl) ?_
  refine lv_aload_n hx hb dX0_becomeLike_80 rfl (lv_at hl 1 rfl) ?_
  refine va_get (D := D) (ci := 0) (C := RX0) (T := TX0) (N := 13) hx hb hts fwX0_becomeLike_X0 hown hK hP 13 rfl rfl 8 (by decide) (hts _ (List.mem_of_getElem? (i := 13) rfl)) (fun _ h9 => h9) rfl dX0_becomeLike_81 ?_
  refine w_put (D := D) (wf := (wX0_X0 cI cZ cS ad)) (cid := 0) (ci := 0) (C := RX0) (T := TX0) (N := 13) hx hb hts fwX0_becomeLike_X0 tyX0 tyX0_ok nmX0 hown hK hP hD hS 0 rfl rfl 8 (by decide) (hts _ (List.mem_of_getElem? (i := 13) rfl)) (fun _ h9 => h9) rfl (tyX0_ok 8 (by decide)) (Nat.le_of_ble_eq_true rfl) hf rfl dX0_becomeLike_84 (fun σ9 H locs hf hP hD hS => ?_)
  refine lv_aload_n hx hb dX0_becomeLike_87 rfl (lv_at hl 0 rfl) ?_
  refine lv_aload_n hx hb dX0_becomeLike_88 rfl (lv_at hl 1 rfl) ?_
  refine va_get (D := D) (ci := 0) (C := RX0) (T := TX0) (N := 13) hx hb hts fwX0_becomeLike_X0 hown hK hP 13 rfl rfl 9 (by decide) (hts _ (List.mem_of_getElem? (i := 14) rfl)) (fun _ h9 => h9) rfl dX0_becomeLike_89 ?_
  refine w_put (D := D) (wf := (wX0_X0 cI cZ cS ad)) (cid := 0) (ci := 0) (C := RX0) (T := TX0) (N := 13) hx hb hts fwX0_becomeLike_X0 tyX0 tyX0_ok nmX0 hown hK hP hD hS 0 rfl rfl 9 (by decide) (hts _ (List.mem_of_getElem? (i := 14) rfl)) (fun _ h9 => h9) rfl (tyX0_ok 9 (by decide)) (Nat.le_of_ble_eq_true rfl) hf rfl dX0_becomeLike_92 (fun σ10 H locs hf hP hD hS => ?_)
  refine lv_aload_n hx hb dX0_becomeLike_95 rfl (lv_at hl 0 rfl) ?_
  refine lv_aload_n hx hb dX0_becomeLike_96 rfl (lv_at hl 1 rfl) ?_
  refine va_get (D := D) (ci := 0) (C := RX0) (T := TX0) (N := 13) hx hb hts fwX0_becomeLike_X0 hown hK hP 13 rfl rfl 10 (by decide) (hts _ (List.mem_of_getElem? (i := 15) rfl)) (fun _ h9 => h9) rfl dX0_becomeLike_97 ?_
  refine w_put (D := D) (wf := (wX0_X0 cI cZ cS ad)) (cid := 0) (ci := 0) (C := RX0) (T := TX0) (N := 13) hx hb hts fwX0_becomeLike_X0 tyX0 tyX0_ok nmX0 hown hK hP hD hS 0 rfl rfl 10 (by decide) (hts _ (List.mem_of_getElem? (i := 15) rfl)) (fun _ h9 => h9) rfl (tyX0_ok 10 (by decide)) (Nat.le_of_ble_eq_true rfl) hf rfl dX0_becomeLike_100 (fun σ11 H locs hf hP hD hS => ?_)
  refine lv_aload_n hx hb dX0_becomeLike_103 rfl (lv_at hl 0 rfl) ?_
  refine lv_aload_n hx hb dX0_becomeLike_104 rfl (lv_at hl 1 rfl) ?_
  refine va_get (D := D) (ci := 0) (C := RX0) (T := TX0) (N := 13) hx hb hts fwX0_becomeLike_X0 hown hK hP 13 rfl rfl 11 (by decide) (hts _ (List.mem_of_getElem? (i := 16) rfl)) (fun _ h9 => h9) rfl dX0_becomeLike_105 ?_
  refine w_put (D := D) (wf := (wX0_X0 cI cZ cS ad)) (cid := 0) (ci := 0) (C := RX0) (T := TX0) (N := 13) hx hb hts fwX0_becomeLike_X0 tyX0 tyX0_ok nmX0 hown hK hP hD hS 0 rfl rfl 11 (by decide) (hts _ (List.mem_of_getElem? (i := 16) rfl)) (fun _ h9 => h9) rfl (tyX0_ok 11 (by decide)) (Nat.le_of_ble_eq_true rfl) hf rfl dX0_becomeLike_108 (fun σ12 H locs hf hP hD hS => ?_)
  refine lv_aload_n hx hb dX0_becomeLike_111 rfl (lv_at hl 0 rfl) ?_
  refine lv_aload_n hx hb dX0_becomeLike_112 rfl (lv_at hl 1 rfl) ?_
  refine va_get (D := D) (ci := 0) (C := RX0) (T := TX0) (N := 13) hx hb hts fwX0_becomeLike_X0 hown hK hP 13 rfl rfl 12 (by decide) (hts _ (List.mem_of_getElem? (i := 17) rfl)) (fun _ h9 => h9) rfl dX0_becomeLike_113 ?_
  refine w_put (D := D) (wf := (wX0_X0 cI cZ cS ad)) (cid := 0) (ci := 0) (C := RX0) (T := TX0) (N := 13) hx hb hts fwX0_becomeLike_X0 tyX0 tyX0_ok nmX0 hown hK hP hD hS 0 rfl rfl 12 (by decide) (hts _ (List.mem_of_getElem? (i := 17) rfl)) (fun _ h9 => h9) rfl (tyX0_ok 12 (by decide)) (Nat.le_of_ble_eq_true rfl) hf rfl dX0_becomeLike_116 (fun σ13 H locs hf hP hD hS => ?_)
  have hi1 := Option.some.inj hf
  subst hi1
  exact hret _ _ _ _ dX0_becomeLike_119 hP hS
def pX9_isHarmed (σ : SS) (a1 : Int32) : Option Int32 := q_lt (fun (y1 : Int32) => q_zz y1 (some y1)) (fun j2 => (if ((σ 0 5) &&& ((1 : Int32) <<< (a1 &&& (31 : Int32)))) = (0 : Int32) then j2 (0 : Int32) else j2 (1 : Int32)))
theorem fwX9_isHarmed_X9 : ∀ w ∈ wsX90, w ∈ wsX9_isHarmed := fun _ h => List.mem_cons_of_mem _ (List.mem_append_right _ h)
abbrev rmX9_isHarmed : Room := { frames := 0, cells := 0, slots := 0, locals := 0 }
set_option maxHeartbeats 4000000 in
set_option maxRecDepth 100000 in
theorem kX9_isHarmed (l : Launch) (D : va_G) (cI cZ cS : ClassId) (zz : ZT) (ad : Nat → Nat) (σ : SS) (a1 : Int32) (rr : Int32) (hf : pX9_isHarmed σ a1 = some rr) : CI l yX9_isHarmed wsX9_isHarmed rmX9_isHarmed D (K3 cI cZ cS) zz [.ref (ad 0), .int a1] (wX9 cI cZ cS ad σ) (wX9 cI cZ cS ad σ) rr := by
  refine q_ofI (cc := cX9_isHarmed) (maxL := 2) (ty := .boolean) (by decide) rfl (Nat.le_of_ble_eq_true rfl) ?_
  intro p e s m below meth c Q A ls hx hb hml hown hts hK hZ hA hP hD hS hl hret
  have hl : lv_has ls 2 [(0, .ref (ad 0)), (1, .int a1)] := hl
  unfold pX9_isHarmed at hf
  refine lv_aload_n hx hb dX9_isHarmed_0 rfl (lv_at hl 0 rfl) ?_
  refine va_get (D := D) (ci := 9) (C := RX9) (T := TX9) (N := 6) hx hb hts fwX9_isHarmed_X9 hown hK hP 0 rfl rfl 5 (by decide) (hts _ (List.mem_of_getElem? (i := 1) rfl)) (fun _ h9 => h9) rfl dX9_isHarmed_1 ?_
  refine lv_iconst (v := 1) hx hb dX9_isHarmed_4 (by decide) ?_
  refine lv_iload_n hx hb dX9_isHarmed_5 rfl (lv_at hl 1 rfl) ?_
  refine lv_ishl hx hb dX9_isHarmed_6 ?_
  refine lv_iand hx hb dX9_isHarmed_7 ?_
  refine q_lt_go hf (fun j2 ej2 hf => ?_)
  have Jj2 : ∀ (y1 : Int32) (H : Heap) (locs : List Loc) (ls : Array Slot), va_P D vwCl ((wX9 cI cZ cS ad) σ) H → va_D A ((wX9 cI cZ cS ad) σ) → va_S A s.heap H locs → lv_has ls 2 [] → j2 y1 = some rr → W p l e rmX9_isHarmed s m ([.ref (ad 0), .int a1] : List Value).toArray below meth c H locs 0 0 Q (F0 m 16 ls [.int y1]) := by
    intro y1 H locs ls hP hD hS hl hf
    have hf := (congrFun ej2 y1).symm.trans hf
    obtain ⟨hz, hf⟩ := q_zz_o hf
    have hi1 := Option.some.inj hf
    subst hi1
    exact hret _ _ _ _ dX9_isHarmed_16 (q_zz_n hz).1 hP hS
  refine lv_if_eq (tgt := 15) hx hb dX9_isHarmed_8 (by decide) (fun h3 => ?_) (fun h3 => ?_)
  · have hf := (if_pos h3).symm.trans hf
    refine lv_iconst (v := 0) hx hb dX9_isHarmed_15 (by decide) ?_
    exact Jj2 (0 : Int32) _ _ _ hP hD hS (lv_sub hl [] rfl) hf
  · have hf := (if_neg h3).symm.trans hf
    refine lv_iconst (v := 1) hx hb dX9_isHarmed_11 (by decide) ?_
    refine lv_goto (tgt := 16) hx hb dX9_isHarmed_12 (by decide) ?_
    exact Jj2 (1 : Int32) _ _ _ hP hD hS (lv_sub hl [] rfl) hf
def pX9_harmedWorth (σ : SS) : Option Int32 := q_lp (fun _ _ => none) (fun (c3 : Int32 → Int32 → Option Int32) (x1_1 : Int32) (x2_2 : Int32) => (if (σ 0 0) ≤ x2_2 then some x1_1 else q_cr (pX9_isHarmed σ x2_2) (fun (r7 : Int32) => q_lt (fun (x1_8 : Int32) => c3 x1_8 (x2_2 + (1 : Int32))) (fun j9 => (if r7 = (0 : Int32) then j9 x1_1 else q_rd (σ 1) 10 x2_2 (fun (v11 : Int32) => q_lt (x1_1 + v11) (fun x1_12 => j9 x1_12))))))) q_fu (0 : Int32) (0 : Int32)
theorem fwX9_harmedWorth_X9 : ∀ w ∈ wsX90, w ∈ wsX9_harmedWorth := fun _ h => List.mem_cons_of_mem _ (List.mem_append_right _ h)
abbrev rmX9_harmedWorth : Room := { frames := 1, cells := 0, slots := 0, locals := 21 }
set_option maxHeartbeats 4000000 in
set_option maxRecDepth 100000 in
theorem kX9_harmedWorth (l : Launch) (D : va_G) (cI cZ cS : ClassId) (zz : ZT) (ad : Nat → Nat) (σ : SS) (rr : Int32) (hf : pX9_harmedWorth σ = some rr) : CI l yX9_harmedWorth wsX9_harmedWorth rmX9_harmedWorth D (K3 cI cZ cS) zz [.ref (ad 0)] (wX9 cI cZ cS ad σ) (wX9 cI cZ cS ad σ) rr := by
  refine q_ofI (cc := cX9_harmedWorth) (maxL := 3) (ty := .int) (by decide) rfl (Nat.le_of_ble_eq_true rfl) ?_
  intro p e s m below meth c Q A ls hx hb hml hown hts hK hZ hA hP hD hS hl hret
  have hl : lv_has ls 3 [(0, .ref (ad 0))] := hl
  unfold pX9_harmedWorth at hf
  refine lv_iconst (v := 0) hx hb dX9_harmedWorth_0 (by decide) ?_
  refine lv_istore_n (lv' := [(1, .int (0 : Int32)), (0, .ref (ad 0))]) hx hb dX9_harmedWorth_1 rfl hl (by decide) rfl (fun ls hl => ?_)
  refine lv_iconst (v := 0) hx hb dX9_harmedWorth_2 (by decide) ?_
  refine lv_istore_n (lv' := [(2, .int (0 : Int32)), (1, .int (0 : Int32)), (0, .ref (ad 0))]) hx hb dX9_harmedWorth_3 rfl hl (by decide) rfl (fun ls hl => ?_)
  refine q_lp_go (f := fun (zf : Int32 → Int32 → Option Int32) => zf (0 : Int32) (0 : Int32)) hf (fun z4 ez4 hf => ?_)
  have Lz4 : ∀ (n5 : Nat) (x1_1 : Int32) (x2_2 : Int32) (H : Heap) (locs : List Loc) (ls : Array Slot), va_P D vwCl ((wX9 cI cZ cS ad) σ) H → va_D A ((wX9 cI cZ cS ad) σ) → va_S A s.heap H locs → lv_has ls 3 [(0, .ref (ad 0)), (1, .int x1_1), (2, .int x2_2)] → q_lp (fun _ _ => none) z4 n5 x1_1 x2_2 = some rr → W p l e rmX9_harmedWorth s m ([.ref (ad 0)] : List Value).toArray below meth c H locs 0 0 Q (F0 m 4 ls []) := by
    intro n5
    induction n5 with
    | zero => exact fun _ _ _ _ _ _ _ _ _ hf => q_no hf
    | succ n5 ihz4 =>
      intro x1_1 x2_2 H locs ls hP hD hS hl hf
      have hf := (congrFun (congrFun (congrFun ez4 (q_lp (fun _ _ => none) z4 n5)) x1_1) x2_2).symm.trans hf
      refine lv_iload_n hx hb dX9_harmedWorth_4 rfl (lv_at hl 2 rfl) ?_
      refine lv_aload_n hx hb dX9_harmedWorth_5 rfl (lv_at hl 0 rfl) ?_
      refine va_get (D := D) (ci := 9) (C := RX9) (T := TX9) (N := 6) hx hb hts fwX9_harmedWorth_X9 hown hK hP 0 rfl rfl 0 (by decide) (hts _ (List.mem_of_getElem? (i := 1) rfl)) (fun _ h9 => h9) rfl dX9_harmedWorth_6 ?_
      refine lv_icmp_ge (tgt := 35) hx hb dX9_harmedWorth_9 (by decide) (fun h6 => ?_) (fun h6 => ?_)
      · have hf := (if_pos h6).symm.trans hf
        refine lv_iload_n hx hb dX9_harmedWorth_35 rfl (lv_at hl 1 rfl) ?_
        have hi1 := Option.some.inj hf
        subst hi1
        exact hret _ _ _ _ dX9_harmedWorth_36 rfl hP hS
      · have hf := (if_neg h6).symm.trans hf
        refine lv_aload_n hx hb dX9_harmedWorth_12 rfl (lv_at hl 0 rfl) ?_
        refine lv_iload_n hx hb dX9_harmedWorth_13 rfl (lv_at hl 2 rfl) ?_
        refine q_cVr (wf := (wX9 cI cZ cS ad)) (wc := wX9 cI cZ cS ad) (rest := []) ⟨hx, hb, hml, hown, hts⟩ hK hZ hA hP hD hS hf (fun x ho => kX9_isHarmed l D cI cZ cS zz ad σ x2_2 x ho) (cwV 1 hts gX9_harmedWorth_X9_isHarmed rfl rfl rfl ndX9_isHarmed ⟨Nat.le_of_ble_eq_true rfl, Nat.le_of_ble_eq_true rfl⟩) [0, 1, 2, 3] rfl rfl rfl rfl rfl rfl (hl.1) rfl (Nat.le_of_ble_eq_true rfl) dX9_harmedWorth_14 ⟨Nat.zero_le _, Nat.zero_le _⟩ (fun r7 H locs hf hP hD hS => ?_)
        refine q_lt_go hf (fun j9 ej9 hf => ?_)
        have Jj9 : ∀ (x1_8 : Int32) (H : Heap) (locs : List Loc) (ls : Array Slot), va_P D vwCl ((wX9 cI cZ cS ad) σ) H → va_D A ((wX9 cI cZ cS ad) σ) → va_S A s.heap H locs → lv_has ls 3 [(0, .ref (ad 0)), (1, .int x1_8), (2, .int x2_2)] → j9 x1_8 = some rr → W p l e rmX9_harmedWorth s m ([.ref (ad 0)] : List Value).toArray below meth c H locs 0 0 Q (F0 m 29 ls []) := by
          intro x1_8 H locs ls hP hD hS hl hf
          have hf := (congrFun ej9 x1_8).symm.trans hf
          refine lv_iinc (v := (x2_2 + (1 : Int32))) (lv' := [(2, .int (x2_2 + (1 : Int32))), (0, .ref (ad 0)), (1, .int x1_8)]) hx hb dX9_harmedWorth_29 hl (k := 2) rfl rfl (by decide) rfl (fun ls hl => ?_)
          refine lv_goto (tgt := 4) hx hb dX9_harmedWorth_32 (by decide) ?_
          exact ihz4 x1_8 (x2_2 + (1 : Int32)) _ _ _ hP hD hS (lv_sub hl [1, 2, 0] rfl) hf
        refine lv_if_eq (tgt := 29) hx hb dX9_harmedWorth_17 (by decide) (fun h10 => ?_) (fun h10 => ?_)
        · have hf := (if_pos h10).symm.trans hf
          exact Jj9 x1_1 _ _ _ hP hD hS (lv_sub hl [0, 1, 2] rfl) hf
        · have hf := (if_neg h10).symm.trans hf
          refine lv_iload_n hx hb dX9_harmedWorth_20 rfl (lv_at hl 1 rfl) ?_
          refine lv_aload_n hx hb dX9_harmedWorth_21 rfl (lv_at hl 0 rfl) ?_
          refine va_get (D := D) (ci := 9) (C := RX9) (T := TX9) (N := 6) hx hb hts fwX9_harmedWorth_X9 hown hK hP 0 rfl rfl 1 (by decide) (hts _ (List.mem_of_getElem? (i := 2) rfl)) (fun _ h9 => h9) rfl dX9_harmedWorth_22 ?_
          refine lv_iload_n hx hb dX9_harmedWorth_25 rfl (lv_at hl 2 rfl) ?_
          refine w_iald (wf := (wX9 cI cZ cS ad)) hx hb hK hP 1 0 rfl rfl hf dX9_harmedWorth_26 (fun v11 hf => ?_)
          refine lv_iadd hx hb dX9_harmedWorth_27 ?_
          refine lv_topi (fun x1_12 ex1_12 => ?_)
          have hf := q_lt_at ex1_12 hf
          refine lv_istore_n (lv' := [(1, .int x1_12), (0, .ref (ad 0)), (2, .int x2_2)]) hx hb dX9_harmedWorth_28 rfl hl (by decide) rfl (fun ls hl => ?_)
          exact Jj9 x1_12 _ _ _ hP hD hS (lv_sub hl [1, 0, 2] rfl) hf
  exact Lz4 q_fu (0 : Int32) (0 : Int32) _ _ _ hP hD hS (lv_sub hl [2, 1, 0] rfl) hf
def pX9_isLifted (σ : SS) (a1 : Int32) : Option Int32 := q_lt (fun (y1 : Int32) => q_zz y1 (some y1)) (fun j2 => (if ((σ 0 4) &&& ((1 : Int32) <<< (a1 &&& (31 : Int32)))) = (0 : Int32) then j2 (0 : Int32) else j2 (1 : Int32)))
theorem fwX9_isLifted_X9 : ∀ w ∈ wsX90, w ∈ wsX9_isLifted := fun _ h => List.mem_cons_of_mem _ (List.mem_append_right _ h)
abbrev rmX9_isLifted : Room := { frames := 0, cells := 0, slots := 0, locals := 0 }
set_option maxHeartbeats 4000000 in
set_option maxRecDepth 100000 in
theorem kX9_isLifted (l : Launch) (D : va_G) (cI cZ cS : ClassId) (zz : ZT) (ad : Nat → Nat) (σ : SS) (a1 : Int32) (rr : Int32) (hf : pX9_isLifted σ a1 = some rr) : CI l yX9_isLifted wsX9_isLifted rmX9_isLifted D (K3 cI cZ cS) zz [.ref (ad 0), .int a1] (wX9 cI cZ cS ad σ) (wX9 cI cZ cS ad σ) rr := by
  refine q_ofI (cc := cX9_isLifted) (maxL := 2) (ty := .boolean) (by decide) rfl (Nat.le_of_ble_eq_true rfl) ?_
  intro p e s m below meth c Q A ls hx hb hml hown hts hK hZ hA hP hD hS hl hret
  have hl : lv_has ls 2 [(0, .ref (ad 0)), (1, .int a1)] := hl
  unfold pX9_isLifted at hf
  refine lv_aload_n hx hb dX9_isLifted_0 rfl (lv_at hl 0 rfl) ?_
  refine va_get (D := D) (ci := 9) (C := RX9) (T := TX9) (N := 6) hx hb hts fwX9_isLifted_X9 hown hK hP 0 rfl rfl 4 (by decide) (hts _ (List.mem_of_getElem? (i := 1) rfl)) (fun _ h9 => h9) rfl dX9_isLifted_1 ?_
  refine lv_iconst (v := 1) hx hb dX9_isLifted_4 (by decide) ?_
  refine lv_iload_n hx hb dX9_isLifted_5 rfl (lv_at hl 1 rfl) ?_
  refine lv_ishl hx hb dX9_isLifted_6 ?_
  refine lv_iand hx hb dX9_isLifted_7 ?_
  refine q_lt_go hf (fun j2 ej2 hf => ?_)
  have Jj2 : ∀ (y1 : Int32) (H : Heap) (locs : List Loc) (ls : Array Slot), va_P D vwCl ((wX9 cI cZ cS ad) σ) H → va_D A ((wX9 cI cZ cS ad) σ) → va_S A s.heap H locs → lv_has ls 2 [] → j2 y1 = some rr → W p l e rmX9_isLifted s m ([.ref (ad 0), .int a1] : List Value).toArray below meth c H locs 0 0 Q (F0 m 16 ls [.int y1]) := by
    intro y1 H locs ls hP hD hS hl hf
    have hf := (congrFun ej2 y1).symm.trans hf
    obtain ⟨hz, hf⟩ := q_zz_o hf
    have hi1 := Option.some.inj hf
    subst hi1
    exact hret _ _ _ _ dX9_isLifted_16 (q_zz_n hz).1 hP hS
  refine lv_if_eq (tgt := 15) hx hb dX9_isLifted_8 (by decide) (fun h3 => ?_) (fun h3 => ?_)
  · have hf := (if_pos h3).symm.trans hf
    refine lv_iconst (v := 0) hx hb dX9_isLifted_15 (by decide) ?_
    exact Jj2 (0 : Int32) _ _ _ hP hD hS (lv_sub hl [] rfl) hf
  · have hf := (if_neg h3).symm.trans hf
    refine lv_iconst (v := 1) hx hb dX9_isLifted_11 (by decide) ?_
    refine lv_goto (tgt := 16) hx hb dX9_isLifted_12 (by decide) ?_
    exact Jj2 (1 : Int32) _ _ _ hP hD hS (lv_sub hl [] rfl) hf
def pX4_marksFit (σ : SS) (a1 : Int32) (a2 : Int32) : Option Int32 := q_lt (fun (y1 : Int32) => q_zz y1 (some y1)) (fun j2 => (if a1 = (3 : Int32) then (if a2 ≤ (σ 0 1) then j2 (0 : Int32) else j2 (1 : Int32)) else q_lt (j2 (1 : Int32)) (fun j4 => (if a1 = (4 : Int32) then (if (σ 0 0) ≤ a2 then j2 (0 : Int32) else j4) else j4))))
theorem fwX4_marksFit_X4 : ∀ w ∈ wsX40, w ∈ wsX4_marksFit := fun _ h => List.mem_cons_of_mem _ (List.mem_append_right _ h)
abbrev rmX4_marksFit : Room := { frames := 0, cells := 0, slots := 0, locals := 0 }
set_option maxHeartbeats 4000000 in
set_option maxRecDepth 100000 in
theorem kX4_marksFit (l : Launch) (D : va_G) (cI cZ cS : ClassId) (zz : ZT) (ad : Nat → Nat) (σ : SS) (a1 : Int32) (a2 : Int32) (rr : Int32) (hf : pX4_marksFit σ a1 a2 = some rr) : CI l yX4_marksFit wsX4_marksFit rmX4_marksFit D (K3 cI cZ cS) zz [.ref (ad 0), .int a1, .int a2] (wX4 cI cZ cS ad σ) (wX4 cI cZ cS ad σ) rr := by
  refine q_ofI (cc := cX4_marksFit) (maxL := 3) (ty := .boolean) (by decide) rfl (Nat.le_of_ble_eq_true rfl) ?_
  intro p e s m below meth c Q A ls hx hb hml hown hts hK hZ hA hP hD hS hl hret
  have hl : lv_has ls 3 [(0, .ref (ad 0)), (1, .int a1), (2, .int a2)] := hl
  unfold pX4_marksFit at hf
  refine lv_iload_n hx hb dX4_marksFit_0 rfl (lv_at hl 1 rfl) ?_
  refine lv_iconst (v := 3) hx hb dX4_marksFit_1 (by decide) ?_
  refine q_lt_go hf (fun j2 ej2 hf => ?_)
  have Jj2 : ∀ (y1 : Int32) (H : Heap) (locs : List Loc) (ls : Array Slot), va_P D vwCl ((wX4 cI cZ cS ad) σ) H → va_D A ((wX4 cI cZ cS ad) σ) → va_S A s.heap H locs → lv_has ls 3 [] → j2 y1 = some rr → W p l e rmX4_marksFit s m ([.ref (ad 0), .int a1, .int a2] : List Value).toArray below meth c H locs 0 0 Q (F0 m 39 ls [.int y1]) := by
    intro y1 H locs ls hP hD hS hl hf
    have hf := (congrFun ej2 y1).symm.trans hf
    obtain ⟨hz, hf⟩ := q_zz_o hf
    have hi1 := Option.some.inj hf
    subst hi1
    exact hret _ _ _ _ dX4_marksFit_39 (q_zz_n hz).1 hP hS
  refine lv_icmp_ne (tgt := 21) hx hb dX4_marksFit_2 (by decide) (fun h3 => ?_) (fun h3 => ?_)
  · have hf := (if_neg h3).symm.trans hf
    refine lv_iload_n hx hb dX4_marksFit_21 rfl (lv_at hl 1 rfl) ?_
    refine lv_iconst (v := 4) hx hb dX4_marksFit_22 (by decide) ?_
    refine q_lt_go hf (fun j4 ej4 hf => ?_)
    have Jj4 : ∀ (H : Heap) (locs : List Loc) (ls : Array Slot), va_P D vwCl ((wX4 cI cZ cS ad) σ) H → va_D A ((wX4 cI cZ cS ad) σ) → va_S A s.heap H locs → lv_has ls 3 [] → j4 = some rr → W p l e rmX4_marksFit s m ([.ref (ad 0), .int a1, .int a2] : List Value).toArray below meth c H locs 0 0 Q (F0 m 34 ls []) := by
      intro  H locs ls hP hD hS hl hf
      have hf := ej4.symm.trans hf
      refine lv_iconst (v := 1) hx hb dX4_marksFit_34 (by decide) ?_
      refine lv_goto (tgt := 39) hx hb dX4_marksFit_35 (by decide) ?_
      exact Jj2 (1 : Int32) _ _ _ hP hD hS (lv_sub hl [] rfl) hf
    refine lv_icmp_ne (tgt := 34) hx hb dX4_marksFit_23 (by decide) (fun h5 => ?_) (fun h5 => ?_)
    · have hf := (if_neg h5).symm.trans hf
      exact Jj4  _ _ _ hP hD hS (lv_sub hl [] rfl) hf
    · have hf := (if_pos h5).symm.trans hf
      refine lv_iload_n hx hb dX4_marksFit_26 rfl (lv_at hl 2 rfl) ?_
      refine lv_aload_n hx hb dX4_marksFit_27 rfl (lv_at hl 0 rfl) ?_
      refine va_get (D := D) (ci := 4) (C := RX4) (T := TX4) (N := 11) hx hb hts fwX4_marksFit_X4 hown hK hP 0 rfl rfl 0 (by decide) (hts _ (List.mem_of_getElem? (i := 2) rfl)) (fun _ h9 => h9) rfl dX4_marksFit_28 ?_
      refine lv_icmp_ge (tgt := 38) hx hb dX4_marksFit_31 (by decide) (fun h6 => ?_) (fun h6 => ?_)
      · have hf := (if_pos h6).symm.trans hf
        refine lv_iconst (v := 0) hx hb dX4_marksFit_38 (by decide) ?_
        exact Jj2 (0 : Int32) _ _ _ hP hD hS (lv_sub hl [] rfl) hf
      · have hf := (if_neg h6).symm.trans hf
        exact Jj4  _ _ _ hP hD hS (lv_sub hl [] rfl) hf
  · have hf := (if_pos h3).symm.trans hf
    refine lv_aload_n hx hb dX4_marksFit_5 rfl (lv_at hl 0 rfl) ?_
    refine va_get (D := D) (ci := 4) (C := RX4) (T := TX4) (N := 11) hx hb hts fwX4_marksFit_X4 hown hK hP 0 rfl rfl 1 (by decide) (hts _ (List.mem_of_getElem? (i := 1) rfl)) (fun _ h9 => h9) rfl dX4_marksFit_6 ?_
    refine lv_iload_n hx hb dX4_marksFit_9 rfl (lv_at hl 2 rfl) ?_
    refine lv_icmp_ge (tgt := 17) hx hb dX4_marksFit_10 (by decide) (fun h7 => ?_) (fun h7 => ?_)
    · have hf := (if_pos h7).symm.trans hf
      refine lv_iconst (v := 0) hx hb dX4_marksFit_17 (by decide) ?_
      refine lv_goto (tgt := 39) hx hb dX4_marksFit_18 (by decide) ?_
      exact Jj2 (0 : Int32) _ _ _ hP hD hS (lv_sub hl [] rfl) hf
    · have hf := (if_neg h7).symm.trans hf
      refine lv_iconst (v := 1) hx hb dX4_marksFit_13 (by decide) ?_
      refine lv_goto (tgt := 39) hx hb dX4_marksFit_14 (by decide) ?_
      exact Jj2 (1 : Int32) _ _ _ hP hD hS (lv_sub hl [] rfl) hf
def pX4_leastBetweenStarts (σ : SS) : Option Int32 := q_rd (σ 1) 40 (1 : Int32) (fun (v1 : Int32) => q_rd (σ 1) 40 (0 : Int32) (fun (v2 : Int32) => q_lt (v1 - v2) (fun x1_3 => q_lp (fun _ _ => none) (fun (c6 : Int32 → Int32 → Option Int32) (x1_4 : Int32) (x2_5 : Int32) => q_cr (pX4_logged σ) (fun (r9 : Int32) => (if r9 ≤ x2_5 then some x1_4 else q_rd (σ 1) 40 x2_5 (fun (v11 : Int32) => q_rd (σ 1) 40 (x2_5 - (1 : Int32)) (fun (v12 : Int32) => q_lt (if (v11 - v12) < x1_4 then (v11 - v12) else x1_4) (fun x1_13 => c6 x1_13 (x2_5 + (1 : Int32)))))))) q_fu x1_3 (2 : Int32))))
theorem fwX4_leastBetweenStarts_X4 : ∀ w ∈ wsX40, w ∈ wsX4_leastBetweenStarts := fun _ h => List.mem_cons_of_mem _ (List.mem_append_right _ h)
abbrev rmX4_leastBetweenStarts : Room := { frames := 2, cells := 0, slots := 0, locals := 44 }
set_option maxHeartbeats 4000000 in
set_option maxRecDepth 100000 in
theorem kX4_leastBetweenStarts (l : Launch) (D : va_G) (cI cZ cS : ClassId) (zz : ZT) (ad : Nat → Nat) (σ : SS) (rr : Int32) (hf : pX4_leastBetweenStarts σ = some rr) : CI l yX4_leastBetweenStarts wsX4_leastBetweenStarts rmX4_leastBetweenStarts D (K3 cI cZ cS) zz [.ref (ad 0)] (wX4 cI cZ cS ad σ) (wX4 cI cZ cS ad σ) rr := by
  refine q_ofI (cc := cX4_leastBetweenStarts) (maxL := 3) (ty := .int) (by decide) rfl (Nat.le_of_ble_eq_true rfl) ?_
  intro p e s m below meth c Q A ls hx hb hml hown hts hK hZ hA hP hD hS hl hret
  have hl : lv_has ls 3 [(0, .ref (ad 0))] := hl
  unfold pX4_leastBetweenStarts at hf
  refine lv_aload_n hx hb dX4_leastBetweenStarts_0 rfl (lv_at hl 0 rfl) ?_
  refine va_get (D := D) (ci := 4) (C := RX4) (T := TX4) (N := 11) hx hb hts fwX4_leastBetweenStarts_X4 hown hK hP 0 rfl rfl 10 (by decide) (hts _ (List.mem_of_getElem? (i := 1) rfl)) (fun _ h9 => h9) rfl dX4_leastBetweenStarts_1 ?_
  refine lv_iconst (v := 1) hx hb dX4_leastBetweenStarts_4 (by decide) ?_
  refine w_iald (wf := (wX4 cI cZ cS ad)) hx hb hK hP 1 0 rfl rfl hf dX4_leastBetweenStarts_5 (fun v1 hf => ?_)
  refine lv_aload_n hx hb dX4_leastBetweenStarts_6 rfl (lv_at hl 0 rfl) ?_
  refine va_get (D := D) (ci := 4) (C := RX4) (T := TX4) (N := 11) hx hb hts fwX4_leastBetweenStarts_X4 hown hK hP 0 rfl rfl 10 (by decide) (hts _ (List.mem_of_getElem? (i := 1) rfl)) (fun _ h9 => h9) rfl dX4_leastBetweenStarts_7 ?_
  refine lv_iconst (v := 0) hx hb dX4_leastBetweenStarts_10 (by decide) ?_
  refine w_iald (wf := (wX4 cI cZ cS ad)) hx hb hK hP 1 0 rfl rfl hf dX4_leastBetweenStarts_11 (fun v2 hf => ?_)
  refine lv_isub hx hb dX4_leastBetweenStarts_12 ?_
  refine lv_topi (fun x1_3 ex1_3 => ?_)
  have hf := q_lt_at ex1_3 hf
  refine lv_istore_n (lv' := [(1, .int x1_3), (0, .ref (ad 0))]) hx hb dX4_leastBetweenStarts_13 rfl hl (by decide) rfl (fun ls hl => ?_)
  refine lv_iconst (v := 2) hx hb dX4_leastBetweenStarts_14 (by decide) ?_
  refine lv_istore_n (lv' := [(2, .int (2 : Int32)), (1, .int x1_3), (0, .ref (ad 0))]) hx hb dX4_leastBetweenStarts_15 rfl hl (by decide) rfl (fun ls hl => ?_)
  refine q_lp_go (f := fun (zf : Int32 → Int32 → Option Int32) => zf x1_3 (2 : Int32)) hf (fun z7 ez7 hf => ?_)
  have Lz7 : ∀ (n8 : Nat) (x1_4 : Int32) (x2_5 : Int32) (H : Heap) (locs : List Loc) (ls : Array Slot), va_P D vwCl ((wX4 cI cZ cS ad) σ) H → va_D A ((wX4 cI cZ cS ad) σ) → va_S A s.heap H locs → lv_has ls 3 [(0, .ref (ad 0)), (1, .int x1_4), (2, .int x2_5)] → q_lp (fun _ _ => none) z7 n8 x1_4 x2_5 = some rr → W p l e rmX4_leastBetweenStarts s m ([.ref (ad 0)] : List Value).toArray below meth c H locs 0 0 Q (F0 m 16 ls []) := by
    intro n8
    induction n8 with
    | zero => exact fun _ _ _ _ _ _ _ _ _ hf => q_no hf
    | succ n8 ihz7 =>
      intro x1_4 x2_5 H locs ls hP hD hS hl hf
      have hf := (congrFun (congrFun (congrFun ez7 (q_lp (fun _ _ => none) z7 n8)) x1_4) x2_5).symm.trans hf
      refine lv_iload_n hx hb dX4_leastBetweenStarts_16 rfl (lv_at hl 2 rfl) ?_
      refine lv_aload_n hx hb dX4_leastBetweenStarts_17 rfl (lv_at hl 0 rfl) ?_
      refine q_cVr (wf := (wX4 cI cZ cS ad)) (wc := wX4 cI cZ cS ad) (rest := [.int x2_5]) ⟨hx, hb, hml, hown, hts⟩ hK hZ hA hP hD hS hf (fun x ho => kX4_logged l D cI cZ cS zz ad σ x ho) (cwV 0 hts gX4_leastBetweenStarts_X4_logged rfl rfl rfl ndX4_logged ⟨Nat.le_of_ble_eq_true rfl, Nat.le_of_ble_eq_true rfl⟩) [0, 1] rfl rfl rfl rfl rfl rfl (hl.1) rfl (Nat.le_of_ble_eq_true rfl) dX4_leastBetweenStarts_18 ⟨Nat.zero_le _, Nat.zero_le _⟩ (fun r9 H locs hf hP hD hS => ?_)
      refine lv_icmp_ge (tgt := 50) hx hb dX4_leastBetweenStarts_21 (by decide) (fun h10 => ?_) (fun h10 => ?_)
      · have hf := (if_pos h10).symm.trans hf
        refine lv_iload_n hx hb dX4_leastBetweenStarts_50 rfl (lv_at hl 1 rfl) ?_
        have hi1 := Option.some.inj hf
        subst hi1
        exact hret _ _ _ _ dX4_leastBetweenStarts_51 rfl hP hS
      · have hf := (if_neg h10).symm.trans hf
        refine lv_iload_n hx hb dX4_leastBetweenStarts_24 rfl (lv_at hl 1 rfl) ?_
        refine lv_aload_n hx hb dX4_leastBetweenStarts_25 rfl (lv_at hl 0 rfl) ?_
        refine va_get (D := D) (ci := 4) (C := RX4) (T := TX4) (N := 11) hx hb hts fwX4_leastBetweenStarts_X4 hown hK hP 0 rfl rfl 10 (by decide) (hts _ (List.mem_of_getElem? (i := 1) rfl)) (fun _ h9 => h9) rfl dX4_leastBetweenStarts_26 ?_
        refine lv_iload_n hx hb dX4_leastBetweenStarts_29 rfl (lv_at hl 2 rfl) ?_
        refine w_iald (wf := (wX4 cI cZ cS ad)) hx hb hK hP 1 0 rfl rfl hf dX4_leastBetweenStarts_30 (fun v11 hf => ?_)
        refine lv_aload_n hx hb dX4_leastBetweenStarts_31 rfl (lv_at hl 0 rfl) ?_
        refine va_get (D := D) (ci := 4) (C := RX4) (T := TX4) (N := 11) hx hb hts fwX4_leastBetweenStarts_X4 hown hK hP 0 rfl rfl 10 (by decide) (hts _ (List.mem_of_getElem? (i := 1) rfl)) (fun _ h9 => h9) rfl dX4_leastBetweenStarts_32 ?_
        refine lv_iload_n hx hb dX4_leastBetweenStarts_35 rfl (lv_at hl 2 rfl) ?_
        refine lv_iconst (v := 1) hx hb dX4_leastBetweenStarts_36 (by decide) ?_
        refine lv_isub hx hb dX4_leastBetweenStarts_37 ?_
        refine w_iald (wf := (wX4 cI cZ cS ad)) hx hb hK hP 1 0 rfl rfl hf dX4_leastBetweenStarts_38 (fun v12 hf => ?_)
        refine lv_isub hx hb dX4_leastBetweenStarts_39 ?_
        refine va_mmin hx hb (hml.trans hl.1.symm) hown (hts _ (List.mem_of_getElem? (i := 2) rfl)) (hts _ (List.mem_of_getElem? (i := 3) rfl)) (hts _ (List.mem_of_getElem? (i := 4) rfl)) (hts _ (List.mem_of_getElem? (i := 5) rfl)) (Nat.le_of_ble_eq_true rfl) (Nat.le_of_ble_eq_true rfl) (Nat.zero_le _) (Nat.zero_le _) dX4_leastBetweenStarts_40 ?_
        refine lv_topi (fun x1_13 ex1_13 => ?_)
        have hf := q_lt_at ex1_13 hf
        refine lv_istore_n (lv' := [(1, .int x1_13), (0, .ref (ad 0)), (2, .int x2_5)]) hx hb dX4_leastBetweenStarts_43 rfl hl (by decide) rfl (fun ls hl => ?_)
        refine lv_iinc (v := (x2_5 + (1 : Int32))) (lv' := [(2, .int (x2_5 + (1 : Int32))), (1, .int x1_13), (0, .ref (ad 0))]) hx hb dX4_leastBetweenStarts_44 hl (k := 2) rfl rfl (by decide) rfl (fun ls hl => ?_)
        refine lv_goto (tgt := 16) hx hb dX4_leastBetweenStarts_47 (by decide) ?_
        exact ihz7 x1_13 (x2_5 + (1 : Int32)) _ _ _ hP hD hS (lv_sub hl [2, 1, 0] rfl) hf
  exact Lz7 q_fu x1_3 (2 : Int32) _ _ _ hP hD hS (lv_sub hl [2, 1, 0] rfl) hf
def pX11_within (a1 : Int32) (a2 : Int32) (a3 : Int32) : Option Int32 := q_lt (fun (y1 : Int32) => q_zz y1 (some y1)) (fun j2 => q_lt (j2 (0 : Int32)) (fun j3 => (if a1 < a2 then j3 else (if a3 < a1 then j3 else j2 (1 : Int32)))))
abbrev rmX11_within : Room := { frames := 0, cells := 0, slots := 0, locals := 0 }
set_option maxHeartbeats 4000000 in
set_option maxRecDepth 100000 in
theorem kX11_within (l : Launch) (D : va_G) (cI cZ cS : ClassId) (zz : ZT) (a1 : Int32) (a2 : Int32) (a3 : Int32) (rr : Int32) (hf : pX11_within a1 a2 a3 = some rr) : CI l yX11_within wsX11_within rmX11_within D (K3 cI cZ cS) zz [.int a1, .int a2, .int a3] [] [] rr := by
  refine q_ofI (cc := cX11_within) (maxL := 3) (ty := .boolean) (by decide) rfl (Nat.le_of_ble_eq_true rfl) ?_
  intro p e s m below meth c Q A ls hx hb hml hown hts hK hZ hA hP hD hS hl hret
  have hl : lv_has ls 3 [(0, .int a1), (1, .int a2), (2, .int a3)] := hl
  unfold pX11_within at hf
  refine lv_iload_n hx hb dX11_within_0 rfl (lv_at hl 0 rfl) ?_
  refine lv_iload_n hx hb dX11_within_1 rfl (lv_at hl 1 rfl) ?_
  refine q_lt_go hf (fun j2 ej2 hf => ?_)
  have Jj2 : ∀ (y1 : Int32) (H : Heap) (locs : List Loc) (ls : Array Slot), va_P D vwCl ([] : va_W) H → va_D A ([] : va_W) → va_S A s.heap H locs → lv_has ls 3 [] → j2 y1 = some rr → W p l e rmX11_within s m ([.int a1, .int a2, .int a3] : List Value).toArray below meth c H locs 0 0 Q (F0 m 15 ls [.int y1]) := by
    intro y1 H locs ls hP hD hS hl hf
    have hf := (congrFun ej2 y1).symm.trans hf
    obtain ⟨hz, hf⟩ := q_zz_o hf
    have hi1 := Option.some.inj hf
    subst hi1
    exact hret _ _ _ _ dX11_within_15 (q_zz_n hz).1 hP hS
  refine q_lt_go hf (fun j3 ej3 hf => ?_)
  have Jj3 : ∀ (H : Heap) (locs : List Loc) (ls : Array Slot), va_P D vwCl ([] : va_W) H → va_D A ([] : va_W) → va_S A s.heap H locs → lv_has ls 3 [] → j3 = some rr → W p l e rmX11_within s m ([.int a1, .int a2, .int a3] : List Value).toArray below meth c H locs 0 0 Q (F0 m 14 ls []) := by
    intro  H locs ls hP hD hS hl hf
    have hf := ej3.symm.trans hf
    refine lv_iconst (v := 0) hx hb dX11_within_14 (by decide) ?_
    exact Jj2 (0 : Int32) _ _ _ hP hD hS (lv_sub hl [] rfl) hf
  refine lv_icmp_lt (tgt := 14) hx hb dX11_within_2 (by decide) (fun h4 => ?_) (fun h4 => ?_)
  · have hf := (if_pos h4).symm.trans hf
    exact Jj3  _ _ _ hP hD hS (lv_sub hl [] rfl) hf
  · have hf := (if_neg h4).symm.trans hf
    refine lv_iload_n hx hb dX11_within_5 rfl (lv_at hl 0 rfl) ?_
    refine lv_iload_n hx hb dX11_within_6 rfl (lv_at hl 2 rfl) ?_
    refine lv_icmp_gt (tgt := 14) hx hb dX11_within_7 (by decide) (fun h5 => ?_) (fun h5 => ?_)
    · have hf := (if_pos h5).symm.trans hf
      exact Jj3  _ _ _ hP hD hS (lv_sub hl [] rfl) hf
    · have hf := (if_neg h5).symm.trans hf
      refine lv_iconst (v := 1) hx hb dX11_within_10 (by decide) ?_
      refine lv_goto (tgt := 15) hx hb dX11_within_11 (by decide) ?_
      exact Jj2 (1 : Int32) _ _ _ hP hD hS (lv_sub hl [] rfl) hf
def pX9_add (σ : SS) (a1 : Int32) (a2 : Int32) (a3 : Int32) : Option (Int32 × SS) := q_wr σ 1 10 (σ 0 0) a1 (fun (σ1 : SS) => q_wr σ1 2 10 (σ1 0 0) a2 (fun (σ2 : SS) => q_wr σ2 3 10 (σ2 0 0) a3 (fun (σ3 : SS) => q_lt (su σ3 0 0 ((σ3 0 0) + (1 : Int32))) (fun (σ4 : SS) => some (((σ4 0 0) - (1 : Int32)), σ4)))))
theorem fwX9_add_X9 : ∀ w ∈ wsX90, w ∈ wsX9_add := fun _ h => List.mem_cons_of_mem _ (List.mem_append_right _ h)
abbrev rmX9_add : Room := { frames := 0, cells := 0, slots := 0, locals := 0 }
set_option maxHeartbeats 4000000 in
set_option maxRecDepth 100000 in
theorem kX9_add (l : Launch) (D : va_G) (cI cZ cS : ClassId) (zz : ZT) (ad : Nat → Nat) (σ : SS) (a1 : Int32) (a2 : Int32) (a3 : Int32) (rr : Int32) (σr : SS) (hf : pX9_add σ a1 a2 a3 = some (rr, σr)) : CI l yX9_add wsX9_add rmX9_add D (K3 cI cZ cS) zz [.ref (ad 0), .int a1, .int a2, .int a3] (wX9 cI cZ cS ad σ) (wX9 cI cZ cS ad σr) rr := by
  refine q_ofI (cc := cX9_add) (maxL := 4) (ty := .int) (by decide) rfl (Nat.le_of_ble_eq_true rfl) ?_
  intro p e s m below meth c Q A ls hx hb hml hown hts hK hZ hA hP hD hS hl hret
  have hl : lv_has ls 4 [(0, .ref (ad 0)), (1, .int a1), (2, .int a2), (3, .int a3)] := hl
  unfold pX9_add at hf
  refine lv_aload_n hx hb dX9_add_0 rfl (lv_at hl 0 rfl) ?_
  refine va_get (D := D) (ci := 9) (C := RX9) (T := TX9) (N := 6) hx hb hts fwX9_add_X9 hown hK hP 0 rfl rfl 1 (by decide) (hts _ (List.mem_of_getElem? (i := 1) rfl)) (fun _ h9 => h9) rfl dX9_add_1 ?_
  refine lv_aload_n hx hb dX9_add_4 rfl (lv_at hl 0 rfl) ?_
  refine va_get (D := D) (ci := 9) (C := RX9) (T := TX9) (N := 6) hx hb hts fwX9_add_X9 hown hK hP 0 rfl rfl 0 (by decide) (hts _ (List.mem_of_getElem? (i := 2) rfl)) (fun _ h9 => h9) rfl dX9_add_5 ?_
  refine lv_iload_n hx hb dX9_add_8 rfl (lv_at hl 1 rfl) ?_
  refine w_iast (wf := (wX9 cI cZ cS ad)) (cid := 1) hx hb hK hP hD hS 1 0 rfl rfl hf (fun _ => rfl) dX9_add_9 (fun σ1 H locs hf hP hD hS => ?_)
  refine lv_aload_n hx hb dX9_add_10 rfl (lv_at hl 0 rfl) ?_
  refine va_get (D := D) (ci := 9) (C := RX9) (T := TX9) (N := 6) hx hb hts fwX9_add_X9 hown hK hP 0 rfl rfl 2 (by decide) (hts _ (List.mem_of_getElem? (i := 3) rfl)) (fun _ h9 => h9) rfl dX9_add_11 ?_
  refine lv_aload_n hx hb dX9_add_14 rfl (lv_at hl 0 rfl) ?_
  refine va_get (D := D) (ci := 9) (C := RX9) (T := TX9) (N := 6) hx hb hts fwX9_add_X9 hown hK hP 0 rfl rfl 0 (by decide) (hts _ (List.mem_of_getElem? (i := 2) rfl)) (fun _ h9 => h9) rfl dX9_add_15 ?_
  refine lv_iload_n hx hb dX9_add_18 rfl (lv_at hl 2 rfl) ?_
  refine w_iast (wf := (wX9 cI cZ cS ad)) (cid := 2) hx hb hK hP hD hS 2 0 rfl rfl hf (fun _ => rfl) dX9_add_19 (fun σ2 H locs hf hP hD hS => ?_)
  refine lv_aload_n hx hb dX9_add_20 rfl (lv_at hl 0 rfl) ?_
  refine va_get (D := D) (ci := 9) (C := RX9) (T := TX9) (N := 6) hx hb hts fwX9_add_X9 hown hK hP 0 rfl rfl 3 (by decide) (hts _ (List.mem_of_getElem? (i := 4) rfl)) (fun _ h9 => h9) rfl dX9_add_21 ?_
  refine lv_aload_n hx hb dX9_add_24 rfl (lv_at hl 0 rfl) ?_
  refine va_get (D := D) (ci := 9) (C := RX9) (T := TX9) (N := 6) hx hb hts fwX9_add_X9 hown hK hP 0 rfl rfl 0 (by decide) (hts _ (List.mem_of_getElem? (i := 2) rfl)) (fun _ h9 => h9) rfl dX9_add_25 ?_
  refine lv_iload_n hx hb dX9_add_28 rfl (lv_at hl 3 rfl) ?_
  refine w_iast (wf := (wX9 cI cZ cS ad)) (cid := 3) hx hb hK hP hD hS 3 0 rfl rfl hf (fun _ => rfl) dX9_add_29 (fun σ3 H locs hf hP hD hS => ?_)
  refine lv_aload_n hx hb dX9_add_30 rfl (lv_at hl 0 rfl) ?_
  refine lv_dup hx hb dX9_add_31 rfl ?_
  refine va_get (D := D) (ci := 9) (C := RX9) (T := TX9) (N := 6) hx hb hts fwX9_add_X9 hown hK hP 0 rfl rfl 0 (by decide) (hts _ (List.mem_of_getElem? (i := 2) rfl)) (fun _ h9 => h9) rfl dX9_add_32 ?_
  refine lv_iconst (v := 1) hx hb dX9_add_35 (by decide) ?_
  refine lv_iadd hx hb dX9_add_36 ?_
  refine w_put (D := D) (wf := (wX9 cI cZ cS ad)) (cid := 0) (ci := 9) (C := RX9) (T := TX9) (N := 6) hx hb hts fwX9_add_X9 tyX9 tyX9_ok nmX9 hown hK hP hD hS 0 rfl rfl 0 (by decide) (hts _ (List.mem_of_getElem? (i := 2) rfl)) (fun _ h9 => h9) rfl (tyX9_ok 0 (by decide)) (Nat.le_of_ble_eq_true rfl) hf rfl dX9_add_37 (fun σ4 H locs hf hP hD hS => ?_)
  refine lv_aload_n hx hb dX9_add_40 rfl (lv_at hl 0 rfl) ?_
  refine va_get (D := D) (ci := 9) (C := RX9) (T := TX9) (N := 6) hx hb hts fwX9_add_X9 hown hK hP 0 rfl rfl 0 (by decide) (hts _ (List.mem_of_getElem? (i := 2) rfl)) (fun _ h9 => h9) rfl dX9_add_41 ?_
  refine lv_iconst (v := 1) hx hb dX9_add_44 (by decide) ?_
  refine lv_isub hx hb dX9_add_45 ?_
  obtain ⟨hi1, hi2⟩ := Prod.mk.inj (Option.some.inj hf)
  subst hi1
  subst hi2
  exact hret _ _ _ _ dX9_add_46 rfl hP hS
def pX10_add (σ : SS) (a1 : Int32) (a2 : Int32) (a3 : Int32) : Option (Int32 × SS) := q_wr σ 1 8 (σ 0 0) a1 (fun (σ1 : SS) => q_wr σ1 2 8 (σ1 0 0) a2 (fun (σ2 : SS) => q_wr σ2 3 8 (σ2 0 0) a3 (fun (σ3 : SS) => q_wr σ3 4 8 (σ3 0 0) (0 : Int32) (fun (σ4 : SS) => q_lt (su σ4 0 0 ((σ4 0 0) + (1 : Int32))) (fun (σ5 : SS) => some (((σ5 0 0) - (1 : Int32)), σ5))))))
theorem fwX10_add_X10 : ∀ w ∈ wsX100, w ∈ wsX10_add := fun _ h => List.mem_cons_of_mem _ (List.mem_append_right _ h)
abbrev rmX10_add : Room := { frames := 0, cells := 0, slots := 0, locals := 0 }
set_option maxHeartbeats 4000000 in
set_option maxRecDepth 100000 in
theorem kX10_add (l : Launch) (D : va_G) (cI cZ cS : ClassId) (zz : ZT) (ad : Nat → Nat) (σ : SS) (a1 : Int32) (a2 : Int32) (a3 : Int32) (rr : Int32) (σr : SS) (hf : pX10_add σ a1 a2 a3 = some (rr, σr)) : CI l yX10_add wsX10_add rmX10_add D (K3 cI cZ cS) zz [.ref (ad 0), .int a1, .int a2, .int a3] (wX10 cI cZ cS ad σ) (wX10 cI cZ cS ad σr) rr := by
  refine q_ofI (cc := cX10_add) (maxL := 4) (ty := .int) (by decide) rfl (Nat.le_of_ble_eq_true rfl) ?_
  intro p e s m below meth c Q A ls hx hb hml hown hts hK hZ hA hP hD hS hl hret
  have hl : lv_has ls 4 [(0, .ref (ad 0)), (1, .int a1), (2, .int a2), (3, .int a3)] := hl
  unfold pX10_add at hf
  refine lv_aload_n hx hb dX10_add_0 rfl (lv_at hl 0 rfl) ?_
  refine va_get (D := D) (ci := 10) (C := RX10) (T := TX10) (N := 5) hx hb hts fwX10_add_X10 hown hK hP 0 rfl rfl 1 (by decide) (hts _ (List.mem_of_getElem? (i := 1) rfl)) (fun _ h9 => h9) rfl dX10_add_1 ?_
  refine lv_aload_n hx hb dX10_add_4 rfl (lv_at hl 0 rfl) ?_
  refine va_get (D := D) (ci := 10) (C := RX10) (T := TX10) (N := 5) hx hb hts fwX10_add_X10 hown hK hP 0 rfl rfl 0 (by decide) (hts _ (List.mem_of_getElem? (i := 2) rfl)) (fun _ h9 => h9) rfl dX10_add_5 ?_
  refine lv_iload_n hx hb dX10_add_8 rfl (lv_at hl 1 rfl) ?_
  refine w_iast (wf := (wX10 cI cZ cS ad)) (cid := 1) hx hb hK hP hD hS 1 0 rfl rfl hf (fun _ => rfl) dX10_add_9 (fun σ1 H locs hf hP hD hS => ?_)
  refine lv_aload_n hx hb dX10_add_10 rfl (lv_at hl 0 rfl) ?_
  refine va_get (D := D) (ci := 10) (C := RX10) (T := TX10) (N := 5) hx hb hts fwX10_add_X10 hown hK hP 0 rfl rfl 2 (by decide) (hts _ (List.mem_of_getElem? (i := 3) rfl)) (fun _ h9 => h9) rfl dX10_add_11 ?_
  refine lv_aload_n hx hb dX10_add_14 rfl (lv_at hl 0 rfl) ?_
  refine va_get (D := D) (ci := 10) (C := RX10) (T := TX10) (N := 5) hx hb hts fwX10_add_X10 hown hK hP 0 rfl rfl 0 (by decide) (hts _ (List.mem_of_getElem? (i := 2) rfl)) (fun _ h9 => h9) rfl dX10_add_15 ?_
  refine lv_iload_n hx hb dX10_add_18 rfl (lv_at hl 2 rfl) ?_
  refine w_iast (wf := (wX10 cI cZ cS ad)) (cid := 2) hx hb hK hP hD hS 2 0 rfl rfl hf (fun _ => rfl) dX10_add_19 (fun σ2 H locs hf hP hD hS => ?_)
  refine lv_aload_n hx hb dX10_add_20 rfl (lv_at hl 0 rfl) ?_
  refine va_get (D := D) (ci := 10) (C := RX10) (T := TX10) (N := 5) hx hb hts fwX10_add_X10 hown hK hP 0 rfl rfl 3 (by decide) (hts _ (List.mem_of_getElem? (i := 4) rfl)) (fun _ h9 => h9) rfl dX10_add_21 ?_
  refine lv_aload_n hx hb dX10_add_24 rfl (lv_at hl 0 rfl) ?_
  refine va_get (D := D) (ci := 10) (C := RX10) (T := TX10) (N := 5) hx hb hts fwX10_add_X10 hown hK hP 0 rfl rfl 0 (by decide) (hts _ (List.mem_of_getElem? (i := 2) rfl)) (fun _ h9 => h9) rfl dX10_add_25 ?_
  refine lv_iload_n hx hb dX10_add_28 rfl (lv_at hl 3 rfl) ?_
  refine w_iast (wf := (wX10 cI cZ cS ad)) (cid := 3) hx hb hK hP hD hS 3 0 rfl rfl hf (fun _ => rfl) dX10_add_29 (fun σ3 H locs hf hP hD hS => ?_)
  refine lv_aload_n hx hb dX10_add_30 rfl (lv_at hl 0 rfl) ?_
  refine va_get (D := D) (ci := 10) (C := RX10) (T := TX10) (N := 5) hx hb hts fwX10_add_X10 hown hK hP 0 rfl rfl 4 (by decide) (hts _ (List.mem_of_getElem? (i := 5) rfl)) (fun _ h9 => h9) rfl dX10_add_31 ?_
  refine lv_aload_n hx hb dX10_add_34 rfl (lv_at hl 0 rfl) ?_
  refine va_get (D := D) (ci := 10) (C := RX10) (T := TX10) (N := 5) hx hb hts fwX10_add_X10 hown hK hP 0 rfl rfl 0 (by decide) (hts _ (List.mem_of_getElem? (i := 2) rfl)) (fun _ h9 => h9) rfl dX10_add_35 ?_
  refine lv_iconst (v := 0) hx hb dX10_add_38 (by decide) ?_
  refine w_iast (wf := (wX10 cI cZ cS ad)) (cid := 4) hx hb hK hP hD hS 4 0 rfl rfl hf (fun _ => rfl) dX10_add_39 (fun σ4 H locs hf hP hD hS => ?_)
  refine lv_aload_n hx hb dX10_add_40 rfl (lv_at hl 0 rfl) ?_
  refine lv_dup hx hb dX10_add_41 rfl ?_
  refine va_get (D := D) (ci := 10) (C := RX10) (T := TX10) (N := 5) hx hb hts fwX10_add_X10 hown hK hP 0 rfl rfl 0 (by decide) (hts _ (List.mem_of_getElem? (i := 2) rfl)) (fun _ h9 => h9) rfl dX10_add_42 ?_
  refine lv_iconst (v := 1) hx hb dX10_add_45 (by decide) ?_
  refine lv_iadd hx hb dX10_add_46 ?_
  refine w_put (D := D) (wf := (wX10 cI cZ cS ad)) (cid := 0) (ci := 10) (C := RX10) (T := TX10) (N := 5) hx hb hts fwX10_add_X10 tyX10 tyX10_ok nmX10 hown hK hP hD hS 0 rfl rfl 0 (by decide) (hts _ (List.mem_of_getElem? (i := 2) rfl)) (fun _ h9 => h9) rfl (tyX10_ok 0 (by decide)) (Nat.le_of_ble_eq_true rfl) hf rfl dX10_add_47 (fun σ5 H locs hf hP hD hS => ?_)
  refine lv_aload_n hx hb dX10_add_50 rfl (lv_at hl 0 rfl) ?_
  refine va_get (D := D) (ci := 10) (C := RX10) (T := TX10) (N := 5) hx hb hts fwX10_add_X10 hown hK hP 0 rfl rfl 0 (by decide) (hts _ (List.mem_of_getElem? (i := 2) rfl)) (fun _ h9 => h9) rfl dX10_add_51 ?_
  refine lv_iconst (v := 1) hx hb dX10_add_54 (by decide) ?_
  refine lv_isub hx hb dX10_add_55 ?_
  obtain ⟨hi1, hi2⟩ := Prod.mk.inj (Option.some.inj hf)
  subst hi1
  subst hi2
  exact hret _ _ _ _ dX10_add_56 rfl hP hS
def pX10_mostBrought (σ : SS) : Option Int32 := q_lp (fun _ _ => none) (fun (c3 : Int32 → Int32 → Option Int32) (x1_1 : Int32) (x2_2 : Int32) => (if (σ 0 0) ≤ x2_2 then some x1_1 else q_rd (σ 4) 8 x2_2 (fun (v7 : Int32) => q_rd (σ 4) 8 x1_1 (fun (v8 : Int32) => q_lt (fun (x1_9 : Int32) => c3 x1_9 (x2_2 + (1 : Int32))) (fun j10 => (if v7 ≤ v8 then j10 x1_1 else j10 x2_2)))))) q_fu (0 : Int32) (1 : Int32)
theorem fwX10_mostBrought_X10 : ∀ w ∈ wsX100, w ∈ wsX10_mostBrought := fun _ h => List.mem_cons_of_mem _ (List.mem_append_right _ h)
abbrev rmX10_mostBrought : Room := { frames := 0, cells := 0, slots := 0, locals := 0 }
set_option maxHeartbeats 4000000 in
set_option maxRecDepth 100000 in
theorem kX10_mostBrought (l : Launch) (D : va_G) (cI cZ cS : ClassId) (zz : ZT) (ad : Nat → Nat) (σ : SS) (rr : Int32) (hf : pX10_mostBrought σ = some rr) : CI l yX10_mostBrought wsX10_mostBrought rmX10_mostBrought D (K3 cI cZ cS) zz [.ref (ad 0)] (wX10 cI cZ cS ad σ) (wX10 cI cZ cS ad σ) rr := by
  refine q_ofI (cc := cX10_mostBrought) (maxL := 3) (ty := .int) (by decide) rfl (Nat.le_of_ble_eq_true rfl) ?_
  intro p e s m below meth c Q A ls hx hb hml hown hts hK hZ hA hP hD hS hl hret
  have hl : lv_has ls 3 [(0, .ref (ad 0))] := hl
  unfold pX10_mostBrought at hf
  refine lv_iconst (v := 0) hx hb dX10_mostBrought_0 (by decide) ?_
  refine lv_istore_n (lv' := [(1, .int (0 : Int32)), (0, .ref (ad 0))]) hx hb dX10_mostBrought_1 rfl hl (by decide) rfl (fun ls hl => ?_)
  refine lv_iconst (v := 1) hx hb dX10_mostBrought_2 (by decide) ?_
  refine lv_istore_n (lv' := [(2, .int (1 : Int32)), (1, .int (0 : Int32)), (0, .ref (ad 0))]) hx hb dX10_mostBrought_3 rfl hl (by decide) rfl (fun ls hl => ?_)
  refine q_lp_go (f := fun (zf : Int32 → Int32 → Option Int32) => zf (0 : Int32) (1 : Int32)) hf (fun z4 ez4 hf => ?_)
  have Lz4 : ∀ (n5 : Nat) (x1_1 : Int32) (x2_2 : Int32) (H : Heap) (locs : List Loc) (ls : Array Slot), va_P D vwCl ((wX10 cI cZ cS ad) σ) H → va_D A ((wX10 cI cZ cS ad) σ) → va_S A s.heap H locs → lv_has ls 3 [(0, .ref (ad 0)), (1, .int x1_1), (2, .int x2_2)] → q_lp (fun _ _ => none) z4 n5 x1_1 x2_2 = some rr → W p l e rmX10_mostBrought s m ([.ref (ad 0)] : List Value).toArray below meth c H locs 0 0 Q (F0 m 4 ls []) := by
    intro n5
    induction n5 with
    | zero => exact fun _ _ _ _ _ _ _ _ _ hf => q_no hf
    | succ n5 ihz4 =>
      intro x1_1 x2_2 H locs ls hP hD hS hl hf
      have hf := (congrFun (congrFun (congrFun ez4 (q_lp (fun _ _ => none) z4 n5)) x1_1) x2_2).symm.trans hf
      refine lv_iload_n hx hb dX10_mostBrought_4 rfl (lv_at hl 2 rfl) ?_
      refine lv_aload_n hx hb dX10_mostBrought_5 rfl (lv_at hl 0 rfl) ?_
      refine va_get (D := D) (ci := 10) (C := RX10) (T := TX10) (N := 5) hx hb hts fwX10_mostBrought_X10 hown hK hP 0 rfl rfl 0 (by decide) (hts _ (List.mem_of_getElem? (i := 1) rfl)) (fun _ h9 => h9) rfl dX10_mostBrought_6 ?_
      refine lv_icmp_ge (tgt := 35) hx hb dX10_mostBrought_9 (by decide) (fun h6 => ?_) (fun h6 => ?_)
      · have hf := (if_pos h6).symm.trans hf
        refine lv_iload_n hx hb dX10_mostBrought_35 rfl (lv_at hl 1 rfl) ?_
        have hi1 := Option.some.inj hf
        subst hi1
        exact hret _ _ _ _ dX10_mostBrought_36 rfl hP hS
      · have hf := (if_neg h6).symm.trans hf
        refine lv_aload_n hx hb dX10_mostBrought_12 rfl (lv_at hl 0 rfl) ?_
        refine va_get (D := D) (ci := 10) (C := RX10) (T := TX10) (N := 5) hx hb hts fwX10_mostBrought_X10 hown hK hP 0 rfl rfl 4 (by decide) (hts _ (List.mem_of_getElem? (i := 2) rfl)) (fun _ h9 => h9) rfl dX10_mostBrought_13 ?_
        refine lv_iload_n hx hb dX10_mostBrought_16 rfl (lv_at hl 2 rfl) ?_
        refine w_iald (wf := (wX10 cI cZ cS ad)) hx hb hK hP 4 0 rfl rfl hf dX10_mostBrought_17 (fun v7 hf => ?_)
        refine lv_aload_n hx hb dX10_mostBrought_18 rfl (lv_at hl 0 rfl) ?_
        refine va_get (D := D) (ci := 10) (C := RX10) (T := TX10) (N := 5) hx hb hts fwX10_mostBrought_X10 hown hK hP 0 rfl rfl 4 (by decide) (hts _ (List.mem_of_getElem? (i := 2) rfl)) (fun _ h9 => h9) rfl dX10_mostBrought_19 ?_
        refine lv_iload_n hx hb dX10_mostBrought_22 rfl (lv_at hl 1 rfl) ?_
        refine w_iald (wf := (wX10 cI cZ cS ad)) hx hb hK hP 4 0 rfl rfl hf dX10_mostBrought_23 (fun v8 hf => ?_)
        refine q_lt_go hf (fun j10 ej10 hf => ?_)
        have Jj10 : ∀ (x1_9 : Int32) (H : Heap) (locs : List Loc) (ls : Array Slot), va_P D vwCl ((wX10 cI cZ cS ad) σ) H → va_D A ((wX10 cI cZ cS ad) σ) → va_S A s.heap H locs → lv_has ls 3 [(0, .ref (ad 0)), (1, .int x1_9), (2, .int x2_2)] → j10 x1_9 = some rr → W p l e rmX10_mostBrought s m ([.ref (ad 0)] : List Value).toArray below meth c H locs 0 0 Q (F0 m 29 ls []) := by
          intro x1_9 H locs ls hP hD hS hl hf
          have hf := (congrFun ej10 x1_9).symm.trans hf
          refine lv_iinc (v := (x2_2 + (1 : Int32))) (lv' := [(2, .int (x2_2 + (1 : Int32))), (0, .ref (ad 0)), (1, .int x1_9)]) hx hb dX10_mostBrought_29 hl (k := 2) rfl rfl (by decide) rfl (fun ls hl => ?_)
          refine lv_goto (tgt := 4) hx hb dX10_mostBrought_32 (by decide) ?_
          exact ihz4 x1_9 (x2_2 + (1 : Int32)) _ _ _ hP hD hS (lv_sub hl [1, 2, 0] rfl) hf
        refine lv_icmp_le (tgt := 29) hx hb dX10_mostBrought_24 (by decide) (fun h11 => ?_) (fun h11 => ?_)
        · have hf := (if_pos h11).symm.trans hf
          exact Jj10 x1_1 _ _ _ hP hD hS (lv_sub hl [0, 1, 2] rfl) hf
        · have hf := (if_neg h11).symm.trans hf
          refine lv_iload_n hx hb dX10_mostBrought_27 rfl (lv_at hl 2 rfl) ?_
          refine lv_istore_n (lv' := [(1, .int x2_2), (0, .ref (ad 0)), (2, .int x2_2)]) hx hb dX10_mostBrought_28 rfl hl (by decide) rfl (fun ls hl => ?_)
          exact Jj10 x2_2 _ _ _ hP hD hS (lv_sub hl [1, 0, 2] rfl) hf
  exact Lz4 q_fu (0 : Int32) (1 : Int32) _ _ _ hP hD hS (lv_sub hl [2, 1, 0] rfl) hf
def pX10_isOfKind (σ : SS) (a1 : Int32) (a2 : Int32) : Option Int32 := q_rd (σ 1) 8 a1 (fun (v1 : Int32) => q_lp (fun _ _ => none) (fun (c4 : Int32 → Int32 → Option Int32) (x3_2 : Int32) (x4_3 : Int32) => q_lt (q_zz (0 : Int32) (some (0 : Int32))) (fun j7 => (if (7 : Int32) ≤ x4_3 then j7 else (if x3_2 < (0 : Int32) then j7 else (if x3_2 = a2 then q_zz (1 : Int32) (some (1 : Int32)) else q_rd k_above 7 x3_2 (fun (v11 : Int32) => c4 v11 (x4_3 + (1 : Int32)))))))) q_fu v1 (0 : Int32))
theorem fwX10_isOfKind_X10 : ∀ w ∈ wsX100, w ∈ wsX10_isOfKind := fun _ h => List.mem_cons_of_mem _ (List.mem_append_right _ h)
abbrev rmX10_isOfKind : Room := { frames := 0, cells := 0, slots := 0, locals := 0 }
set_option maxHeartbeats 4000000 in
set_option maxRecDepth 100000 in
theorem kX10_isOfKind (l : Launch) (D : va_G) (cI cZ cS : ClassId) (zz : ZT) (ad : Nat → Nat) (σ : SS) (a1 : Int32) (a2 : Int32) (rr : Int32) (hf : pX10_isOfKind σ a1 a2 = some rr) : CI l yX10_isOfKind wsX10_isOfKind rmX10_isOfKind D (K3 cI cZ cS) zz [.ref (ad 0), .int a1, .int a2] (wX10 cI cZ cS ad σ) (wX10 cI cZ cS ad σ) rr := by
  refine q_ofI (cc := cX10_isOfKind) (maxL := 5) (ty := .boolean) (by decide) rfl (Nat.le_of_ble_eq_true rfl) ?_
  intro p e s m below meth c Q A ls hx hb hml hown hts hK hZ hA hP hD hS hl hret
  have hl : lv_has ls 5 [(0, .ref (ad 0)), (1, .int a1), (2, .int a2)] := hl
  unfold pX10_isOfKind at hf
  refine lv_aload_n hx hb dX10_isOfKind_0 rfl (lv_at hl 0 rfl) ?_
  refine va_get (D := D) (ci := 10) (C := RX10) (T := TX10) (N := 5) hx hb hts fwX10_isOfKind_X10 hown hK hP 0 rfl rfl 1 (by decide) (hts _ (List.mem_of_getElem? (i := 1) rfl)) (fun _ h9 => h9) rfl dX10_isOfKind_1 ?_
  refine lv_iload_n hx hb dX10_isOfKind_4 rfl (lv_at hl 1 rfl) ?_
  refine w_iald (wf := (wX10 cI cZ cS ad)) hx hb hK hP 1 0 rfl rfl hf dX10_isOfKind_5 (fun v1 hf => ?_)
  refine lv_istore_n (lv' := [(3, .int v1), (0, .ref (ad 0)), (1, .int a1), (2, .int a2)]) hx hb dX10_isOfKind_6 rfl hl (by decide) rfl (fun ls hl => ?_)
  refine lv_iconst (v := 0) hx hb dX10_isOfKind_7 (by decide) ?_
  refine lv_istore (lv' := [(4, .int (0 : Int32)), (3, .int v1), (0, .ref (ad 0)), (1, .int a1), (2, .int a2)]) hx hb dX10_isOfKind_8 hl (by decide) rfl (fun ls hl => ?_)
  refine q_lp_go (f := fun (zf : Int32 → Int32 → Option Int32) => zf v1 (0 : Int32)) hf (fun z5 ez5 hf => ?_)
  have Lz5 : ∀ (n6 : Nat) (x3_2 : Int32) (x4_3 : Int32) (H : Heap) (locs : List Loc) (ls : Array Slot), va_P D vwCl ((wX10 cI cZ cS ad) σ) H → va_D A ((wX10 cI cZ cS ad) σ) → va_S A s.heap H locs → lv_has ls 5 [(2, .int a2), (3, .int x3_2), (4, .int x4_3)] → q_lp (fun _ _ => none) z5 n6 x3_2 x4_3 = some rr → W p l e rmX10_isOfKind s m ([.ref (ad 0), .int a1, .int a2] : List Value).toArray below meth c H locs 0 0 Q (F0 m 10 ls []) := by
    intro n6
    induction n6 with
    | zero => exact fun _ _ _ _ _ _ _ _ _ hf => q_no hf
    | succ n6 ihz5 =>
      intro x3_2 x4_3 H locs ls hP hD hS hl hf
      have hf := (congrFun (congrFun (congrFun ez5 (q_lp (fun _ _ => none) z5 n6)) x3_2) x4_3).symm.trans hf
      refine lv_iload hx hb dX10_isOfKind_10 (lv_at hl 2 rfl) ?_
      refine lv_bipush (v := 7) hx hb dX10_isOfKind_12 (by decide) ?_
      refine q_lt_go hf (fun j7 ej7 hf => ?_)
      have Jj7 : ∀ (H : Heap) (locs : List Loc) (ls : Array Slot), va_P D vwCl ((wX10 cI cZ cS ad) σ) H → va_D A ((wX10 cI cZ cS ad) σ) → va_S A s.heap H locs → lv_has ls 5 [] → j7 = some rr → W p l e rmX10_isOfKind s m ([.ref (ad 0), .int a1, .int a2] : List Value).toArray below meth c H locs 0 0 Q (F0 m 40 ls []) := by
        intro  H locs ls hP hD hS hl hf
        have hf := ej7.symm.trans hf
        refine lv_iconst (v := 0) hx hb dX10_isOfKind_40 (by decide) ?_
        obtain ⟨hz, hf⟩ := q_zz_o hf
        have hi1 := Option.some.inj hf
        subst hi1
        exact hret _ _ _ _ dX10_isOfKind_41 (q_zz_n hz).1 hP hS
      refine lv_icmp_ge (tgt := 40) hx hb dX10_isOfKind_14 (by decide) (fun h8 => ?_) (fun h8 => ?_)
      · have hf := (if_pos h8).symm.trans hf
        exact Jj7  _ _ _ hP hD hS (lv_sub hl [] rfl) hf
      · have hf := (if_neg h8).symm.trans hf
        refine lv_iload_n hx hb dX10_isOfKind_17 rfl (lv_at hl 1 rfl) ?_
        refine lv_if_lt (tgt := 40) hx hb dX10_isOfKind_18 (by decide) (fun h9 => ?_) (fun h9 => ?_)
        · have hf := (if_pos h9).symm.trans hf
          exact Jj7  _ _ _ hP hD hS (lv_sub hl [] rfl) hf
        · have hf := (if_neg h9).symm.trans hf
          refine lv_iload_n hx hb dX10_isOfKind_21 rfl (lv_at hl 1 rfl) ?_
          refine lv_iload_n hx hb dX10_isOfKind_22 rfl (lv_at hl 0 rfl) ?_
          refine lv_icmp_ne (tgt := 28) hx hb dX10_isOfKind_23 (by decide) (fun h10 => ?_) (fun h10 => ?_)
          · have hf := (if_neg h10).symm.trans hf
            refine va_getsN hx hb hZ.1.1 hS hown (va_Nw.use rfl hZ.2.2.2.2.2.1.2.2.2.1) (fun _ h9 => h9) dX10_isOfKind_28 ?_
            refine lv_iload_n hx hb dX10_isOfKind_31 rfl (lv_at hl 1 rfl) ?_
            refine w_tald hx hb hZ.1 hS hf dX10_isOfKind_32 (fun v11 hf => ?_)
            refine lv_istore_n (lv' := [(3, .int v11), (2, .int a2), (4, .int x4_3)]) hx hb dX10_isOfKind_33 rfl hl (by decide) rfl (fun ls hl => ?_)
            refine lv_iinc (v := (x4_3 + (1 : Int32))) (lv' := [(4, .int (x4_3 + (1 : Int32))), (3, .int v11), (2, .int a2)]) hx hb dX10_isOfKind_34 hl (k := 2) rfl rfl (by decide) rfl (fun ls hl => ?_)
            refine lv_goto (tgt := 10) hx hb dX10_isOfKind_37 (by decide) ?_
            exact ihz5 v11 (x4_3 + (1 : Int32)) _ _ _ hP hD hS (lv_sub hl [2, 1, 0] rfl) hf
          · have hf := (if_pos h10).symm.trans hf
            refine lv_iconst (v := 1) hx hb dX10_isOfKind_26 (by decide) ?_
            obtain ⟨hz, hf⟩ := q_zz_o hf
            have hi1 := Option.some.inj hf
            subst hi1
            exact hret _ _ _ _ dX10_isOfKind_27 (q_zz_n hz).1 hP hS
  exact Lz5 q_fu v1 (0 : Int32) _ _ _ hP hD hS (lv_sub hl [4, 1, 0] rfl) hf
