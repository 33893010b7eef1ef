def pX1_addUp (σ : SS) : Option SS := q_lp (fun _ _ => none) (fun (c3 : SS → Int32 → Option SS) (σ2 : SS) (x1_1 : Int32) => (if (σ2 2 0) ≤ x1_1 then some σ2 else q_lt ((1 : Int32) <<< (x1_1 &&& (31 : Int32))) (fun x2_7 => q_lp (fun _ _ => none) (fun (c10 : SS → Int32 → Option SS) (σ9 : SS) (x3_8 : Int32) => (if ((2 : Int32) * x2_7) ≤ x3_8 then c3 σ9 (x1_1 + (1 : Int32)) else q_rd (σ9 6) 1024 (x3_8 - x2_7) (fun (v14 : Int32) => q_rd (σ9 4) 10 x1_1 (fun (v15 : Int32) => q_wr σ9 6 1024 x3_8 (v14 + v15) (fun (σ16 : SS) => q_rd (σ16 7) 1024 (x3_8 - x2_7) (fun (v17 : Int32) => q_rd (σ16 3) 10 x1_1 (fun (v18 : Int32) => q_wr σ16 7 1024 x3_8 (v17 + v18) (fun (σ19 : SS) => c10 σ19 (x3_8 + (1 : Int32)))))))))) q_fu σ2 x2_7))) q_fu σ (0 : Int32)
theorem fwX1_addUp_X1 : ∀ w ∈ wsX10, w ∈ wsX1_addUp := fun _ h => List.mem_cons_of_mem _ (List.mem_append_left _ (List.mem_append_right _ h))
theorem fwX1_addUp_X9 : ∀ w ∈ wsX90, w ∈ wsX1_addUp := fun _ h => List.mem_cons_of_mem _ (List.mem_append_right _ h)
abbrev rmX1_addUp : Room := { frames := 0, cells := 0, slots := 0, locals := 0 }
set_option maxHeartbeats 4000000 in
set_option maxRecDepth 100000 in
theorem kX1_addUp (l : Launch) (D : va_G) (cI cZ cS : ClassId) (zz : ZT) (ad : Nat → Nat) (σ : SS) (σr : SS) (hf : pX1_addUp σ = some σr) : CV l yX1_addUp wsX1_addUp rmX1_addUp D (K3 cI cZ cS) zz [.ref (ad 0)] (wX1 cI cZ cS ad σ) (wX1 cI cZ cS ad σr) := by
  refine q_ofV (cc := cX1_addUp) (maxL := 4) (by decide) rfl (Nat.le_of_ble_eq_true rfl) ?_
  intro p e s m below meth c Q A ls hx hb hml hown hts hK hZ hA hP hD hS hl hret
  have hl : lv_has ls 4 [(0, .ref (ad 0))] := hl
  unfold pX1_addUp at hf
  refine lv_iconst (v := 0) hx hb dX1_addUp_0 (by decide) ?_
  refine lv_istore_n (lv' := [(1, .int (0 : Int32)), (0, .ref (ad 0))]) hx hb dX1_addUp_1 rfl hl (by decide) rfl (fun ls hl => ?_)
  refine q_lp_go (f := fun (zf : SS → Int32 → Option SS) => zf σ (0 : Int32)) hf (fun z4 ez4 hf => ?_)
  have Lz4 : ∀ (n5 : Nat) (σ2 : SS) (x1_1 : Int32) (H : Heap) (locs : List Loc) (ls : Array Slot), va_P D vwCl ((wX1 cI cZ cS ad) σ2) H → va_D A ((wX1 cI cZ cS ad) σ2) → va_S A s.heap H locs → lv_has ls 4 [(0, .ref (ad 0)), (1, .int x1_1)] → q_lp (fun _ _ => none) z4 n5 σ2 x1_1 = some σr → W p l e rmX1_addUp s m ([.ref (ad 0)] : List Value).toArray below meth c H locs 0 0 Q (F0 m 2 ls []) := by
    intro n5
    induction n5 with
    | zero => exact fun _ _ _ _ _ _ _ _ _ hf => q_no hf
    | succ n5 ihz4 =>
      intro σ2 x1_1 H locs ls hP hD hS hl hf
      have hf := (congrFun (congrFun (congrFun ez4 (q_lp (fun _ _ => none) z4 n5)) σ2) x1_1).symm.trans hf
      refine lv_iload_n hx hb dX1_addUp_2 rfl (lv_at hl 1 rfl) ?_
      refine lv_aload_n hx hb dX1_addUp_3 rfl (lv_at hl 0 rfl) ?_
      refine va_get (D := D) (ci := 1) (C := RX1) (T := TX1) (N := 5) hx hb hts fwX1_addUp_X1 hown hK hP 0 rfl rfl 1 (by decide) (hts _ (List.mem_of_getElem? (i := 1) rfl)) (fun _ h9 => h9) rfl dX1_addUp_4 ?_
      refine va_get (D := D) (ci := 9) (C := RX9) (T := TX9) (N := 6) hx hb hts fwX1_addUp_X9 hown hK hP 2 rfl rfl 0 (by decide) (hts _ (List.mem_of_getElem? (i := 2) rfl)) (fun _ h9 => h9) rfl dX1_addUp_7 ?_
      refine lv_icmp_ge (tgt := 86) hx hb dX1_addUp_10 (by decide) (fun h6 => ?_) (fun h6 => ?_)
      · have hf := (if_pos h6).symm.trans hf
        have hi1 := Option.some.inj hf
        subst hi1
        exact hret _ _ _ _ dX1_addUp_86 hP hS
      · have hf := (if_neg h6).symm.trans hf
        refine lv_iconst (v := 1) hx hb dX1_addUp_13 (by decide) ?_
        refine lv_iload_n hx hb dX1_addUp_14 rfl (lv_at hl 1 rfl) ?_
        refine lv_ishl hx hb dX1_addUp_15 ?_
        refine lv_topi (fun x2_7 ex2_7 => ?_)
        have hf := q_lt_at ex2_7 hf
        refine lv_istore_n (lv' := [(2, .int x2_7), (0, .ref (ad 0)), (1, .int x1_1)]) hx hb dX1_addUp_16 rfl hl (by decide) rfl (fun ls hl => ?_)
        refine lv_iload_n hx hb dX1_addUp_17 rfl (lv_at hl 0 rfl) ?_
        refine lv_istore_n (lv' := [(3, .int x2_7), (2, .int x2_7), (0, .ref (ad 0)), (1, .int x1_1)]) hx hb dX1_addUp_18 rfl hl (by decide) rfl (fun ls hl => ?_)
        refine q_lp_go (f := fun (zf : SS → Int32 → Option SS) => zf σ2 x2_7) hf (fun z11 ez11 hf => ?_)
        have Lz11 : ∀ (n12 : Nat) (σ9 : SS) (x3_8 : Int32) (H : Heap) (locs : List Loc) (ls : Array Slot), va_P D vwCl ((wX1 cI cZ cS ad) σ9) H → va_D A ((wX1 cI cZ cS ad) σ9) → va_S A s.heap H locs → lv_has ls 4 [(0, .ref (ad 0)), (1, .int x1_1), (2, .int x2_7), (3, .int x3_8)] → q_lp (fun _ _ => none) z11 n12 σ9 x3_8 = some σr → W p l e rmX1_addUp s m ([.ref (ad 0)] : List Value).toArray below meth c H locs 0 0 Q (F0 m 19 ls []) := by
          intro n12
          induction n12 with
          | zero => exact fun _ _ _ _ _ _ _ _ _ hf => q_no hf
          | succ n12 ihz11 =>
            intro σ9 x3_8 H locs ls hP hD hS hl hf
            have hf := (congrFun (congrFun (congrFun ez11 (q_lp (fun _ _ => none) z11 n12)) σ9) x3_8).symm.trans hf
            refine lv_iload_n hx hb dX1_addUp_19 rfl (lv_at hl 3 rfl) ?_
            refine lv_iconst (v := 2) hx hb dX1_addUp_20 (by decide) ?_
            refine lv_iload_n hx hb dX1_addUp_21 rfl (lv_at hl 2 rfl) ?_
            refine lv_imul hx hb dX1_addUp_22 ?_
            refine lv_icmp_ge (tgt := 80) hx hb dX1_addUp_23 (by decide) (fun h13 => ?_) (fun h13 => ?_)
            · have hf := (if_pos h13).symm.trans hf
              refine lv_iinc (v := (x1_1 + (1 : Int32))) (lv' := [(1, .int (x1_1 + (1 : Int32))), (0, .ref (ad 0)), (2, .int x2_7), (3, .int x3_8)]) hx hb dX1_addUp_80 hl (k := 1) rfl rfl (by decide) rfl (fun ls hl => ?_)
              refine lv_goto (tgt := 2) hx hb dX1_addUp_83 (by decide) ?_
              exact ihz4 σ9 (x1_1 + (1 : Int32)) _ _ _ hP hD hS (lv_sub hl [1, 0] rfl) hf
            · have hf := (if_neg h13).symm.trans hf
              refine lv_aload_n hx hb dX1_addUp_26 rfl (lv_at hl 0 rfl) ?_
              refine va_get (D := D) (ci := 1) (C := RX1) (T := TX1) (N := 5) hx hb hts fwX1_addUp_X1 hown hK hP 0 rfl rfl 2 (by decide) (hts _ (List.mem_of_getElem? (i := 3) rfl)) (fun _ h9 => h9) rfl dX1_addUp_27 ?_
              refine lv_iload_n hx hb dX1_addUp_30 rfl (lv_at hl 3 rfl) ?_
              refine lv_aload_n hx hb dX1_addUp_31 rfl (lv_at hl 0 rfl) ?_
              refine va_get (D := D) (ci := 1) (C := RX1) (T := TX1) (N := 5) hx hb hts fwX1_addUp_X1 hown hK hP 0 rfl rfl 2 (by decide) (hts _ (List.mem_of_getElem? (i := 3) rfl)) (fun _ h9 => h9) rfl dX1_addUp_32 ?_
              refine lv_iload_n hx hb dX1_addUp_35 rfl (lv_at hl 3 rfl) ?_
              refine lv_iload_n hx hb dX1_addUp_36 rfl (lv_at hl 2 rfl) ?_
              refine lv_isub hx hb dX1_addUp_37 ?_
              refine w_iald (wf := (wX1 cI cZ cS ad)) hx hb hK hP 6 0 rfl rfl hf dX1_addUp_38 (fun v14 hf => ?_)
              refine lv_aload_n hx hb dX1_addUp_39 rfl (lv_at hl 0 rfl) ?_
              refine va_get (D := D) (ci := 1) (C := RX1) (T := TX1) (N := 5) hx hb hts fwX1_addUp_X1 hown hK hP 0 rfl rfl 1 (by decide) (hts _ (List.mem_of_getElem? (i := 1) rfl)) (fun _ h9 => h9) rfl dX1_addUp_40 ?_
              refine va_get (D := D) (ci := 9) (C := RX9) (T := TX9) (N := 6) hx hb hts fwX1_addUp_X9 hown hK hP 2 rfl rfl 2 (by decide) (hts _ (List.mem_of_getElem? (i := 4) rfl)) (fun _ h9 => h9) rfl dX1_addUp_43 ?_
              refine lv_iload_n hx hb dX1_addUp_46 rfl (lv_at hl 1 rfl) ?_
              refine w_iald (wf := (wX1 cI cZ cS ad)) hx hb hK hP 4 0 rfl rfl hf dX1_addUp_47 (fun v15 hf => ?_)
              refine lv_iadd hx hb dX1_addUp_48 ?_
              refine w_iast (wf := (wX1 cI cZ cS ad)) (cid := 6) hx hb hK hP hD hS 6 0 rfl rfl hf (fun _ => rfl) dX1_addUp_49 (fun σ16 H locs hf hP hD hS => ?_)
              refine lv_aload_n hx hb dX1_addUp_50 rfl (lv_at hl 0 rfl) ?_
              refine va_get (D := D) (ci := 1) (C := RX1) (T := TX1) (N := 5) hx hb hts fwX1_addUp_X1 hown hK hP 0 rfl rfl 3 (by decide) (hts _ (List.mem_of_getElem? (i := 5) rfl)) (fun _ h9 => h9) rfl dX1_addUp_51 ?_
              refine lv_iload_n hx hb dX1_addUp_54 rfl (lv_at hl 3 rfl) ?_
              refine lv_aload_n hx hb dX1_addUp_55 rfl (lv_at hl 0 rfl) ?_
              refine va_get (D := D) (ci := 1) (C := RX1) (T := TX1) (N := 5) hx hb hts fwX1_addUp_X1 hown hK hP 0 rfl rfl 3 (by decide) (hts _ (List.mem_of_getElem? (i := 5) rfl)) (fun _ h9 => h9) rfl dX1_addUp_56 ?_
              refine lv_iload_n hx hb dX1_addUp_59 rfl (lv_at hl 3 rfl) ?_
              refine lv_iload_n hx hb dX1_addUp_60 rfl (lv_at hl 2 rfl) ?_
              refine lv_isub hx hb dX1_addUp_61 ?_
              refine w_iald (wf := (wX1 cI cZ cS ad)) hx hb hK hP 7 0 rfl rfl hf dX1_addUp_62 (fun v17 hf => ?_)
              refine lv_aload_n hx hb dX1_addUp_63 rfl (lv_at hl 0 rfl) ?_
              refine va_get (D := D) (ci := 1) (C := RX1) (T := TX1) (N := 5) hx hb hts fwX1_addUp_X1 hown hK hP 0 rfl rfl 1 (by decide) (hts _ (List.mem_of_getElem? (i := 1) rfl)) (fun _ h9 => h9) rfl dX1_addUp_64 ?_
              refine va_get (D := D) (ci := 9) (C := RX9) (T := TX9) (N := 6) hx hb hts fwX1_addUp_X9 hown hK hP 2 rfl rfl 1 (by decide) (hts _ (List.mem_of_getElem? (i := 6) rfl)) (fun _ h9 => h9) rfl dX1_addUp_67 ?_
              refine lv_iload_n hx hb dX1_addUp_70 rfl (lv_at hl 1 rfl) ?_
              refine w_iald (wf := (wX1 cI cZ cS ad)) hx hb hK hP 3 0 rfl rfl hf dX1_addUp_71 (fun v18 hf => ?_)
              refine lv_iadd hx hb dX1_addUp_72 ?_
              refine w_iast (wf := (wX1 cI cZ cS ad)) (cid := 7) hx hb hK hP hD hS 7 0 rfl rfl hf (fun _ => rfl) dX1_addUp_73 (fun σ19 H locs hf hP hD hS => ?_)
              refine lv_iinc (v := (x3_8 + (1 : Int32))) (lv' := [(3, .int (x3_8 + (1 : Int32))), (0, .ref (ad 0)), (1, .int x1_1), (2, .int x2_7)]) hx hb dX1_addUp_74 hl (k := 3) rfl rfl (by decide) rfl (fun ls hl => ?_)
              refine lv_goto (tgt := 19) hx hb dX1_addUp_77 (by decide) ?_
              exact ihz11 σ19 (x3_8 + (1 : Int32)) _ _ _ hP hD hS (lv_sub hl [1, 2, 3, 0] rfl) hf
        exact Lz11 q_fu σ2 x2_7 _ _ _ hP hD hS (lv_sub hl [2, 3, 1, 0] rfl) hf
  exact Lz4 q_fu σ (0 : Int32) _ _ _ hP hD hS (lv_sub hl [1, 0] rfl) hf
def pX1_shelved (σ : SS) (a1 : Int32) (a2 : Int32) : Option (Int32 × SS) := q_cs (pX1_addUp σ) (fun (τ : SS) => τ) (fun (σ1 : SS) => q_lp (fun _ _ => none) (fun (c4 : Int32 → Int32 → Option (Int32 × SS)) (x3_2 : Int32) (x4_3 : Int32) => (if ((1 : Int32) <<< ((σ1 2 0) &&& (31 : Int32))) ≤ x4_3 then q_lt (fun (y8 : Int32) => some (y8, σ1)) (fun j9 => (if a2 = (0 : Int32) then j9 x3_2 else q_rd (σ1 7) 1024 x3_2 (fun (v11 : Int32) => j9 v11))) else q_rd (σ1 6) 1024 x4_3 (fun (v12 : Int32) => q_lt (fun (x3_13 : Int32) => c4 x3_13 (x4_3 + (1 : Int32))) (fun j14 => (if a1 < v12 then j14 x3_2 else q_rd (σ1 7) 1024 x4_3 (fun (v16 : Int32) => q_rd (σ1 7) 1024 x3_2 (fun (v17 : Int32) => (if v16 ≤ v17 then j14 x3_2 else j14 x4_3)))))))) q_fu (0 : Int32) (1 : Int32))
theorem fwX1_shelved_X1 : ∀ w ∈ wsX10, w ∈ wsX1_shelved := fun _ h => List.mem_cons_of_mem _ (List.mem_append_left _ (List.mem_append_right _ h))
theorem fwX1_shelved_X9 : ∀ w ∈ wsX90, w ∈ wsX1_shelved := fun _ h => List.mem_cons_of_mem _ (List.mem_append_right _ h)
abbrev rmX1_shelved : Room := { frames := 1, cells := 0, slots := 0, locals := 23 }
set_option maxHeartbeats 4000000 in
set_option maxRecDepth 100000 in
theorem kX1_shelved (l : Launch) (D : va_G) (cI cZ cS : ClassId) (zz : ZT) (ad : Nat → Nat) (σ : SS) (a1 : Int32) (a2 : Int32) (rr : Int32) (σr : SS) (hf : pX1_shelved σ a1 a2 = some (rr, σr)) : CI l yX1_shelved wsX1_shelved rmX1_shelved D (K3 cI cZ cS) zz [.ref (ad 0), .int a1, .int a2] (wX1 cI cZ cS ad σ) (wX1 cI cZ cS ad σr) rr := by
  refine q_ofI (cc := cX1_shelved) (maxL := 5) (ty := .int) (by decide) rfl (Nat.le_of_ble_eq_true rfl) ?_
  intro p e s m below meth c Q A ls hx hb hml hown hts hK hZ hA hP hD hS hl hret
  have hl : lv_has ls 5 [(0, .ref (ad 0)), (1, .int a1), (2, .int a2)] := hl
  unfold pX1_shelved at hf
  refine lv_aload_n hx hb dX1_shelved_0 rfl (lv_at hl 0 rfl) ?_
  refine q_cVv (wf := (wX1 cI cZ cS ad)) (wc := wX1 cI cZ cS ad) (rest := []) ⟨hx, hb, hml, hown, hts⟩ hK hZ hA hP hD hS hf (fun x ho => kX1_addUp l D cI cZ cS zz ad σ x ho) (cwV 0 hts gX1_shelved_X1_addUp rfl rfl rfl ndX1_addUp ⟨Nat.le_of_ble_eq_true rfl, Nat.le_of_ble_eq_true rfl⟩) [0, 1, 2, 3, 4, 5, 6, 7, 8] rfl rfl [some 0, some 1, some 2, some 3, some 4, some 5, some 6, some 7, some 8] (by decide +kernel) (Nat.le_of_ble_eq_true rfl) (fun _ => rfl) (fun _ => rfl) (fun _ => rfl) rfl rfl rfl rfl (hl.1) rfl (Nat.le_of_ble_eq_true rfl) dX1_shelved_1 ⟨Nat.zero_le _, Nat.zero_le _⟩ (fun σ1 H locs hf hP hD hS => ?_)
  refine lv_iconst (v := 0) hx hb dX1_shelved_4 (by decide) ?_
  refine lv_istore_n (lv' := [(3, .int (0 : Int32)), (0, .ref (ad 0)), (1, .int a1), (2, .int a2)]) hx hb dX1_shelved_5 rfl hl (by decide) rfl (fun ls hl => ?_)
  refine lv_iconst (v := 1) hx hb dX1_shelved_6 (by decide) ?_
  refine lv_istore (lv' := [(4, .int (1 : Int32)), (3, .int (0 : Int32)), (0, .ref (ad 0)), (1, .int a1), (2, .int a2)]) hx hb dX1_shelved_7 hl (by decide) rfl (fun ls hl => ?_)
  refine q_lp_go (f := fun (zf : Int32 → Int32 → Option (Int32 × SS)) => zf (0 : Int32) (1 : Int32)) hf (fun z5 ez5 hf => ?_)
  have Lz5 : ∀ (n6 : Nat) (x3_2 : Int32) (x4_3 : Int32) (H : Heap) (locs : List Loc) (ls : Array Slot), va_P D vwCl ((wX1 cI cZ cS ad) σ1) H → va_D A ((wX1 cI cZ cS ad) σ1) → va_S A s.heap H locs → lv_has ls 5 [(0, .ref (ad 0)), (1, .int a1), (2, .int a2), (3, .int x3_2), (4, .int x4_3)] → q_lp (fun _ _ => none) z5 n6 x3_2 x4_3 = some (rr, σr) → W p l e rmX1_shelved s m ([.ref (ad 0), .int a1, .int a2] : List Value).toArray below meth c H locs 0 0 Q (F0 m 9 ls []) := by
    intro n6
    induction n6 with
    | zero => exact fun _ _ _ _ _ _ _ _ _ hf => q_no hf
    | succ n6 ihz5 =>
      intro x3_2 x4_3 H locs ls hP hD hS hl hf
      have hf := (congrFun (congrFun (congrFun ez5 (q_lp (fun _ _ => none) z5 n6)) x3_2) x4_3).symm.trans hf
      refine lv_iload hx hb dX1_shelved_9 (lv_at hl 4 rfl) ?_
      refine lv_iconst (v := 1) hx hb dX1_shelved_11 (by decide) ?_
      refine lv_aload_n hx hb dX1_shelved_12 rfl (lv_at hl 0 rfl) ?_
      refine va_get (D := D) (ci := 1) (C := RX1) (T := TX1) (N := 5) hx hb hts fwX1_shelved_X1 hown hK hP 0 rfl rfl 1 (by decide) (hts _ (List.mem_of_getElem? (i := 1) rfl)) (fun _ h9 => h9) rfl dX1_shelved_13 ?_
      refine va_get (D := D) (ci := 9) (C := RX9) (T := TX9) (N := 6) hx hb hts fwX1_shelved_X9 hown hK hP 2 rfl rfl 0 (by decide) (hts _ (List.mem_of_getElem? (i := 2) rfl)) (fun _ h9 => h9) rfl dX1_shelved_16 ?_
      refine lv_ishl hx hb dX1_shelved_19 ?_
      refine lv_icmp_ge (tgt := 59) hx hb dX1_shelved_20 (by decide) (fun h7 => ?_) (fun h7 => ?_)
      · have hf := (if_pos h7).symm.trans hf
        refine lv_iload_n hx hb dX1_shelved_59 rfl (lv_at hl 2 rfl) ?_
        refine q_lt_go hf (fun j9 ej9 hf => ?_)
        have Jj9 : ∀ (y8 : Int32) (H : Heap) (locs : List Loc) (ls : Array Slot), va_P D vwCl ((wX1 cI cZ cS ad) σ1) H → va_D A ((wX1 cI cZ cS ad) σ1) → va_S A s.heap H locs → lv_has ls 5 [] → j9 y8 = some (rr, σr) → W p l e rmX1_shelved s m ([.ref (ad 0), .int a1, .int a2] : List Value).toArray below meth c H locs 0 0 Q (F0 m 73 ls [.int y8]) := by
          intro y8 H locs ls hP hD hS hl hf
          have hf := (congrFun ej9 y8).symm.trans hf
          obtain ⟨hi1, hi2⟩ := Prod.mk.inj (Option.some.inj hf)
          subst hi1
          subst hi2
          exact hret _ _ _ _ dX1_shelved_73 rfl hP hS
        refine lv_if_ne (tgt := 67) hx hb dX1_shelved_60 (by decide) (fun h10 => ?_) (fun h10 => ?_)
        · have hf := (if_neg h10).symm.trans hf
          refine lv_aload_n hx hb dX1_shelved_67 rfl (lv_at hl 0 rfl) ?_
          refine va_get (D := D) (ci := 1) (C := RX1) (T := TX1) (N := 5) hx hb hts fwX1_shelved_X1 hown hK hP 0 rfl rfl 3 (by decide) (hts _ (List.mem_of_getElem? (i := 4) rfl)) (fun _ h9 => h9) rfl dX1_shelved_68 ?_
          refine lv_iload_n hx hb dX1_shelved_71 rfl (lv_at hl 3 rfl) ?_
          refine w_iald (wf := (wX1 cI cZ cS ad)) hx hb hK hP 7 0 rfl rfl hf dX1_shelved_72 (fun v11 hf => ?_)
          exact Jj9 v11 _ _ _ hP hD hS (lv_sub hl [] rfl) hf
        · have hf := (if_pos h10).symm.trans hf
          refine lv_iload_n hx hb dX1_shelved_63 rfl (lv_at hl 3 rfl) ?_
          refine lv_goto (tgt := 73) hx hb dX1_shelved_64 (by decide) ?_
          exact Jj9 x3_2 _ _ _ hP hD hS (lv_sub hl [] rfl) hf
      · have hf := (if_neg h7).symm.trans hf
        refine lv_aload_n hx hb dX1_shelved_23 rfl (lv_at hl 0 rfl) ?_
        refine va_get (D := D) (ci := 1) (C := RX1) (T := TX1) (N := 5) hx hb hts fwX1_shelved_X1 hown hK hP 0 rfl rfl 2 (by decide) (hts _ (List.mem_of_getElem? (i := 3) rfl)) (fun _ h9 => h9) rfl dX1_shelved_24 ?_
        refine lv_iload hx hb dX1_shelved_27 (lv_at hl 4 rfl) ?_
        refine w_iald (wf := (wX1 cI cZ cS ad)) hx hb hK hP 6 0 rfl rfl hf dX1_shelved_29 (fun v12 hf => ?_)
        refine lv_iload_n hx hb dX1_shelved_30 rfl (lv_at hl 1 rfl) ?_
        refine q_lt_go hf (fun j14 ej14 hf => ?_)
        have Jj14 : ∀ (x3_13 : Int32) (H : Heap) (locs : List Loc) (ls : Array Slot), va_P D vwCl ((wX1 cI cZ cS ad) σ1) H → va_D A ((wX1 cI cZ cS ad) σ1) → va_S A s.heap H locs → lv_has ls 5 [(0, .ref (ad 0)), (1, .int a1), (2, .int a2), (3, .int x3_13), (4, .int x4_3)] → j14 x3_13 = some (rr, σr) → W p l e rmX1_shelved s m ([.ref (ad 0), .int a1, .int a2] : List Value).toArray below meth c H locs 0 0 Q (F0 m 53 ls []) := by
          intro x3_13 H locs ls hP hD hS hl hf
          have hf := (congrFun ej14 x3_13).symm.trans hf
          refine lv_iinc (v := (x4_3 + (1 : Int32))) (lv' := [(4, .int (x4_3 + (1 : Int32))), (0, .ref (ad 0)), (1, .int a1), (2, .int a2), (3, .int x3_13)]) hx hb dX1_shelved_53 hl (k := 4) rfl rfl (by decide) rfl (fun ls hl => ?_)
          refine lv_goto (tgt := 9) hx hb dX1_shelved_56 (by decide) ?_
          exact ihz5 x3_13 (x4_3 + (1 : Int32)) _ _ _ hP hD hS (lv_sub hl [1, 2, 3, 4, 0] rfl) hf
        refine lv_icmp_gt (tgt := 53) hx hb dX1_shelved_31 (by decide) (fun h15 => ?_) (fun h15 => ?_)
        · have hf := (if_pos h15).symm.trans hf
          exact Jj14 x3_2 _ _ _ hP hD hS (lv_sub hl [0, 1, 2, 3, 4] rfl) hf
        · have hf := (if_neg h15).symm.trans hf
          refine lv_aload_n hx hb dX1_shelved_34 rfl (lv_at hl 0 rfl) ?_
          refine va_get (D := D) (ci := 1) (C := RX1) (T := TX1) (N := 5) hx hb hts fwX1_shelved_X1 hown hK hP 0 rfl rfl 3 (by decide) (hts _ (List.mem_of_getElem? (i := 4) rfl)) (fun _ h9 => h9) rfl dX1_shelved_35 ?_
          refine lv_iload hx hb dX1_shelved_38 (lv_at hl 4 rfl) ?_
          refine w_iald (wf := (wX1 cI cZ cS ad)) hx hb hK hP 7 0 rfl rfl hf dX1_shelved_40 (fun v16 hf => ?_)
          refine lv_aload_n hx hb dX1_shelved_41 rfl (lv_at hl 0 rfl) ?_
          refine va_get (D := D) (ci := 1) (C := RX1) (T := TX1) (N := 5) hx hb hts fwX1_shelved_X1 hown hK hP 0 rfl rfl 3 (by decide) (hts _ (List.mem_of_getElem? (i := 4) rfl)) (fun _ h9 => h9) rfl dX1_shelved_42 ?_
          refine lv_iload_n hx hb dX1_shelved_45 rfl (lv_at hl 3 rfl) ?_
          refine w_iald (wf := (wX1 cI cZ cS ad)) hx hb hK hP 7 0 rfl rfl hf dX1_shelved_46 (fun v17 hf => ?_)
          refine lv_icmp_le (tgt := 53) hx hb dX1_shelved_47 (by decide) (fun h18 => ?_) (fun h18 => ?_)
          · have hf := (if_pos h18).symm.trans hf
            exact Jj14 x3_2 _ _ _ hP hD hS (lv_sub hl [0, 1, 2, 3, 4] rfl) hf
          · have hf := (if_neg h18).symm.trans hf
            refine lv_iload hx hb dX1_shelved_50 (lv_at hl 4 rfl) ?_
            refine lv_istore_n (lv' := [(3, .int x4_3), (0, .ref (ad 0)), (1, .int a1), (2, .int a2), (4, .int x4_3)]) hx hb dX1_shelved_52 rfl hl (by decide) rfl (fun ls hl => ?_)
            exact Jj14 x4_3 _ _ _ hP hD hS (lv_sub hl [1, 2, 3, 0, 4] rfl) hf
  exact Lz5 q_fu (0 : Int32) (1 : Int32) _ _ _ hP hD hS (lv_sub hl [2, 3, 4, 1, 0] rfl) hf
def pX1_hasLast (σ : SS) (a1 : Int32) : Option Int32 := q_lp (fun _ => none) (fun (c2 : Int32 → Option Int32) (x2_1 : Int32) => (if (σ 2 0) ≤ x2_1 then q_zz (0 : Int32) (some (0 : Int32)) else q_lt ((1 : Int32) <<< (x2_1 &&& (31 : Int32))) (fun x3_6 => q_lt (c2 (x2_1 + (1 : Int32))) (fun j7 => (if (a1 &&& x3_6) = (0 : Int32) then j7 else q_rd (σ 6) 1024 a1 (fun (v9 : Int32) => q_rd (σ 1) 10 x2_1 (fun (v10 : Int32) => (if v10 < v9 then j7 else q_rd (σ 8) 1024 (a1 - x3_6) (fun (v12 : Int32) => (if v12 = (0 : Int32) then j7 else q_zz (1 : Int32) (some (1 : Int32)))))))))))) q_fu (0 : Int32)
theorem fwX1_hasLast_X1 : ∀ w ∈ wsX10, w ∈ wsX1_hasLast := fun _ h => List.mem_cons_of_mem _ (List.mem_append_left _ (List.mem_append_right _ h))
theorem fwX1_hasLast_X9 : ∀ w ∈ wsX90, w ∈ wsX1_hasLast := fun _ h => List.mem_cons_of_mem _ (List.mem_append_right _ h)
abbrev rmX1_hasLast : Room := { frames := 0, cells := 0, slots := 0, locals := 0 }
set_option maxHeartbeats 4000000 in
set_option maxRecDepth 100000 in
theorem kX1_hasLast (l : Launch) (D : va_G) (cI cZ cS : ClassId) (zz : ZT) (ad : Nat → Nat) (σ : SS) (a1 : Int32) (rr : Int32) (hf : pX1_hasLast σ a1 = some rr) : CI l yX1_hasLast wsX1_hasLast rmX1_hasLast D (K3 cI cZ cS) zz [.ref (ad 0), .int a1] (wX1 cI cZ cS ad σ) (wX1 cI cZ cS ad σ) rr := by
  refine q_ofI (cc := cX1_hasLast) (maxL := 4) (ty := .boolean) (by decide) rfl (Nat.le_of_ble_eq_true rfl) ?_
  intro p e s m below meth c Q A ls hx hb hml hown hts hK hZ hA hP hD hS hl hret
  have hl : lv_has ls 4 [(0, .ref (ad 0)), (1, .int a1)] := hl
  unfold pX1_hasLast at hf
  refine lv_iconst (v := 0) hx hb dX1_hasLast_0 (by decide) ?_
  refine lv_istore_n (lv' := [(2, .int (0 : Int32)), (0, .ref (ad 0)), (1, .int a1)]) hx hb dX1_hasLast_1 rfl hl (by decide) rfl (fun ls hl => ?_)
  refine q_lp_go (f := fun (zf : Int32 → Option Int32) => zf (0 : Int32)) hf (fun z3 ez3 hf => ?_)
  have Lz3 : ∀ (n4 : Nat) (x2_1 : Int32) (H : Heap) (locs : List Loc) (ls : Array Slot), va_P D vwCl ((wX1 cI cZ cS ad) σ) H → va_D A ((wX1 cI cZ cS ad) σ) → va_S A s.heap H locs → lv_has ls 4 [(0, .ref (ad 0)), (1, .int a1), (2, .int x2_1)] → q_lp (fun _ => none) z3 n4 x2_1 = some rr → W p l e rmX1_hasLast s m ([.ref (ad 0), .int a1] : List Value).toArray below meth c H locs 0 0 Q (F0 m 2 ls []) := by
    intro n4
    induction n4 with
    | zero => exact fun _ _ _ _ _ _ _ _ hf => q_no hf
    | succ n4 ihz3 =>
      intro x2_1 H locs ls hP hD hS hl hf
      have hf := (congrFun (congrFun ez3 (q_lp (fun _ => none) z3 n4)) x2_1).symm.trans hf
      refine lv_iload_n hx hb dX1_hasLast_2 rfl (lv_at hl 2 rfl) ?_
      refine lv_aload_n hx hb dX1_hasLast_3 rfl (lv_at hl 0 rfl) ?_
      refine va_get (D := D) (ci := 1) (C := RX1) (T := TX1) (N := 5) hx hb hts fwX1_hasLast_X1 hown hK hP 0 rfl rfl 1 (by decide) (hts _ (List.mem_of_getElem? (i := 1) rfl)) (fun _ h9 => h9) rfl dX1_hasLast_4 ?_
      refine va_get (D := D) (ci := 9) (C := RX9) (T := TX9) (N := 6) hx hb hts fwX1_hasLast_X9 hown hK hP 2 rfl rfl 0 (by decide) (hts _ (List.mem_of_getElem? (i := 2) rfl)) (fun _ h9 => h9) rfl dX1_hasLast_7 ?_
      refine lv_icmp_ge (tgt := 57) hx hb dX1_hasLast_10 (by decide) (fun h5 => ?_) (fun h5 => ?_)
      · have hf := (if_pos h5).symm.trans hf
        refine lv_iconst (v := 0) hx hb dX1_hasLast_57 (by decide) ?_
        obtain ⟨hz, hf⟩ := q_zz_o hf
        have hi1 := Option.some.inj hf
        subst hi1
        exact hret _ _ _ _ dX1_hasLast_58 (q_zz_n hz).1 hP hS
      · have hf := (if_neg h5).symm.trans hf
        refine lv_iconst (v := 1) hx hb dX1_hasLast_13 (by decide) ?_
        refine lv_iload_n hx hb dX1_hasLast_14 rfl (lv_at hl 2 rfl) ?_
        refine lv_ishl hx hb dX1_hasLast_15 ?_
        refine lv_topi (fun x3_6 ex3_6 => ?_)
        have hf := q_lt_at ex3_6 hf
        refine lv_istore_n (lv' := [(3, .int x3_6), (0, .ref (ad 0)), (1, .int a1), (2, .int x2_1)]) hx hb dX1_hasLast_16 rfl hl (by decide) rfl (fun ls hl => ?_)
        refine lv_iload_n hx hb dX1_hasLast_17 rfl (lv_at hl 2 rfl) ?_
        refine lv_iload_n hx hb dX1_hasLast_18 rfl (lv_at hl 0 rfl) ?_
        refine lv_iand hx hb dX1_hasLast_19 ?_
        refine q_lt_go hf (fun j7 ej7 hf => ?_)
        have Jj7 : ∀ (H : Heap) (locs : List Loc) (ls : Array Slot), va_P D vwCl ((wX1 cI cZ cS ad) σ) H → va_D A ((wX1 cI cZ cS ad) σ) → va_S A s.heap H locs → lv_has ls 4 [(0, .ref (ad 0)), (1, .int a1), (2, .int x2_1)] → j7 = some rr → W p l e rmX1_hasLast s m ([.ref (ad 0), .int a1] : List Value).toArray below meth c H locs 0 0 Q (F0 m 51 ls []) := by
          intro  H locs ls hP hD hS hl hf
          have hf := ej7.symm.trans hf
          refine lv_iinc (v := (x2_1 + (1 : Int32))) (lv' := [(2, .int (x2_1 + (1 : Int32))), (0, .ref (ad 0)), (1, .int a1)]) hx hb dX1_hasLast_51 hl (k := 2) rfl rfl (by decide) rfl (fun ls hl => ?_)
          refine lv_goto (tgt := 2) hx hb dX1_hasLast_54 (by decide) ?_
          exact ihz3 (x2_1 + (1 : Int32)) _ _ _ hP hD hS (lv_sub hl [1, 2, 0] rfl) hf
        refine lv_if_eq (tgt := 51) hx hb dX1_hasLast_20 (by decide) (fun h8 => ?_) (fun h8 => ?_)
        · have hf := (if_pos h8).symm.trans hf
          exact Jj7  _ _ _ hP hD hS (lv_sub hl [1, 2, 3] rfl) hf
        · have hf := (if_neg h8).symm.trans hf
          refine lv_aload_n hx hb dX1_hasLast_23 rfl (lv_at hl 1 rfl) ?_
          refine va_get (D := D) (ci := 1) (C := RX1) (T := TX1) (N := 5) hx hb hts fwX1_hasLast_X1 hown hK hP 0 rfl rfl 2 (by decide) (hts _ (List.mem_of_getElem? (i := 3) rfl)) (fun _ h9 => h9) rfl dX1_hasLast_24 ?_
          refine lv_iload_n hx hb dX1_hasLast_27 rfl (lv_at hl 2 rfl) ?_
          refine w_iald (wf := (wX1 cI cZ cS ad)) hx hb hK hP 6 0 rfl rfl hf dX1_hasLast_28 (fun v9 hf => ?_)
          refine lv_aload_n hx hb dX1_hasLast_29 rfl (lv_at hl 1 rfl) ?_
          refine va_get (D := D) (ci := 1) (C := RX1) (T := TX1) (N := 5) hx hb hts fwX1_hasLast_X1 hown hK hP 0 rfl rfl 0 (by decide) (hts _ (List.mem_of_getElem? (i := 4) rfl)) (fun _ h9 => h9) rfl dX1_hasLast_30 ?_
          refine lv_iload_n hx hb dX1_hasLast_33 rfl (lv_at hl 3 rfl) ?_
          refine w_iald (wf := (wX1 cI cZ cS ad)) hx hb hK hP 1 0 rfl rfl hf dX1_hasLast_34 (fun v10 hf => ?_)
          refine lv_icmp_gt (tgt := 51) hx hb dX1_hasLast_35 (by decide) (fun h11 => ?_) (fun h11 => ?_)
          · have hf := (if_pos h11).symm.trans hf
            exact Jj7  _ _ _ hP hD hS (lv_sub hl [1, 2, 3] rfl) hf
          · have hf := (if_neg h11).symm.trans hf
            refine lv_aload_n hx hb dX1_hasLast_38 rfl (lv_at hl 1 rfl) ?_
            refine va_get (D := D) (ci := 1) (C := RX1) (T := TX1) (N := 5) hx hb hts fwX1_hasLast_X1 hown hK hP 0 rfl rfl 4 (by decide) (hts _ (List.mem_of_getElem? (i := 5) rfl)) (fun _ h9 => h9) rfl dX1_hasLast_39 ?_
            refine lv_iload_n hx hb dX1_hasLast_42 rfl (lv_at hl 2 rfl) ?_
            refine lv_iload_n hx hb dX1_hasLast_43 rfl (lv_at hl 0 rfl) ?_
            refine lv_isub hx hb dX1_hasLast_44 ?_
            refine w_zald (wf := (wX1 cI cZ cS ad)) hx hb hK hP 8 1 rfl rfl hf dX1_hasLast_45 (fun v12 hf => ?_)
            refine lv_if_eq (tgt := 51) hx hb dX1_hasLast_46 (by decide) (fun h13 => ?_) (fun h13 => ?_)
            · have hf := (if_pos h13).symm.trans hf
              exact Jj7  _ _ _ hP hD hS (lv_sub hl [1, 2, 3] rfl) hf
            · have hf := (if_neg h13).symm.trans hf
              refine lv_iconst (v := 1) hx hb dX1_hasLast_49 (by decide) ?_
              obtain ⟨hz, hf⟩ := q_zz_o hf
              have hi1 := Option.some.inj hf
              subst hi1
              exact hret _ _ _ _ dX1_hasLast_50 (q_zz_n hz).1 hP hS
  exact Lz3 q_fu (0 : Int32) _ _ _ hP hD hS (lv_sub hl [1, 2, 0] rfl) hf
def pX1_weightUpTo (σ : SS) (a1 : Int32) (a2 : Int32) : Option Int32 := q_lp (fun _ _ => none) (fun (c3 : Int32 → Int32 → Option Int32) (x3_1 : Int32) (x4_2 : Int32) => (if (σ 2 0) ≤ x4_2 then some x3_1 else q_lt (fun (x3_7 : Int32) => c3 x3_7 (x4_2 + (1 : Int32))) (fun j8 => (if (a2 &&& ((1 : Int32) <<< (x4_2 &&& (31 : Int32)))) = (0 : Int32) then j8 x3_1 else q_rd (σ 1) 10 x4_2 (fun (v10 : Int32) => (if a1 < v10 then j8 x3_1 else q_rd (σ 4) 10 x4_2 (fun (v12 : Int32) => q_lt (x3_1 + v12) (fun x3_13 => j8 x3_13)))))))) q_fu (0 : Int32) (0 : Int32)
theorem fwX1_weightUpTo_X1 : ∀ w ∈ wsX10, w ∈ wsX1_weightUpTo := fun _ h => List.mem_cons_of_mem _ (List.mem_append_left _ (List.mem_append_right _ h))
theorem fwX1_weightUpTo_X9 : ∀ w ∈ wsX90, w ∈ wsX1_weightUpTo := fun _ h => List.mem_cons_of_mem _ (List.mem_append_right _ h)
abbrev rmX1_weightUpTo : Room := { frames := 0, cells := 0, slots := 0, locals := 0 }
set_option maxHeartbeats 4000000 in
set_option maxRecDepth 100000 in
theorem kX1_weightUpTo (l : Launch) (D : va_G) (cI cZ cS : ClassId) (zz : ZT) (ad : Nat → Nat) (σ : SS) (a1 : Int32) (a2 : Int32) (rr : Int32) (hf : pX1_weightUpTo σ a1 a2 = some rr) : CI l yX1_weightUpTo wsX1_weightUpTo rmX1_weightUpTo D (K3 cI cZ cS) zz [.ref (ad 0), .int a1, .int a2] (wX1 cI cZ cS ad σ) (wX1 cI cZ cS ad σ) rr := by
  refine q_ofI (cc := cX1_weightUpTo) (maxL := 5) (ty := .int) (by decide) rfl (Nat.le_of_ble_eq_true rfl) ?_
  intro p e s m below meth c Q A ls hx hb hml hown hts hK hZ hA hP hD hS hl hret
  have hl : lv_has ls 5 [(0, .ref (ad 0)), (1, .int a1), (2, .int a2)] := hl
  unfold pX1_weightUpTo at hf
  refine lv_iconst (v := 0) hx hb dX1_weightUpTo_0 (by decide) ?_
  refine lv_istore_n (lv' := [(3, .int (0 : Int32)), (0, .ref (ad 0)), (1, .int a1), (2, .int a2)]) hx hb dX1_weightUpTo_1 rfl hl (by decide) rfl (fun ls hl => ?_)
  refine lv_iconst (v := 0) hx hb dX1_weightUpTo_2 (by decide) ?_
  refine lv_istore (lv' := [(4, .int (0 : Int32)), (3, .int (0 : Int32)), (0, .ref (ad 0)), (1, .int a1), (2, .int a2)]) hx hb dX1_weightUpTo_3 hl (by decide) rfl (fun ls hl => ?_)
  refine q_lp_go (f := fun (zf : Int32 → Int32 → Option Int32) => zf (0 : Int32) (0 : Int32)) hf (fun z4 ez4 hf => ?_)
  have Lz4 : ∀ (n5 : Nat) (x3_1 : Int32) (x4_2 : Int32) (H : Heap) (locs : List Loc) (ls : Array Slot), va_P D vwCl ((wX1 cI cZ cS ad) σ) H → va_D A ((wX1 cI cZ cS ad) σ) → va_S A s.heap H locs → lv_has ls 5 [(0, .ref (ad 0)), (1, .int a1), (2, .int a2), (3, .int x3_1), (4, .int x4_2)] → q_lp (fun _ _ => none) z4 n5 x3_1 x4_2 = some rr → W p l e rmX1_weightUpTo s m ([.ref (ad 0), .int a1, .int a2] : List Value).toArray below meth c H locs 0 0 Q (F0 m 5 ls []) := by
    intro n5
    induction n5 with
    | zero => exact fun _ _ _ _ _ _ _ _ _ hf => q_no hf
    | succ n5 ihz4 =>
      intro x3_1 x4_2 H locs ls hP hD hS hl hf
      have hf := (congrFun (congrFun (congrFun ez4 (q_lp (fun _ _ => none) z4 n5)) x3_1) x4_2).symm.trans hf
      refine lv_iload hx hb dX1_weightUpTo_5 (lv_at hl 4 rfl) ?_
      refine lv_aload_n hx hb dX1_weightUpTo_7 rfl (lv_at hl 0 rfl) ?_
      refine va_get (D := D) (ci := 1) (C := RX1) (T := TX1) (N := 5) hx hb hts fwX1_weightUpTo_X1 hown hK hP 0 rfl rfl 1 (by decide) (hts _ (List.mem_of_getElem? (i := 1) rfl)) (fun _ h9 => h9) rfl dX1_weightUpTo_8 ?_
      refine va_get (D := D) (ci := 9) (C := RX9) (T := TX9) (N := 6) hx hb hts fwX1_weightUpTo_X9 hown hK hP 2 rfl rfl 0 (by decide) (hts _ (List.mem_of_getElem? (i := 2) rfl)) (fun _ h9 => h9) rfl dX1_weightUpTo_11 ?_
      refine lv_icmp_ge (tgt := 56) hx hb dX1_weightUpTo_14 (by decide) (fun h6 => ?_) (fun h6 => ?_)
      · have hf := (if_pos h6).symm.trans hf
        refine lv_iload_n hx hb dX1_weightUpTo_56 rfl (lv_at hl 3 rfl) ?_
        have hi1 := Option.some.inj hf
        subst hi1
        exact hret _ _ _ _ dX1_weightUpTo_57 rfl hP hS
      · have hf := (if_neg h6).symm.trans hf
        refine lv_iload_n hx hb dX1_weightUpTo_17 rfl (lv_at hl 2 rfl) ?_
        refine lv_iconst (v := 1) hx hb dX1_weightUpTo_18 (by decide) ?_
        refine lv_iload hx hb dX1_weightUpTo_19 (lv_at hl 4 rfl) ?_
        refine lv_ishl hx hb dX1_weightUpTo_21 ?_
        refine lv_iand hx hb dX1_weightUpTo_22 ?_
        refine q_lt_go hf (fun j8 ej8 hf => ?_)
        have Jj8 : ∀ (x3_7 : Int32) (H : Heap) (locs : List Loc) (ls : Array Slot), va_P D vwCl ((wX1 cI cZ cS ad) σ) H → va_D A ((wX1 cI cZ cS ad) σ) → va_S A s.heap H locs → lv_has ls 5 [(0, .ref (ad 0)), (1, .int a1), (2, .int a2), (3, .int x3_7), (4, .int x4_2)] → j8 x3_7 = some rr → W p l e rmX1_weightUpTo s m ([.ref (ad 0), .int a1, .int a2] : List Value).toArray below meth c H locs 0 0 Q (F0 m 50 ls []) := by
          intro x3_7 H locs ls hP hD hS hl hf
          have hf := (congrFun ej8 x3_7).symm.trans hf
          refine lv_iinc (v := (x4_2 + (1 : Int32))) (lv' := [(4, .int (x4_2 + (1 : Int32))), (0, .ref (ad 0)), (1, .int a1), (2, .int a2), (3, .int x3_7)]) hx hb dX1_weightUpTo_50 hl (k := 4) rfl rfl (by decide) rfl (fun ls hl => ?_)
          refine lv_goto (tgt := 5) hx hb dX1_weightUpTo_53 (by decide) ?_
          exact ihz4 x3_7 (x4_2 + (1 : Int32)) _ _ _ hP hD hS (lv_sub hl [1, 2, 3, 4, 0] rfl) hf
        refine lv_if_eq (tgt := 50) hx hb dX1_weightUpTo_23 (by decide) (fun h9 => ?_) (fun h9 => ?_)
        · have hf := (if_pos h9).symm.trans hf
          exact Jj8 x3_1 _ _ _ hP hD hS (lv_sub hl [0, 1, 2, 3, 4] rfl) hf
        · have hf := (if_neg h9).symm.trans hf
          refine lv_aload_n hx hb dX1_weightUpTo_26 rfl (lv_at hl 0 rfl) ?_
          refine va_get (D := D) (ci := 1) (C := RX1) (T := TX1) (N := 5) hx hb hts fwX1_weightUpTo_X1 hown hK hP 0 rfl rfl 0 (by decide) (hts _ (List.mem_of_getElem? (i := 3) rfl)) (fun _ h9 => h9) rfl dX1_weightUpTo_27 ?_
          refine lv_iload hx hb dX1_weightUpTo_30 (lv_at hl 4 rfl) ?_
          refine w_iald (wf := (wX1 cI cZ cS ad)) hx hb hK hP 1 0 rfl rfl hf dX1_weightUpTo_32 (fun v10 hf => ?_)
          refine lv_iload_n hx hb dX1_weightUpTo_33 rfl (lv_at hl 1 rfl) ?_
          refine lv_icmp_gt (tgt := 50) hx hb dX1_weightUpTo_34 (by decide) (fun h11 => ?_) (fun h11 => ?_)
          · have hf := (if_pos h11).symm.trans hf
            exact Jj8 x3_1 _ _ _ hP hD hS (lv_sub hl [0, 1, 2, 3, 4] rfl) hf
          · have hf := (if_neg h11).symm.trans hf
            refine lv_iload_n hx hb dX1_weightUpTo_37 rfl (lv_at hl 3 rfl) ?_
            refine lv_aload_n hx hb dX1_weightUpTo_38 rfl (lv_at hl 0 rfl) ?_
            refine va_get (D := D) (ci := 1) (C := RX1) (T := TX1) (N := 5) hx hb hts fwX1_weightUpTo_X1 hown hK hP 0 rfl rfl 1 (by decide) (hts _ (List.mem_of_getElem? (i := 1) rfl)) (fun _ h9 => h9) rfl dX1_weightUpTo_39 ?_
            refine va_get (D := D) (ci := 9) (C := RX9) (T := TX9) (N := 6) hx hb hts fwX1_weightUpTo_X9 hown hK hP 2 rfl rfl 2 (by decide) (hts _ (List.mem_of_getElem? (i := 4) rfl)) (fun _ h9 => h9) rfl dX1_weightUpTo_42 ?_
            refine lv_iload hx hb dX1_weightUpTo_45 (lv_at hl 4 rfl) ?_
            refine w_iald (wf := (wX1 cI cZ cS ad)) hx hb hK hP 4 0 rfl rfl hf dX1_weightUpTo_47 (fun v12 hf => ?_)
            refine lv_iadd hx hb dX1_weightUpTo_48 ?_
            refine lv_topi (fun x3_13 ex3_13 => ?_)
            have hf := q_lt_at ex3_13 hf
            refine lv_istore_n (lv' := [(3, .int x3_13), (0, .ref (ad 0)), (1, .int a1), (2, .int a2), (4, .int x4_2)]) hx hb dX1_weightUpTo_49 rfl hl (by decide) rfl (fun ls hl => ?_)
            exact Jj8 x3_13 _ _ _ hP hD hS (lv_sub hl [1, 2, 3, 0, 4] rfl) hf
  exact Lz4 q_fu (0 : Int32) (0 : Int32) _ _ _ hP hD hS (lv_sub hl [2, 3, 4, 1, 0] rfl) hf
def pX1_canBeFirst (σ : SS) (a1 : Int32) (a2 : Int32) : Option Int32 := q_lt (a2 &&& (((1 : Int32) <<< (a1 &&& (31 : Int32))) ^^^ (-1 : Int32))) (fun x3_1 => q_lp (fun _ => none) (fun (c3 : Int32 → Option Int32) (x4_2 : Int32) => (if (σ 2 0) ≤ x4_2 then q_zz (1 : Int32) (some (1 : Int32)) else q_lt (c3 (x4_2 + (1 : Int32))) (fun j7 => (if (x3_1 &&& ((1 : Int32) <<< (x4_2 &&& (31 : Int32)))) = (0 : Int32) then j7 else q_rd (σ 4) 10 a1 (fun (v9 : Int32) => q_rd (σ 1) 10 x4_2 (fun (v10 : Int32) => q_cr (pX1_weightUpTo σ v10 x3_1) (fun (r11 : Int32) => q_rd (σ 1) 10 x4_2 (fun (v12 : Int32) => (if (v9 + r11) ≤ v12 then j7 else q_zz (0 : Int32) (some (0 : Int32))))))))))) q_fu (0 : Int32))
theorem fwX1_canBeFirst_X1 : ∀ w ∈ wsX10, w ∈ wsX1_canBeFirst := fun _ h => List.mem_cons_of_mem _ (List.mem_append_left _ (List.mem_append_right _ h))
theorem fwX1_canBeFirst_X9 : ∀ w ∈ wsX90, w ∈ wsX1_canBeFirst := fun _ h => List.mem_cons_of_mem _ (List.mem_append_right _ h)
abbrev rmX1_canBeFirst : Room := { frames := 1, cells := 0, slots := 0, locals := 24 }
set_option maxHeartbeats 4000000 in
set_option maxRecDepth 100000 in
theorem kX1_canBeFirst (l : Launch) (D : va_G) (cI cZ cS : ClassId) (zz : ZT) (ad : Nat → Nat) (σ : SS) (a1 : Int32) (a2 : Int32) (rr : Int32) (hf : pX1_canBeFirst σ a1 a2 = some rr) : CI l yX1_canBeFirst wsX1_canBeFirst rmX1_canBeFirst D (K3 cI cZ cS) zz [.ref (ad 0), .int a1, .int a2] (wX1 cI cZ cS ad σ) (wX1 cI cZ cS ad σ) rr := by
  refine q_ofI (cc := cX1_canBeFirst) (maxL := 5) (ty := .boolean) (by decide) rfl (Nat.le_of_ble_eq_true rfl) ?_
  intro p e s m below meth c Q A ls hx hb hml hown hts hK hZ hA hP hD hS hl hret
  have hl : lv_has ls 5 [(0, .ref (ad 0)), (1, .int a1), (2, .int a2)] := hl
  unfold pX1_canBeFirst at hf
  refine lv_iload_n hx hb dX1_canBeFirst_0 rfl (lv_at hl 2 rfl) ?_
  refine lv_iconst (v := 1) hx hb dX1_canBeFirst_1 (by decide) ?_
  refine lv_iload_n hx hb dX1_canBeFirst_2 rfl (lv_at hl 1 rfl) ?_
  refine lv_ishl hx hb dX1_canBeFirst_3 ?_
  refine lv_iconst (v := -1) hx hb dX1_canBeFirst_4 (by decide) ?_
  refine lv_ixor hx hb dX1_canBeFirst_5 ?_
  refine lv_iand hx hb dX1_canBeFirst_6 ?_
  refine lv_topi (fun x3_1 ex3_1 => ?_)
  have hf := q_lt_at ex3_1 hf
  refine lv_istore_n (lv' := [(3, .int x3_1), (0, .ref (ad 0)), (1, .int a1), (2, .int a2)]) hx hb dX1_canBeFirst_7 rfl hl (by decide) rfl (fun ls hl => ?_)
  refine lv_iconst (v := 0) hx hb dX1_canBeFirst_8 (by decide) ?_
  refine lv_istore (lv' := [(4, .int (0 : Int32)), (3, .int x3_1), (0, .ref (ad 0)), (1, .int a1), (2, .int a2)]) hx hb dX1_canBeFirst_9 hl (by decide) rfl (fun ls hl => ?_)
  refine q_lp_go (f := fun (zf : Int32 → Option Int32) => zf (0 : Int32)) hf (fun z4 ez4 hf => ?_)
  have Lz4 : ∀ (n5 : Nat) (x4_2 : Int32) (H : Heap) (locs : List Loc) (ls : Array Slot), va_P D vwCl ((wX1 cI cZ cS ad) σ) H → va_D A ((wX1 cI cZ cS ad) σ) → va_S A s.heap H locs → lv_has ls 5 [(0, .ref (ad 0)), (1, .int a1), (3, .int x3_1), (4, .int x4_2)] → q_lp (fun _ => none) z4 n5 x4_2 = some rr → W p l e rmX1_canBeFirst s m ([.ref (ad 0), .int a1, .int a2] : List Value).toArray below meth c H locs 0 0 Q (F0 m 11 ls []) := by
    intro n5
    induction n5 with
    | zero => exact fun _ _ _ _ _ _ _ _ hf => q_no hf
    | succ n5 ihz4 =>
      intro x4_2 H locs ls hP hD hS hl hf
      have hf := (congrFun (congrFun ez4 (q_lp (fun _ => none) z4 n5)) x4_2).symm.trans hf
      refine lv_iload hx hb dX1_canBeFirst_11 (lv_at hl 3 rfl) ?_
      refine lv_aload_n hx hb dX1_canBeFirst_13 rfl (lv_at hl 0 rfl) ?_
      refine va_get (D := D) (ci := 1) (C := RX1) (T := TX1) (N := 5) hx hb hts fwX1_canBeFirst_X1 hown hK hP 0 rfl rfl 1 (by decide) (hts _ (List.mem_of_getElem? (i := 1) rfl)) (fun _ h9 => h9) rfl dX1_canBeFirst_14 ?_
      refine va_get (D := D) (ci := 9) (C := RX9) (T := TX9) (N := 6) hx hb hts fwX1_canBeFirst_X9 hown hK hP 2 rfl rfl 0 (by decide) (hts _ (List.mem_of_getElem? (i := 2) rfl)) (fun _ h9 => h9) rfl dX1_canBeFirst_17 ?_
      refine lv_icmp_ge (tgt := 72) hx hb dX1_canBeFirst_20 (by decide) (fun h6 => ?_) (fun h6 => ?_)
      · have hf := (if_pos h6).symm.trans hf
        refine lv_iconst (v := 1) hx hb dX1_canBeFirst_72 (by decide) ?_
        obtain ⟨hz, hf⟩ := q_zz_o hf
        have hi1 := Option.some.inj hf
        subst hi1
        exact hret _ _ _ _ dX1_canBeFirst_73 (q_zz_n hz).1 hP hS
      · have hf := (if_neg h6).symm.trans hf
        refine lv_iload_n hx hb dX1_canBeFirst_23 rfl (lv_at hl 2 rfl) ?_
        refine lv_iconst (v := 1) hx hb dX1_canBeFirst_24 (by decide) ?_
        refine lv_iload hx hb dX1_canBeFirst_25 (lv_at hl 3 rfl) ?_
        refine lv_ishl hx hb dX1_canBeFirst_27 ?_
        refine lv_iand hx hb dX1_canBeFirst_28 ?_
        refine q_lt_go hf (fun j7 ej7 hf => ?_)
        have Jj7 : ∀ (H : Heap) (locs : List Loc) (ls : Array Slot), va_P D vwCl ((wX1 cI cZ cS ad) σ) H → va_D A ((wX1 cI cZ cS ad) σ) → va_S A s.heap H locs → lv_has ls 5 [(0, .ref (ad 0)), (1, .int a1), (3, .int x3_1), (4, .int x4_2)] → j7 = some rr → W p l e rmX1_canBeFirst s m ([.ref (ad 0), .int a1, .int a2] : List Value).toArray below meth c H locs 0 0 Q (F0 m 66 ls []) := by
          intro  H locs ls hP hD hS hl hf
          have hf := ej7.symm.trans hf
          refine lv_iinc (v := (x4_2 + (1 : Int32))) (lv' := [(4, .int (x4_2 + (1 : Int32))), (0, .ref (ad 0)), (1, .int a1), (3, .int x3_1)]) hx hb dX1_canBeFirst_66 hl (k := 3) rfl rfl (by decide) rfl (fun ls hl => ?_)
          refine lv_goto (tgt := 11) hx hb dX1_canBeFirst_69 (by decide) ?_
          exact ihz4 (x4_2 + (1 : Int32)) _ _ _ hP hD hS (lv_sub hl [1, 2, 3, 0] rfl) hf
        refine lv_if_eq (tgt := 66) hx hb dX1_canBeFirst_29 (by decide) (fun h8 => ?_) (fun h8 => ?_)
        · have hf := (if_pos h8).symm.trans hf
          exact Jj7  _ _ _ hP hD hS (lv_sub hl [0, 1, 2, 3] rfl) hf
        · have hf := (if_neg h8).symm.trans hf
          refine lv_aload_n hx hb dX1_canBeFirst_32 rfl (lv_at hl 0 rfl) ?_
          refine va_get (D := D) (ci := 1) (C := RX1) (T := TX1) (N := 5) hx hb hts fwX1_canBeFirst_X1 hown hK hP 0 rfl rfl 1 (by decide) (hts _ (List.mem_of_getElem? (i := 1) rfl)) (fun _ h9 => h9) rfl dX1_canBeFirst_33 ?_
          refine va_get (D := D) (ci := 9) (C := RX9) (T := TX9) (N := 6) hx hb hts fwX1_canBeFirst_X9 hown hK hP 2 rfl rfl 2 (by decide) (hts _ (List.mem_of_getElem? (i := 3) rfl)) (fun _ h9 => h9) rfl dX1_canBeFirst_36 ?_
          refine lv_iload_n hx hb dX1_canBeFirst_39 rfl (lv_at hl 1 rfl) ?_
          refine w_iald (wf := (wX1 cI cZ cS ad)) hx hb hK hP 4 0 rfl rfl hf dX1_canBeFirst_40 (fun v9 hf => ?_)
          refine lv_aload_n hx hb dX1_canBeFirst_41 rfl (lv_at hl 0 rfl) ?_
          refine lv_aload_n hx hb dX1_canBeFirst_42 rfl (lv_at hl 0 rfl) ?_
          refine va_get (D := D) (ci := 1) (C := RX1) (T := TX1) (N := 5) hx hb hts fwX1_canBeFirst_X1 hown hK hP 0 rfl rfl 0 (by decide) (hts _ (List.mem_of_getElem? (i := 4) rfl)) (fun _ h9 => h9) rfl dX1_canBeFirst_43 ?_
          refine lv_iload hx hb dX1_canBeFirst_46 (lv_at hl 3 rfl) ?_
          refine w_iald (wf := (wX1 cI cZ cS ad)) hx hb hK hP 1 0 rfl rfl hf dX1_canBeFirst_48 (fun v10 hf => ?_)
          refine lv_iload_n hx hb dX1_canBeFirst_49 rfl (lv_at hl 2 rfl) ?_
          refine q_cVr (wf := (wX1 cI cZ cS ad)) (wc := wX1 cI cZ cS ad) (rest := [.int v9]) ⟨hx, hb, hml, hown, hts⟩ hK hZ hA hP hD hS hf (fun x ho => kX1_weightUpTo l D cI cZ cS zz ad σ v10 x3_1 x ho) (cwV 2 hts gX1_canBeFirst_X1_weightUpTo rfl rfl rfl ndX1_weightUpTo ⟨Nat.le_of_ble_eq_true rfl, Nat.le_of_ble_eq_true rfl⟩) [0, 1, 2, 3, 4, 5, 6, 7, 8] rfl rfl rfl rfl rfl rfl (hl.1) rfl (Nat.le_of_ble_eq_true rfl) dX1_canBeFirst_50 ⟨Nat.zero_le _, Nat.zero_le _⟩ (fun r11 H locs hf hP hD hS => ?_)
          refine lv_iadd hx hb dX1_canBeFirst_53 ?_
          refine lv_aload_n hx hb dX1_canBeFirst_54 rfl (lv_at hl 0 rfl) ?_
          refine va_get (D := D) (ci := 1) (C := RX1) (T := TX1) (N := 5) hx hb hts fwX1_canBeFirst_X1 hown hK hP 0 rfl rfl 0 (by decide) (hts _ (List.mem_of_getElem? (i := 4) rfl)) (fun _ h9 => h9) rfl dX1_canBeFirst_55 ?_
          refine lv_iload hx hb dX1_canBeFirst_58 (lv_at hl 3 rfl) ?_
          refine w_iald (wf := (wX1 cI cZ cS ad)) hx hb hK hP 1 0 rfl rfl hf dX1_canBeFirst_60 (fun v12 hf => ?_)
          refine lv_icmp_le (tgt := 66) hx hb dX1_canBeFirst_61 (by decide) (fun h13 => ?_) (fun h13 => ?_)
          · have hf := (if_pos h13).symm.trans hf
            exact Jj7  _ _ _ hP hD hS (lv_sub hl [0, 1, 2, 3] rfl) hf
          · have hf := (if_neg h13).symm.trans hf
            refine lv_iconst (v := 0) hx hb dX1_canBeFirst_64 (by decide) ?_
            obtain ⟨hz, hf⟩ := q_zz_o hf
            have hi1 := Option.some.inj hf
            subst hi1
            exact hret _ _ _ _ dX1_canBeFirst_65 (q_zz_n hz).1 hP hS
  exact Lz4 q_fu (0 : Int32) _ _ _ hP hD hS (lv_sub hl [2, 3, 1, 0] rfl) hf
def pX1_firstOf (σ : SS) (a1 : Int32) : Option Int32 := q_lp (fun _ => none) (fun (c2 : Int32 → Option Int32) (x2_1 : Int32) => (if (σ 2 0) ≤ x2_1 then some (-1 : Int32) else q_lt (c2 (x2_1 + (1 : Int32))) (fun j6 => (if (a1 &&& ((1 : Int32) <<< (x2_1 &&& (31 : Int32)))) = (0 : Int32) then j6 else q_cr (pX1_canBeFirst σ x2_1 a1) (fun (r8 : Int32) => (if r8 = (0 : Int32) then j6 else some x2_1)))))) q_fu (0 : Int32)
theorem fwX1_firstOf_X1 : ∀ w ∈ wsX10, w ∈ wsX1_firstOf := fun _ h => List.mem_cons_of_mem _ (List.mem_append_left _ (List.mem_append_right _ h))
theorem fwX1_firstOf_X9 : ∀ w ∈ wsX90, w ∈ wsX1_firstOf := fun _ h => List.mem_cons_of_mem _ (List.mem_append_right _ h)
abbrev rmX1_firstOf : Room := { frames := 2, cells := 0, slots := 0, locals := 48 }
set_option maxHeartbeats 4000000 in
set_option maxRecDepth 100000 in
theorem kX1_firstOf (l : Launch) (D : va_G) (cI cZ cS : ClassId) (zz : ZT) (ad : Nat → Nat) (σ : SS) (a1 : Int32) (rr : Int32) (hf : pX1_firstOf σ a1 = some rr) : CI l yX1_firstOf wsX1_firstOf rmX1_firstOf D (K3 cI cZ cS) zz [.ref (ad 0), .int a1] (wX1 cI cZ cS ad σ) (wX1 cI cZ cS ad σ) rr := by
  refine q_ofI (cc := cX1_firstOf) (maxL := 3) (ty := .int) (by decide) rfl (Nat.le_of_ble_eq_true rfl) ?_
  intro p e s m below meth c Q A ls hx hb hml hown hts hK hZ hA hP hD hS hl hret
  have hl : lv_has ls 3 [(0, .ref (ad 0)), (1, .int a1)] := hl
  unfold pX1_firstOf at hf
  refine lv_iconst (v := 0) hx hb dX1_firstOf_0 (by decide) ?_
  refine lv_istore_n (lv' := [(2, .int (0 : Int32)), (0, .ref (ad 0)), (1, .int a1)]) hx hb dX1_firstOf_1 rfl hl (by decide) rfl (fun ls hl => ?_)
  refine q_lp_go (f := fun (zf : Int32 → Option Int32) => zf (0 : Int32)) hf (fun z3 ez3 hf => ?_)
  have Lz3 : ∀ (n4 : Nat) (x2_1 : Int32) (H : Heap) (locs : List Loc) (ls : Array Slot), va_P D vwCl ((wX1 cI cZ cS ad) σ) H → va_D A ((wX1 cI cZ cS ad) σ) → va_S A s.heap H locs → lv_has ls 3 [(0, .ref (ad 0)), (1, .int a1), (2, .int x2_1)] → q_lp (fun _ => none) z3 n4 x2_1 = some rr → W p l e rmX1_firstOf s m ([.ref (ad 0), .int a1] : List Value).toArray below meth c H locs 0 0 Q (F0 m 2 ls []) := by
    intro n4
    induction n4 with
    | zero => exact fun _ _ _ _ _ _ _ _ hf => q_no hf
    | succ n4 ihz3 =>
      intro x2_1 H locs ls hP hD hS hl hf
      have hf := (congrFun (congrFun ez3 (q_lp (fun _ => none) z3 n4)) x2_1).symm.trans hf
      refine lv_iload_n hx hb dX1_firstOf_2 rfl (lv_at hl 2 rfl) ?_
      refine lv_aload_n hx hb dX1_firstOf_3 rfl (lv_at hl 0 rfl) ?_
      refine va_get (D := D) (ci := 1) (C := RX1) (T := TX1) (N := 5) hx hb hts fwX1_firstOf_X1 hown hK hP 0 rfl rfl 1 (by decide) (hts _ (List.mem_of_getElem? (i := 1) rfl)) (fun _ h9 => h9) rfl dX1_firstOf_4 ?_
      refine va_get (D := D) (ci := 9) (C := RX9) (T := TX9) (N := 6) hx hb hts fwX1_firstOf_X9 hown hK hP 2 rfl rfl 0 (by decide) (hts _ (List.mem_of_getElem? (i := 2) rfl)) (fun _ h9 => h9) rfl dX1_firstOf_7 ?_
      refine lv_icmp_ge (tgt := 38) hx hb dX1_firstOf_10 (by decide) (fun h5 => ?_) (fun h5 => ?_)
      · have hf := (if_pos h5).symm.trans hf
        refine lv_iconst (v := -1) hx hb dX1_firstOf_38 (by decide) ?_
        have hi1 := Option.some.inj hf
        subst hi1
        exact hret _ _ _ _ dX1_firstOf_39 rfl hP hS
      · have hf := (if_neg h5).symm.trans hf
        refine lv_iload_n hx hb dX1_firstOf_13 rfl (lv_at hl 1 rfl) ?_
        refine lv_iconst (v := 1) hx hb dX1_firstOf_14 (by decide) ?_
        refine lv_iload_n hx hb dX1_firstOf_15 rfl (lv_at hl 2 rfl) ?_
        refine lv_ishl hx hb dX1_firstOf_16 ?_
        refine lv_iand hx hb dX1_firstOf_17 ?_
        refine q_lt_go hf (fun j6 ej6 hf => ?_)
        have Jj6 : ∀ (H : Heap) (locs : List Loc) (ls : Array Slot), va_P D vwCl ((wX1 cI cZ cS ad) σ) H → va_D A ((wX1 cI cZ cS ad) σ) → va_S A s.heap H locs → lv_has ls 3 [(0, .ref (ad 0)), (1, .int a1), (2, .int x2_1)] → j6 = some rr → W p l e rmX1_firstOf s m ([.ref (ad 0), .int a1] : List Value).toArray below meth c H locs 0 0 Q (F0 m 32 ls []) := by
          intro  H locs ls hP hD hS hl hf
          have hf := ej6.symm.trans hf
          refine lv_iinc (v := (x2_1 + (1 : Int32))) (lv' := [(2, .int (x2_1 + (1 : Int32))), (0, .ref (ad 0)), (1, .int a1)]) hx hb dX1_firstOf_32 hl (k := 2) rfl rfl (by decide) rfl (fun ls hl => ?_)
          refine lv_goto (tgt := 2) hx hb dX1_firstOf_35 (by decide) ?_
          exact ihz3 (x2_1 + (1 : Int32)) _ _ _ hP hD hS (lv_sub hl [1, 2, 0] rfl) hf
        refine lv_if_eq (tgt := 32) hx hb dX1_firstOf_18 (by decide) (fun h7 => ?_) (fun h7 => ?_)
        · have hf := (if_pos h7).symm.trans hf
          exact Jj6  _ _ _ hP hD hS (lv_sub hl [0, 1, 2] rfl) hf
        · have hf := (if_neg h7).symm.trans hf
          refine lv_aload_n hx hb dX1_firstOf_21 rfl (lv_at hl 0 rfl) ?_
          refine lv_iload_n hx hb dX1_firstOf_22 rfl (lv_at hl 2 rfl) ?_
          refine lv_iload_n hx hb dX1_firstOf_23 rfl (lv_at hl 1 rfl) ?_
          refine q_cVr (wf := (wX1 cI cZ cS ad)) (wc := wX1 cI cZ cS ad) (rest := []) ⟨hx, hb, hml, hown, hts⟩ hK hZ hA hP hD hS hf (fun x ho => kX1_canBeFirst l D cI cZ cS zz ad σ x2_1 a1 x ho) (cwV 2 hts gX1_firstOf_X1_canBeFirst rfl rfl rfl ndX1_canBeFirst ⟨Nat.le_of_ble_eq_true rfl, Nat.le_of_ble_eq_true rfl⟩) [0, 1, 2, 3, 4, 5, 6, 7, 8] rfl rfl rfl rfl rfl rfl (hl.1) rfl (Nat.le_of_ble_eq_true rfl) dX1_firstOf_24 ⟨Nat.zero_le _, Nat.zero_le _⟩ (fun r8 H locs hf hP hD hS => ?_)
          refine lv_if_eq (tgt := 32) hx hb dX1_firstOf_27 (by decide) (fun h9 => ?_) (fun h9 => ?_)
          · have hf := (if_pos h9).symm.trans hf
            exact Jj6  _ _ _ hP hD hS (lv_sub hl [0, 1, 2] rfl) hf
          · have hf := (if_neg h9).symm.trans hf
            refine lv_iload_n hx hb dX1_firstOf_30 rfl (lv_at hl 2 rfl) ?_
            have hi1 := Option.some.inj hf
            subst hi1
            exact hret _ _ _ _ dX1_firstOf_31 rfl hP hS
  exact Lz3 q_fu (0 : Int32) _ _ _ hP hD hS (lv_sub hl [1, 2, 0] rfl) hf
def pX1_liftable (σ : SS) (a1 : Int32) : Option (Int32 × SS) := q_cs (pX1_addUp σ) (fun (τ : SS) => τ) (fun (σ1 : SS) => q_zz (1 : Int32) (q_wr σ1 8 1024 (0 : Int32) (1 : Int32) (fun (σ2 : SS) => q_lp (fun _ _ _ => none) (fun (c6 : SS → Int32 → Int32 → Option (Int32 × SS)) (σ5 : SS) (x2_3 : Int32) (x3_4 : Int32) => (if ((1 : Int32) <<< ((σ5 2 0) &&& (31 : Int32))) ≤ x3_4 then (if a1 = (0 : Int32) then some (x2_3, σ5) else (if a1 = (1 : Int32) then q_rd (σ5 7) 1024 x2_3 (fun (v12 : Int32) => some (v12, σ5)) else q_cr (pX1_firstOf σ5 x2_3) (fun (r13 : Int32) => some (r13, σ5)))) else q_cr (pX1_hasLast σ5 x3_4) (fun (r14 : Int32) => q_zz r14 (q_wr σ5 8 1024 x3_4 r14 (fun (σ15 : SS) => q_rd (σ15 8) 1024 x3_4 (fun (v16 : Int32) => q_lt (fun (x2_17 : Int32) => c6 σ15 x2_17 (x3_4 + (1 : Int32))) (fun j18 => (if v16 = (0 : Int32) then j18 x2_3 else q_rd (σ15 7) 1024 x3_4 (fun (v20 : Int32) => q_rd (σ15 7) 1024 x2_3 (fun (v21 : Int32) => (if v20 ≤ v21 then j18 x2_3 else j18 x3_4))))))))))) q_fu σ2 (0 : Int32) (1 : Int32))))
theorem fwX1_liftable_X1 : ∀ w ∈ wsX10, w ∈ wsX1_liftable := fun _ h => List.mem_cons_of_mem _ (List.mem_append_left _ (List.mem_append_right _ h))
theorem fwX1_liftable_X9 : ∀ w ∈ wsX90, w ∈ wsX1_liftable := fun _ h => List.mem_cons_of_mem _ (List.mem_append_right _ h)
abbrev rmX1_liftable : Room := { frames := 3, cells := 0, slots := 0, locals := 70 }
set_option maxHeartbeats 4000000 in
set_option maxRecDepth 100000 in
theorem kX1_liftable (l : Launch) (D : va_G) (cI cZ cS : ClassId) (zz : ZT) (ad : Nat → Nat) (σ : SS) (a1 : Int32) (rr : Int32) (σr : SS) (hf : pX1_liftable σ a1 = some (rr, σr)) : CI l yX1_liftable wsX1_liftable rmX1_liftable D (K3 cI cZ cS) zz [.ref (ad 0), .int a1] (wX1 cI cZ cS ad σ) (wX1 cI cZ cS ad σr) rr := by
  refine q_ofI (cc := cX1_liftable) (maxL := 4) (ty := .int) (by decide) rfl (Nat.le_of_ble_eq_true rfl) ?_
  intro p e s m below meth c Q A ls hx hb hml hown hts hK hZ hA hP hD hS hl hret
  have hl : lv_has ls 4 [(0, .ref (ad 0)), (1, .int a1)] := hl
  unfold pX1_liftable at hf
  refine lv_aload_n hx hb dX1_liftable_0 rfl (lv_at hl 0 rfl) ?_
  refine q_cVv (wf := (wX1 cI cZ cS ad)) (wc := wX1 cI cZ cS ad) (rest := []) ⟨hx, hb, hml, hown, hts⟩ hK hZ hA hP hD hS hf (fun x ho => kX1_addUp l D cI cZ cS zz ad σ x ho) (cwV 0 hts gX1_liftable_X1_addUp rfl rfl rfl ndX1_addUp ⟨Nat.le_of_ble_eq_true rfl, Nat.le_of_ble_eq_true rfl⟩) [0, 1, 2, 3, 4, 5, 6, 7, 8] rfl rfl [some 0, some 1, some 2, some 3, some 4, some 5, some 6, some 7, some 8] (by decide +kernel) (Nat.le_of_ble_eq_true rfl) (fun _ => rfl) (fun _ => rfl) (fun _ => rfl) rfl rfl rfl rfl (hl.1) rfl (Nat.le_of_ble_eq_true rfl) dX1_liftable_1 ⟨Nat.zero_le _, Nat.zero_le _⟩ (fun σ1 H locs hf hP hD hS => ?_)
  refine lv_aload_n hx hb dX1_liftable_4 rfl (lv_at hl 0 rfl) ?_
  refine va_get (D := D) (ci := 1) (C := RX1) (T := TX1) (N := 5) hx hb hts fwX1_liftable_X1 hown hK hP 0 rfl rfl 4 (by decide) (hts _ (List.mem_of_getElem? (i := 1) rfl)) (fun _ h9 => h9) rfl dX1_liftable_5 ?_
  refine lv_iconst (v := 0) hx hb dX1_liftable_8 (by decide) ?_
  refine lv_iconst (v := 1) hx hb dX1_liftable_9 (by decide) ?_
  refine w_zast (wf := (wX1 cI cZ cS ad)) (cid := 8) hx hb hK hP hD hS 8 1 rfl rfl hf (fun _ => rfl) dX1_liftable_10 (fun σ2 H locs hf hP hD hS => ?_)
  refine lv_iconst (v := 0) hx hb dX1_liftable_11 (by decide) ?_
  refine lv_istore_n (lv' := [(2, .int (0 : Int32)), (0, .ref (ad 0)), (1, .int a1)]) hx hb dX1_liftable_12 rfl hl (by decide) rfl (fun ls hl => ?_)
  refine lv_iconst (v := 1) hx hb dX1_liftable_13 (by decide) ?_
  refine lv_istore_n (lv' := [(3, .int (1 : Int32)), (2, .int (0 : Int32)), (0, .ref (ad 0)), (1, .int a1)]) hx hb dX1_liftable_14 rfl hl (by decide) rfl (fun ls hl => ?_)
  refine q_lp_go (f := fun (zf : SS → Int32 → Int32 → Option (Int32 × SS)) => zf σ2 (0 : Int32) (1 : Int32)) hf (fun z7 ez7 hf => ?_)
  have Lz7 : ∀ (n8 : Nat) (σ5 : SS) (x2_3 : Int32) (x3_4 : Int32) (H : Heap) (locs : List Loc) (ls : Array Slot), va_P D vwCl ((wX1 cI cZ cS ad) σ5) H → va_D A ((wX1 cI cZ cS ad) σ5) → va_S A s.heap H locs → lv_has ls 4 [(0, .ref (ad 0)), (1, .int a1), (2, .int x2_3), (3, .int x3_4)] → q_lp (fun _ _ _ => none) z7 n8 σ5 x2_3 x3_4 = some (rr, σr) → W p l e rmX1_liftable s m ([.ref (ad 0), .int a1] : List Value).toArray below meth c H locs 0 0 Q (F0 m 15 ls []) := by
    intro n8
    induction n8 with
    | zero => exact fun _ _ _ _ _ _ _ _ _ _ hf => q_no hf
    | succ n8 ihz7 =>
      intro σ5 x2_3 x3_4 H locs ls hP hD hS hl hf
      have hf := (congrFun (congrFun (congrFun (congrFun ez7 (q_lp (fun _ _ _ => none) z7 n8)) σ5) x2_3) x3_4).symm.trans hf
      refine lv_iload_n hx hb dX1_liftable_15 rfl (lv_at hl 3 rfl) ?_
      refine lv_iconst (v := 1) hx hb dX1_liftable_16 (by decide) ?_
      refine lv_aload_n hx hb dX1_liftable_17 rfl (lv_at hl 0 rfl) ?_
      refine va_get (D := D) (ci := 1) (C := RX1) (T := TX1) (N := 5) hx hb hts fwX1_liftable_X1 hown hK hP 0 rfl rfl 1 (by decide) (hts _ (List.mem_of_getElem? (i := 2) rfl)) (fun _ h9 => h9) rfl dX1_liftable_18 ?_
      refine va_get (D := D) (ci := 9) (C := RX9) (T := TX9) (N := 6) hx hb hts fwX1_liftable_X9 hown hK hP 2 rfl rfl 0 (by decide) (hts _ (List.mem_of_getElem? (i := 3) rfl)) (fun _ h9 => h9) rfl dX1_liftable_21 ?_
      refine lv_ishl hx hb dX1_liftable_24 ?_
      refine lv_icmp_ge (tgt := 71) hx hb dX1_liftable_25 (by decide) (fun h9 => ?_) (fun h9 => ?_)
      · have hf := (if_pos h9).symm.trans hf
        refine lv_iload_n hx hb dX1_liftable_71 rfl (lv_at hl 1 rfl) ?_
        by_cases h10 : a1 = (0 : Int32)
        · have hf := (if_pos h10).symm.trans hf
          refine lv_lookup (off := 28) (tgt := 100) hx hb dX1_liftable_72 (by decide) (by rw [h10]; decide) (by decide) ?_
          refine lv_iload_n hx hb dX1_liftable_100 rfl (lv_at hl 2 rfl) ?_
          obtain ⟨hi1, hi2⟩ := Prod.mk.inj (Option.some.inj hf)
          subst hi1
          subst hi2
          exact hret _ _ _ _ dX1_liftable_101 rfl hP hS
        have hf := (if_neg h10).symm.trans hf
        by_cases h11 : a1 = (1 : Int32)
        · have hf := (if_pos h11).symm.trans hf
          refine lv_lookup (off := 30) (tgt := 102) hx hb dX1_liftable_72 (by decide) (by rw [h11]; decide) (by decide) ?_
          refine lv_aload_n hx hb dX1_liftable_102 rfl (lv_at hl 0 rfl) ?_
          refine va_get (D := D) (ci := 1) (C := RX1) (T := TX1) (N := 5) hx hb hts fwX1_liftable_X1 hown hK hP 0 rfl rfl 3 (by decide) (hts _ (List.mem_of_getElem? (i := 4) rfl)) (fun _ h9 => h9) rfl dX1_liftable_103 ?_
          refine lv_iload_n hx hb dX1_liftable_106 rfl (lv_at hl 2 rfl) ?_
          refine w_iald (wf := (wX1 cI cZ cS ad)) hx hb hK hP 7 0 rfl rfl hf dX1_liftable_107 (fun v12 hf => ?_)
          obtain ⟨hi1, hi2⟩ := Prod.mk.inj (Option.some.inj hf)
          subst hi1
          subst hi2
          exact hret _ _ _ _ dX1_liftable_108 rfl hP hS
        have hf := (if_neg h11).symm.trans hf
        refine lv_lookup (off := 37) (tgt := 109) hx hb dX1_liftable_72 (by decide) (by simp [Op.lookupswitch.offset_cons, Op.lookupswitch.offset_nil, (q_ne h10 (z := 0) rfl).symm, (q_ne h11 (z := 1) rfl).symm]) (by decide) ?_
        refine lv_aload_n hx hb dX1_liftable_109 rfl (lv_at hl 0 rfl) ?_
        refine lv_iload_n hx hb dX1_liftable_110 rfl (lv_at hl 2 rfl) ?_
        refine q_cVr (wf := (wX1 cI cZ cS ad)) (wc := wX1 cI cZ cS ad) (rest := []) ⟨hx, hb, hml, hown, hts⟩ hK hZ hA hP hD hS hf (fun x ho => kX1_firstOf l D cI cZ cS zz ad σ5 x2_3 x ho) (cwV 1 hts gX1_liftable_X1_firstOf rfl rfl rfl ndX1_firstOf ⟨Nat.le_of_ble_eq_true rfl, Nat.le_of_ble_eq_true rfl⟩) [0, 1, 2, 3, 4, 5, 6, 7, 8] rfl rfl rfl rfl rfl rfl (hl.1) rfl (Nat.le_of_ble_eq_true rfl) dX1_liftable_111 ⟨Nat.zero_le _, Nat.zero_le _⟩ (fun r13 H locs hf hP hD hS => ?_)
        obtain ⟨hi1, hi2⟩ := Prod.mk.inj (Option.some.inj hf)
        subst hi1
        subst hi2
        exact hret _ _ _ _ dX1_liftable_114 rfl hP hS
      · have hf := (if_neg h9).symm.trans hf
        refine lv_aload_n hx hb dX1_liftable_28 rfl (lv_at hl 0 rfl) ?_
        refine va_get (D := D) (ci := 1) (C := RX1) (T := TX1) (N := 5) hx hb hts fwX1_liftable_X1 hown hK hP 0 rfl rfl 4 (by decide) (hts _ (List.mem_of_getElem? (i := 1) rfl)) (fun _ h9 => h9) rfl dX1_liftable_29 ?_
        refine lv_iload_n hx hb dX1_liftable_32 rfl (lv_at hl 3 rfl) ?_
        refine lv_aload_n hx hb dX1_liftable_33 rfl (lv_at hl 0 rfl) ?_
        refine lv_iload_n hx hb dX1_liftable_34 rfl (lv_at hl 3 rfl) ?_
        refine q_cVr (wf := (wX1 cI cZ cS ad)) (wc := wX1 cI cZ cS ad) (rest := [.int x3_4, .ref (ad 8)]) ⟨hx, hb, hml, hown, hts⟩ hK hZ hA hP hD hS hf (fun x ho => kX1_hasLast l D cI cZ cS zz ad σ5 x3_4 x ho) (cwV 1 hts gX1_liftable_X1_hasLast rfl rfl rfl ndX1_hasLast ⟨Nat.le_of_ble_eq_true rfl, Nat.le_of_ble_eq_true rfl⟩) [0, 1, 2, 3, 4, 5, 6, 7, 8] rfl rfl rfl rfl rfl rfl (hl.1) rfl (Nat.le_of_ble_eq_true rfl) dX1_liftable_35 ⟨Nat.zero_le _, Nat.zero_le _⟩ (fun r14 H locs hf hP hD hS => ?_)
        refine w_zast (wf := (wX1 cI cZ cS ad)) (cid := 8) hx hb hK hP hD hS 8 1 rfl rfl hf (fun _ => rfl) dX1_liftable_38 (fun σ15 H locs hf hP hD hS => ?_)
        refine lv_aload_n hx hb dX1_liftable_39 rfl (lv_at hl 0 rfl) ?_
        refine va_get (D := D) (ci := 1) (C := RX1) (T := TX1) (N := 5) hx hb hts fwX1_liftable_X1 hown hK hP 0 rfl rfl 4 (by decide) (hts _ (List.mem_of_getElem? (i := 1) rfl)) (fun _ h9 => h9) rfl dX1_liftable_40 ?_
        refine lv_iload_n hx hb dX1_liftable_43 rfl (lv_at hl 3 rfl) ?_
        refine w_zald (wf := (wX1 cI cZ cS ad)) hx hb hK hP 8 1 rfl rfl hf dX1_liftable_44 (fun v16 hf => ?_)
        refine q_lt_go hf (fun j18 ej18 hf => ?_)
        have Jj18 : ∀ (x2_17 : Int32) (H : Heap) (locs : List Loc) (ls : Array Slot), va_P D vwCl ((wX1 cI cZ cS ad) σ15) H → va_D A ((wX1 cI cZ cS ad) σ15) → va_S A s.heap H locs → lv_has ls 4 [(0, .ref (ad 0)), (1, .int a1), (2, .int x2_17), (3, .int x3_4)] → j18 x2_17 = some (rr, σr) → W p l e rmX1_liftable s m ([.ref (ad 0), .int a1] : List Value).toArray below meth c H locs 0 0 Q (F0 m 65 ls []) := by
          intro x2_17 H locs ls hP hD hS hl hf
          have hf := (congrFun ej18 x2_17).symm.trans hf
          refine lv_iinc (v := (x3_4 + (1 : Int32))) (lv' := [(3, .int (x3_4 + (1 : Int32))), (0, .ref (ad 0)), (1, .int a1), (2, .int x2_17)]) hx hb dX1_liftable_65 hl (k := 3) rfl rfl (by decide) rfl (fun ls hl => ?_)
          refine lv_goto (tgt := 15) hx hb dX1_liftable_68 (by decide) ?_
          exact ihz7 σ15 x2_17 (x3_4 + (1 : Int32)) _ _ _ hP hD hS (lv_sub hl [1, 2, 3, 0] rfl) hf
        refine lv_if_eq (tgt := 65) hx hb dX1_liftable_45 (by decide) (fun h19 => ?_) (fun h19 => ?_)
        · have hf := (if_pos h19).symm.trans hf
          exact Jj18 x2_3 _ _ _ hP hD hS (lv_sub hl [0, 1, 2, 3] rfl) hf
        · have hf := (if_neg h19).symm.trans hf
          refine lv_aload_n hx hb dX1_liftable_48 rfl (lv_at hl 0 rfl) ?_
          refine va_get (D := D) (ci := 1) (C := RX1) (T := TX1) (N := 5) hx hb hts fwX1_liftable_X1 hown hK hP 0 rfl rfl 3 (by decide) (hts _ (List.mem_of_getElem? (i := 4) rfl)) (fun _ h9 => h9) rfl dX1_liftable_49 ?_
          refine lv_iload_n hx hb dX1_liftable_52 rfl (lv_at hl 3 rfl) ?_
          refine w_iald (wf := (wX1 cI cZ cS ad)) hx hb hK hP 7 0 rfl rfl hf dX1_liftable_53 (fun v20 hf => ?_)
          refine lv_aload_n hx hb dX1_liftable_54 rfl (lv_at hl 0 rfl) ?_
          refine va_get (D := D) (ci := 1) (C := RX1) (T := TX1) (N := 5) hx hb hts fwX1_liftable_X1 hown hK hP 0 rfl rfl 3 (by decide) (hts _ (List.mem_of_getElem? (i := 4) rfl)) (fun _ h9 => h9) rfl dX1_liftable_55 ?_
          refine lv_iload_n hx hb dX1_liftable_58 rfl (lv_at hl 2 rfl) ?_
          refine w_iald (wf := (wX1 cI cZ cS ad)) hx hb hK hP 7 0 rfl rfl hf dX1_liftable_59 (fun v21 hf => ?_)
          refine lv_icmp_le (tgt := 65) hx hb dX1_liftable_60 (by decide) (fun h22 => ?_) (fun h22 => ?_)
          · have hf := (if_pos h22).symm.trans hf
            exact Jj18 x2_3 _ _ _ hP hD hS (lv_sub hl [0, 1, 2, 3] rfl) hf
          · have hf := (if_neg h22).symm.trans hf
            refine lv_iload_n hx hb dX1_liftable_63 rfl (lv_at hl 3 rfl) ?_
            refine lv_istore_n (lv' := [(2, .int x3_4), (0, .ref (ad 0)), (1, .int a1), (3, .int x3_4)]) hx hb dX1_liftable_64 rfl hl (by decide) rfl (fun ls hl => ?_)
            exact Jj18 x3_4 _ _ _ hP hD hS (lv_sub hl [1, 2, 0, 3] rfl) hf
  exact Lz7 q_fu σ2 (0 : Int32) (1 : Int32) _ _ _ hP hD hS (lv_sub hl [2, 3, 1, 0] rfl) hf
def pX7_becomeLike (σ : SS) : Option SS := q_lt (su σ 0 0 (σ 4 0)) (fun (σ1 : SS) => q_ac σ1 5 6 1 6 (0 : Int32) (0 : Int32) (σ1 0 0) (fun (σ2 : SS) => q_ac σ2 6 72 2 72 (0 : Int32) (0 : Int32) ((σ2 0 0) * (12 : Int32)) (fun (σ3 : SS) => q_ac σ3 7 72 3 72 (0 : Int32) (0 : Int32) ((σ3 0 0) * (12 : Int32)) (fun (σ4 : SS) => some σ4))))
theorem fwX7_becomeLike_X7 : ∀ w ∈ wsX70, w ∈ wsX7_becomeLike := fun _ h => List.mem_cons_of_mem _ (List.mem_append_right _ h)
abbrev rmX7_becomeLike : Room := { frames := 1, cells := 0, slots := 0, locals := 80 }
set_option maxHeartbeats 4000000 in
set_option maxRecDepth 100000 in
theorem kX7_becomeLike (l : Launch) (D : va_G) (cI cZ cS : ClassId) (zz : ZT) (ad : Nat → Nat) (σ : SS) (σr : SS) (hf : pX7_becomeLike σ = some σr) : CV l yX7_becomeLike wsX7_becomeLike rmX7_becomeLike D (K3 cI cZ cS) zz [.ref (ad 0), .ref (ad 4)] (wX7_X7 cI cZ cS ad σ) (wX7_X7 cI cZ cS ad σr) := by
  refine q_ofV (cc := cX7_becomeLike) (maxL := 2) (by decide) rfl (Nat.le_of_ble_eq_true rfl) ?_
  intro p e s m below meth c Q A ls hx hb hml hown hts hK hZ hA hP hD hS hl hret
  have hl : lv_has ls 2 [(0, .ref (ad 0)), (1, .ref (ad 4))] := hl
  unfold pX7_becomeLike at hf
  refine lv_aload_n hx hb dX7_becomeLike_0 rfl (lv_at hl 0 rfl) ?_
  refine lv_aload_n hx hb dX7_becomeLike_1 rfl (lv_at hl 1 rfl) ?_
  refine va_get (D := D) (ci := 7) (C := RX7) (T := TX7) (N := 4) hx hb hts fwX7_becomeLike_X7 hown hK hP 4 rfl rfl 0 (by decide) (hts _ (List.mem_of_getElem? (i := 1) rfl)) (fun _ h9 => h9) rfl dX7_becomeLike_2 ?_
  refine w_put (D := D) (wf := (wX7_X7 cI cZ cS ad)) (cid := 0) (ci := 7) (C := RX7) (T := TX7) (N := 4) hx hb hts fwX7_becomeLike_X7 tyX7 tyX7_ok nmX7 hown hK hP hD hS 0 rfl rfl 0 (by decide) (hts _ (List.mem_of_getElem? (i := 1) rfl)) (fun _ h9 => h9) rfl (tyX7_ok 0 (by decide)) (Nat.le_of_ble_eq_true rfl) hf rfl dX7_becomeLike_5 (fun σ1 H locs hf hP hD hS => ?_)
  refine lv_aload_n hx hb dX7_becomeLike_8 rfl (lv_at hl 1 rfl) ?_
  refine va_get (D := D) (ci := 7) (C := RX7) (T := TX7) (N := 4) hx hb hts fwX7_becomeLike_X7 hown hK hP 4 rfl rfl 1 (by decide) (hts _ (List.mem_of_getElem? (i := 2) rfl)) (fun _ h9 => h9) rfl dX7_becomeLike_9 ?_
  refine lv_iconst (v := 0) hx hb dX7_becomeLike_12 (by decide) ?_
  refine lv_aload_n hx hb dX7_becomeLike_13 rfl (lv_at hl 0 rfl) ?_
  refine va_get (D := D) (ci := 7) (C := RX7) (T := TX7) (N := 4) hx hb hts fwX7_becomeLike_X7 hown hK hP 0 rfl rfl 1 (by decide) (hts _ (List.mem_of_getElem? (i := 2) rfl)) (fun _ h9 => h9) rfl dX7_becomeLike_14 ?_
  refine lv_iconst (v := 0) hx hb dX7_becomeLike_17 (by decide) ?_
  refine lv_aload_n hx hb dX7_becomeLike_18 rfl (lv_at hl 0 rfl) ?_
  refine va_get (D := D) (ci := 7) (C := RX7) (T := TX7) (N := 4) hx hb hts fwX7_becomeLike_X7 hown hK hP 0 rfl rfl 0 (by decide) (hts _ (List.mem_of_getElem? (i := 1) rfl)) (fun _ h9 => h9) rfl dX7_becomeLike_19 ?_
  refine w_copy (D := D) (wf := (wX7_X7 cI cZ cS ad)) (i0 := 5) (i1 := 1) hx hb (hml.trans hl.1.symm) hown (hts _ (List.mem_of_getElem? (i := 3) rfl)) (hts _ (List.mem_of_getElem? (i := 4) rfl)) (hts _ (List.mem_of_getElem? (i := 5) rfl)) (hts _ (List.mem_of_getElem? (i := 6) rfl)) hK hP hD hS 5 1 0 rfl rfl rfl hf (fun _ => rfl) (Nat.le_of_ble_eq_true rfl) (Nat.le_of_ble_eq_true rfl) dX7_becomeLike_22 (fun σ2 H locs hf hP hD hS => ?_)
  refine lv_aload_n hx hb dX7_becomeLike_25 rfl (lv_at hl 1 rfl) ?_
  refine va_get (D := D) (ci := 7) (C := RX7) (T := TX7) (N := 4) hx hb hts fwX7_becomeLike_X7 hown hK hP 4 rfl rfl 2 (by decide) (hts _ (List.mem_of_getElem? (i := 7) rfl)) (fun _ h9 => h9) rfl dX7_becomeLike_26 ?_
  refine lv_iconst (v := 0) hx hb dX7_becomeLike_29 (by decide) ?_
  refine lv_aload_n hx hb dX7_becomeLike_30 rfl (lv_at hl 0 rfl) ?_
  refine va_get (D := D) (ci := 7) (C := RX7) (T := TX7) (N := 4) hx hb hts fwX7_becomeLike_X7 hown hK hP 0 rfl rfl 2 (by decide) (hts _ (List.mem_of_getElem? (i := 7) rfl)) (fun _ h9 => h9) rfl dX7_becomeLike_31 ?_
  refine lv_iconst (v := 0) hx hb dX7_becomeLike_34 (by decide) ?_
  refine lv_aload_n hx hb dX7_becomeLike_35 rfl (lv_at hl 0 rfl) ?_
  refine va_get (D := D) (ci := 7) (C := RX7) (T := TX7) (N := 4) hx hb hts fwX7_becomeLike_X7 hown hK hP 0 rfl rfl 0 (by decide) (hts _ (List.mem_of_getElem? (i := 1) rfl)) (fun _ h9 => h9) rfl dX7_becomeLike_36 ?_
  refine lv_bipush (v := 12) hx hb dX7_becomeLike_39 (by decide) ?_
  refine lv_imul hx hb dX7_becomeLike_41 ?_
  refine w_copy (D := D) (wf := (wX7_X7 cI cZ cS ad)) (i0 := 6) (i1 := 2) hx hb (hml.trans hl.1.symm) hown (hts _ (List.mem_of_getElem? (i := 3) rfl)) (hts _ (List.mem_of_getElem? (i := 4) rfl)) (hts _ (List.mem_of_getElem? (i := 5) rfl)) (hts _ (List.mem_of_getElem? (i := 6) rfl)) hK hP hD hS 6 2 0 rfl rfl rfl hf (fun _ => rfl) (Nat.le_of_ble_eq_true rfl) (Nat.le_of_ble_eq_true rfl) dX7_becomeLike_42 (fun σ3 H locs hf hP hD hS => ?_)
  refine lv_aload_n hx hb dX7_becomeLike_45 rfl (lv_at hl 1 rfl) ?_
  refine va_get (D := D) (ci := 7) (C := RX7) (T := TX7) (N := 4) hx hb hts fwX7_becomeLike_X7 hown hK hP 4 rfl rfl 3 (by decide) (hts _ (List.mem_of_getElem? (i := 8) rfl)) (fun _ h9 => h9) rfl dX7_becomeLike_46 ?_
  refine lv_iconst (v := 0) hx hb dX7_becomeLike_49 (by decide) ?_
  refine lv_aload_n hx hb dX7_becomeLike_50 rfl (lv_at hl 0 rfl) ?_
  refine va_get (D := D) (ci := 7) (C := RX7) (T := TX7) (N := 4) hx hb hts fwX7_becomeLike_X7 hown hK hP 0 rfl rfl 3 (by decide) (hts _ (List.mem_of_getElem? (i := 8) rfl)) (fun _ h9 => h9) rfl dX7_becomeLike_51 ?_
  refine lv_iconst (v := 0) hx hb dX7_becomeLike_54 (by decide) ?_
  refine lv_aload_n hx hb dX7_becomeLike_55 rfl (lv_at hl 0 rfl) ?_
  refine va_get (D := D) (ci := 7) (C := RX7) (T := TX7) (N := 4) hx hb hts fwX7_becomeLike_X7 hown hK hP 0 rfl rfl 0 (by decide) (hts _ (List.mem_of_getElem? (i := 1) rfl)) (fun _ h9 => h9) rfl dX7_becomeLike_56 ?_
  refine lv_bipush (v := 12) hx hb dX7_becomeLike_59 (by decide) ?_
  refine lv_imul hx hb dX7_becomeLike_61 ?_
  refine w_copy (D := D) (wf := (wX7_X7 cI cZ cS ad)) (i0 := 7) (i1 := 3) hx hb (hml.trans hl.1.symm) hown (hts _ (List.mem_of_getElem? (i := 3) rfl)) (hts _ (List.mem_of_getElem? (i := 4) rfl)) (hts _ (List.mem_of_getElem? (i := 5) rfl)) (hts _ (List.mem_of_getElem? (i := 6) rfl)) hK hP hD hS 7 3 0 rfl rfl rfl hf (fun _ => rfl) (Nat.le_of_ble_eq_true rfl) (Nat.le_of_ble_eq_true rfl) dX7_becomeLike_62 (fun σ4 H locs hf hP hD hS => ?_)
  have hi1 := Option.some.inj hf
  subst hi1
  exact hret _ _ _ _ dX7_becomeLike_65 hP hS
def pX7_perform (σ : SS) (a1 : Int32) : Option SS := q_lt (a1 * (12 : Int32)) (fun x3_1 => q_lp (fun _ _ => none) (fun (c4 : SS → Int32 → Option SS) (σ3 : SS) (x4_2 : Int32) => q_rd (σ3 1) 6 a1 (fun (v7 : Int32) => (if (x3_1 + v7) ≤ x4_2 then some σ3 else q_rd (σ3 2) 72 x4_2 (fun (v9 : Int32) => q_lt (fun (y10 : Int32) => q_lp (fun _ _ => none) (fun (c14 : SS → Int32 → Option SS) (σ13 : SS) (x6_12 : Int32) => (if y10 ≤ x6_12 then q_rd (σ13 2) 72 x4_2 (fun (v18 : Int32) => q_rd (σ13 3) 72 x4_2 (fun (v19 : Int32) => q_cs (pX0_undergo (q_sb σ13 4) v18 v19) (fun (τ : SS) => (q_em σ13 4 0 13 τ)) (fun (σ20 : SS) => c4 σ20 (x4_2 + (1 : Int32))))) else q_cs (pX0_passMinute (q_sb σ13 4)) (fun (τ : SS) => (q_em σ13 4 0 13 τ)) (fun (σ21 : SS) => c14 σ21 (x6_12 + (1 : Int32))))) q_fu σ3 (0 : Int32)) (fun j11 => (if v9 = (1 : Int32) then q_rd (σ3 3) 72 x4_2 (fun (v23 : Int32) => j11 v23) else j11 (0 : Int32))))))) q_fu σ x3_1)
theorem fwX7_perform_X7 : ∀ w ∈ wsX70, w ∈ wsX7_perform := fun _ h => List.mem_cons_of_mem _ (List.mem_append_left _ (List.mem_append_left _ (List.mem_append_left _ (List.mem_append_left _ (List.mem_append_right _ h)))))
abbrev rmX7_perform : Room := { frames := 4, cells := 0, slots := 0, locals := 92 }
set_option maxHeartbeats 4000000 in
set_option maxRecDepth 100000 in
theorem kX7_perform (l : Launch) (D : va_G) (cI cZ cS : ClassId) (zz : ZT) (ad : Nat → Nat) (σ : SS) (a1 : Int32) (σr : SS) (hf : pX7_perform σ a1 = some σr) : CV l yX7_perform wsX7_perform rmX7_perform D (K3 cI cZ cS) zz [.ref (ad 0), .int a1, .ref (ad 4)] (wX7_X0 cI cZ cS ad σ) (wX7_X0 cI cZ cS ad σr) := by
  refine q_ofV (cc := cX7_perform) (maxL := 7) (by decide) rfl (Nat.le_of_ble_eq_true rfl) ?_
  intro p e s m below meth c Q A ls hx hb hml hown hts hK hZ hA hP hD hS hl hret
  have hl : lv_has ls 7 [(0, .ref (ad 0)), (1, .int a1), (2, .ref (ad 4))] := hl
  unfold pX7_perform at hf
  refine lv_iload_n hx hb dX7_perform_0 rfl (lv_at hl 1 rfl) ?_
  refine lv_bipush (v := 12) hx hb dX7_perform_1 (by decide) ?_
  refine lv_imul hx hb dX7_perform_3 ?_
  refine lv_topi (fun x3_1 ex3_1 => ?_)
  have hf := q_lt_at ex3_1 hf
  refine lv_istore_n (lv' := [(3, .int x3_1), (0, .ref (ad 0)), (1, .int a1), (2, .ref (ad 4))]) hx hb dX7_perform_4 rfl hl (by decide) rfl (fun ls hl => ?_)
  refine lv_iload_n hx hb dX7_perform_5 rfl (lv_at hl 0 rfl) ?_
  refine lv_istore (lv' := [(4, .int x3_1), (3, .int x3_1), (0, .ref (ad 0)), (1, .int a1), (2, .ref (ad 4))]) hx hb dX7_perform_6 hl (by decide) rfl (fun ls hl => ?_)
  refine q_lp_go (f := fun (zf : SS → Int32 → Option SS) => zf σ x3_1) hf (fun z5 ez5 hf => ?_)
  have Lz5 : ∀ (n6 : Nat) (σ3 : SS) (x4_2 : Int32) (H : Heap) (locs : List Loc) (ls : Array Slot), va_P D vwCl ((wX7_X0 cI cZ cS ad) σ3) H → va_D A ((wX7_X0 cI cZ cS ad) σ3) → va_S A s.heap H locs → lv_has ls 7 [(0, .ref (ad 0)), (1, .int a1), (2, .ref (ad 4)), (3, .int x3_1), (4, .int x4_2)] → q_lp (fun _ _ => none) z5 n6 σ3 x4_2 = some σr → W p l e rmX7_perform s m ([.ref (ad 0), .int a1, .ref (ad 4)] : List Value).toArray below meth c H locs 0 0 Q (F0 m 8 ls []) := by
    intro n6
    induction n6 with
    | zero => exact fun _ _ _ _ _ _ _ _ _ hf => q_no hf
    | succ n6 ihz5 =>
      intro σ3 x4_2 H locs ls hP hD hS hl hf
      have hf := (congrFun (congrFun (congrFun ez5 (q_lp (fun _ _ => none) z5 n6)) σ3) x4_2).symm.trans hf
      refine lv_iload hx hb dX7_perform_8 (lv_at hl 4 rfl) ?_
      refine lv_iload_n hx hb dX7_perform_10 rfl (lv_at hl 3 rfl) ?_
      refine lv_aload_n hx hb dX7_perform_11 rfl (lv_at hl 0 rfl) ?_
      refine va_get (D := D) (ci := 7) (C := RX7) (T := TX7) (N := 4) hx hb hts fwX7_perform_X7 hown hK hP 0 rfl rfl 1 (by decide) (hts _ (List.mem_of_getElem? (i := 1) rfl)) (fun _ h9 => h9) rfl dX7_perform_12 ?_
      refine lv_iload_n hx hb dX7_perform_15 rfl (lv_at hl 1 rfl) ?_
      refine w_iald (wf := (wX7_X0 cI cZ cS ad)) hx hb hK hP 1 0 rfl rfl hf dX7_perform_16 (fun v7 hf => ?_)
      refine lv_iadd hx hb dX7_perform_17 ?_
      refine lv_icmp_ge (tgt := 89) hx hb dX7_perform_18 (by decide) (fun h8 => ?_) (fun h8 => ?_)
      · have hf := (if_pos h8).symm.trans hf
        have hi1 := Option.some.inj hf
        subst hi1
        exact hret _ _ _ _ dX7_perform_89 hP hS
      · have hf := (if_neg h8).symm.trans hf
        refine lv_aload_n hx hb dX7_perform_21 rfl (lv_at hl 0 rfl) ?_
        refine va_get (D := D) (ci := 7) (C := RX7) (T := TX7) (N := 4) hx hb hts fwX7_perform_X7 hown hK hP 0 rfl rfl 2 (by decide) (hts _ (List.mem_of_getElem? (i := 2) rfl)) (fun _ h9 => h9) rfl dX7_perform_22 ?_
        refine lv_iload hx hb dX7_perform_25 (lv_at hl 4 rfl) ?_
        refine w_iald (wf := (wX7_X0 cI cZ cS ad)) hx hb hK hP 2 0 rfl rfl hf dX7_perform_27 (fun v9 hf => ?_)
        refine lv_iconst (v := 1) hx hb dX7_perform_28 (by decide) ?_
        refine q_lt_go hf (fun j11 ej11 hf => ?_)
        have Jj11 : ∀ (y10 : Int32) (H : Heap) (locs : List Loc) (ls : Array Slot), va_P D vwCl ((wX7_X0 cI cZ cS ad) σ3) H → va_D A ((wX7_X0 cI cZ cS ad) σ3) → va_S A s.heap H locs → lv_has ls 7 [(0, .ref (ad 0)), (1, .int a1), (2, .ref (ad 4)), (3, .int x3_1), (4, .int x4_2)] → j11 y10 = some σr → W p l e rmX7_perform s m ([.ref (ad 0), .int a1, .ref (ad 4)] : List Value).toArray below meth c H locs 0 0 Q (F0 m 43 ls [.int y10]) := by
          intro y10 H locs ls hP hD hS hl hf
          have hf := (congrFun ej11 y10).symm.trans hf
          refine lv_istore (lv' := [(5, .int y10), (0, .ref (ad 0)), (1, .int a1), (2, .ref (ad 4)), (3, .int x3_1), (4, .int x4_2)]) hx hb dX7_perform_43 hl (by decide) rfl (fun ls hl => ?_)
          refine lv_iconst (v := 0) hx hb dX7_perform_45 (by decide) ?_
          refine lv_istore (lv' := [(6, .int (0 : Int32)), (5, .int y10), (0, .ref (ad 0)), (1, .int a1), (2, .ref (ad 4)), (3, .int x3_1), (4, .int x4_2)]) hx hb dX7_perform_46 hl (by decide) rfl (fun ls hl => ?_)
          refine q_lp_go (f := fun (zf : SS → Int32 → Option SS) => zf σ3 (0 : Int32)) hf (fun z15 ez15 hf => ?_)
          have Lz15 : ∀ (n16 : Nat) (σ13 : SS) (x6_12 : Int32) (H : Heap) (locs : List Loc) (ls : Array Slot), va_P D vwCl ((wX7_X0 cI cZ cS ad) σ13) H → va_D A ((wX7_X0 cI cZ cS ad) σ13) → va_S A s.heap H locs → lv_has ls 7 [(0, .ref (ad 0)), (1, .int a1), (2, .ref (ad 4)), (3, .int x3_1), (4, .int x4_2), (5, .int y10), (6, .int x6_12)] → q_lp (fun _ _ => none) z15 n16 σ13 x6_12 = some σr → W p l e rmX7_perform s m ([.ref (ad 0), .int a1, .ref (ad 4)] : List Value).toArray below meth c H locs 0 0 Q (F0 m 48 ls []) := by
            intro n16
            induction n16 with
            | zero => exact fun _ _ _ _ _ _ _ _ _ hf => q_no hf
            | succ n16 ihz15 =>
              intro σ13 x6_12 H locs ls hP hD hS hl hf
              have hf := (congrFun (congrFun (congrFun ez15 (q_lp (fun _ _ => none) z15 n16)) σ13) x6_12).symm.trans hf
              refine lv_iload hx hb dX7_perform_48 (lv_at hl 6 rfl) ?_
              refine lv_iload hx hb dX7_perform_50 (lv_at hl 5 rfl) ?_
              refine lv_icmp_ge (tgt := 65) hx hb dX7_perform_52 (by decide) (fun h17 => ?_) (fun h17 => ?_)
              · have hf := (if_pos h17).symm.trans hf
                refine lv_aload_n hx hb dX7_perform_65 rfl (lv_at hl 2 rfl) ?_
                refine lv_aload_n hx hb dX7_perform_66 rfl (lv_at hl 0 rfl) ?_
                refine va_get (D := D) (ci := 7) (C := RX7) (T := TX7) (N := 4) hx hb hts fwX7_perform_X7 hown hK hP 0 rfl rfl 2 (by decide) (hts _ (List.mem_of_getElem? (i := 2) rfl)) (fun _ h9 => h9) rfl dX7_perform_67 ?_
                refine lv_iload hx hb dX7_perform_70 (lv_at hl 4 rfl) ?_
                refine w_iald (wf := (wX7_X0 cI cZ cS ad)) hx hb hK hP 2 0 rfl rfl hf dX7_perform_72 (fun v18 hf => ?_)
                refine lv_aload_n hx hb dX7_perform_73 rfl (lv_at hl 0 rfl) ?_
                refine va_get (D := D) (ci := 7) (C := RX7) (T := TX7) (N := 4) hx hb hts fwX7_perform_X7 hown hK hP 0 rfl rfl 3 (by decide) (hts _ (List.mem_of_getElem? (i := 3) rfl)) (fun _ h9 => h9) rfl dX7_perform_74 ?_
                refine lv_iload hx hb dX7_perform_77 (lv_at hl 4 rfl) ?_
                refine w_iald (wf := (wX7_X0 cI cZ cS ad)) hx hb hK hP 3 0 rfl rfl hf dX7_perform_79 (fun v19 hf => ?_)
                refine q_cVv (wf := (wX7_X0 cI cZ cS ad)) (wc := wX0 cI cZ cS (fun i => ad (4 + i))) (rest := []) ⟨hx, hb, hml, hown, hts⟩ hK hZ hA hP hD hS hf (fun x ho => kX0_undergo l D cI cZ cS zz (fun i => ad (4 + i)) (q_sb σ13 4) v18 v19 x ho) (cwV 2 hts gX7_perform_X0_undergo rfl rfl rfl ndX0_undergo ⟨Nat.le_of_ble_eq_true rfl, Nat.le_of_ble_eq_true rfl⟩) [4, 5, 6, 7, 8, 9, 10, 11, 12, 13, 14, 15, 16] rfl rfl [none, none, none, none, some 0, some 1, some 2, some 3, some 4, some 5, some 6, some 7, some 8, some 9, some 10, some 11, some 12] (by decide +kernel) (Nat.le_of_ble_eq_true rfl) (fun _ => rfl) (fun _ => rfl) (fun _ => rfl) rfl rfl rfl rfl (hl.1) rfl (Nat.le_of_ble_eq_true rfl) dX7_perform_80 ⟨Nat.zero_le _, Nat.zero_le _⟩ (fun σ20 H locs hf hP hD hS => ?_)
                refine lv_iinc (v := (x4_2 + (1 : Int32))) (lv' := [(4, .int (x4_2 + (1 : Int32))), (0, .ref (ad 0)), (1, .int a1), (2, .ref (ad 4)), (3, .int x3_1), (5, .int y10), (6, .int x6_12)]) hx hb dX7_perform_83 hl (k := 4) rfl rfl (by decide) rfl (fun ls hl => ?_)
                refine lv_goto (tgt := 8) hx hb dX7_perform_86 (by decide) ?_
                exact ihz5 σ20 (x4_2 + (1 : Int32)) _ _ _ hP hD hS (lv_sub hl [1, 2, 3, 4, 0] rfl) hf
              · have hf := (if_neg h17).symm.trans hf
                refine lv_aload_n hx hb dX7_perform_55 rfl (lv_at hl 2 rfl) ?_
                refine q_cVv (wf := (wX7_X0 cI cZ cS ad)) (wc := wX0 cI cZ cS (fun i => ad (4 + i))) (rest := []) ⟨hx, hb, hml, hown, hts⟩ hK hZ hA hP hD hS hf (fun x ho => kX0_passMinute l D cI cZ cS zz (fun i => ad (4 + i)) (q_sb σ13 4) x ho) (cwV 0 hts gX7_perform_X0_passMinute rfl rfl rfl ndX0_passMinute ⟨Nat.le_of_ble_eq_true rfl, Nat.le_of_ble_eq_true rfl⟩) [4, 5, 6, 7, 8, 9, 10, 11, 12, 13, 14, 15, 16] rfl rfl [none, none, none, none, some 0, some 1, some 2, some 3, some 4, some 5, some 6, some 7, some 8, some 9, some 10, some 11, some 12] (by decide +kernel) (Nat.le_of_ble_eq_true rfl) (fun _ => rfl) (fun _ => rfl) (fun _ => rfl) rfl rfl rfl rfl (hl.1) rfl (Nat.le_of_ble_eq_true rfl) dX7_perform_56 ⟨Nat.zero_le _, Nat.zero_le _⟩ (fun σ21 H locs hf hP hD hS => ?_)
                refine lv_iinc (v := (x6_12 + (1 : Int32))) (lv' := [(6, .int (x6_12 + (1 : Int32))), (0, .ref (ad 0)), (1, .int a1), (2, .ref (ad 4)), (3, .int x3_1), (4, .int x4_2), (5, .int y10)]) hx hb dX7_perform_59 hl (k := 6) rfl rfl (by decide) rfl (fun ls hl => ?_)
                refine lv_goto (tgt := 48) hx hb dX7_perform_62 (by decide) ?_
                exact ihz15 σ21 (x6_12 + (1 : Int32)) _ _ _ hP hD hS (lv_sub hl [1, 2, 3, 4, 5, 6, 0] rfl) hf
          exact Lz15 q_fu σ3 (0 : Int32) _ _ _ hP hD hS (lv_sub hl [2, 3, 4, 5, 6, 1, 0] rfl) hf
        refine lv_icmp_ne (tgt := 42) hx hb dX7_perform_29 (by decide) (fun h22 => ?_) (fun h22 => ?_)
        · have hf := (if_neg h22).symm.trans hf
          refine lv_iconst (v := 0) hx hb dX7_perform_42 (by decide) ?_
          exact Jj11 (0 : Int32) _ _ _ hP hD hS (lv_sub hl [0, 1, 2, 3, 4] rfl) hf
        · have hf := (if_pos h22).symm.trans hf
          refine lv_aload_n hx hb dX7_perform_32 rfl (lv_at hl 0 rfl) ?_
          refine va_get (D := D) (ci := 7) (C := RX7) (T := TX7) (N := 4) hx hb hts fwX7_perform_X7 hown hK hP 0 rfl rfl 3 (by decide) (hts _ (List.mem_of_getElem? (i := 3) rfl)) (fun _ h9 => h9) rfl dX7_perform_33 ?_
          refine lv_iload hx hb dX7_perform_36 (lv_at hl 4 rfl) ?_
          refine w_iald (wf := (wX7_X0 cI cZ cS ad)) hx hb hK hP 3 0 rfl rfl hf dX7_perform_38 (fun v23 hf => ?_)
          refine lv_goto (tgt := 43) hx hb dX7_perform_39 (by decide) ?_
          exact Jj11 v23 _ _ _ hP hD hS (lv_sub hl [0, 1, 2, 3, 4] rfl) hf
  exact Lz5 q_fu σ x3_1 _ _ _ hP hD hS (lv_sub hl [2, 3, 4, 1, 0] rfl) hf
def pX8_isLetter (σ : SS) (a1 : Int32) : Option Int32 := q_rd (σ 1) 100 a1 (fun (v1 : Int32) => q_cr (pX11_within v1 (97 : Int32) (122 : Int32)) (fun (r2 : Int32) => q_zz r2 (some r2)))
theorem fwX8_isLetter_X8 : ∀ w ∈ wsX80, w ∈ wsX8_isLetter := fun _ h => List.mem_cons_of_mem _ (List.mem_append_right _ h)
abbrev rmX8_isLetter : Room := { frames := 1, cells := 0, slots := 0, locals := 22 }
set_option maxHeartbeats 4000000 in
set_option maxRecDepth 100000 in
theorem kX8_isLetter (l : Launch) (D : va_G) (cI cZ cS : ClassId) (zz : ZT) (ad : Nat → Nat) (σ : SS) (a1 : Int32) (rr : Int32) (hf : pX8_isLetter σ a1 = some rr) : CI l yX8_isLetter wsX8_isLetter rmX8_isLetter D (K3 cI cZ cS) zz [.ref (ad 0), .int a1] (wX8 cI cZ cS ad σ) (wX8 cI cZ cS ad σ) rr := by
  refine q_ofI (cc := cX8_isLetter) (maxL := 2) (ty := .boolean) (by decide) rfl (Nat.le_of_ble_eq_true rfl) ?_
  intro p e s m below meth c Q A ls hx hb hml hown hts hK hZ hA hP hD hS hl hret
  have hl : lv_has ls 2 [(0, .ref (ad 0)), (1, .int a1)] := hl
  unfold pX8_isLetter at hf
  refine lv_aload_n hx hb dX8_isLetter_0 rfl (lv_at hl 0 rfl) ?_
  refine va_get (D := D) (ci := 8) (C := RX8) (T := TX8) (N := 2) hx hb hts fwX8_isLetter_X8 hown hK hP 0 rfl rfl 0 (by decide) (hts _ (List.mem_of_getElem? (i := 1) rfl)) (fun _ h9 => h9) rfl dX8_isLetter_1 ?_
  refine lv_iload_n hx hb dX8_isLetter_4 rfl (lv_at hl 1 rfl) ?_
  refine w_iald (wf := (wX8 cI cZ cS ad)) hx hb hK hP 1 0 rfl rfl hf dX8_isLetter_5 (fun v1 hf => ?_)
  refine lv_bipush (v := 97) hx hb dX8_isLetter_6 (by decide) ?_
  refine lv_bipush (v := 122) hx hb dX8_isLetter_8 (by decide) ?_
  refine q_cNr (wf := (wX8 cI cZ cS ad)) (rest := []) ⟨hx, hb, hml, hown, hts⟩ hK hZ hA hP hD hS hf (fun x ho => kX11_within l D cI cZ cS zz v1 (97 : Int32) (122 : Int32) x ho) ⟨va_cnB 3 hts gX8_isLetter_X11_within_n19 rfl rfl rfl hZ.2.2.2.2.2.1.2.2.2.2.2.1 (hts _ (List.mem_of_getElem? (i := 3) rfl)) ndX11_within.2 ⟨Nat.le_of_ble_eq_true rfl, Nat.le_of_ble_eq_true rfl⟩, (hts _ (List.mem_of_getElem? (i := 2) rfl)), trivial⟩ rfl (hl.1) rfl (Nat.le_of_ble_eq_true rfl) dX8_isLetter_10 ⟨Nat.zero_le _, Nat.zero_le _⟩ (fun r2 H locs hf hP hD hS => ?_)
  obtain ⟨hz, hf⟩ := q_zz_o hf
  have hi1 := Option.some.inj hf
  subst hi1
  exact hret _ _ _ _ dX8_isLetter_13 (q_zz_n hz).1 hP hS
def pX5_readWord (σ : SS) : Option SS := q_lt (su σ 0 1 (1 : Int32)) (fun (σ1 : SS) => q_lp (fun _ => none) (fun (c3 : SS → Option SS) (σ2 : SS) => q_lt (some σ2) (fun j6 => (if (σ2 1 1) ≤ (σ2 0 3) then j6 else q_cr (pX8_isLetter (q_sb σ2 1) (σ2 0 3)) (fun (r8 : Int32) => (if r8 = (0 : Int32) then j6 else q_lt (su σ2 0 3 ((σ2 0 3) + (1 : Int32))) (fun (σ10 : SS) => c3 σ10)))))) q_fu σ1)
theorem fwX5_readWord_X5 : ∀ w ∈ wsX50, w ∈ wsX5_readWord := fun _ h => List.mem_cons_of_mem _ (List.mem_append_left _ (List.mem_append_right _ h))
theorem fwX5_readWord_X8 : ∀ w ∈ wsX80, w ∈ wsX5_readWord := fun _ h => List.mem_cons_of_mem _ (List.mem_append_right _ h)
abbrev rmX5_readWord : Room := { frames := 2, cells := 0, slots := 0, locals := 43 }
set_option maxHeartbeats 4000000 in
set_option maxRecDepth 100000 in
theorem kX5_readWord (l : Launch) (D : va_G) (cI cZ cS : ClassId) (zz : ZT) (ad : Nat → Nat) (σ : SS) (σr : SS) (hf : pX5_readWord σ = some σr) : CV l yX5_readWord wsX5_readWord rmX5_readWord D (K3 cI cZ cS) zz [.ref (ad 0)] (wX5 cI cZ cS ad σ) (wX5 cI cZ cS ad σr) := by
  refine q_ofV (cc := cX5_readWord) (maxL := 1) (by decide) rfl (Nat.le_of_ble_eq_true rfl) ?_
  intro p e s m below meth c Q A ls hx hb hml hown hts hK hZ hA hP hD hS hl hret
  have hl : lv_has ls 1 [(0, .ref (ad 0))] := hl
  unfold pX5_readWord at hf
  refine lv_aload_n hx hb dX5_readWord_0 rfl (lv_at hl 0 rfl) ?_
  refine lv_iconst (v := 1) hx hb dX5_readWord_1 (by decide) ?_
  refine w_put (D := D) (wf := (wX5 cI cZ cS ad)) (cid := 0) (ci := 5) (C := RX5) (T := TX5) (N := 5) hx hb hts fwX5_readWord_X5 tyX5 tyX5_ok nmX5 hown hK hP hD hS 0 rfl rfl 1 (by decide) (hts _ (List.mem_of_getElem? (i := 1) rfl)) (fun _ h9 => h9) rfl (tyX5_ok 1 (by decide)) (Nat.le_of_ble_eq_true rfl) hf rfl dX5_readWord_2 (fun σ1 H locs hf hP hD hS => ?_)
  refine q_lp_go (f := fun (zf : SS → Option SS) => zf σ1) hf (fun z4 ez4 hf => ?_)
  have Lz4 : ∀ (n5 : Nat) (σ2 : SS) (H : Heap) (locs : List Loc) (ls : Array Slot), va_P D vwCl ((wX5 cI cZ cS ad) σ2) H → va_D A ((wX5 cI cZ cS ad) σ2) → va_S A s.heap H locs → lv_has ls 1 [(0, .ref (ad 0))] → q_lp (fun _ => none) z4 n5 σ2 = some σr → W p l e rmX5_readWord s m ([.ref (ad 0)] : List Value).toArray below meth c H locs 0 0 Q (F0 m 5 ls []) := by
    intro n5
    induction n5 with
    | zero => exact fun _ _ _ _ _ _ _ _ hf => q_no hf
    | succ n5 ihz4 =>
      intro σ2 H locs ls hP hD hS hl hf
      have hf := (congrFun (congrFun ez4 (q_lp (fun _ => none) z4 n5)) σ2).symm.trans hf
      refine lv_aload_n hx hb dX5_readWord_5 rfl (lv_at hl 0 rfl) ?_
      refine va_get (D := D) (ci := 5) (C := RX5) (T := TX5) (N := 5) hx hb hts fwX5_readWord_X5 hown hK hP 0 rfl rfl 3 (by decide) (hts _ (List.mem_of_getElem? (i := 2) rfl)) (fun _ h9 => h9) rfl dX5_readWord_6 ?_
      refine lv_aload_n hx hb dX5_readWord_9 rfl (lv_at hl 0 rfl) ?_
      refine va_get (D := D) (ci := 5) (C := RX5) (T := TX5) (N := 5) hx hb hts fwX5_readWord_X5 hown hK hP 0 rfl rfl 0 (by decide) (hts _ (List.mem_of_getElem? (i := 3) rfl)) (fun _ h9 => h9) rfl dX5_readWord_10 ?_
      refine va_get (D := D) (ci := 8) (C := RX8) (T := TX8) (N := 2) hx hb hts fwX5_readWord_X8 hown hK hP 1 rfl rfl 1 (by decide) (hts _ (List.mem_of_getElem? (i := 4) rfl)) (fun _ h9 => h9) rfl dX5_readWord_13 ?_
      refine q_lt_go hf (fun j6 ej6 hf => ?_)
      have Jj6 : ∀ (H : Heap) (locs : List Loc) (ls : Array Slot), va_P D vwCl ((wX5 cI cZ cS ad) σ2) H → va_D A ((wX5 cI cZ cS ad) σ2) → va_S A s.heap H locs → lv_has ls 1 [] → j6 = some σr → W p l e rmX5_readWord s m ([.ref (ad 0)] : List Value).toArray below meth c H locs 0 0 Q (F0 m 46 ls []) := by
        intro  H locs ls hP hD hS hl hf
        have hf := ej6.symm.trans hf
        have hi1 := Option.some.inj hf
        subst hi1
        exact hret _ _ _ _ dX5_readWord_46 hP hS
      refine lv_icmp_ge (tgt := 46) hx hb dX5_readWord_16 (by decide) (fun h7 => ?_) (fun h7 => ?_)
      · have hf := (if_pos h7).symm.trans hf
        exact Jj6  _ _ _ hP hD hS (lv_sub hl [] rfl) hf
      · have hf := (if_neg h7).symm.trans hf
        refine lv_aload_n hx hb dX5_readWord_19 rfl (lv_at hl 0 rfl) ?_
        refine va_get (D := D) (ci := 5) (C := RX5) (T := TX5) (N := 5) hx hb hts fwX5_readWord_X5 hown hK hP 0 rfl rfl 0 (by decide) (hts _ (List.mem_of_getElem? (i := 3) rfl)) (fun _ h9 => h9) rfl dX5_readWord_20 ?_
        refine lv_aload_n hx hb dX5_readWord_23 rfl (lv_at hl 0 rfl) ?_
        refine va_get (D := D) (ci := 5) (C := RX5) (T := TX5) (N := 5) hx hb hts fwX5_readWord_X5 hown hK hP 0 rfl rfl 3 (by decide) (hts _ (List.mem_of_getElem? (i := 2) rfl)) (fun _ h9 => h9) rfl dX5_readWord_24 ?_
        refine q_cVr (wf := (wX5 cI cZ cS ad)) (wc := wX8 cI cZ cS (fun i => ad (1 + i))) (rest := []) ⟨hx, hb, hml, hown, hts⟩ hK hZ hA hP hD hS hf (fun x ho => kX8_isLetter l D cI cZ cS zz (fun i => ad (1 + i)) (q_sb σ2 1) (σ2 0 3) x ho) (cwV 1 hts gX5_readWord_X8_isLetter rfl rfl rfl ndX8_isLetter ⟨Nat.le_of_ble_eq_true rfl, Nat.le_of_ble_eq_true rfl⟩) [1, 2] rfl rfl rfl rfl rfl rfl (hl.1) rfl (Nat.le_of_ble_eq_true rfl) dX5_readWord_27 ⟨Nat.zero_le _, Nat.zero_le _⟩ (fun r8 H locs hf hP hD hS => ?_)
        refine lv_if_eq (tgt := 46) hx hb dX5_readWord_30 (by decide) (fun h9 => ?_) (fun h9 => ?_)
        · have hf := (if_pos h9).symm.trans hf
          exact Jj6  _ _ _ hP hD hS (lv_sub hl [] rfl) hf
        · have hf := (if_neg h9).symm.trans hf
          refine lv_aload_n hx hb dX5_readWord_33 rfl (lv_at hl 0 rfl) ?_
          refine lv_dup hx hb dX5_readWord_34 rfl ?_
          refine va_get (D := D) (ci := 5) (C := RX5) (T := TX5) (N := 5) hx hb hts fwX5_readWord_X5 hown hK hP 0 rfl rfl 3 (by decide) (hts _ (List.mem_of_getElem? (i := 2) rfl)) (fun _ h9 => h9) rfl dX5_readWord_35 ?_
          refine lv_iconst (v := 1) hx hb dX5_readWord_38 (by decide) ?_
          refine lv_iadd hx hb dX5_readWord_39 ?_
          refine w_put (D := D) (wf := (wX5 cI cZ cS ad)) (cid := 0) (ci := 5) (C := RX5) (T := TX5) (N := 5) hx hb hts fwX5_readWord_X5 tyX5 tyX5_ok nmX5 hown hK hP hD hS 0 rfl rfl 3 (by decide) (hts _ (List.mem_of_getElem? (i := 2) rfl)) (fun _ h9 => h9) rfl (tyX5_ok 3 (by decide)) (Nat.le_of_ble_eq_true rfl) hf rfl dX5_readWord_40 (fun σ10 H locs hf hP hD hS => ?_)
          refine lv_goto (tgt := 5) hx hb dX5_readWord_43 (by decide) ?_
          exact ihz4 σ10 _ _ _ hP hD hS (lv_sub hl [0] rfl) hf
  exact Lz4 q_fu σ1 _ _ _ hP hD hS (lv_sub hl [0] rfl) hf
def pX8_isDigit (σ : SS) (a1 : Int32) : Option Int32 := q_rd (σ 1) 100 a1 (fun (v1 : Int32) => q_cr (pX11_within v1 (48 : Int32) (57 : Int32)) (fun (r2 : Int32) => q_zz r2 (some r2)))
theorem fwX8_isDigit_X8 : ∀ w ∈ wsX80, w ∈ wsX8_isDigit := fun _ h => List.mem_cons_of_mem _ (List.mem_append_right _ h)
abbrev rmX8_isDigit : Room := { frames := 1, cells := 0, slots := 0, locals := 22 }
set_option maxHeartbeats 4000000 in
set_option maxRecDepth 100000 in
theorem kX8_isDigit (l : Launch) (D : va_G) (cI cZ cS : ClassId) (zz : ZT) (ad : Nat → Nat) (σ : SS) (a1 : Int32) (rr : Int32) (hf : pX8_isDigit σ a1 = some rr) : CI l yX8_isDigit wsX8_isDigit rmX8_isDigit D (K3 cI cZ cS) zz [.ref (ad 0), .int a1] (wX8 cI cZ cS ad σ) (wX8 cI cZ cS ad σ) rr := by
  refine q_ofI (cc := cX8_isDigit) (maxL := 2) (ty := .boolean) (by decide) rfl (Nat.le_of_ble_eq_true rfl) ?_
  intro p e s m below meth c Q A ls hx hb hml hown hts hK hZ hA hP hD hS hl hret
  have hl : lv_has ls 2 [(0, .ref (ad 0)), (1, .int a1)] := hl
  unfold pX8_isDigit at hf
  refine lv_aload_n hx hb dX8_isDigit_0 rfl (lv_at hl 0 rfl) ?_
  refine va_get (D := D) (ci := 8) (C := RX8) (T := TX8) (N := 2) hx hb hts fwX8_isDigit_X8 hown hK hP 0 rfl rfl 0 (by decide) (hts _ (List.mem_of_getElem? (i := 1) rfl)) (fun _ h9 => h9) rfl dX8_isDigit_1 ?_
  refine lv_iload_n hx hb dX8_isDigit_4 rfl (lv_at hl 1 rfl) ?_
  refine w_iald (wf := (wX8 cI cZ cS ad)) hx hb hK hP 1 0 rfl rfl hf dX8_isDigit_5 (fun v1 hf => ?_)
  refine lv_bipush (v := 48) hx hb dX8_isDigit_6 (by decide) ?_
  refine lv_bipush (v := 57) hx hb dX8_isDigit_8 (by decide) ?_
  refine q_cNr (wf := (wX8 cI cZ cS ad)) (rest := []) ⟨hx, hb, hml, hown, hts⟩ hK hZ hA hP hD hS hf (fun x ho => kX11_within l D cI cZ cS zz v1 (48 : Int32) (57 : Int32) x ho) ⟨va_cnB 3 hts gX8_isDigit_X11_within_n19 rfl rfl rfl hZ.2.2.2.2.2.1.2.2.2.2.2.1 (hts _ (List.mem_of_getElem? (i := 3) rfl)) ndX11_within.2 ⟨Nat.le_of_ble_eq_true rfl, Nat.le_of_ble_eq_true rfl⟩, (hts _ (List.mem_of_getElem? (i := 2) rfl)), trivial⟩ rfl (hl.1) rfl (Nat.le_of_ble_eq_true rfl) dX8_isDigit_10 ⟨Nat.zero_le _, Nat.zero_le _⟩ (fun r2 H locs hf hP hD hS => ?_)
  obtain ⟨hz, hf⟩ := q_zz_o hf
  have hi1 := Option.some.inj hf
  subst hi1
  exact hret _ _ _ _ dX8_isDigit_13 (q_zz_n hz).1 hP hS
def pX5_readNumber (σ : SS) : Option SS := q_lt (su σ 0 1 (2 : Int32)) (fun (σ1 : SS) => q_lt (su σ1 0 4 (0 : Int32)) (fun (σ2 : SS) => q_lp (fun _ => none) (fun (c4 : SS → Option SS) (σ3 : SS) => q_lt (some σ3) (fun j7 => (if (σ3 1 1) ≤ (σ3 0 3) then j7 else q_cr (pX8_isDigit (q_sb σ3 1) (σ3 0 3)) (fun (r9 : Int32) => (if r9 = (0 : Int32) then j7 else q_rd (σ3 2) 100 (σ3 0 3) (fun (v11 : Int32) => q_lt (su σ3 0 4 (if ((((σ3 0 4) * (10 : Int32)) + v11) - (48 : Int32)) < (1000 : Int32) then ((((σ3 0 4) * (10 : Int32)) + v11) - (48 : Int32)) else (1000 : Int32))) (fun (σ12 : SS) => q_lt (su σ12 0 3 ((σ12 0 3) + (1 : Int32))) (fun (σ13 : SS) => c4 σ13)))))))) q_fu σ2))
theorem fwX5_readNumber_X5 : ∀ w ∈ wsX50, w ∈ wsX5_readNumber := fun _ h => List.mem_cons_of_mem _ (List.mem_append_left _ (List.mem_append_right _ h))
theorem fwX5_readNumber_X8 : ∀ w ∈ wsX80, w ∈ wsX5_readNumber := fun _ h => List.mem_cons_of_mem _ (List.mem_append_right _ h)
abbrev rmX5_readNumber : Room := { frames := 2, cells := 0, slots := 0, locals := 43 }
set_option maxHeartbeats 4000000 in
set_option maxRecDepth 100000 in
theorem kX5_readNumber (l : Launch) (D : va_G) (cI cZ cS : ClassId) (zz : ZT) (ad : Nat → Nat) (σ : SS) (σr : SS) (hf : pX5_readNumber σ = some σr) : CV l yX5_readNumber wsX5_readNumber rmX5_readNumber D (K3 cI cZ cS) zz [.ref (ad 0)] (wX5 cI cZ cS ad σ) (wX5 cI cZ cS ad σr) := by
  refine q_ofV (cc := cX5_readNumber) (maxL := 1) (by decide) rfl (Nat.le_of_ble_eq_true rfl) ?_
  intro p e s m below meth c Q A ls hx hb hml hown hts hK hZ hA hP hD hS hl hret
  have hl : lv_has ls 1 [(0, .ref (ad 0))] := hl
  unfold pX5_readNumber at hf
  refine lv_aload_n hx hb dX5_readNumber_0 rfl (lv_at hl 0 rfl) ?_
  refine lv_iconst (v := 2) hx hb dX5_readNumber_1 (by decide) ?_
  refine w_put (D := D) (wf := (wX5 cI cZ cS ad)) (cid := 0) (ci := 5) (C := RX5) (T := TX5) (N := 5) hx hb hts fwX5_readNumber_X5 tyX5 tyX5_ok nmX5 hown hK hP hD hS 0 rfl rfl 1 (by decide) (hts _ (List.mem_of_getElem? (i := 1) rfl)) (fun _ h9 => h9) rfl (tyX5_ok 1 (by decide)) (Nat.le_of_ble_eq_true rfl) hf rfl dX5_readNumber_2 (fun σ1 H locs hf hP hD hS => ?_)
  refine lv_aload_n hx hb dX5_readNumber_5 rfl (lv_at hl 0 rfl) ?_
  refine lv_iconst (v := 0) hx hb dX5_readNumber_6 (by decide) ?_
  refine w_put (D := D) (wf := (wX5 cI cZ cS ad)) (cid := 0) (ci := 5) (C := RX5) (T := TX5) (N := 5) hx hb hts fwX5_readNumber_X5 tyX5 tyX5_ok nmX5 hown hK hP hD hS 0 rfl rfl 4 (by decide) (hts _ (List.mem_of_getElem? (i := 2) rfl)) (fun _ h9 => h9) rfl (tyX5_ok 4 (by decide)) (Nat.le_of_ble_eq_true rfl) hf rfl dX5_readNumber_7 (fun σ2 H locs hf hP hD hS => ?_)
  refine q_lp_go (f := fun (zf : SS → Option SS) => zf σ2) hf (fun z5 ez5 hf => ?_)
  have Lz5 : ∀ (n6 : Nat) (σ3 : SS) (H : Heap) (locs : List Loc) (ls : Array Slot), va_P D vwCl ((wX5 cI cZ cS ad) σ3) H → va_D A ((wX5 cI cZ cS ad) σ3) → va_S A s.heap H locs → lv_has ls 1 [(0, .ref (ad 0))] → q_lp (fun _ => none) z5 n6 σ3 = some σr → W p l e rmX5_readNumber s m ([.ref (ad 0)] : List Value).toArray below meth c H locs 0 0 Q (F0 m 10 ls []) := by
    intro n6
    induction n6 with
    | zero => exact fun _ _ _ _ _ _ _ _ hf => q_no hf
    | succ n6 ihz5 =>
      intro σ3 H locs ls hP hD hS hl hf
      have hf := (congrFun (congrFun ez5 (q_lp (fun _ => none) z5 n6)) σ3).symm.trans hf
      refine lv_aload_n hx hb dX5_readNumber_10 rfl (lv_at hl 0 rfl) ?_
      refine va_get (D := D) (ci := 5) (C := RX5) (T := TX5) (N := 5) hx hb hts fwX5_readNumber_X5 hown hK hP 0 rfl rfl 3 (by decide) (hts _ (List.mem_of_getElem? (i := 3) rfl)) (fun _ h9 => h9) rfl dX5_readNumber_11 ?_
      refine lv_aload_n hx hb dX5_readNumber_14 rfl (lv_at hl 0 rfl) ?_
      refine va_get (D := D) (ci := 5) (C := RX5) (T := TX5) (N := 5) hx hb hts fwX5_readNumber_X5 hown hK hP 0 rfl rfl 0 (by decide) (hts _ (List.mem_of_getElem? (i := 4) rfl)) (fun _ h9 => h9) rfl dX5_readNumber_15 ?_
      refine va_get (D := D) (ci := 8) (C := RX8) (T := TX8) (N := 2) hx hb hts fwX5_readNumber_X8 hown hK hP 1 rfl rfl 1 (by decide) (hts _ (List.mem_of_getElem? (i := 5) rfl)) (fun _ h9 => h9) rfl dX5_readNumber_18 ?_
      refine q_lt_go hf (fun j7 ej7 hf => ?_)
      have Jj7 : ∀ (H : Heap) (locs : List Loc) (ls : Array Slot), va_P D vwCl ((wX5 cI cZ cS ad) σ3) H → va_D A ((wX5 cI cZ cS ad) σ3) → va_S A s.heap H locs → lv_has ls 1 [] → j7 = some σr → W p l e rmX5_readNumber s m ([.ref (ad 0)] : List Value).toArray below meth c H locs 0 0 Q (F0 m 84 ls []) := by
        intro  H locs ls hP hD hS hl hf
        have hf := ej7.symm.trans hf
        have hi1 := Option.some.inj hf
        subst hi1
        exact hret _ _ _ _ dX5_readNumber_84 hP hS
      refine lv_icmp_ge (tgt := 84) hx hb dX5_readNumber_21 (by decide) (fun h8 => ?_) (fun h8 => ?_)
      · have hf := (if_pos h8).symm.trans hf
        exact Jj7  _ _ _ hP hD hS (lv_sub hl [] rfl) hf
      · have hf := (if_neg h8).symm.trans hf
        refine lv_aload_n hx hb dX5_readNumber_24 rfl (lv_at hl 0 rfl) ?_
        refine va_get (D := D) (ci := 5) (C := RX5) (T := TX5) (N := 5) hx hb hts fwX5_readNumber_X5 hown hK hP 0 rfl rfl 0 (by decide) (hts _ (List.mem_of_getElem? (i := 4) rfl)) (fun _ h9 => h9) rfl dX5_readNumber_25 ?_
        refine lv_aload_n hx hb dX5_readNumber_28 rfl (lv_at hl 0 rfl) ?_
        refine va_get (D := D) (ci := 5) (C := RX5) (T := TX5) (N := 5) hx hb hts fwX5_readNumber_X5 hown hK hP 0 rfl rfl 3 (by decide) (hts _ (List.mem_of_getElem? (i := 3) rfl)) (fun _ h9 => h9) rfl dX5_readNumber_29 ?_
        refine q_cVr (wf := (wX5 cI cZ cS ad)) (wc := wX8 cI cZ cS (fun i => ad (1 + i))) (rest := []) ⟨hx, hb, hml, hown, hts⟩ hK hZ hA hP hD hS hf (fun x ho => kX8_isDigit l D cI cZ cS zz (fun i => ad (1 + i)) (q_sb σ3 1) (σ3 0 3) x ho) (cwV 1 hts gX5_readNumber_X8_isDigit rfl rfl rfl ndX8_isDigit ⟨Nat.le_of_ble_eq_true rfl, Nat.le_of_ble_eq_true rfl⟩) [1, 2] rfl rfl rfl rfl rfl rfl (hl.1) rfl (Nat.le_of_ble_eq_true rfl) dX5_readNumber_32 ⟨Nat.zero_le _, Nat.zero_le _⟩ (fun r9 H locs hf hP hD hS => ?_)
        refine lv_if_eq (tgt := 84) hx hb dX5_readNumber_35 (by decide) (fun h10 => ?_) (fun h10 => ?_)
        · have hf := (if_pos h10).symm.trans hf
          exact Jj7  _ _ _ hP hD hS (lv_sub hl [] rfl) hf
        · have hf := (if_neg h10).symm.trans hf
          refine lv_aload_n hx hb dX5_readNumber_38 rfl (lv_at hl 0 rfl) ?_
          refine lv_sipush (v := 1000) hx hb dX5_readNumber_39 (by decide) ?_
          refine lv_aload_n hx hb dX5_readNumber_42 rfl (lv_at hl 0 rfl) ?_
          refine va_get (D := D) (ci := 5) (C := RX5) (T := TX5) (N := 5) hx hb hts fwX5_readNumber_X5 hown hK hP 0 rfl rfl 4 (by decide) (hts _ (List.mem_of_getElem? (i := 2) rfl)) (fun _ h9 => h9) rfl dX5_readNumber_43 ?_
          refine lv_bipush (v := 10) hx hb dX5_readNumber_46 (by decide) ?_
          refine lv_imul hx hb dX5_readNumber_48 ?_
          refine lv_aload_n hx hb dX5_readNumber_49 rfl (lv_at hl 0 rfl) ?_
          refine va_get (D := D) (ci := 5) (C := RX5) (T := TX5) (N := 5) hx hb hts fwX5_readNumber_X5 hown hK hP 0 rfl rfl 0 (by decide) (hts _ (List.mem_of_getElem? (i := 4) rfl)) (fun _ h9 => h9) rfl dX5_readNumber_50 ?_
          refine va_get (D := D) (ci := 8) (C := RX8) (T := TX8) (N := 2) hx hb hts fwX5_readNumber_X8 hown hK hP 1 rfl rfl 0 (by decide) (hts _ (List.mem_of_getElem? (i := 6) rfl)) (fun _ h9 => h9) rfl dX5_readNumber_53 ?_
          refine lv_aload_n hx hb dX5_readNumber_56 rfl (lv_at hl 0 rfl) ?_
          refine va_get (D := D) (ci := 5) (C := RX5) (T := TX5) (N := 5) hx hb hts fwX5_readNumber_X5 hown hK hP 0 rfl rfl 3 (by decide) (hts _ (List.mem_of_getElem? (i := 3) rfl)) (fun _ h9 => h9) rfl dX5_readNumber_57 ?_
          refine w_iald (wf := (wX5 cI cZ cS ad)) hx hb hK hP 2 0 rfl rfl hf dX5_readNumber_60 (fun v11 hf => ?_)
          refine lv_iadd hx hb dX5_readNumber_61 ?_
          refine lv_bipush (v := 48) hx hb dX5_readNumber_62 (by decide) ?_
          refine lv_isub hx hb dX5_readNumber_64 ?_
          refine va_mmin hx hb (hml.trans hl.1.symm) hown (hts _ (List.mem_of_getElem? (i := 7) rfl)) (hts _ (List.mem_of_getElem? (i := 8) rfl)) (hts _ (List.mem_of_getElem? (i := 9) rfl)) (hts _ (List.mem_of_getElem? (i := 10) rfl)) (Nat.le_of_ble_eq_true rfl) (Nat.le_of_ble_eq_true rfl) (Nat.zero_le _) (Nat.zero_le _) dX5_readNumber_65 ?_
          refine w_put (D := D) (wf := (wX5 cI cZ cS ad)) (cid := 0) (ci := 5) (C := RX5) (T := TX5) (N := 5) hx hb hts fwX5_readNumber_X5 tyX5 tyX5_ok nmX5 hown hK hP hD hS 0 rfl rfl 4 (by decide) (hts _ (List.mem_of_getElem? (i := 2) rfl)) (fun _ h9 => h9) rfl (tyX5_ok 4 (by decide)) (Nat.le_of_ble_eq_true rfl) hf rfl dX5_readNumber_68 (fun σ12 H locs hf hP hD hS => ?_)
          refine lv_aload_n hx hb dX5_readNumber_71 rfl (lv_at hl 0 rfl) ?_
          refine lv_dup hx hb dX5_readNumber_72 rfl ?_
          refine va_get (D := D) (ci := 5) (C := RX5) (T := TX5) (N := 5) hx hb hts fwX5_readNumber_X5 hown hK hP 0 rfl rfl 3 (by decide) (hts _ (List.mem_of_getElem? (i := 3) rfl)) (fun _ h9 => h9) rfl dX5_readNumber_73 ?_
          refine lv_iconst (v := 1) hx hb dX5_readNumber_76 (by decide) ?_
          refine lv_iadd hx hb dX5_readNumber_77 ?_
          refine w_put (D := D) (wf := (wX5 cI cZ cS ad)) (cid := 0) (ci := 5) (C := RX5) (T := TX5) (N := 5) hx hb hts fwX5_readNumber_X5 tyX5 tyX5_ok nmX5 hown hK hP hD hS 0 rfl rfl 3 (by decide) (hts _ (List.mem_of_getElem? (i := 3) rfl)) (fun _ h9 => h9) rfl (tyX5_ok 3 (by decide)) (Nat.le_of_ble_eq_true rfl) hf rfl dX5_readNumber_78 (fun σ13 H locs hf hP hD hS => ?_)
          refine lv_goto (tgt := 10) hx hb dX5_readNumber_81 (by decide) ?_
          exact ihz5 σ13 _ _ _ hP hD hS (lv_sub hl [0] rfl) hf
  exact Lz5 q_fu σ2 _ _ _ hP hD hS (lv_sub hl [0] rfl) hf
def pX5_readToken (σ : SS) : Option SS := q_lp (fun _ => none) (fun (c2 : SS → Option SS) (σ1 : SS) => q_lt (q_lt (su σ1 0 2 (σ1 0 3)) (fun (σ6 : SS) => q_lt (fun (σ7 : SS) => some σ7) (fun j8 => (if (σ6 0 2) < (σ6 1 1) then q_cr (pX8_isLetter (q_sb σ6 1) (σ6 0 2)) (fun (r10 : Int32) => (if r10 = (0 : Int32) then q_cr (pX8_isDigit (q_sb σ6 1) (σ6 0 2)) (fun (r12 : Int32) => (if r12 = (0 : Int32) then q_rd (σ6 2) 100 (σ6 0 2) (fun (v14 : Int32) => q_lt (fun (y15 : Int32) => q_lt (su σ6 0 1 y15) (fun (σ17 : SS) => q_lt (su σ17 0 3 ((σ17 0 3) + (1 : Int32))) (fun (σ18 : SS) => j8 σ18))) (fun j16 => (if v14 = (59 : Int32) then j16 (3 : Int32) else j16 (4 : Int32)))) else q_cs (pX5_readNumber σ6) (fun (τ : SS) => τ) (fun (σ20 : SS) => j8 σ20))) else q_cs (pX5_readWord σ6) (fun (τ : SS) => τ) (fun (σ21 : SS) => j8 σ21))) else q_lt (su σ6 0 1 (0 : Int32)) (fun (σ22 : SS) => j8 σ22))))) (fun j5 => (if (σ1 1 1) ≤ (σ1 0 3) then j5 else q_rd (σ1 2) 100 (σ1 0 3) (fun (v24 : Int32) => (if v24 = (32 : Int32) then q_lt (su σ1 0 3 ((σ1 0 3) + (1 : Int32))) (fun (σ26 : SS) => c2 σ26) else j5))))) q_fu σ
theorem fwX5_readToken_X5 : ∀ w ∈ wsX50, w ∈ wsX5_readToken := fun _ h => List.mem_cons_of_mem _ (List.mem_append_left _ (List.mem_append_right _ h))
theorem fwX5_readToken_X8 : ∀ w ∈ wsX80, w ∈ wsX5_readToken := fun _ h => List.mem_cons_of_mem _ (List.mem_append_right _ h)
abbrev rmX5_readToken : Room := { frames := 3, cells := 0, slots := 0, locals := 63 }
set_option maxHeartbeats 4000000 in
set_option maxRecDepth 100000 in
theorem kX5_readToken (l : Launch) (D : va_G) (cI cZ cS : ClassId) (zz : ZT) (ad : Nat → Nat) (σ : SS) (σr : SS) (hf : pX5_readToken σ = some σr) : CV l yX5_readToken wsX5_readToken rmX5_readToken D (K3 cI cZ cS) zz [.ref (ad 0)] (wX5 cI cZ cS ad σ) (wX5 cI cZ cS ad σr) := by
  refine q_ofV (cc := cX5_readToken) (maxL := 1) (by decide) rfl (Nat.le_of_ble_eq_true rfl) ?_
  intro p e s m below meth c Q A ls hx hb hml hown hts hK hZ hA hP hD hS hl hret
  have hl : lv_has ls 1 [(0, .ref (ad 0))] := hl
  unfold pX5_readToken at hf
  refine q_lp_go (f := fun (zf : SS → Option SS) => zf σ) hf (fun z3 ez3 hf => ?_)
  have Lz3 : ∀ (n4 : Nat) (σ1 : SS) (H : Heap) (locs : List Loc) (ls : Array Slot), va_P D vwCl ((wX5 cI cZ cS ad) σ1) H → va_D A ((wX5 cI cZ cS ad) σ1) → va_S A s.heap H locs → lv_has ls 1 [(0, .ref (ad 0))] → q_lp (fun _ => none) z3 n4 σ1 = some σr → W p l e rmX5_readToken s m ([.ref (ad 0)] : List Value).toArray below meth c H locs 0 0 Q (F0 m 0 ls []) := by
    intro n4
    induction n4 with
    | zero => exact fun _ _ _ _ _ _ _ _ hf => q_no hf
    | succ n4 ihz3 =>
      intro σ1 H locs ls hP hD hS hl hf
      have hf := (congrFun (congrFun ez3 (q_lp (fun _ => none) z3 n4)) σ1).symm.trans hf
      refine lv_aload_n hx hb dX5_readToken_0 rfl (lv_at hl 0 rfl) ?_
      refine va_get (D := D) (ci := 5) (C := RX5) (T := TX5) (N := 5) hx hb hts fwX5_readToken_X5 hown hK hP 0 rfl rfl 3 (by decide) (hts _ (List.mem_of_getElem? (i := 1) rfl)) (fun _ h9 => h9) rfl dX5_readToken_1 ?_
      refine lv_aload_n hx hb dX5_readToken_4 rfl (lv_at hl 0 rfl) ?_
      refine va_get (D := D) (ci := 5) (C := RX5) (T := TX5) (N := 5) hx hb hts fwX5_readToken_X5 hown hK hP 0 rfl rfl 0 (by decide) (hts _ (List.mem_of_getElem? (i := 2) rfl)) (fun _ h9 => h9) rfl dX5_readToken_5 ?_
      refine va_get (D := D) (ci := 8) (C := RX8) (T := TX8) (N := 2) hx hb hts fwX5_readToken_X8 hown hK hP 1 rfl rfl 1 (by decide) (hts _ (List.mem_of_getElem? (i := 3) rfl)) (fun _ h9 => h9) rfl dX5_readToken_8 ?_
      refine q_lt_go hf (fun j5 ej5 hf => ?_)
      have Jj5 : ∀ (H : Heap) (locs : List Loc) (ls : Array Slot), va_P D vwCl ((wX5 cI cZ cS ad) σ1) H → va_D A ((wX5 cI cZ cS ad) σ1) → va_S A s.heap H locs → lv_has ls 1 [(0, .ref (ad 0))] → j5 = some σr → W p l e rmX5_readToken s m ([.ref (ad 0)] : List Value).toArray below meth c H locs 0 0 Q (F0 m 44 ls []) := by
        intro  H locs ls hP hD hS hl hf
        have hf := ej5.symm.trans hf
        refine lv_aload_n hx hb dX5_readToken_44 rfl (lv_at hl 0 rfl) ?_
        refine lv_aload_n hx hb dX5_readToken_45 rfl (lv_at hl 0 rfl) ?_
        refine va_get (D := D) (ci := 5) (C := RX5) (T := TX5) (N := 5) hx hb hts fwX5_readToken_X5 hown hK hP 0 rfl rfl 3 (by decide) (hts _ (List.mem_of_getElem? (i := 1) rfl)) (fun _ h9 => h9) rfl dX5_readToken_46 ?_
        refine w_put (D := D) (wf := (wX5 cI cZ cS ad)) (cid := 0) (ci := 5) (C := RX5) (T := TX5) (N := 5) hx hb hts fwX5_readToken_X5 tyX5 tyX5_ok nmX5 hown hK hP hD hS 0 rfl rfl 2 (by decide) (hts _ (List.mem_of_getElem? (i := 5) rfl)) (fun _ h9 => h9) rfl (tyX5_ok 2 (by decide)) (Nat.le_of_ble_eq_true rfl) hf rfl dX5_readToken_49 (fun σ6 H locs hf hP hD hS => ?_)
        refine lv_aload_n hx hb dX5_readToken_52 rfl (lv_at hl 0 rfl) ?_
        refine va_get (D := D) (ci := 5) (C := RX5) (T := TX5) (N := 5) hx hb hts fwX5_readToken_X5 hown hK hP 0 rfl rfl 2 (by decide) (hts _ (List.mem_of_getElem? (i := 5) rfl)) (fun _ h9 => h9) rfl dX5_readToken_53 ?_
        refine lv_aload_n hx hb dX5_readToken_56 rfl (lv_at hl 0 rfl) ?_
        refine va_get (D := D) (ci := 5) (C := RX5) (T := TX5) (N := 5) hx hb hts fwX5_readToken_X5 hown hK hP 0 rfl rfl 0 (by decide) (hts _ (List.mem_of_getElem? (i := 2) rfl)) (fun _ h9 => h9) rfl dX5_readToken_57 ?_
        refine va_get (D := D) (ci := 8) (C := RX8) (T := TX8) (N := 2) hx hb hts fwX5_readToken_X8 hown hK hP 1 rfl rfl 1 (by decide) (hts _ (List.mem_of_getElem? (i := 3) rfl)) (fun _ h9 => h9) rfl dX5_readToken_60 ?_
        refine q_lt_go hf (fun j8 ej8 hf => ?_)
        have Jj8 : ∀ (σ7 : SS) (H : Heap) (locs : List Loc) (ls : Array Slot), va_P D vwCl ((wX5 cI cZ cS ad) σ7) H → va_D A ((wX5 cI cZ cS ad) σ7) → va_S A s.heap H locs → lv_has ls 1 [] → j8 σ7 = some σr → W p l e rmX5_readToken s m ([.ref (ad 0)] : List Value).toArray below meth c H locs 0 0 Q (F0 m 152 ls []) := by
          intro σ7 H locs ls hP hD hS hl hf
          have hf := (congrFun ej8 σ7).symm.trans hf
          have hi1 := Option.some.inj hf
          subst hi1
          exact hret _ _ _ _ dX5_readToken_152 hP hS
        refine lv_icmp_lt (tgt := 74) hx hb dX5_readToken_63 (by decide) (fun h9 => ?_) (fun h9 => ?_)
        · have hf := (if_pos h9).symm.trans hf
          refine lv_aload_n hx hb dX5_readToken_74 rfl (lv_at hl 0 rfl) ?_
          refine va_get (D := D) (ci := 5) (C := RX5) (T := TX5) (N := 5) hx hb hts fwX5_readToken_X5 hown hK hP 0 rfl rfl 0 (by decide) (hts _ (List.mem_of_getElem? (i := 2) rfl)) (fun _ h9 => h9) rfl dX5_readToken_75 ?_
          refine lv_aload_n hx hb dX5_readToken_78 rfl (lv_at hl 0 rfl) ?_
          refine va_get (D := D) (ci := 5) (C := RX5) (T := TX5) (N := 5) hx hb hts fwX5_readToken_X5 hown hK hP 0 rfl rfl 2 (by decide) (hts _ (List.mem_of_getElem? (i := 5) rfl)) (fun _ h9 => h9) rfl dX5_readToken_79 ?_
          refine q_cVr (wf := (wX5 cI cZ cS ad)) (wc := wX8 cI cZ cS (fun i => ad (1 + i))) (rest := []) ⟨hx, hb, hml, hown, hts⟩ hK hZ hA hP hD hS hf (fun x ho => kX8_isLetter l D cI cZ cS zz (fun i => ad (1 + i)) (q_sb σ6 1) (σ6 0 2) x ho) (cwV 1 hts gX5_readToken_X8_isLetter rfl rfl rfl ndX8_isLetter ⟨Nat.le_of_ble_eq_true rfl, Nat.le_of_ble_eq_true rfl⟩) [1, 2] rfl rfl rfl rfl rfl rfl (hl.1) rfl (Nat.le_of_ble_eq_true rfl) dX5_readToken_82 ⟨Nat.zero_le _, Nat.zero_le _⟩ (fun r10 H locs hf hP hD hS => ?_)
          refine lv_if_eq (tgt := 95) hx hb dX5_readToken_85 (by decide) (fun h11 => ?_) (fun h11 => ?_)
          · have hf := (if_pos h11).symm.trans hf
            refine lv_aload_n hx hb dX5_readToken_95 rfl (lv_at hl 0 rfl) ?_
            refine va_get (D := D) (ci := 5) (C := RX5) (T := TX5) (N := 5) hx hb hts fwX5_readToken_X5 hown hK hP 0 rfl rfl 0 (by decide) (hts _ (List.mem_of_getElem? (i := 2) rfl)) (fun _ h9 => h9) rfl dX5_readToken_96 ?_
            refine lv_aload_n hx hb dX5_readToken_99 rfl (lv_at hl 0 rfl) ?_
            refine va_get (D := D) (ci := 5) (C := RX5) (T := TX5) (N := 5) hx hb hts fwX5_readToken_X5 hown hK hP 0 rfl rfl 2 (by decide) (hts _ (List.mem_of_getElem? (i := 5) rfl)) (fun _ h9 => h9) rfl dX5_readToken_100 ?_
            refine q_cVr (wf := (wX5 cI cZ cS ad)) (wc := wX8 cI cZ cS (fun i => ad (1 + i))) (rest := []) ⟨hx, hb, hml, hown, hts⟩ hK hZ hA hP hD hS hf (fun x ho => kX8_isDigit l D cI cZ cS zz (fun i => ad (1 + i)) (q_sb σ6 1) (σ6 0 2) x ho) (cwV 1 hts gX5_readToken_X8_isDigit rfl rfl rfl ndX8_isDigit ⟨Nat.le_of_ble_eq_true rfl, Nat.le_of_ble_eq_true rfl⟩) [1, 2] rfl rfl rfl rfl rfl rfl (hl.1) rfl (Nat.le_of_ble_eq_true rfl) dX5_readToken_103 ⟨Nat.zero_le _, Nat.zero_le _⟩ (fun r12 H locs hf hP hD hS => ?_)
            refine lv_if_eq (tgt := 116) hx hb dX5_readToken_106 (by decide) (fun h13 => ?_) (fun h13 => ?_)
            · have hf := (if_pos h13).symm.trans hf
              refine lv_aload_n hx hb dX5_readToken_116 rfl (lv_at hl 0 rfl) ?_
              refine lv_aload_n hx hb dX5_readToken_117 rfl (lv_at hl 0 rfl) ?_
              refine va_get (D := D) (ci := 5) (C := RX5) (T := TX5) (N := 5) hx hb hts fwX5_readToken_X5 hown hK hP 0 rfl rfl 0 (by decide) (hts _ (List.mem_of_getElem? (i := 2) rfl)) (fun _ h9 => h9) rfl dX5_readToken_118 ?_
              refine va_get (D := D) (ci := 8) (C := RX8) (T := TX8) (N := 2) hx hb hts fwX5_readToken_X8 hown hK hP 1 rfl rfl 0 (by decide) (hts _ (List.mem_of_getElem? (i := 4) rfl)) (fun _ h9 => h9) rfl dX5_readToken_121 ?_
              refine lv_aload_n hx hb dX5_readToken_124 rfl (lv_at hl 0 rfl) ?_
              refine va_get (D := D) (ci := 5) (C := RX5) (T := TX5) (N := 5) hx hb hts fwX5_readToken_X5 hown hK hP 0 rfl rfl 2 (by decide) (hts _ (List.mem_of_getElem? (i := 5) rfl)) (fun _ h9 => h9) rfl dX5_readToken_125 ?_
              refine w_iald (wf := (wX5 cI cZ cS ad)) hx hb hK hP 2 0 rfl rfl hf dX5_readToken_128 (fun v14 hf => ?_)
              refine lv_bipush (v := 59) hx hb dX5_readToken_129 (by decide) ?_
              refine q_lt_go hf (fun j16 ej16 hf => ?_)
              have Jj16 : ∀ (y15 : Int32) (H : Heap) (locs : List Loc) (ls : Array Slot), va_P D vwCl ((wX5 cI cZ cS ad) σ6) H → va_D A ((wX5 cI cZ cS ad) σ6) → va_S A s.heap H locs → lv_has ls 1 [(0, .ref (ad 0))] → j16 y15 = some σr → W p l e rmX5_readToken s m ([.ref (ad 0)] : List Value).toArray below meth c H locs 0 0 Q (F0 m 139 ls [.int y15, .ref (ad 0)]) := by
                intro y15 H locs ls hP hD hS hl hf
                have hf := (congrFun ej16 y15).symm.trans hf
                refine w_put (D := D) (wf := (wX5 cI cZ cS ad)) (cid := 0) (ci := 5) (C := RX5) (T := TX5) (N := 5) hx hb hts fwX5_readToken_X5 tyX5 tyX5_ok nmX5 hown hK hP hD hS 0 rfl rfl 1 (by decide) (hts _ (List.mem_of_getElem? (i := 6) rfl)) (fun _ h9 => h9) rfl (tyX5_ok 1 (by decide)) (Nat.le_of_ble_eq_true rfl) hf rfl dX5_readToken_139 (fun σ17 H locs hf hP hD hS => ?_)
                refine lv_aload_n hx hb dX5_readToken_142 rfl (lv_at hl 0 rfl) ?_
                refine lv_dup hx hb dX5_readToken_143 rfl ?_
                refine va_get (D := D) (ci := 5) (C := RX5) (T := TX5) (N := 5) hx hb hts fwX5_readToken_X5 hown hK hP 0 rfl rfl 3 (by decide) (hts _ (List.mem_of_getElem? (i := 1) rfl)) (fun _ h9 => h9) rfl dX5_readToken_144 ?_
                refine lv_iconst (v := 1) hx hb dX5_readToken_147 (by decide) ?_
                refine lv_iadd hx hb dX5_readToken_148 ?_
                refine w_put (D := D) (wf := (wX5 cI cZ cS ad)) (cid := 0) (ci := 5) (C := RX5) (T := TX5) (N := 5) hx hb hts fwX5_readToken_X5 tyX5 tyX5_ok nmX5 hown hK hP hD hS 0 rfl rfl 3 (by decide) (hts _ (List.mem_of_getElem? (i := 1) rfl)) (fun _ h9 => h9) rfl (tyX5_ok 3 (by decide)) (Nat.le_of_ble_eq_true rfl) hf rfl dX5_readToken_149 (fun σ18 H locs hf hP hD hS => ?_)
                exact Jj8 σ18 _ _ _ hP hD hS (lv_sub hl [] rfl) hf
              refine lv_icmp_ne (tgt := 138) hx hb dX5_readToken_131 (by decide) (fun h19 => ?_) (fun h19 => ?_)
              · have hf := (if_neg h19).symm.trans hf
                refine lv_iconst (v := 4) hx hb dX5_readToken_138 (by decide) ?_
                exact Jj16 (4 : Int32) _ _ _ hP hD hS (lv_sub hl [0] rfl) hf
              · have hf := (if_pos h19).symm.trans hf
                refine lv_iconst (v := 3) hx hb dX5_readToken_134 (by decide) ?_
                refine lv_goto (tgt := 139) hx hb dX5_readToken_135 (by decide) ?_
                exact Jj16 (3 : Int32) _ _ _ hP hD hS (lv_sub hl [0] rfl) hf
            · have hf := (if_neg h13).symm.trans hf
              refine lv_aload_n hx hb dX5_readToken_109 rfl (lv_at hl 0 rfl) ?_
              refine q_cVv (wf := (wX5 cI cZ cS ad)) (wc := wX5 cI cZ cS ad) (rest := []) ⟨hx, hb, hml, hown, hts⟩ hK hZ hA hP hD hS hf (fun x ho => kX5_readNumber l D cI cZ cS zz ad σ6 x ho) (cwV 0 hts gX5_readToken_X5_readNumber rfl rfl rfl ndX5_readNumber ⟨Nat.le_of_ble_eq_true rfl, Nat.le_of_ble_eq_true rfl⟩) [0, 1, 2] rfl rfl [some 0, some 1, some 2] (by decide +kernel) (Nat.le_of_ble_eq_true rfl) (fun _ => rfl) (fun _ => rfl) (fun _ => rfl) rfl rfl rfl rfl (hl.1) rfl (Nat.le_of_ble_eq_true rfl) dX5_readToken_110 ⟨Nat.zero_le _, Nat.zero_le _⟩ (fun σ20 H locs hf hP hD hS => ?_)
              refine lv_goto (tgt := 152) hx hb dX5_readToken_113 (by decide) ?_
              exact Jj8 σ20 _ _ _ hP hD hS (lv_sub hl [] rfl) hf
          · have hf := (if_neg h11).symm.trans hf
            refine lv_aload_n hx hb dX5_readToken_88 rfl (lv_at hl 0 rfl) ?_
            refine q_cVv (wf := (wX5 cI cZ cS ad)) (wc := wX5 cI cZ cS ad) (rest := []) ⟨hx, hb, hml, hown, hts⟩ hK hZ hA hP hD hS hf (fun x ho => kX5_readWord l D cI cZ cS zz ad σ6 x ho) (cwV 0 hts gX5_readToken_X5_readWord rfl rfl rfl ndX5_readWord ⟨Nat.le_of_ble_eq_true rfl, Nat.le_of_ble_eq_true rfl⟩) [0, 1, 2] rfl rfl [some 0, some 1, some 2] (by decide +kernel) (Nat.le_of_ble_eq_true rfl) (fun _ => rfl) (fun _ => rfl) (fun _ => rfl) rfl rfl rfl rfl (hl.1) rfl (Nat.le_of_ble_eq_true rfl) dX5_readToken_89 ⟨Nat.zero_le _, Nat.zero_le _⟩ (fun σ21 H locs hf hP hD hS => ?_)
            refine lv_goto (tgt := 152) hx hb dX5_readToken_92 (by decide) ?_
            exact Jj8 σ21 _ _ _ hP hD hS (lv_sub hl [] rfl) hf
        · have hf := (if_neg h9).symm.trans hf
          refine lv_aload_n hx hb dX5_readToken_66 rfl (lv_at hl 0 rfl) ?_
          refine lv_iconst (v := 0) hx hb dX5_readToken_67 (by decide) ?_
          refine w_put (D := D) (wf := (wX5 cI cZ cS ad)) (cid := 0) (ci := 5) (C := RX5) (T := TX5) (N := 5) hx hb hts fwX5_readToken_X5 tyX5 tyX5_ok nmX5 hown hK hP hD hS 0 rfl rfl 1 (by decide) (hts _ (List.mem_of_getElem? (i := 6) rfl)) (fun _ h9 => h9) rfl (tyX5_ok 1 (by decide)) (Nat.le_of_ble_eq_true rfl) hf rfl dX5_readToken_68 (fun σ22 H locs hf hP hD hS => ?_)
          refine lv_goto (tgt := 152) hx hb dX5_readToken_71 (by decide) ?_
          exact Jj8 σ22 _ _ _ hP hD hS (lv_sub hl [] rfl) hf
      refine lv_icmp_ge (tgt := 44) hx hb dX5_readToken_11 (by decide) (fun h23 => ?_) (fun h23 => ?_)
      · have hf := (if_pos h23).symm.trans hf
        exact Jj5  _ _ _ hP hD hS (lv_sub hl [0] rfl) hf
      · have hf := (if_neg h23).symm.trans hf
        refine lv_aload_n hx hb dX5_readToken_14 rfl (lv_at hl 0 rfl) ?_
        refine va_get (D := D) (ci := 5) (C := RX5) (T := TX5) (N := 5) hx hb hts fwX5_readToken_X5 hown hK hP 0 rfl rfl 0 (by decide) (hts _ (List.mem_of_getElem? (i := 2) rfl)) (fun _ h9 => h9) rfl dX5_readToken_15 ?_
        refine va_get (D := D) (ci := 8) (C := RX8) (T := TX8) (N := 2) hx hb hts fwX5_readToken_X8 hown hK hP 1 rfl rfl 0 (by decide) (hts _ (List.mem_of_getElem? (i := 4) rfl)) (fun _ h9 => h9) rfl dX5_readToken_18 ?_
        refine lv_aload_n hx hb dX5_readToken_21 rfl (lv_at hl 0 rfl) ?_
        refine va_get (D := D) (ci := 5) (C := RX5) (T := TX5) (N := 5) hx hb hts fwX5_readToken_X5 hown hK hP 0 rfl rfl 3 (by decide) (hts _ (List.mem_of_getElem? (i := 1) rfl)) (fun _ h9 => h9) rfl dX5_readToken_22 ?_
        refine w_iald (wf := (wX5 cI cZ cS ad)) hx hb hK hP 2 0 rfl rfl hf dX5_readToken_25 (fun v24 hf => ?_)
        refine lv_bipush (v := 32) hx hb dX5_readToken_26 (by decide) ?_
        refine lv_icmp_ne (tgt := 44) hx hb dX5_readToken_28 (by decide) (fun h25 => ?_) (fun h25 => ?_)
        · have hf := (if_neg h25).symm.trans hf
          exact Jj5  _ _ _ hP hD hS (lv_sub hl [0] rfl) hf
        · have hf := (if_pos h25).symm.trans hf
          refine lv_aload_n hx hb dX5_readToken_31 rfl (lv_at hl 0 rfl) ?_
          refine lv_dup hx hb dX5_readToken_32 rfl ?_
          refine va_get (D := D) (ci := 5) (C := RX5) (T := TX5) (N := 5) hx hb hts fwX5_readToken_X5 hown hK hP 0 rfl rfl 3 (by decide) (hts _ (List.mem_of_getElem? (i := 1) rfl)) (fun _ h9 => h9) rfl dX5_readToken_33 ?_
          refine lv_iconst (v := 1) hx hb dX5_readToken_36 (by decide) ?_
          refine lv_iadd hx hb dX5_readToken_37 ?_
          refine w_put (D := D) (wf := (wX5 cI cZ cS ad)) (cid := 0) (ci := 5) (C := RX5) (T := TX5) (N := 5) hx hb hts fwX5_readToken_X5 tyX5 tyX5_ok nmX5 hown hK hP hD hS 0 rfl rfl 3 (by decide) (hts _ (List.mem_of_getElem? (i := 1) rfl)) (fun _ h9 => h9) rfl (tyX5_ok 3 (by decide)) (Nat.le_of_ble_eq_true rfl) hf rfl dX5_readToken_38 (fun σ26 H locs hf hP hD hS => ?_)
          refine lv_goto (tgt := 0) hx hb dX5_readToken_41 (by decide) ?_
          exact ihz3 σ26 _ _ _ hP hD hS (lv_sub hl [0] rfl) hf
  exact Lz3 q_fu σ _ _ _ hP hD hS (lv_sub hl [0] rfl) hf
def pX7_putNext (σ : SS) (a1 : Int32) (a2 : Int32) (a3 : Int32) : Option SS := q_wr σ 2 72 (((σ 0 0) * (12 : Int32)) + a1) a2 (fun (σ1 : SS) => q_wr σ1 3 72 (((σ1 0 0) * (12 : Int32)) + a1) a3 (fun (σ2 : SS) => some σ2))
theorem fwX7_putNext_X7 : ∀ w ∈ wsX70, w ∈ wsX7_putNext := fun _ h => List.mem_cons_of_mem _ (List.mem_append_right _ h)
abbrev rmX7_putNext : Room := { frames := 0, cells := 0, slots := 0, locals := 0 }
set_option maxHeartbeats 4000000 in
set_option maxRecDepth 100000 in
theorem kX7_putNext (l : Launch) (D : va_G) (cI cZ cS : ClassId) (zz : ZT) (ad : Nat → Nat) (σ : SS) (a1 : Int32) (a2 : Int32) (a3 : Int32) (σr : SS) (hf : pX7_putNext σ a1 a2 a3 = some σr) : CV l yX7_putNext wsX7_putNext rmX7_putNext D (K3 cI cZ cS) zz [.ref (ad 0), .int a1, .int a2, .int a3] (wX7 cI cZ cS ad σ) (wX7 cI cZ cS ad σr) := by
  refine q_ofV (cc := cX7_putNext) (maxL := 4) (by decide) rfl (Nat.le_of_ble_eq_true rfl) ?_
  intro p e s m below meth c Q A ls hx hb hml hown hts hK hZ hA hP hD hS hl hret
  have hl : lv_has ls 4 [(0, .ref (ad 0)), (1, .int a1), (2, .int a2), (3, .int a3)] := hl
  unfold pX7_putNext at hf
  refine lv_aload_n hx hb dX7_putNext_0 rfl (lv_at hl 0 rfl) ?_
  refine va_get (D := D) (ci := 7) (C := RX7) (T := TX7) (N := 4) hx hb hts fwX7_putNext_X7 hown hK hP 0 rfl rfl 2 (by decide) (hts _ (List.mem_of_getElem? (i := 1) rfl)) (fun _ h9 => h9) rfl dX7_putNext_1 ?_
  refine lv_aload_n hx hb dX7_putNext_4 rfl (lv_at hl 0 rfl) ?_
  refine va_get (D := D) (ci := 7) (C := RX7) (T := TX7) (N := 4) hx hb hts fwX7_putNext_X7 hown hK hP 0 rfl rfl 0 (by decide) (hts _ (List.mem_of_getElem? (i := 2) rfl)) (fun _ h9 => h9) rfl dX7_putNext_5 ?_
  refine lv_bipush (v := 12) hx hb dX7_putNext_8 (by decide) ?_
  refine lv_imul hx hb dX7_putNext_10 ?_
  refine lv_iload_n hx hb dX7_putNext_11 rfl (lv_at hl 1 rfl) ?_
  refine lv_iadd hx hb dX7_putNext_12 ?_
  refine lv_iload_n hx hb dX7_putNext_13 rfl (lv_at hl 2 rfl) ?_
  refine w_iast (wf := (wX7 cI cZ cS ad)) (cid := 2) hx hb hK hP hD hS 2 0 rfl rfl hf (fun _ => rfl) dX7_putNext_14 (fun σ1 H locs hf hP hD hS => ?_)
  refine lv_aload_n hx hb dX7_putNext_15 rfl (lv_at hl 0 rfl) ?_
  refine va_get (D := D) (ci := 7) (C := RX7) (T := TX7) (N := 4) hx hb hts fwX7_putNext_X7 hown hK hP 0 rfl rfl 3 (by decide) (hts _ (List.mem_of_getElem? (i := 3) rfl)) (fun _ h9 => h9) rfl dX7_putNext_16 ?_
  refine lv_aload_n hx hb dX7_putNext_19 rfl (lv_at hl 0 rfl) ?_
  refine va_get (D := D) (ci := 7) (C := RX7) (T := TX7) (N := 4) hx hb hts fwX7_putNext_X7 hown hK hP 0 rfl rfl 0 (by decide) (hts _ (List.mem_of_getElem? (i := 2) rfl)) (fun _ h9 => h9) rfl dX7_putNext_20 ?_
  refine lv_bipush (v := 12) hx hb dX7_putNext_23 (by decide) ?_
  refine lv_imul hx hb dX7_putNext_25 ?_
  refine lv_iload_n hx hb dX7_putNext_26 rfl (lv_at hl 1 rfl) ?_
  refine lv_iadd hx hb dX7_putNext_27 ?_
  refine lv_iload_n hx hb dX7_putNext_28 rfl (lv_at hl 3 rfl) ?_
  refine w_iast (wf := (wX7 cI cZ cS ad)) (cid := 3) hx hb hK hP hD hS 3 0 rfl rfl hf (fun _ => rfl) dX7_putNext_29 (fun σ2 H locs hf hP hD hS => ?_)
  have hi1 := Option.some.inj hf
  subst hi1
  exact hret _ _ _ _ dX7_putNext_30 hP hS
def pX7_addNext (σ : SS) (a1 : Int32) : Option SS := q_wr σ 1 6 (σ 0 0) a1 (fun (σ1 : SS) => q_lt (su σ1 0 0 ((σ1 0 0) + (1 : Int32))) (fun (σ2 : SS) => some σ2))
theorem fwX7_addNext_X7 : ∀ w ∈ wsX70, w ∈ wsX7_addNext := fun _ h => List.mem_cons_of_mem _ (List.mem_append_right _ h)
abbrev rmX7_addNext : Room := { frames := 0, cells := 0, slots := 0, locals := 0 }
set_option maxHeartbeats 4000000 in
set_option maxRecDepth 100000 in
theorem kX7_addNext (l : Launch) (D : va_G) (cI cZ cS : ClassId) (zz : ZT) (ad : Nat → Nat) (σ : SS) (a1 : Int32) (σr : SS) (hf : pX7_addNext σ a1 = some σr) : CV l yX7_addNext wsX7_addNext rmX7_addNext D (K3 cI cZ cS) zz [.ref (ad 0), .int a1] (wX7 cI cZ cS ad σ) (wX7 cI cZ cS ad σr) := by
  refine q_ofV (cc := cX7_addNext) (maxL := 2) (by decide) rfl (Nat.le_of_ble_eq_true rfl) ?_
  intro p e s m below meth c Q A ls hx hb hml hown hts hK hZ hA hP hD hS hl hret
  have hl : lv_has ls 2 [(0, .ref (ad 0)), (1, .int a1)] := hl
  unfold pX7_addNext at hf
  refine lv_aload_n hx hb dX7_addNext_0 rfl (lv_at hl 0 rfl) ?_
  refine va_get (D := D) (ci := 7) (C := RX7) (T := TX7) (N := 4) hx hb hts fwX7_addNext_X7 hown hK hP 0 rfl rfl 1 (by decide) (hts _ (List.mem_of_getElem? (i := 1) rfl)) (fun _ h9 => h9) rfl dX7_addNext_1 ?_
  refine lv_aload_n hx hb dX7_addNext_4 rfl (lv_at hl 0 rfl) ?_
  refine va_get (D := D) (ci := 7) (C := RX7) (T := TX7) (N := 4) hx hb hts fwX7_addNext_X7 hown hK hP 0 rfl rfl 0 (by decide) (hts _ (List.mem_of_getElem? (i := 2) rfl)) (fun _ h9 => h9) rfl dX7_addNext_5 ?_
  refine lv_iload_n hx hb dX7_addNext_8 rfl (lv_at hl 1 rfl) ?_
  refine w_iast (wf := (wX7 cI cZ cS ad)) (cid := 1) hx hb hK hP hD hS 1 0 rfl rfl hf (fun _ => rfl) dX7_addNext_9 (fun σ1 H locs hf hP hD hS => ?_)
  refine lv_aload_n hx hb dX7_addNext_10 rfl (lv_at hl 0 rfl) ?_
  refine lv_dup hx hb dX7_addNext_11 rfl ?_
  refine va_get (D := D) (ci := 7) (C := RX7) (T := TX7) (N := 4) hx hb hts fwX7_addNext_X7 hown hK hP 0 rfl rfl 0 (by decide) (hts _ (List.mem_of_getElem? (i := 2) rfl)) (fun _ h9 => h9) rfl dX7_addNext_12 ?_
  refine lv_iconst (v := 1) hx hb dX7_addNext_15 (by decide) ?_
  refine lv_iadd hx hb dX7_addNext_16 ?_
  refine w_put (D := D) (wf := (wX7 cI cZ cS ad)) (cid := 0) (ci := 7) (C := RX7) (T := TX7) (N := 4) hx hb hts fwX7_addNext_X7 tyX7 tyX7_ok nmX7 hown hK hP hD hS 0 rfl rfl 0 (by decide) (hts _ (List.mem_of_getElem? (i := 2) rfl)) (fun _ h9 => h9) rfl (tyX7_ok 0 (by decide)) (Nat.le_of_ble_eq_true rfl) hf rfl dX7_addNext_17 (fun σ2 H locs hf hP hD hS => ?_)
  have hi1 := Option.some.inj hf
  subst hi1
  exact hret _ _ _ _ dX7_addNext_20 hP hS
def pX6_isMissing (σ : SS) : Option Int32 := q_lt (fun (y1 : Int32) => q_zz y1 (some y1)) (fun j2 => (if (σ 0 0) = (0 : Int32) then j2 (1 : Int32) else j2 (0 : Int32)))
theorem fwX6_isMissing_X6 : ∀ w ∈ wsX60, w ∈ wsX6_isMissing := fun _ h => List.mem_cons_of_mem _ (List.mem_append_right _ h)
abbrev rmX6_isMissing : Room := { frames := 0, cells := 0, slots := 0, locals := 0 }
set_option maxHeartbeats 4000000 in
set_option maxRecDepth 100000 in
theorem kX6_isMissing (l : Launch) (D : va_G) (cI cZ cS : ClassId) (zz : ZT) (ad : Nat → Nat) (σ : SS) (rr : Int32) (hf : pX6_isMissing σ = some rr) : CI l yX6_isMissing wsX6_isMissing rmX6_isMissing D (K3 cI cZ cS) zz [.ref (ad 0)] (wX6 cI cZ cS ad σ) (wX6 cI cZ cS ad σ) rr := by
  refine q_ofI (cc := cX6_isMissing) (maxL := 1) (ty := .boolean) (by decide) rfl (Nat.le_of_ble_eq_true rfl) ?_
  intro p e s m below meth c Q A ls hx hb hml hown hts hK hZ hA hP hD hS hl hret
  have hl : lv_has ls 1 [(0, .ref (ad 0))] := hl
  unfold pX6_isMissing at hf
  refine lv_aload_n hx hb dX6_isMissing_0 rfl (lv_at hl 0 rfl) ?_
  refine va_get (D := D) (ci := 6) (C := RX6) (T := TX6) (N := 3) hx hb hts fwX6_isMissing_X6 hown hK hP 0 rfl rfl 0 (by decide) (hts _ (List.mem_of_getElem? (i := 1) rfl)) (fun _ h9 => h9) rfl dX6_isMissing_1 ?_
  refine q_lt_go hf (fun j2 ej2 hf => ?_)
  have Jj2 : ∀ (y1 : Int32) (H : Heap) (locs : List Loc) (ls : Array Slot), va_P D vwCl ((wX6 cI cZ cS ad) σ) H → va_D A ((wX6 cI cZ cS ad) σ) → va_S A s.heap H locs → lv_has ls 1 [] → j2 y1 = some rr → W p l e rmX6_isMissing s m ([.ref (ad 0)] : List Value).toArray below meth c H locs 0 0 Q (F0 m 12 ls [.int y1]) := by
    intro y1 H locs ls hP hD hS hl hf
    have hf := (congrFun ej2 y1).symm.trans hf
    obtain ⟨hz, hf⟩ := q_zz_o hf
    have hi1 := Option.some.inj hf
    subst hi1
    exact hret _ _ _ _ dX6_isMissing_12 (q_zz_n hz).1 hP hS
  refine lv_if_ne (tgt := 11) hx hb dX6_isMissing_4 (by decide) (fun h3 => ?_) (fun h3 => ?_)
  · have hf := (if_neg h3).symm.trans hf
    refine lv_iconst (v := 0) hx hb dX6_isMissing_11 (by decide) ?_
    exact Jj2 (0 : Int32) _ _ _ hP hD hS (lv_sub hl [] rfl) hf
  · have hf := (if_pos h3).symm.trans hf
    refine lv_iconst (v := 1) hx hb dX6_isMissing_7 (by decide) ?_
    refine lv_goto (tgt := 12) hx hb dX6_isMissing_8 (by decide) ?_
    exact Jj2 (1 : Int32) _ _ _ hP hD hS (lv_sub hl [] rfl) hf
def pJ7_fill_53178_10 (σ : SS) (a2 : Int32) : Option SS := q_lp (fun _ _ => none) (fun (c3 : SS → Int32 → Option SS) (σ2 : SS) (x2_1 : Int32) => (if (10 : Int32) ≤ x2_1 then some σ2 else q_wr σ2 0 10 x2_1 a2 (fun (σ7 : SS) => c3 σ7 (x2_1 + (1 : Int32))))) q_fu σ (0 : Int32)
abbrev rmJ7_fill_53178_10 : Room := { frames := 0, cells := 0, slots := 0, locals := 0 }
set_option maxHeartbeats 4000000 in
set_option maxRecDepth 100000 in
theorem kJ7_fill_53178_10 (l : Launch) (D : va_G) (cI cZ cS : ClassId) (zz : ZT) (ad : Nat → Nat) (σ : SS) (a2 : Int32) (σr : SS) (hf : pJ7_fill_53178_10 σ a2 = some σr) : CV l yJ7_fill_53178 wsJ7_fill_53178 rmJ7_fill_53178_10 D (K3 cI cZ cS) zz [.ref (ad 0), .int a2] (wA10 cI cZ cS ad σ) (wA10 cI cZ cS ad σr) := by
  refine q_ofV (cc := cJ7_fill_53178) (maxL := 4) (by decide) rfl (Nat.le_of_ble_eq_true rfl) ?_
  intro p e s m below meth c Q A ls hx hb hml hown hts hK hZ hA hP hD hS hl hret
  have hl : lv_has ls 4 [(0, .ref (ad 0)), (1, .int a2)] := hl
  unfold pJ7_fill_53178_10 at hf
  refine lv_iconst (v := 0) hx hb dJ7_fill_53178_0 (by decide) ?_
  refine lv_istore_n (lv' := [(2, .int (0 : Int32)), (0, .ref (ad 0)), (1, .int a2)]) hx hb dJ7_fill_53178_1 rfl hl (by decide) rfl (fun ls hl => ?_)
  refine lv_aload_n hx hb dJ7_fill_53178_2 rfl (lv_at hl 1 rfl) ?_
  refine va_alen (v := 10) hx hb hK hP 0 0 rfl rfl rfl dJ7_fill_53178_3 ?_
  refine lv_istore_n (lv' := [(3, .int (10 : Int32)), (2, .int (0 : Int32)), (0, .ref (ad 0)), (1, .int a2)]) hx hb dJ7_fill_53178_4 rfl hl (by decide) rfl (fun ls hl => ?_)
  refine q_lp_go (f := fun (zf : SS → Int32 → Option SS) => zf σ (0 : Int32)) hf (fun z4 ez4 hf => ?_)
  have Lz4 : ∀ (n5 : Nat) (σ2 : SS) (x2_1 : Int32) (H : Heap) (locs : List Loc) (ls : Array Slot), va_P D vwCl ((wA10 cI cZ cS ad) σ2) H → va_D A ((wA10 cI cZ cS ad) σ2) → va_S A s.heap H locs → lv_has ls 4 [(0, .ref (ad 0)), (1, .int a2), (2, .int x2_1), (3, .int (10 : Int32))] → q_lp (fun _ _ => none) z4 n5 σ2 x2_1 = some σr → W p l e rmJ7_fill_53178_10 s m ([.ref (ad 0), .int a2] : List Value).toArray below meth c H locs 0 0 Q (F0 m 5 ls []) := by
    intro n5
    induction n5 with
    | zero => exact fun _ _ _ _ _ _ _ _ _ hf => q_no hf
    | succ n5 ihz4 =>
      intro σ2 x2_1 H locs ls hP hD hS hl hf
      have hf := (congrFun (congrFun (congrFun ez4 (q_lp (fun _ _ => none) z4 n5)) σ2) x2_1).symm.trans hf
      refine lv_iload_n hx hb dJ7_fill_53178_5 rfl (lv_at hl 2 rfl) ?_
      refine lv_iload_n hx hb dJ7_fill_53178_6 rfl (lv_at hl 3 rfl) ?_
      refine lv_icmp_ge (tgt := 20) hx hb dJ7_fill_53178_7 (by decide) (fun h6 => ?_) (fun h6 => ?_)
      · have hf := (if_pos h6).symm.trans hf
        have hi1 := Option.some.inj hf
        subst hi1
        exact hret _ _ _ _ dJ7_fill_53178_20 hP hS
      · have hf := (if_neg h6).symm.trans hf
        refine lv_aload_n hx hb dJ7_fill_53178_10 rfl (lv_at hl 0 rfl) ?_
        refine lv_iload_n hx hb dJ7_fill_53178_11 rfl (lv_at hl 2 rfl) ?_
        refine lv_iload_n hx hb dJ7_fill_53178_12 rfl (lv_at hl 1 rfl) ?_
        refine w_iast (wf := (wA10 cI cZ cS ad)) (cid := 0) hx hb hK hP hD hS 0 0 rfl rfl hf (fun _ => rfl) dJ7_fill_53178_13 (fun σ7 H locs hf hP hD hS => ?_)
        refine lv_iinc (v := (x2_1 + (1 : Int32))) (lv' := [(2, .int (x2_1 + (1 : Int32))), (0, .ref (ad 0)), (1, .int a2), (3, .int (10 : Int32))]) hx hb dJ7_fill_53178_14 hl (k := 2) rfl rfl (by decide) rfl (fun ls hl => ?_)
        refine lv_goto (tgt := 5) hx hb dJ7_fill_53178_17 (by decide) ?_
        exact ihz4 σ7 (x2_1 + (1 : Int32)) _ _ _ hP hD hS (lv_sub hl [1, 2, 0, 3] rfl) hf
  exact Lz4 q_fu σ (0 : Int32) _ _ _ hP hD hS (lv_sub hl [2, 3, 1, 0] rfl) hf
def pJ7_fill_53178_40 (σ : SS) (a2 : Int32) : Option SS := q_lp (fun _ _ => none) (fun (c3 : SS → Int32 → Option SS) (σ2 : SS) (x2_1 : Int32) => (if (40 : Int32) ≤ x2_1 then some σ2 else q_wr σ2 0 40 x2_1 a2 (fun (σ7 : SS) => c3 σ7 (x2_1 + (1 : Int32))))) q_fu σ (0 : Int32)
abbrev rmJ7_fill_53178_40 : Room := { frames := 0, cells := 0, slots := 0, locals := 0 }
set_option maxHeartbeats 4000000 in
set_option maxRecDepth 100000 in
theorem kJ7_fill_53178_40 (l : Launch) (D : va_G) (cI cZ cS : ClassId) (zz : ZT) (ad : Nat → Nat) (σ : SS) (a2 : Int32) (σr : SS) (hf : pJ7_fill_53178_40 σ a2 = some σr) : CV l yJ7_fill_53178 wsJ7_fill_53178 rmJ7_fill_53178_40 D (K3 cI cZ cS) zz [.ref (ad 0), .int a2] (wA40 cI cZ cS ad σ) (wA40 cI cZ cS ad σr) := by
  refine q_ofV (cc := cJ7_fill_53178) (maxL := 4) (by decide) rfl (Nat.le_of_ble_eq_true rfl) ?_
  intro p e s m below meth c Q A ls hx hb hml hown hts hK hZ hA hP hD hS hl hret
  have hl : lv_has ls 4 [(0, .ref (ad 0)), (1, .int a2)] := hl
  unfold pJ7_fill_53178_40 at hf
  refine lv_iconst (v := 0) hx hb dJ7_fill_53178_0 (by decide) ?_
  refine lv_istore_n (lv' := [(2, .int (0 : Int32)), (0, .ref (ad 0)), (1, .int a2)]) hx hb dJ7_fill_53178_1 rfl hl (by decide) rfl (fun ls hl => ?_)
  refine lv_aload_n hx hb dJ7_fill_53178_2 rfl (lv_at hl 1 rfl) ?_
  refine va_alen (v := 40) hx hb hK hP 0 0 rfl rfl rfl dJ7_fill_53178_3 ?_
  refine lv_istore_n (lv' := [(3, .int (40 : Int32)), (2, .int (0 : Int32)), (0, .ref (ad 0)), (1, .int a2)]) hx hb dJ7_fill_53178_4 rfl hl (by decide) rfl (fun ls hl => ?_)
  refine q_lp_go (f := fun (zf : SS → Int32 → Option SS) => zf σ (0 : Int32)) hf (fun z4 ez4 hf => ?_)
  have Lz4 : ∀ (n5 : Nat) (σ2 : SS) (x2_1 : Int32) (H : Heap) (locs : List Loc) (ls : Array Slot), va_P D vwCl ((wA40 cI cZ cS ad) σ2) H → va_D A ((wA40 cI cZ cS ad) σ2) → va_S A s.heap H locs → lv_has ls 4 [(0, .ref (ad 0)), (1, .int a2), (2, .int x2_1), (3, .int (40 : Int32))] → q_lp (fun _ _ => none) z4 n5 σ2 x2_1 = some σr → W p l e rmJ7_fill_53178_40 s m ([.ref (ad 0), .int a2] : List Value).toArray below meth c H locs 0 0 Q (F0 m 5 ls []) := by
    intro n5
    induction n5 with
    | zero => exact fun _ _ _ _ _ _ _ _ _ hf => q_no hf
    | succ n5 ihz4 =>
      intro σ2 x2_1 H locs ls hP hD hS hl hf
      have hf := (congrFun (congrFun (congrFun ez4 (q_lp (fun _ _ => none) z4 n5)) σ2) x2_1).symm.trans hf
      refine lv_iload_n hx hb dJ7_fill_53178_5 rfl (lv_at hl 2 rfl) ?_
      refine lv_iload_n hx hb dJ7_fill_53178_6 rfl (lv_at hl 3 rfl) ?_
      refine lv_icmp_ge (tgt := 20) hx hb dJ7_fill_53178_7 (by decide) (fun h6 => ?_) (fun h6 => ?_)
      · have hf := (if_pos h6).symm.trans hf
        have hi1 := Option.some.inj hf
        subst hi1
        exact hret _ _ _ _ dJ7_fill_53178_20 hP hS
      · have hf := (if_neg h6).symm.trans hf
        refine lv_aload_n hx hb dJ7_fill_53178_10 rfl (lv_at hl 0 rfl) ?_
        refine lv_iload_n hx hb dJ7_fill_53178_11 rfl (lv_at hl 2 rfl) ?_
        refine lv_iload_n hx hb dJ7_fill_53178_12 rfl (lv_at hl 1 rfl) ?_
        refine w_iast (wf := (wA40 cI cZ cS ad)) (cid := 0) hx hb hK hP hD hS 0 0 rfl rfl hf (fun _ => rfl) dJ7_fill_53178_13 (fun σ7 H locs hf hP hD hS => ?_)
        refine lv_iinc (v := (x2_1 + (1 : Int32))) (lv' := [(2, .int (x2_1 + (1 : Int32))), (0, .ref (ad 0)), (1, .int a2), (3, .int (40 : Int32))]) hx hb dJ7_fill_53178_14 hl (k := 2) rfl rfl (by decide) rfl (fun ls hl => ?_)
        refine lv_goto (tgt := 5) hx hb dJ7_fill_53178_17 (by decide) ?_
        exact ihz4 σ7 (x2_1 + (1 : Int32)) _ _ _ hP hD hS (lv_sub hl [1, 2, 0, 3] rfl) hf
  exact Lz4 q_fu σ (0 : Int32) _ _ _ hP hD hS (lv_sub hl [2, 3, 1, 0] rfl) hf
def pX6_layOut (σ : SS) (a1 : Int32) (a2 : Int32) : Option SS := q_lt (su σ 0 0 a1) (fun (σ1 : SS) => q_lt (fun (y2 : Int32) => q_lt (su σ1 0 1 y2) (fun (σ4 : SS) => q_cs (pJ7_fill_53178_40 (q_sb σ4 1) (0 : Int32)) (fun (τ : SS) => (q_em σ4 1 0 1 τ)) (fun (σ5 : SS) => some σ5))) (fun j3 => (if a1 = (0 : Int32) then j3 (0 : Int32) else j3 a2)))
theorem fwX6_layOut_X6 : ∀ w ∈ wsX60, w ∈ wsX6_layOut := fun _ h => List.mem_cons_of_mem _ (List.mem_append_right _ h)
abbrev rmX6_layOut : Room := { frames := 1, cells := 0, slots := 0, locals := 23 }
set_option maxHeartbeats 4000000 in
set_option maxRecDepth 100000 in
theorem kX6_layOut (l : Launch) (D : va_G) (cI cZ cS : ClassId) (zz : ZT) (ad : Nat → Nat) (σ : SS) (a1 : Int32) (a2 : Int32) (σr : SS) (hf : pX6_layOut σ a1 a2 = some σr) : CV l yX6_layOut wsX6_layOut rmX6_layOut D (K3 cI cZ cS) zz [.ref (ad 0), .int a1, .int a2] (wX6 cI cZ cS ad σ) (wX6 cI cZ cS ad σr) := by
  refine q_ofV (cc := cX6_layOut) (maxL := 3) (by decide) rfl (Nat.le_of_ble_eq_true rfl) ?_
  intro p e s m below meth c Q A ls hx hb hml hown hts hK hZ hA hP hD hS hl hret
  have hl : lv_has ls 3 [(0, .ref (ad 0)), (1, .int a1), (2, .int a2)] := hl
  unfold pX6_layOut at hf
  refine lv_aload_n hx hb dX6_layOut_0 rfl (lv_at hl 0 rfl) ?_
  refine lv_iload_n hx hb dX6_layOut_1 rfl (lv_at hl 1 rfl) ?_
  refine w_put (D := D) (wf := (wX6 cI cZ cS ad)) (cid := 0) (ci := 6) (C := RX6) (T := TX6) (N := 3) hx hb hts fwX6_layOut_X6 tyX6 tyX6_ok nmX6 hown hK hP hD hS 0 rfl rfl 0 (by decide) (hts _ (List.mem_of_getElem? (i := 1) rfl)) (fun _ h9 => h9) rfl (tyX6_ok 0 (by decide)) (Nat.le_of_ble_eq_true rfl) hf rfl dX6_layOut_2 (fun σ1 H locs hf hP hD hS => ?_)
  refine lv_aload_n hx hb dX6_layOut_5 rfl (lv_at hl 0 rfl) ?_
  refine lv_iload_n hx hb dX6_layOut_6 rfl (lv_at hl 1 rfl) ?_
  refine q_lt_go hf (fun j3 ej3 hf => ?_)
  have Jj3 : ∀ (y2 : Int32) (H : Heap) (locs : List Loc) (ls : Array Slot), va_P D vwCl ((wX6 cI cZ cS ad) σ1) H → va_D A ((wX6 cI cZ cS ad) σ1) → va_S A s.heap H locs → lv_has ls 3 [(0, .ref (ad 0))] → j3 y2 = some σr → W p l e rmX6_layOut s m ([.ref (ad 0), .int a1, .int a2] : List Value).toArray below meth c H locs 0 0 Q (F0 m 15 ls [.int y2, .ref (ad 0)]) := by
    intro y2 H locs ls hP hD hS hl hf
    have hf := (congrFun ej3 y2).symm.trans hf
    refine w_put (D := D) (wf := (wX6 cI cZ cS ad)) (cid := 0) (ci := 6) (C := RX6) (T := TX6) (N := 3) hx hb hts fwX6_layOut_X6 tyX6 tyX6_ok nmX6 hown hK hP hD hS 0 rfl rfl 1 (by decide) (hts _ (List.mem_of_getElem? (i := 2) rfl)) (fun _ h9 => h9) rfl (tyX6_ok 1 (by decide)) (Nat.le_of_ble_eq_true rfl) hf rfl dX6_layOut_15 (fun σ4 H locs hf hP hD hS => ?_)
    refine lv_aload_n hx hb dX6_layOut_18 rfl (lv_at hl 0 rfl) ?_
    refine va_get (D := D) (ci := 6) (C := RX6) (T := TX6) (N := 3) hx hb hts fwX6_layOut_X6 hown hK hP 0 rfl rfl 2 (by decide) (hts _ (List.mem_of_getElem? (i := 3) rfl)) (fun _ h9 => h9) rfl dX6_layOut_19 ?_
    refine lv_iconst (v := 0) hx hb dX6_layOut_22 (by decide) ?_
    refine q_cSv (wf := (wX6 cI cZ cS ad)) (wc := wA40 cI cZ cS (fun i => ad (1 + i))) (rest := []) ⟨hx, hb, hml, hown, hts⟩ hK hZ hA hP hD hS hf (fun x ho => kJ7_fill_53178_40 l D cI cZ cS zz (fun i => ad (1 + i)) (q_sb σ4 1) (0 : Int32) x ho) (va_cwS 2 hts gX6_layOut_J7_fill_53178 rfl rfl rfl ndJ7_fill_53178.2 ⟨Nat.le_of_ble_eq_true rfl, Nat.le_of_ble_eq_true rfl⟩) [1] rfl rfl [none, some 0] (by decide +kernel) (Nat.le_of_ble_eq_true rfl) (fun _ => rfl) (fun _ => rfl) (fun _ => rfl) rfl (hl.1) rfl (Nat.le_of_ble_eq_true rfl) dX6_layOut_23 ⟨Nat.zero_le _, Nat.zero_le _⟩ (fun σ5 H locs hf hP hD hS => ?_)
    have hi1 := Option.some.inj hf
    subst hi1
    exact hret _ _ _ _ dX6_layOut_26 hP hS
  refine lv_if_ne (tgt := 14) hx hb dX6_layOut_7 (by decide) (fun h6 => ?_) (fun h6 => ?_)
  · have hf := (if_neg h6).symm.trans hf
    refine lv_iload_n hx hb dX6_layOut_14 rfl (lv_at hl 2 rfl) ?_
    exact Jj3 a2 _ _ _ hP hD hS (lv_sub hl [0] rfl) hf
  · have hf := (if_pos h6).symm.trans hf
    refine lv_iconst (v := 0) hx hb dX6_layOut_10 (by decide) ?_
    refine lv_goto (tgt := 15) hx hb dX6_layOut_11 (by decide) ?_
    exact Jj3 (0 : Int32) _ _ _ hP hD hS (lv_sub hl [0] rfl) hf
def pX6_put (σ : SS) (a1 : Int32) (a2 : Int32) : Option SS := q_lt (fun (σ1 : SS) => some σ1) (fun j2 => (if (σ 0 0) = (8 : Int32) then q_wr σ 1 40 a1 (Int32.toInt8 a2).toInt32 (fun (σ4 : SS) => j2 σ4) else (if (σ 0 0) = (16 : Int32) then q_wr σ 1 40 a1 (Int32.toInt16 a2).toInt32 (fun (σ6 : SS) => j2 σ6) else q_wr σ 1 40 a1 a2 (fun (σ7 : SS) => j2 σ7))))
theorem fwX6_put_X6 : ∀ w ∈ wsX60, w ∈ wsX6_put := fun _ h => List.mem_cons_of_mem _ (List.mem_append_right _ h)
abbrev rmX6_put : Room := { frames := 0, cells := 0, slots := 0, locals := 0 }
set_option maxHeartbeats 4000000 in
set_option maxRecDepth 100000 in
theorem kX6_put (l : Launch) (D : va_G) (cI cZ cS : ClassId) (zz : ZT) (ad : Nat → Nat) (σ : SS) (a1 : Int32) (a2 : Int32) (σr : SS) (hf : pX6_put σ a1 a2 = some σr) : CV l yX6_put wsX6_put rmX6_put D (K3 cI cZ cS) zz [.ref (ad 0), .int a1, .int a2] (wX6 cI cZ cS ad σ) (wX6 cI cZ cS ad σr) := by
  refine q_ofV (cc := cX6_put) (maxL := 3) (by decide) rfl (Nat.le_of_ble_eq_true rfl) ?_
  intro p e s m below meth c Q A ls hx hb hml hown hts hK hZ hA hP hD hS hl hret
  have hl : lv_has ls 3 [(0, .ref (ad 0)), (1, .int a1), (2, .int a2)] := hl
  unfold pX6_put at hf
  refine lv_aload_n hx hb dX6_put_0 rfl (lv_at hl 0 rfl) ?_
  refine va_get (D := D) (ci := 6) (C := RX6) (T := TX6) (N := 3) hx hb hts fwX6_put_X6 hown hK hP 0 rfl rfl 0 (by decide) (hts _ (List.mem_of_getElem? (i := 1) rfl)) (fun _ h9 => h9) rfl dX6_put_1 ?_
  refine q_lt_go hf (fun j2 ej2 hf => ?_)
  have Jj2 : ∀ (σ1 : SS) (H : Heap) (locs : List Loc) (ls : Array Slot), va_P D vwCl ((wX6 cI cZ cS ad) σ1) H → va_D A ((wX6 cI cZ cS ad) σ1) → va_S A s.heap H locs → lv_has ls 3 [] → j2 σ1 = some σr → W p l e rmX6_put s m ([.ref (ad 0), .int a1, .int a2] : List Value).toArray below meth c H locs 0 0 Q (F0 m 61 ls []) := by
    intro σ1 H locs ls hP hD hS hl hf
    have hf := (congrFun ej2 σ1).symm.trans hf
    have hi1 := Option.some.inj hf
    subst hi1
    exact hret _ _ _ _ dX6_put_61 hP hS
  by_cases h3 : (σ 0 0) = (8 : Int32)
  · have hf := (if_pos h3).symm.trans hf
    refine lv_lookup (off := 28) (tgt := 32) hx hb dX6_put_4 (by decide) (by rw [h3]; decide) (by decide) ?_
    refine lv_aload_n hx hb dX6_put_32 rfl (lv_at hl 0 rfl) ?_
    refine va_get (D := D) (ci := 6) (C := RX6) (T := TX6) (N := 3) hx hb hts fwX6_put_X6 hown hK hP 0 rfl rfl 2 (by decide) (hts _ (List.mem_of_getElem? (i := 2) rfl)) (fun _ h9 => h9) rfl dX6_put_33 ?_
    refine lv_iload_n hx hb dX6_put_36 rfl (lv_at hl 1 rfl) ?_
    refine lv_iload_n hx hb dX6_put_37 rfl (lv_at hl 2 rfl) ?_
    refine lv_i2b hx hb dX6_put_38 rfl ?_
    refine w_iast (wf := (wX6 cI cZ cS ad)) (cid := 1) hx hb hK hP hD hS 1 0 rfl rfl hf (fun _ => rfl) dX6_put_39 (fun σ4 H locs hf hP hD hS => ?_)
    refine lv_goto (tgt := 61) hx hb dX6_put_40 (by decide) ?_
    exact Jj2 σ4 _ _ _ hP hD hS (lv_sub hl [] rfl) hf
  have hf := (if_neg h3).symm.trans hf
  by_cases h5 : (σ 0 0) = (16 : Int32)
  · have hf := (if_pos h5).symm.trans hf
    refine lv_lookup (off := 39) (tgt := 43) hx hb dX6_put_4 (by decide) (by rw [h5]; decide) (by decide) ?_
    refine lv_aload_n hx hb dX6_put_43 rfl (lv_at hl 0 rfl) ?_
    refine va_get (D := D) (ci := 6) (C := RX6) (T := TX6) (N := 3) hx hb hts fwX6_put_X6 hown hK hP 0 rfl rfl 2 (by decide) (hts _ (List.mem_of_getElem? (i := 2) rfl)) (fun _ h9 => h9) rfl dX6_put_44 ?_
    refine lv_iload_n hx hb dX6_put_47 rfl (lv_at hl 1 rfl) ?_
    refine lv_iload_n hx hb dX6_put_48 rfl (lv_at hl 2 rfl) ?_
    refine lv_i2s hx hb dX6_put_49 rfl ?_
    refine w_iast (wf := (wX6 cI cZ cS ad)) (cid := 1) hx hb hK hP hD hS 1 0 rfl rfl hf (fun _ => rfl) dX6_put_50 (fun σ6 H locs hf hP hD hS => ?_)
    refine lv_goto (tgt := 61) hx hb dX6_put_51 (by decide) ?_
    exact Jj2 σ6 _ _ _ hP hD hS (lv_sub hl [] rfl) hf
  have hf := (if_neg h5).symm.trans hf
  refine lv_lookup (off := 50) (tgt := 54) hx hb dX6_put_4 (by decide) (by simp [Op.lookupswitch.offset_cons, Op.lookupswitch.offset_nil, (q_ne h3 (z := 8) rfl).symm, (q_ne h5 (z := 16) rfl).symm]) (by decide) ?_
  refine lv_aload_n hx hb dX6_put_54 rfl (lv_at hl 0 rfl) ?_
  refine va_get (D := D) (ci := 6) (C := RX6) (T := TX6) (N := 3) hx hb hts fwX6_put_X6 hown hK hP 0 rfl rfl 2 (by decide) (hts _ (List.mem_of_getElem? (i := 2) rfl)) (fun _ h9 => h9) rfl dX6_put_55 ?_
  refine lv_iload_n hx hb dX6_put_58 rfl (lv_at hl 1 rfl) ?_
  refine lv_iload_n hx hb dX6_put_59 rfl (lv_at hl 2 rfl) ?_
  refine w_iast (wf := (wX6 cI cZ cS ad)) (cid := 1) hx hb hK hP hD hS 1 0 rfl rfl hf (fun _ => rfl) dX6_put_60 (fun σ7 H locs hf hP hD hS => ?_)
  exact Jj2 σ7 _ _ _ hP hD hS (lv_sub hl [] rfl) hf
def pX6_hasRange (σ : SS) (a1 : Int32) (a2 : Int32) : Option Int32 := q_lt (fun (y1 : Int32) => q_zz y1 (some y1)) (fun j2 => q_lt (j2 (0 : Int32)) (fun j3 => (if a1 < (0 : Int32) then j3 else (if a2 < (0 : Int32) then j3 else (if (σ 0 1) < a1 then j3 else (if ((σ 0 1) - a1) < a2 then j3 else j2 (1 : Int32)))))))
theorem fwX6_hasRange_X6 : ∀ w ∈ wsX60, w ∈ wsX6_hasRange := fun _ h => List.mem_cons_of_mem _ (List.mem_append_right _ h)
abbrev rmX6_hasRange : Room := { frames := 0, cells := 0, slots := 0, locals := 0 }
set_option maxHeartbeats 4000000 in
set_option maxRecDepth 100000 in
theorem kX6_hasRange (l : Launch) (D : va_G) (cI cZ cS : ClassId) (zz : ZT) (ad : Nat → Nat) (σ : SS) (a1 : Int32) (a2 : Int32) (rr : Int32) (hf : pX6_hasRange σ a1 a2 = some rr) : CI l yX6_hasRange wsX6_hasRange rmX6_hasRange D (K3 cI cZ cS) zz [.ref (ad 0), .int a1, .int a2] (wX6 cI cZ cS ad σ) (wX6 cI cZ cS ad σ) rr := by
  refine q_ofI (cc := cX6_hasRange) (maxL := 3) (ty := .boolean) (by decide) rfl (Nat.le_of_ble_eq_true rfl) ?_
  intro p e s m below meth c Q A ls hx hb hml hown hts hK hZ hA hP hD hS hl hret
  have hl : lv_has ls 3 [(0, .ref (ad 0)), (1, .int a1), (2, .int a2)] := hl
  unfold pX6_hasRange at hf
  refine lv_iload_n hx hb dX6_hasRange_0 rfl (lv_at hl 1 rfl) ?_
  refine q_lt_go hf (fun j2 ej2 hf => ?_)
  have Jj2 : ∀ (y1 : Int32) (H : Heap) (locs : List Loc) (ls : Array Slot), va_P D vwCl ((wX6 cI cZ cS ad) σ) H → va_D A ((wX6 cI cZ cS ad) σ) → va_S A s.heap H locs → lv_has ls 3 [] → j2 y1 = some rr → W p l e rmX6_hasRange s m ([.ref (ad 0), .int a1, .int a2] : List Value).toArray below meth c H locs 0 0 Q (F0 m 31 ls [.int y1]) := by
    intro y1 H locs ls hP hD hS hl hf
    have hf := (congrFun ej2 y1).symm.trans hf
    obtain ⟨hz, hf⟩ := q_zz_o hf
    have hi1 := Option.some.inj hf
    subst hi1
    exact hret _ _ _ _ dX6_hasRange_31 (q_zz_n hz).1 hP hS
  refine q_lt_go hf (fun j3 ej3 hf => ?_)
  have Jj3 : ∀ (H : Heap) (locs : List Loc) (ls : Array Slot), va_P D vwCl ((wX6 cI cZ cS ad) σ) H → va_D A ((wX6 cI cZ cS ad) σ) → va_S A s.heap H locs → lv_has ls 3 [] → j3 = some rr → W p l e rmX6_hasRange s m ([.ref (ad 0), .int a1, .int a2] : List Value).toArray below meth c H locs 0 0 Q (F0 m 30 ls []) := by
    intro  H locs ls hP hD hS hl hf
    have hf := ej3.symm.trans hf
    refine lv_iconst (v := 0) hx hb dX6_hasRange_30 (by decide) ?_
    exact Jj2 (0 : Int32) _ _ _ hP hD hS (lv_sub hl [] rfl) hf
  refine lv_if_lt (tgt := 30) hx hb dX6_hasRange_1 (by decide) (fun h4 => ?_) (fun h4 => ?_)
  · have hf := (if_pos h4).symm.trans hf
    exact Jj3  _ _ _ hP hD hS (lv_sub hl [] rfl) hf
  · have hf := (if_neg h4).symm.trans hf
    refine lv_iload_n hx hb dX6_hasRange_4 rfl (lv_at hl 2 rfl) ?_
    refine lv_if_lt (tgt := 30) hx hb dX6_hasRange_5 (by decide) (fun h5 => ?_) (fun h5 => ?_)
    · have hf := (if_pos h5).symm.trans hf
      exact Jj3  _ _ _ hP hD hS (lv_sub hl [] rfl) hf
    · have hf := (if_neg h5).symm.trans hf
      refine lv_iload_n hx hb dX6_hasRange_8 rfl (lv_at hl 1 rfl) ?_
      refine lv_aload_n hx hb dX6_hasRange_9 rfl (lv_at hl 0 rfl) ?_
      refine va_get (D := D) (ci := 6) (C := RX6) (T := TX6) (N := 3) hx hb hts fwX6_hasRange_X6 hown hK hP 0 rfl rfl 1 (by decide) (hts _ (List.mem_of_getElem? (i := 1) rfl)) (fun _ h9 => h9) rfl dX6_hasRange_10 ?_
      refine lv_icmp_gt (tgt := 30) hx hb dX6_hasRange_13 (by decide) (fun h6 => ?_) (fun h6 => ?_)
      · have hf := (if_pos h6).symm.trans hf
        exact Jj3  _ _ _ hP hD hS (lv_sub hl [] rfl) hf
      · have hf := (if_neg h6).symm.trans hf
        refine lv_iload_n hx hb dX6_hasRange_16 rfl (lv_at hl 2 rfl) ?_
        refine lv_aload_n hx hb dX6_hasRange_17 rfl (lv_at hl 0 rfl) ?_
        refine va_get (D := D) (ci := 6) (C := RX6) (T := TX6) (N := 3) hx hb hts fwX6_hasRange_X6 hown hK hP 0 rfl rfl 1 (by decide) (hts _ (List.mem_of_getElem? (i := 1) rfl)) (fun _ h9 => h9) rfl dX6_hasRange_18 ?_
        refine lv_iload_n hx hb dX6_hasRange_21 rfl (lv_at hl 1 rfl) ?_
        refine lv_isub hx hb dX6_hasRange_22 ?_
        refine lv_icmp_gt (tgt := 30) hx hb dX6_hasRange_23 (by decide) (fun h7 => ?_) (fun h7 => ?_)
        · have hf := (if_pos h7).symm.trans hf
          exact Jj3  _ _ _ hP hD hS (lv_sub hl [] rfl) hf
        · have hf := (if_neg h7).symm.trans hf
          refine lv_iconst (v := 1) hx hb dX6_hasRange_26 (by decide) ?_
          refine lv_goto (tgt := 31) hx hb dX6_hasRange_27 (by decide) ?_
          exact Jj2 (1 : Int32) _ _ _ hP hD hS (lv_sub hl [] rfl) hf
def pX7_minutesOf (σ : SS) (a1 : Int32) : Option Int32 := q_lt (a1 * (12 : Int32)) (fun x3_1 => q_lp (fun _ _ => none) (fun (c4 : Int32 → Int32 → Option Int32) (x2_2 : Int32) (x4_3 : Int32) => q_rd (σ 1) 6 a1 (fun (v7 : Int32) => (if (x3_1 + v7) ≤ x4_3 then some x2_2 else q_rd (σ 2) 72 x4_3 (fun (v9 : Int32) => q_lt (fun (x2_10 : Int32) => c4 x2_10 (x4_3 + (1 : Int32))) (fun j11 => (if v9 = (1 : Int32) then q_rd (σ 3) 72 x4_3 (fun (v13 : Int32) => q_lt (x2_2 + v13) (fun x2_14 => j11 x2_14)) else j11 x2_2)))))) q_fu (0 : Int32) x3_1)
theorem fwX7_minutesOf_X7 : ∀ w ∈ wsX70, w ∈ wsX7_minutesOf := fun _ h => List.mem_cons_of_mem _ (List.mem_append_right _ h)
abbrev rmX7_minutesOf : Room := { frames := 0, cells := 0, slots := 0, locals := 0 }
set_option maxHeartbeats 4000000 in
set_option maxRecDepth 100000 in
theorem kX7_minutesOf (l : Launch) (D : va_G) (cI cZ cS : ClassId) (zz : ZT) (ad : Nat → Nat) (σ : SS) (a1 : Int32) (rr : Int32) (hf : pX7_minutesOf σ a1 = some rr) : CI l yX7_minutesOf wsX7_minutesOf rmX7_minutesOf D (K3 cI cZ cS) zz [.ref (ad 0), .int a1] (wX7 cI cZ cS ad σ) (wX7 cI cZ cS ad σ) rr := by
  refine q_ofI (cc := cX7_minutesOf) (maxL := 5) (ty := .int) (by decide) rfl (Nat.le_of_ble_eq_true rfl) ?_
  intro p e s m below meth c Q A ls hx hb hml hown hts hK hZ hA hP hD hS hl hret
  have hl : lv_has ls 5 [(0, .ref (ad 0)), (1, .int a1)] := hl
  unfold pX7_minutesOf at hf
  refine lv_iconst (v := 0) hx hb dX7_minutesOf_0 (by decide) ?_
  refine lv_istore_n (lv' := [(2, .int (0 : Int32)), (0, .ref (ad 0)), (1, .int a1)]) hx hb dX7_minutesOf_1 rfl hl (by decide) rfl (fun ls hl => ?_)
  refine lv_iload_n hx hb dX7_minutesOf_2 rfl (lv_at hl 2 rfl) ?_
  refine lv_bipush (v := 12) hx hb dX7_minutesOf_3 (by decide) ?_
  refine lv_imul hx hb dX7_minutesOf_5 ?_
  refine lv_topi (fun x3_1 ex3_1 => ?_)
  have hf := q_lt_at ex3_1 hf
  refine lv_istore_n (lv' := [(3, .int x3_1), (2, .int (0 : Int32)), (0, .ref (ad 0)), (1, .int a1)]) hx hb dX7_minutesOf_6 rfl hl (by decide) rfl (fun ls hl => ?_)
  refine lv_iload_n hx hb dX7_minutesOf_7 rfl (lv_at hl 0 rfl) ?_
  refine lv_istore (lv' := [(4, .int x3_1), (3, .int x3_1), (2, .int (0 : Int32)), (0, .ref (ad 0)), (1, .int a1)]) hx hb dX7_minutesOf_8 hl (by decide) rfl (fun ls hl => ?_)
  refine q_lp_go (f := fun (zf : Int32 → Int32 → Option Int32) => zf (0 : Int32) x3_1) hf (fun z5 ez5 hf => ?_)
  have Lz5 : ∀ (n6 : Nat) (x2_2 : Int32) (x4_3 : Int32) (H : Heap) (locs : List Loc) (ls : Array Slot), va_P D vwCl ((wX7 cI cZ cS ad) σ) H → va_D A ((wX7 cI cZ cS ad) σ) → va_S A s.heap H locs → lv_has ls 5 [(0, .ref (ad 0)), (1, .int a1), (2, .int x2_2), (3, .int x3_1), (4, .int x4_3)] → q_lp (fun _ _ => none) z5 n6 x2_2 x4_3 = some rr → W p l e rmX7_minutesOf s m ([.ref (ad 0), .int a1] : List Value).toArray below meth c H locs 0 0 Q (F0 m 10 ls []) := by
    intro n6
    induction n6 with
    | zero => exact fun _ _ _ _ _ _ _ _ _ hf => q_no hf
    | succ n6 ihz5 =>
      intro x2_2 x4_3 H locs ls hP hD hS hl hf
      have hf := (congrFun (congrFun (congrFun ez5 (q_lp (fun _ _ => none) z5 n6)) x2_2) x4_3).symm.trans hf
      refine lv_iload hx hb dX7_minutesOf_10 (lv_at hl 4 rfl) ?_
      refine lv_iload_n hx hb dX7_minutesOf_12 rfl (lv_at hl 3 rfl) ?_
      refine lv_aload_n hx hb dX7_minutesOf_13 rfl (lv_at hl 0 rfl) ?_
      refine va_get (D := D) (ci := 7) (C := RX7) (T := TX7) (N := 4) hx hb hts fwX7_minutesOf_X7 hown hK hP 0 rfl rfl 1 (by decide) (hts _ (List.mem_of_getElem? (i := 1) rfl)) (fun _ h9 => h9) rfl dX7_minutesOf_14 ?_
      refine lv_iload_n hx hb dX7_minutesOf_17 rfl (lv_at hl 1 rfl) ?_
      refine w_iald (wf := (wX7 cI cZ cS ad)) hx hb hK hP 1 0 rfl rfl hf dX7_minutesOf_18 (fun v7 hf => ?_)
      refine lv_iadd hx hb dX7_minutesOf_19 ?_
      refine lv_icmp_ge (tgt := 50) hx hb dX7_minutesOf_20 (by decide) (fun h8 => ?_) (fun h8 => ?_)
      · have hf := (if_pos h8).symm.trans hf
        refine lv_iload_n hx hb dX7_minutesOf_50 rfl (lv_at hl 2 rfl) ?_
        have hi1 := Option.some.inj hf
        subst hi1
        exact hret _ _ _ _ dX7_minutesOf_51 rfl hP hS
      · have hf := (if_neg h8).symm.trans hf
        refine lv_aload_n hx hb dX7_minutesOf_23 rfl (lv_at hl 0 rfl) ?_
        refine va_get (D := D) (ci := 7) (C := RX7) (T := TX7) (N := 4) hx hb hts fwX7_minutesOf_X7 hown hK hP 0 rfl rfl 2 (by decide) (hts _ (List.mem_of_getElem? (i := 2) rfl)) (fun _ h9 => h9) rfl dX7_minutesOf_24 ?_
        refine lv_iload hx hb dX7_minutesOf_27 (lv_at hl 4 rfl) ?_
        refine w_iald (wf := (wX7 cI cZ cS ad)) hx hb hK hP 2 0 rfl rfl hf dX7_minutesOf_29 (fun v9 hf => ?_)
        refine lv_iconst (v := 1) hx hb dX7_minutesOf_30 (by decide) ?_
        refine q_lt_go hf (fun j11 ej11 hf => ?_)
        have Jj11 : ∀ (x2_10 : Int32) (H : Heap) (locs : List Loc) (ls : Array Slot), va_P D vwCl ((wX7 cI cZ cS ad) σ) H → va_D A ((wX7 cI cZ cS ad) σ) → va_S A s.heap H locs → lv_has ls 5 [(0, .ref (ad 0)), (1, .int a1), (2, .int x2_10), (3, .int x3_1), (4, .int x4_3)] → j11 x2_10 = some rr → W p l e rmX7_minutesOf s m ([.ref (ad 0), .int a1] : List Value).toArray below meth c H locs 0 0 Q (F0 m 44 ls []) := by
          intro x2_10 H locs ls hP hD hS hl hf
          have hf := (congrFun ej11 x2_10).symm.trans hf
          refine lv_iinc (v := (x4_3 + (1 : Int32))) (lv' := [(4, .int (x4_3 + (1 : Int32))), (0, .ref (ad 0)), (1, .int a1), (2, .int x2_10), (3, .int x3_1)]) hx hb dX7_minutesOf_44 hl (k := 4) rfl rfl (by decide) rfl (fun ls hl => ?_)
          refine lv_goto (tgt := 10) hx hb dX7_minutesOf_47 (by decide) ?_
          exact ihz5 x2_10 (x4_3 + (1 : Int32)) _ _ _ hP hD hS (lv_sub hl [1, 2, 3, 4, 0] rfl) hf
        refine lv_icmp_ne (tgt := 44) hx hb dX7_minutesOf_31 (by decide) (fun h12 => ?_) (fun h12 => ?_)
        · have hf := (if_neg h12).symm.trans hf
          exact Jj11 x2_2 _ _ _ hP hD hS (lv_sub hl [0, 1, 2, 3, 4] rfl) hf
        · have hf := (if_pos h12).symm.trans hf
          refine lv_iload_n hx hb dX7_minutesOf_34 rfl (lv_at hl 2 rfl) ?_
          refine lv_aload_n hx hb dX7_minutesOf_35 rfl (lv_at hl 0 rfl) ?_
          refine va_get (D := D) (ci := 7) (C := RX7) (T := TX7) (N := 4) hx hb hts fwX7_minutesOf_X7 hown hK hP 0 rfl rfl 3 (by decide) (hts _ (List.mem_of_getElem? (i := 3) rfl)) (fun _ h9 => h9) rfl dX7_minutesOf_36 ?_
          refine lv_iload hx hb dX7_minutesOf_39 (lv_at hl 4 rfl) ?_
          refine w_iald (wf := (wX7 cI cZ cS ad)) hx hb hK hP 3 0 rfl rfl hf dX7_minutesOf_41 (fun v13 hf => ?_)
          refine lv_iadd hx hb dX7_minutesOf_42 ?_
          refine lv_topi (fun x2_14 ex2_14 => ?_)
          have hf := q_lt_at ex2_14 hf
          refine lv_istore_n (lv' := [(2, .int x2_14), (0, .ref (ad 0)), (1, .int a1), (3, .int x3_1), (4, .int x4_3)]) hx hb dX7_minutesOf_43 rfl hl (by decide) rfl (fun ls hl => ?_)
          exact Jj11 x2_14 _ _ _ hP hD hS (lv_sub hl [1, 2, 0, 3, 4] rfl) hf
  exact Lz5 q_fu (0 : Int32) x3_1 _ _ _ hP hD hS (lv_sub hl [3, 4, 2, 1, 0] rfl) hf
def pX8_append (σ : SS) (a1 : Int32) (a2 : Int32) : Option SS := q_lt (a2 - (1 : Int32)) (fun x3_1 => q_lp (fun _ _ => none) (fun (c4 : SS → Int32 → Option SS) (σ3 : SS) (x3_2 : Int32) => (if x3_2 < (0 : Int32) then some σ3 else q_wr σ3 1 100 (σ3 0 1) ((Int32.toUInt32 a1 >>> (Int32.toUInt32 ((8 : Int32) * x3_2) &&& Int32.toUInt32 31)).toInt32 &&& (255 : Int32)) (fun (σ8 : SS) => q_lt (su σ8 0 1 ((σ8 0 1) + (1 : Int32))) (fun (σ9 : SS) => c4 σ9 (x3_2 + (-1 : Int32)))))) q_fu σ x3_1)
theorem fwX8_append_X8 : ∀ w ∈ wsX80, w ∈ wsX8_append := fun _ h => List.mem_cons_of_mem _ (List.mem_append_right _ h)
abbrev rmX8_append : Room := { frames := 0, cells := 0, slots := 0, locals := 0 }
set_option maxHeartbeats 4000000 in
set_option maxRecDepth 100000 in
theorem kX8_append (l : Launch) (D : va_G) (cI cZ cS : ClassId) (zz : ZT) (ad : Nat → Nat) (σ : SS) (a1 : Int32) (a2 : Int32) (σr : SS) (hf : pX8_append σ a1 a2 = some σr) : CV l yX8_append wsX8_append rmX8_append D (K3 cI cZ cS) zz [.ref (ad 0), .int a1, .int a2] (wX8 cI cZ cS ad σ) (wX8 cI cZ cS ad σr) := by
  refine q_ofV (cc := cX8_append) (maxL := 4) (by decide) rfl (Nat.le_of_ble_eq_true rfl) ?_
  intro p e s m below meth c Q A ls hx hb hml hown hts hK hZ hA hP hD hS hl hret
  have hl : lv_has ls 4 [(0, .ref (ad 0)), (1, .int a1), (2, .int a2)] := hl
  unfold pX8_append at hf
  refine lv_iload_n hx hb dX8_append_0 rfl (lv_at hl 2 rfl) ?_
  refine lv_iconst (v := 1) hx hb dX8_append_1 (by decide) ?_
  refine lv_isub hx hb dX8_append_2 ?_
  refine lv_topi (fun x3_1 ex3_1 => ?_)
  have hf := q_lt_at ex3_1 hf
  refine lv_istore_n (lv' := [(3, .int x3_1), (0, .ref (ad 0)), (1, .int a1), (2, .int a2)]) hx hb dX8_append_3 rfl hl (by decide) rfl (fun ls hl => ?_)
  refine q_lp_go (f := fun (zf : SS → Int32 → Option SS) => zf σ x3_1) hf (fun z5 ez5 hf => ?_)
  have Lz5 : ∀ (n6 : Nat) (σ3 : SS) (x3_2 : Int32) (H : Heap) (locs : List Loc) (ls : Array Slot), va_P D vwCl ((wX8 cI cZ cS ad) σ3) H → va_D A ((wX8 cI cZ cS ad) σ3) → va_S A s.heap H locs → lv_has ls 4 [(0, .ref (ad 0)), (1, .int a1), (3, .int x3_2)] → q_lp (fun _ _ => none) z5 n6 σ3 x3_2 = some σr → W p l e rmX8_append s m ([.ref (ad 0), .int a1, .int a2] : List Value).toArray below meth c H locs 0 0 Q (F0 m 4 ls []) := by
    intro n6
    induction n6 with
    | zero => exact fun _ _ _ _ _ _ _ _ _ hf => q_no hf
    | succ n6 ihz5 =>
      intro σ3 x3_2 H locs ls hP hD hS hl hf
      have hf := (congrFun (congrFun (congrFun ez5 (q_lp (fun _ _ => none) z5 n6)) σ3) x3_2).symm.trans hf
      refine lv_iload_n hx hb dX8_append_4 rfl (lv_at hl 2 rfl) ?_
      refine lv_if_lt (tgt := 43) hx hb dX8_append_5 (by decide) (fun h7 => ?_) (fun h7 => ?_)
      · have hf := (if_pos h7).symm.trans hf
        have hi1 := Option.some.inj hf
        subst hi1
        exact hret _ _ _ _ dX8_append_43 hP hS
      · have hf := (if_neg h7).symm.trans hf
        refine lv_aload_n hx hb dX8_append_8 rfl (lv_at hl 0 rfl) ?_
        refine va_get (D := D) (ci := 8) (C := RX8) (T := TX8) (N := 2) hx hb hts fwX8_append_X8 hown hK hP 0 rfl rfl 0 (by decide) (hts _ (List.mem_of_getElem? (i := 1) rfl)) (fun _ h9 => h9) rfl dX8_append_9 ?_
        refine lv_aload_n hx hb dX8_append_12 rfl (lv_at hl 0 rfl) ?_
        refine va_get (D := D) (ci := 8) (C := RX8) (T := TX8) (N := 2) hx hb hts fwX8_append_X8 hown hK hP 0 rfl rfl 1 (by decide) (hts _ (List.mem_of_getElem? (i := 2) rfl)) (fun _ h9 => h9) rfl dX8_append_13 ?_
        refine lv_iload_n hx hb dX8_append_16 rfl (lv_at hl 1 rfl) ?_
        refine lv_bipush (v := 8) hx hb dX8_append_17 (by decide) ?_
        refine lv_iload_n hx hb dX8_append_19 rfl (lv_at hl 2 rfl) ?_
        refine lv_imul hx hb dX8_append_20 ?_
        refine lv_iushr hx hb dX8_append_21 rfl ?_
        refine lv_sipush (v := 255) hx hb dX8_append_22 (by decide) ?_
        refine lv_iand hx hb dX8_append_25 ?_
        refine w_iast (wf := (wX8 cI cZ cS ad)) (cid := 1) hx hb hK hP hD hS 1 0 rfl rfl hf (fun _ => rfl) dX8_append_26 (fun σ8 H locs hf hP hD hS => ?_)
        refine lv_aload_n hx hb dX8_append_27 rfl (lv_at hl 0 rfl) ?_
        refine lv_dup hx hb dX8_append_28 rfl ?_
        refine va_get (D := D) (ci := 8) (C := RX8) (T := TX8) (N := 2) hx hb hts fwX8_append_X8 hown hK hP 0 rfl rfl 1 (by decide) (hts _ (List.mem_of_getElem? (i := 2) rfl)) (fun _ h9 => h9) rfl dX8_append_29 ?_
        refine lv_iconst (v := 1) hx hb dX8_append_32 (by decide) ?_
        refine lv_iadd hx hb dX8_append_33 ?_
        refine w_put (D := D) (wf := (wX8 cI cZ cS ad)) (cid := 0) (ci := 8) (C := RX8) (T := TX8) (N := 2) hx hb hts fwX8_append_X8 tyX8 tyX8_ok nmX8 hown hK hP hD hS 0 rfl rfl 1 (by decide) (hts _ (List.mem_of_getElem? (i := 2) rfl)) (fun _ h9 => h9) rfl (tyX8_ok 1 (by decide)) (Nat.le_of_ble_eq_true rfl) hf rfl dX8_append_34 (fun σ9 H locs hf hP hD hS => ?_)
        refine lv_iinc (v := (x3_2 + (-1 : Int32))) (lv' := [(3, .int (x3_2 + (-1 : Int32))), (0, .ref (ad 0)), (1, .int a1)]) hx hb dX8_append_37 hl (k := 2) rfl rfl (by decide) rfl (fun ls hl => ?_)
        refine lv_goto (tgt := 4) hx hb dX8_append_40 (by decide) ?_
        exact ihz5 σ9 (x3_2 + (-1 : Int32)) _ _ _ hP hD hS (lv_sub hl [1, 2, 0] rfl) hf
  exact Lz5 q_fu σ x3_1 _ _ _ hP hD hS (lv_sub hl [1, 2, 0] rfl) hf
def pJ6_bitCount_0f7a4 (a1 : Int32) : Option Int32 := q_lt (a1 - ((Int32.toUInt32 a1 >>> (Int32.toUInt32 (1 : Int32) &&& Int32.toUInt32 31)).toInt32 &&& (1431655765 : Int32))) (fun x0_1 => q_lt ((x0_1 &&& (858993459 : Int32)) + ((Int32.toUInt32 x0_1 >>> (Int32.toUInt32 (2 : Int32) &&& Int32.toUInt32 31)).toInt32 &&& (858993459 : Int32))) (fun x0_2 => q_lt ((x0_2 + (Int32.toUInt32 x0_2 >>> (Int32.toUInt32 (4 : Int32) &&& Int32.toUInt32 31)).toInt32) &&& (252645135 : Int32)) (fun x0_3 => q_lt (x0_3 + (Int32.toUInt32 x0_3 >>> (Int32.toUInt32 (8 : Int32) &&& Int32.toUInt32 31)).toInt32) (fun x0_4 => q_lt (x0_4 + (Int32.toUInt32 x0_4 >>> (Int32.toUInt32 (16 : Int32) &&& Int32.toUInt32 31)).toInt32) (fun x0_5 => some (x0_5 &&& (63 : Int32)))))))
abbrev rmJ6_bitCount_0f7a4 : Room := { frames := 0, cells := 0, slots := 0, locals := 0 }
set_option maxHeartbeats 4000000 in
set_option maxRecDepth 100000 in
theorem kJ6_bitCount_0f7a4 (l : Launch) (D : va_G) (cI cZ cS : ClassId) (zz : ZT) (a1 : Int32) (rr : Int32) (hf : pJ6_bitCount_0f7a4 a1 = some rr) : CI l yJ6_bitCount_0f7a4 wsJ6_bitCount_0f7a4 rmJ6_bitCount_0f7a4 D (K3 cI cZ cS) zz [.int a1] [] [] rr := by
  refine q_ofI (cc := cJ6_bitCount_0f7a4) (maxL := 1) (ty := .int) (by decide) rfl (Nat.le_of_ble_eq_true rfl) ?_
  intro p e s m below meth c Q A ls hx hb hml hown hts hK hZ hA hP hD hS hl hret
  have hl : lv_has ls 1 [(0, .int a1)] := hl
  unfold pJ6_bitCount_0f7a4 at hf
  refine lv_iload_n hx hb dJ6_bitCount_0f7a4_0 rfl (lv_at hl 0 rfl) ?_
  refine lv_iload_n hx hb dJ6_bitCount_0f7a4_1 rfl (lv_at hl 0 rfl) ?_
  refine lv_iconst (v := 1) hx hb dJ6_bitCount_0f7a4_2 (by decide) ?_
  refine lv_iushr hx hb dJ6_bitCount_0f7a4_3 rfl ?_
  refine lv_ldcw (v := 1431655765) hx hb hown (hts _ (List.mem_of_getElem? (i := 1) rfl)) dJ6_bitCount_0f7a4_4 ?_
  refine lv_iand hx hb dJ6_bitCount_0f7a4_7 ?_
  refine lv_isub hx hb dJ6_bitCount_0f7a4_8 ?_
  refine lv_topi (fun x0_1 ex0_1 => ?_)
  have hf := q_lt_at ex0_1 hf
  refine lv_istore_n (lv' := [(0, .int x0_1)]) hx hb dJ6_bitCount_0f7a4_9 rfl hl (by decide) rfl (fun ls hl => ?_)
  refine lv_iload_n hx hb dJ6_bitCount_0f7a4_10 rfl (lv_at hl 0 rfl) ?_
  refine lv_ldcw (v := 858993459) hx hb hown (hts _ (List.mem_of_getElem? (i := 2) rfl)) dJ6_bitCount_0f7a4_11 ?_
  refine lv_iand hx hb dJ6_bitCount_0f7a4_14 ?_
  refine lv_iload_n hx hb dJ6_bitCount_0f7a4_15 rfl (lv_at hl 0 rfl) ?_
  refine lv_iconst (v := 2) hx hb dJ6_bitCount_0f7a4_16 (by decide) ?_
  refine lv_iushr hx hb dJ6_bitCount_0f7a4_17 rfl ?_
  refine lv_ldcw (v := 858993459) hx hb hown (hts _ (List.mem_of_getElem? (i := 2) rfl)) dJ6_bitCount_0f7a4_18 ?_
  refine lv_iand hx hb dJ6_bitCount_0f7a4_21 ?_
  refine lv_iadd hx hb dJ6_bitCount_0f7a4_22 ?_
  refine lv_topi (fun x0_2 ex0_2 => ?_)
  have hf := q_lt_at ex0_2 hf
  refine lv_istore_n (lv' := [(0, .int x0_2)]) hx hb dJ6_bitCount_0f7a4_23 rfl hl (by decide) rfl (fun ls hl => ?_)
  refine lv_iload_n hx hb dJ6_bitCount_0f7a4_24 rfl (lv_at hl 0 rfl) ?_
  refine lv_iload_n hx hb dJ6_bitCount_0f7a4_25 rfl (lv_at hl 0 rfl) ?_
  refine lv_iconst (v := 4) hx hb dJ6_bitCount_0f7a4_26 (by decide) ?_
  refine lv_iushr hx hb dJ6_bitCount_0f7a4_27 rfl ?_
  refine lv_iadd hx hb dJ6_bitCount_0f7a4_28 ?_
  refine lv_ldcw (v := 252645135) hx hb hown (hts _ (List.mem_of_getElem? (i := 3) rfl)) dJ6_bitCount_0f7a4_29 ?_
  refine lv_iand hx hb dJ6_bitCount_0f7a4_32 ?_
  refine lv_topi (fun x0_3 ex0_3 => ?_)
  have hf := q_lt_at ex0_3 hf
  refine lv_istore_n (lv' := [(0, .int x0_3)]) hx hb dJ6_bitCount_0f7a4_33 rfl hl (by decide) rfl (fun ls hl => ?_)
  refine lv_iload_n hx hb dJ6_bitCount_0f7a4_34 rfl (lv_at hl 0 rfl) ?_
  refine lv_iload_n hx hb dJ6_bitCount_0f7a4_35 rfl (lv_at hl 0 rfl) ?_
  refine lv_bipush (v := 8) hx hb dJ6_bitCount_0f7a4_36 (by decide) ?_
  refine lv_iushr hx hb dJ6_bitCount_0f7a4_38 rfl ?_
  refine lv_iadd hx hb dJ6_bitCount_0f7a4_39 ?_
  refine lv_topi (fun x0_4 ex0_4 => ?_)
  have hf := q_lt_at ex0_4 hf
  refine lv_istore_n (lv' := [(0, .int x0_4)]) hx hb dJ6_bitCount_0f7a4_40 rfl hl (by decide) rfl (fun ls hl => ?_)
  refine lv_iload_n hx hb dJ6_bitCount_0f7a4_41 rfl (lv_at hl 0 rfl) ?_
  refine lv_iload_n hx hb dJ6_bitCount_0f7a4_42 rfl (lv_at hl 0 rfl) ?_
  refine lv_bipush (v := 16) hx hb dJ6_bitCount_0f7a4_43 (by decide) ?_
  refine lv_iushr hx hb dJ6_bitCount_0f7a4_45 rfl ?_
  refine lv_iadd hx hb dJ6_bitCount_0f7a4_46 ?_
  refine lv_topi (fun x0_5 ex0_5 => ?_)
  have hf := q_lt_at ex0_5 hf
  refine lv_istore_n (lv' := [(0, .int x0_5)]) hx hb dJ6_bitCount_0f7a4_47 rfl hl (by decide) rfl (fun ls hl => ?_)
  refine lv_iload_n hx hb dJ6_bitCount_0f7a4_48 rfl (lv_at hl 0 rfl) ?_
  refine lv_bipush (v := 63) hx hb dJ6_bitCount_0f7a4_49 (by decide) ?_
  refine lv_iand hx hb dJ6_bitCount_0f7a4_51 ?_
  have hi1 := Option.some.inj hf
  subst hi1
  exact hret _ _ _ _ dJ6_bitCount_0f7a4_52 rfl hP hS
