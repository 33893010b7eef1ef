def pX12_isSky (σ : SS) (a1 : Int32) : Option Int32 := q_rd (σ 1) 307 (18 : Int32) (fun (v1 : Int32) => q_cr (pX12_in a1 (0 : Int32) (v1 - (1 : Int32))) (fun (r2 : Int32) => q_zz r2 (some r2)))
theorem fwX12_isSky_X12 : ∀ w ∈ wsX120, w ∈ wsX12_isSky := fun _ h => List.mem_cons_of_mem _ (List.mem_append_right _ h)
abbrev rmX12_isSky : Room := { frames := 1, cells := 0, slots := 0, locals := 22 }
set_option maxHeartbeats 4000000 in
set_option maxRecDepth 100000 in
theorem kX12_isSky (l : Launch) (D : va_G) (cI cZ cS : ClassId) (zz : ZT) (ad : Nat → Nat) (σ : SS) (a1 : Int32) (rr : Int32) (hf : pX12_isSky σ a1 = some rr) : CI l yX12_isSky wsX12_isSky rmX12_isSky D (K3 cI cZ cS) zz [.ref (ad 0), .int a1] (wX12 cI cZ cS ad σ) (wX12 cI cZ cS ad σ) rr := by
  refine q_ofI (cc := cX12_isSky) (maxL := 2) (ty := .boolean) (by decide) rfl (Nat.le_of_ble_eq_true rfl) ?_
  intro p e s m below meth c Q A ls hx hb hml hown hts hK hZ hA hP hD hS hl hret
  have hl : lv_has ls 2 [(0, .ref (ad 0)), (1, .int a1)] := hl
  unfold pX12_isSky at hf
  refine lv_iload_n hx hb dX12_isSky_0 rfl (lv_at hl 1 rfl) ?_
  refine lv_iconst (v := 0) hx hb dX12_isSky_1 (by decide) ?_
  refine lv_aload_n hx hb dX12_isSky_2 rfl (lv_at hl 0 rfl) ?_
  refine va_get (D := D) (ci := 12) (C := RX12) (T := TX12) (N := 19) hx hb hts fwX12_isSky_X12 hown hK hP 0 rfl rfl 0 (by decide) (hts _ (List.mem_of_getElem? (i := 1) rfl)) (fun _ h9 => h9) rfl dX12_isSky_3 ?_
  refine lv_bipush (v := 18) hx hb dX12_isSky_6 (by decide) ?_
  refine w_iald (wf := (wX12 cI cZ cS ad)) hx hb hK hP 1 0 rfl rfl hf dX12_isSky_8 (fun v1 hf => ?_)
  refine lv_iconst (v := 1) hx hb dX12_isSky_9 (by decide) ?_
  refine lv_isub hx hb dX12_isSky_10 ?_
  refine q_cSr (wf := (wX12 cI cZ cS ad)) (rest := []) ⟨hx, hb, hml, hown, hts⟩ hK hZ hA hP hD hS hf (fun x ho => kX12_in l D cI cZ cS zz a1 (0 : Int32) (v1 - (1 : Int32)) x ho) (va_cwS 3 hts gX12_isSky_X12_in rfl rfl rfl ndX12_in.2 ⟨Nat.le_of_ble_eq_true rfl, Nat.le_of_ble_eq_true rfl⟩) rfl (hl.1) rfl (Nat.le_of_ble_eq_true rfl) dX12_isSky_11 ⟨Nat.zero_le _, Nat.zero_le _⟩ (fun r2 H locs hf hP hD hS => ?_)
  obtain ⟨hz, hf⟩ := q_zz_o hf
  have hi1 := Option.some.inj hf
  subst hi1
  exact hret _ _ _ _ dX12_isSky_14 (q_zz_n hz).1 hP hS
def pX12_skyOf (σ : SS) (a1 : Int32) (a2 : Int32) : Option (Int32 × SS) := q_cr (pX12_isSky σ a1) (fun (r1 : Int32) => q_lt (q_ci (pX12_finding σ (0 : Int32)) (fun (τ : SS) => τ) (fun (r4 : Int32) (σ3 : SS) => some (r4, σ3))) (fun j2 => (if r1 = (0 : Int32) then j2 else q_cr (pX12_in a2 (0 : Int32) (1 : Int32)) (fun (r6 : Int32) => (if r6 = (0 : Int32) then j2 else q_lt ((147 : Int32) + ((25 : Int32) * a1)) (fun x3_8 => q_lp (fun _ _ => none) (fun (c11 : Int32 → Int32 → Option (Int32 × SS)) (x4_9 : Int32) (x5_10 : Int32) => q_rd (σ 1) 307 x3_8 (fun (v14 : Int32) => (if v14 ≤ x5_10 then q_lt (fun (y16 : Int32) => some (y16, σ)) (fun j17 => (if a2 = (0 : Int32) then q_rd (σ 1) 307 x3_8 (fun (v19 : Int32) => j17 v19) else j17 x4_9)) else q_rd (σ 1) 307 ((x3_8 + (1 : Int32)) + ((2 : Int32) * x5_10)) (fun (v20 : Int32) => q_lt (fun (y21 : Int32) => q_lt (x4_9 + y21) (fun x4_23 => c11 x4_23 (x5_10 + (1 : Int32)))) (fun j22 => (if v20 = (1 : Int32) then q_rd (σ 1) 307 ((x3_8 + (2 : Int32)) + ((2 : Int32) * x5_10)) (fun (v25 : Int32) => j22 v25) else j22 (0 : Int32))))))) q_fu (0 : Int32) (0 : Int32)))))))
theorem fwX12_skyOf_X12 : ∀ w ∈ wsX120, w ∈ wsX12_skyOf := fun _ h => List.mem_cons_of_mem _ (List.mem_append_right _ h)
abbrev rmX12_skyOf : Room := { frames := 2, cells := 0, slots := 0, locals := 43 }
set_option maxHeartbeats 4000000 in
set_option maxRecDepth 100000 in
theorem kX12_skyOf (l : Launch) (D : va_G) (cI cZ cS : ClassId) (zz : ZT) (ad : Nat → Nat) (σ : SS) (a1 : Int32) (a2 : Int32) (rr : Int32) (σr : SS) (hf : pX12_skyOf σ a1 a2 = some (rr, σr)) : CI l yX12_skyOf wsX12_skyOf rmX12_skyOf D (K3 cI cZ cS) zz [.ref (ad 0), .int a1, .int a2] (wX12 cI cZ cS ad σ) (wX12 cI cZ cS ad σr) rr := by
  refine q_ofI (cc := cX12_skyOf) (maxL := 6) (ty := .int) (by decide) rfl (Nat.le_of_ble_eq_true rfl) ?_
  intro p e s m below meth c Q A ls hx hb hml hown hts hK hZ hA hP hD hS hl hret
  have hl : lv_has ls 6 [(0, .ref (ad 0)), (1, .int a1), (2, .int a2)] := hl
  unfold pX12_skyOf at hf
  refine lv_aload_n hx hb dX12_skyOf_0 rfl (lv_at hl 0 rfl) ?_
  refine lv_iload_n hx hb dX12_skyOf_1 rfl (lv_at hl 1 rfl) ?_
  refine q_cVr (wf := (wX12 cI cZ cS ad)) (wc := wX12 cI cZ cS ad) (rest := []) ⟨hx, hb, hml, hown, hts⟩ hK hZ hA hP hD hS hf (fun x ho => kX12_isSky l D cI cZ cS zz ad σ a1 x ho) (cwV 1 hts gX12_skyOf_X12_isSky rfl rfl rfl ndX12_isSky ⟨Nat.le_of_ble_eq_true rfl, Nat.le_of_ble_eq_true rfl⟩) [0, 1, 2, 3, 4, 5, 6, 7, 8, 9, 10, 11] rfl rfl rfl rfl rfl rfl (hl.1) rfl (Nat.le_of_ble_eq_true rfl) dX12_skyOf_2 ⟨Nat.zero_le _, Nat.zero_le _⟩ (fun r1 H locs hf hP hD hS => ?_)
  refine q_lt_go hf (fun j2 ej2 hf => ?_)
  have Jj2 : ∀ (H : Heap) (locs : List Loc) (ls : Array Slot), va_P D vwCl ((wX12 cI cZ cS ad) σ) H → va_D A ((wX12 cI cZ cS ad) σ) → va_S A s.heap H locs → lv_has ls 6 [(0, .ref (ad 0))] → j2 = some (rr, σr) → W p l e rmX12_skyOf s m ([.ref (ad 0), .int a1, .int a2] : List Value).toArray below meth c H locs 0 0 Q (F0 m 17 ls []) := by
    intro  H locs ls hP hD hS hl hf
    have hf := ej2.symm.trans hf
    refine lv_aload_n hx hb dX12_skyOf_17 rfl (lv_at hl 0 rfl) ?_
    refine lv_iconst (v := 0) hx hb dX12_skyOf_18 (by decide) ?_
    refine q_cVi (wf := (wX12 cI cZ cS ad)) (wc := wX12 cI cZ cS ad) (rest := []) ⟨hx, hb, hml, hown, hts⟩ hK hZ hA hP hD hS hf (fun x τ ho => kX12_finding l D cI cZ cS zz ad σ (0 : Int32) x τ ho) (cwV 1 hts gX12_skyOf_X12_finding rfl rfl rfl ndX12_finding ⟨Nat.le_of_ble_eq_true rfl, Nat.le_of_ble_eq_true rfl⟩) [0, 1, 2, 3, 4, 5, 6, 7, 8, 9, 10, 11] rfl rfl [some 0, some 1, some 2, some 3, some 4, some 5, some 6, some 7, some 8, some 9, some 10, some 11] (by decide +kernel) (Nat.le_of_ble_eq_true rfl) (fun _ => rfl) (fun _ => rfl) (fun _ => rfl) rfl rfl rfl rfl (hl.1) rfl (Nat.le_of_ble_eq_true rfl) dX12_skyOf_19 ⟨Nat.zero_le _, Nat.zero_le _⟩ (fun r4 σ3 H locs hf hP hD hS => ?_)
    obtain ⟨hi1, hi2⟩ := Prod.mk.inj (Option.some.inj hf)
    subst hi1
    subst hi2
    exact hret _ _ _ _ dX12_skyOf_22 rfl hP hS
  refine lv_if_eq (tgt := 17) hx hb dX12_skyOf_5 (by decide) (fun h5 => ?_) (fun h5 => ?_)
  · have hf := (if_pos h5).symm.trans hf
    exact Jj2  _ _ _ hP hD hS (lv_sub hl [0] rfl) hf
  · have hf := (if_neg h5).symm.trans hf
    refine lv_iload_n hx hb dX12_skyOf_8 rfl (lv_at hl 2 rfl) ?_
    refine lv_iconst (v := 0) hx hb dX12_skyOf_9 (by decide) ?_
    refine lv_iconst (v := 1) hx hb dX12_skyOf_10 (by decide) ?_
    refine q_cSr (wf := (wX12 cI cZ cS ad)) (rest := []) ⟨hx, hb, hml, hown, hts⟩ hK hZ hA hP hD hS hf (fun x ho => kX12_in l D cI cZ cS zz a2 (0 : Int32) (1 : Int32) x ho) (va_cwS 3 hts gX12_skyOf_X12_in rfl rfl rfl ndX12_in.2 ⟨Nat.le_of_ble_eq_true rfl, Nat.le_of_ble_eq_true rfl⟩) rfl (hl.1) rfl (Nat.le_of_ble_eq_true rfl) dX12_skyOf_11 ⟨Nat.zero_le _, Nat.zero_le _⟩ (fun r6 H locs hf hP hD hS => ?_)
    refine lv_if_ne (tgt := 23) hx hb dX12_skyOf_14 (by decide) (fun h7 => ?_) (fun h7 => ?_)
    · have hf := (if_neg h7).symm.trans hf
      refine lv_sipush (v := 147) hx hb dX12_skyOf_23 (by decide) ?_
      refine lv_bipush (v := 25) hx hb dX12_skyOf_26 (by decide) ?_
      refine lv_iload_n hx hb dX12_skyOf_28 rfl (lv_at hl 1 rfl) ?_
      refine lv_imul hx hb dX12_skyOf_29 ?_
      refine lv_iadd hx hb dX12_skyOf_30 ?_
      refine lv_topi (fun x3_8 ex3_8 => ?_)
      have hf := q_lt_at ex3_8 hf
      refine lv_istore_n (lv' := [(3, .int x3_8), (0, .ref (ad 0)), (1, .int a1), (2, .int a2)]) hx hb dX12_skyOf_31 rfl hl (by decide) rfl (fun ls hl => ?_)
      refine lv_iconst (v := 0) hx hb dX12_skyOf_32 (by decide) ?_
      refine lv_istore (lv' := [(4, .int (0 : Int32)), (3, .int x3_8), (0, .ref (ad 0)), (1, .int a1), (2, .int a2)]) hx hb dX12_skyOf_33 hl (by decide) rfl (fun ls hl => ?_)
      refine lv_iconst (v := 0) hx hb dX12_skyOf_35 (by decide) ?_
      refine lv_istore (lv' := [(5, .int (0 : Int32)), (4, .int (0 : Int32)), (3, .int x3_8), (0, .ref (ad 0)), (1, .int a1), (2, .int a2)]) hx hb dX12_skyOf_36 hl (by decide) rfl (fun ls hl => ?_)
      refine q_lp_go (f := fun (zf : Int32 → Int32 → Option (Int32 × SS)) => zf (0 : Int32) (0 : Int32)) hf (fun z12 ez12 hf => ?_)
      have Lz12 : ∀ (n13 : Nat) (x4_9 : Int32) (x5_10 : Int32) (H : Heap) (locs : List Loc) (ls : Array Slot), va_P D vwCl ((wX12 cI cZ cS ad) σ) H → va_D A ((wX12 cI cZ cS ad) σ) → va_S A s.heap H locs → lv_has ls 6 [(0, .ref (ad 0)), (2, .int a2), (3, .int x3_8), (4, .int x4_9), (5, .int x5_10)] → q_lp (fun _ _ => none) z12 n13 x4_9 x5_10 = some (rr, σr) → W p l e rmX12_skyOf s m ([.ref (ad 0), .int a1, .int a2] : List Value).toArray below meth c H locs 0 0 Q (F0 m 38 ls []) := by
        intro n13
        induction n13 with
        | zero => exact fun _ _ _ _ _ _ _ _ _ hf => q_no hf
        | succ n13 ihz12 =>
          intro x4_9 x5_10 H locs ls hP hD hS hl hf
          have hf := (congrFun (congrFun (congrFun ez12 (q_lp (fun _ _ => none) z12 n13)) x4_9) x5_10).symm.trans hf
          refine lv_iload hx hb dX12_skyOf_38 (lv_at hl 4 rfl) ?_
          refine lv_aload_n hx hb dX12_skyOf_40 rfl (lv_at hl 0 rfl) ?_
          refine va_get (D := D) (ci := 12) (C := RX12) (T := TX12) (N := 19) hx hb hts fwX12_skyOf_X12 hown hK hP 0 rfl rfl 0 (by decide) (hts _ (List.mem_of_getElem? (i := 1) rfl)) (fun _ h9 => h9) rfl dX12_skyOf_41 ?_
          refine lv_iload_n hx hb dX12_skyOf_44 rfl (lv_at hl 2 rfl) ?_
          refine w_iald (wf := (wX12 cI cZ cS ad)) hx hb hK hP 1 0 rfl rfl hf dX12_skyOf_45 (fun v14 hf => ?_)
          refine lv_icmp_ge (tgt := 94) hx hb dX12_skyOf_46 (by decide) (fun h15 => ?_) (fun h15 => ?_)
          · have hf := (if_pos h15).symm.trans hf
            refine lv_iload_n hx hb dX12_skyOf_94 rfl (lv_at hl 1 rfl) ?_
            refine q_lt_go hf (fun j17 ej17 hf => ?_)
            have Jj17 : ∀ (y16 : Int32) (H : Heap) (locs : List Loc) (ls : Array Slot), va_P D vwCl ((wX12 cI cZ cS ad) σ) H → va_D A ((wX12 cI cZ cS ad) σ) → va_S A s.heap H locs → lv_has ls 6 [] → j17 y16 = some (rr, σr) → W p l e rmX12_skyOf s m ([.ref (ad 0), .int a1, .int a2] : List Value).toArray below meth c H locs 0 0 Q (F0 m 109 ls [.int y16]) := by
              intro y16 H locs ls hP hD hS hl hf
              have hf := (congrFun ej17 y16).symm.trans hf
              obtain ⟨hi1, hi2⟩ := Prod.mk.inj (Option.some.inj hf)
              subst hi1
              subst hi2
              exact hret _ _ _ _ dX12_skyOf_109 rfl hP hS
            refine lv_if_ne (tgt := 107) hx hb dX12_skyOf_95 (by decide) (fun h18 => ?_) (fun h18 => ?_)
            · have hf := (if_neg h18).symm.trans hf
              refine lv_iload hx hb dX12_skyOf_107 (lv_at hl 3 rfl) ?_
              exact Jj17 x4_9 _ _ _ hP hD hS (lv_sub hl [] rfl) hf
            · have hf := (if_pos h18).symm.trans hf
              refine lv_aload_n hx hb dX12_skyOf_98 rfl (lv_at hl 0 rfl) ?_
              refine va_get (D := D) (ci := 12) (C := RX12) (T := TX12) (N := 19) hx hb hts fwX12_skyOf_X12 hown hK hP 0 rfl rfl 0 (by decide) (hts _ (List.mem_of_getElem? (i := 1) rfl)) (fun _ h9 => h9) rfl dX12_skyOf_99 ?_
              refine lv_iload_n hx hb dX12_skyOf_102 rfl (lv_at hl 2 rfl) ?_
              refine w_iald (wf := (wX12 cI cZ cS ad)) hx hb hK hP 1 0 rfl rfl hf dX12_skyOf_103 (fun v19 hf => ?_)
              refine lv_goto (tgt := 109) hx hb dX12_skyOf_104 (by decide) ?_
              exact Jj17 v19 _ _ _ hP hD hS (lv_sub hl [] rfl) hf
          · have hf := (if_neg h15).symm.trans hf
            refine lv_iload hx hb dX12_skyOf_49 (lv_at hl 3 rfl) ?_
            refine lv_aload_n hx hb dX12_skyOf_51 rfl (lv_at hl 0 rfl) ?_
            refine va_get (D := D) (ci := 12) (C := RX12) (T := TX12) (N := 19) hx hb hts fwX12_skyOf_X12 hown hK hP 0 rfl rfl 0 (by decide) (hts _ (List.mem_of_getElem? (i := 1) rfl)) (fun _ h9 => h9) rfl dX12_skyOf_52 ?_
            refine lv_iload_n hx hb dX12_skyOf_55 rfl (lv_at hl 2 rfl) ?_
            refine lv_iconst (v := 1) hx hb dX12_skyOf_56 (by decide) ?_
            refine lv_iadd hx hb dX12_skyOf_57 ?_
            refine lv_iconst (v := 2) hx hb dX12_skyOf_58 (by decide) ?_
            refine lv_iload hx hb dX12_skyOf_59 (lv_at hl 4 rfl) ?_
            refine lv_imul hx hb dX12_skyOf_61 ?_
            refine lv_iadd hx hb dX12_skyOf_62 ?_
            refine w_iald (wf := (wX12 cI cZ cS ad)) hx hb hK hP 1 0 rfl rfl hf dX12_skyOf_63 (fun v20 hf => ?_)
            refine lv_iconst (v := 1) hx hb dX12_skyOf_64 (by decide) ?_
            refine q_lt_go hf (fun j22 ej22 hf => ?_)
            have Jj22 : ∀ (y21 : Int32) (H : Heap) (locs : List Loc) (ls : Array Slot), va_P D vwCl ((wX12 cI cZ cS ad) σ) H → va_D A ((wX12 cI cZ cS ad) σ) → va_S A s.heap H locs → lv_has ls 6 [(0, .ref (ad 0)), (2, .int a2), (3, .int x3_8), (5, .int x5_10)] → j22 y21 = some (rr, σr) → W p l e rmX12_skyOf s m ([.ref (ad 0), .int a1, .int a2] : List Value).toArray below meth c H locs 0 0 Q (F0 m 85 ls [.int y21, .int x4_9]) := by
              intro y21 H locs ls hP hD hS hl hf
              have hf := (congrFun ej22 y21).symm.trans hf
              refine lv_iadd hx hb dX12_skyOf_85 ?_
              refine lv_topi (fun x4_23 ex4_23 => ?_)
              have hf := q_lt_at ex4_23 hf
              refine lv_istore (lv' := [(4, .int x4_23), (0, .ref (ad 0)), (2, .int a2), (3, .int x3_8), (5, .int x5_10)]) hx hb dX12_skyOf_86 hl (by decide) rfl (fun ls hl => ?_)
              refine lv_iinc (v := (x5_10 + (1 : Int32))) (lv' := [(5, .int (x5_10 + (1 : Int32))), (4, .int x4_23), (0, .ref (ad 0)), (2, .int a2), (3, .int x3_8)]) hx hb dX12_skyOf_88 hl (k := 4) rfl rfl (by decide) rfl (fun ls hl => ?_)
              refine lv_goto (tgt := 38) hx hb dX12_skyOf_91 (by decide) ?_
              exact ihz12 x4_23 (x5_10 + (1 : Int32)) _ _ _ hP hD hS (lv_sub hl [2, 3, 4, 1, 0] rfl) hf
            refine lv_icmp_ne (tgt := 84) hx hb dX12_skyOf_65 (by decide) (fun h24 => ?_) (fun h24 => ?_)
            · have hf := (if_neg h24).symm.trans hf
              refine lv_iconst (v := 0) hx hb dX12_skyOf_84 (by decide) ?_
              exact Jj22 (0 : Int32) _ _ _ hP hD hS (lv_sub hl [0, 1, 2, 4] rfl) hf
            · have hf := (if_pos h24).symm.trans hf
              refine lv_aload_n hx hb dX12_skyOf_68 rfl (lv_at hl 0 rfl) ?_
              refine va_get (D := D) (ci := 12) (C := RX12) (T := TX12) (N := 19) hx hb hts fwX12_skyOf_X12 hown hK hP 0 rfl rfl 0 (by decide) (hts _ (List.mem_of_getElem? (i := 1) rfl)) (fun _ h9 => h9) rfl dX12_skyOf_69 ?_
              refine lv_iload_n hx hb dX12_skyOf_72 rfl (lv_at hl 2 rfl) ?_
              refine lv_iconst (v := 2) hx hb dX12_skyOf_73 (by decide) ?_
              refine lv_iadd hx hb dX12_skyOf_74 ?_
              refine lv_iconst (v := 2) hx hb dX12_skyOf_75 (by decide) ?_
              refine lv_iload hx hb dX12_skyOf_76 (lv_at hl 4 rfl) ?_
              refine lv_imul hx hb dX12_skyOf_78 ?_
              refine lv_iadd hx hb dX12_skyOf_79 ?_
              refine w_iald (wf := (wX12 cI cZ cS ad)) hx hb hK hP 1 0 rfl rfl hf dX12_skyOf_80 (fun v25 hf => ?_)
              refine lv_goto (tgt := 85) hx hb dX12_skyOf_81 (by decide) ?_
              exact Jj22 v25 _ _ _ hP hD hS (lv_sub hl [0, 1, 2, 4] rfl) hf
      exact Lz12 q_fu (0 : Int32) (0 : Int32) _ _ _ hP hD hS (lv_sub hl [3, 5, 2, 1, 0] rfl) hf
    · have hf := (if_pos h7).symm.trans hf
      exact Jj2  _ _ _ hP hD hS (lv_sub hl [0] rfl) hf
def pX12_plays (σ : SS) (a1 : Int32) : Option SS := q_lt ((147 : Int32) + ((25 : Int32) * a1)) (fun x2_1 => q_lp (fun _ _ => none) (fun (c4 : SS → Int32 → Option SS) (σ3 : SS) (x3_2 : Int32) => q_rd (σ3 1) 307 x2_1 (fun (v7 : Int32) => (if v7 ≤ x3_2 then some σ3 else q_rd (σ3 1) 307 ((x2_1 + (2 : Int32)) + ((2 : Int32) * x3_2)) (fun (v9 : Int32) => q_rd (σ3 1) 307 ((x2_1 + (1 : Int32)) + ((2 : Int32) * x3_2)) (fun (v10 : Int32) => q_lt (fun (σ11 : SS) => c4 σ11 (x3_2 + (1 : Int32))) (fun j12 => (if v10 = (0 : Int32) then q_wr σ3 1 307 (0 : Int32) v9 (fun (σ14 : SS) => j12 σ14) else (if v10 = (1 : Int32) then q_cs (pX12_goesOn σ3 v9) (fun (τ : SS) => τ) (fun (σ16 : SS) => j12 σ16) else (if v10 = (2 : Int32) then q_wr σ3 1 307 (14 : Int32) v9 (fun (σ18 : SS) => j12 σ18) else (if v10 = (3 : Int32) then q_cr (pX12_has σ3 (1 : Int32)) (fun (r20 : Int32) => q_lt (fun (y21 : Int32) => q_wr σ3 1 307 (15 : Int32) y21 (fun (σ23 : SS) => j12 σ23)) (fun j22 => (if r20 = (0 : Int32) then j22 v9 else j22 (0 : Int32)))) else (if v10 = (4 : Int32) then q_wr σ3 1 307 (7 : Int32) v9 (fun (σ26 : SS) => j12 σ26) else q_rd (σ3 1) 307 (2 : Int32) (fun (v27 : Int32) => q_lt (fun (y28 : Int32) => q_wr σ3 1 307 (2 : Int32) y28 (fun (σ30 : SS) => j12 σ30)) (fun j29 => (if v27 ≤ v9 then j29 (0 : Int32) else q_rd (σ3 1) 307 (2 : Int32) (fun (v32 : Int32) => j29 (v32 - v9)))))))))))))))) q_fu σ (0 : Int32))
theorem fwX12_plays_X12 : ∀ w ∈ wsX120, w ∈ wsX12_plays := fun _ h => List.mem_cons_of_mem _ (List.mem_append_right _ h)
abbrev rmX12_plays : Room := { frames := 6, cells := 0, slots := 0, locals := 134 }
set_option maxHeartbeats 4000000 in
set_option maxRecDepth 100000 in
theorem kX12_plays (l : Launch) (D : va_G) (cI cZ cS : ClassId) (zz : ZT) (ad : Nat → Nat) (σ : SS) (a1 : Int32) (σr : SS) (hf : pX12_plays σ a1 = some σr) : CV l yX12_plays wsX12_plays rmX12_plays D (K3 cI cZ cS) zz [.ref (ad 0), .int a1] (wX12 cI cZ cS ad σ) (wX12 cI cZ cS ad σr) := by
  refine q_ofV (cc := cX12_plays) (maxL := 5) (by decide) rfl (Nat.le_of_ble_eq_true rfl) ?_
  intro p e s m below meth c Q A ls hx hb hml hown hts hK hZ hA hP hD hS hl hret
  have hl : lv_has ls 5 [(0, .ref (ad 0)), (1, .int a1)] := hl
  unfold pX12_plays at hf
  refine lv_sipush (v := 147) hx hb dX12_plays_0 (by decide) ?_
  refine lv_bipush (v := 25) hx hb dX12_plays_3 (by decide) ?_
  refine lv_iload_n hx hb dX12_plays_5 rfl (lv_at hl 1 rfl) ?_
  refine lv_imul hx hb dX12_plays_6 ?_
  refine lv_iadd hx hb dX12_plays_7 ?_
  refine lv_topi (fun x2_1 ex2_1 => ?_)
  have hf := q_lt_at ex2_1 hf
  refine lv_istore_n (lv' := [(2, .int x2_1), (0, .ref (ad 0)), (1, .int a1)]) hx hb dX12_plays_8 rfl hl (by decide) rfl (fun ls hl => ?_)
  refine lv_iconst (v := 0) hx hb dX12_plays_9 (by decide) ?_
  refine lv_istore_n (lv' := [(3, .int (0 : Int32)), (2, .int x2_1), (0, .ref (ad 0)), (1, .int a1)]) hx hb dX12_plays_10 rfl hl (by decide) rfl (fun ls hl => ?_)
  refine q_lp_go (f := fun (zf : SS → Int32 → Option SS) => zf σ (0 : Int32)) hf (fun z5 ez5 hf => ?_)
  have Lz5 : ∀ (n6 : Nat) (σ3 : SS) (x3_2 : Int32) (H : Heap) (locs : List Loc) (ls : Array Slot), va_P D vwCl ((wX12 cI cZ cS ad) σ3) H → va_D A ((wX12 cI cZ cS ad) σ3) → va_S A s.heap H locs → lv_has ls 5 [(0, .ref (ad 0)), (2, .int x2_1), (3, .int x3_2)] → q_lp (fun _ _ => none) z5 n6 σ3 x3_2 = some σr → W p l e rmX12_plays s m ([.ref (ad 0), .int a1] : List Value).toArray below meth c H locs 0 0 Q (F0 m 11 ls []) := by
    intro n6
    induction n6 with
    | zero => exact fun _ _ _ _ _ _ _ _ _ hf => q_no hf
    | succ n6 ihz5 =>
      intro σ3 x3_2 H locs ls hP hD hS hl hf
      have hf := (congrFun (congrFun (congrFun ez5 (q_lp (fun _ _ => none) z5 n6)) σ3) x3_2).symm.trans hf
      refine lv_iload_n hx hb dX12_plays_11 rfl (lv_at hl 2 rfl) ?_
      refine lv_aload_n hx hb dX12_plays_12 rfl (lv_at hl 0 rfl) ?_
      refine va_get (D := D) (ci := 12) (C := RX12) (T := TX12) (N := 19) hx hb hts fwX12_plays_X12 hown hK hP 0 rfl rfl 0 (by decide) (hts _ (List.mem_of_getElem? (i := 1) rfl)) (fun _ h9 => h9) rfl dX12_plays_13 ?_
      refine lv_iload_n hx hb dX12_plays_16 rfl (lv_at hl 1 rfl) ?_
      refine w_iald (wf := (wX12 cI cZ cS ad)) hx hb hK hP 1 0 rfl rfl hf dX12_plays_17 (fun v7 hf => ?_)
      refine lv_icmp_ge (tgt := 184) hx hb dX12_plays_18 (by decide) (fun h8 => ?_) (fun h8 => ?_)
      · have hf := (if_pos h8).symm.trans hf
        have hi1 := Option.some.inj hf
        subst hi1
        exact hret _ _ _ _ dX12_plays_184 hP hS
      · have hf := (if_neg h8).symm.trans hf
        refine lv_aload_n hx hb dX12_plays_21 rfl (lv_at hl 0 rfl) ?_
        refine va_get (D := D) (ci := 12) (C := RX12) (T := TX12) (N := 19) hx hb hts fwX12_plays_X12 hown hK hP 0 rfl rfl 0 (by decide) (hts _ (List.mem_of_getElem? (i := 1) rfl)) (fun _ h9 => h9) rfl dX12_plays_22 ?_
        refine lv_iload_n hx hb dX12_plays_25 rfl (lv_at hl 1 rfl) ?_
        refine lv_iconst (v := 2) hx hb dX12_plays_26 (by decide) ?_
        refine lv_iadd hx hb dX12_plays_27 ?_
        refine lv_iconst (v := 2) hx hb dX12_plays_28 (by decide) ?_
        refine lv_iload_n hx hb dX12_plays_29 rfl (lv_at hl 2 rfl) ?_
        refine lv_imul hx hb dX12_plays_30 ?_
        refine lv_iadd hx hb dX12_plays_31 ?_
        refine w_iald (wf := (wX12 cI cZ cS ad)) hx hb hK hP 1 0 rfl rfl hf dX12_plays_32 (fun v9 hf => ?_)
        refine lv_istore (lv' := [(4, .int v9), (0, .ref (ad 0)), (2, .int x2_1), (3, .int x3_2)]) hx hb dX12_plays_33 hl (by decide) rfl (fun ls hl => ?_)
        refine lv_aload_n hx hb dX12_plays_35 rfl (lv_at hl 1 rfl) ?_
        refine va_get (D := D) (ci := 12) (C := RX12) (T := TX12) (N := 19) hx hb hts fwX12_plays_X12 hown hK hP 0 rfl rfl 0 (by decide) (hts _ (List.mem_of_getElem? (i := 1) rfl)) (fun _ h9 => h9) rfl dX12_plays_36 ?_
        refine lv_iload_n hx hb dX12_plays_39 rfl (lv_at hl 2 rfl) ?_
        refine lv_iconst (v := 1) hx hb dX12_plays_40 (by decide) ?_
        refine lv_iadd hx hb dX12_plays_41 ?_
        refine lv_iconst (v := 2) hx hb dX12_plays_42 (by decide) ?_
        refine lv_iload_n hx hb dX12_plays_43 rfl (lv_at hl 3 rfl) ?_
        refine lv_imul hx hb dX12_plays_44 ?_
        refine lv_iadd hx hb dX12_plays_45 ?_
        refine w_iald (wf := (wX12 cI cZ cS ad)) hx hb hK hP 1 0 rfl rfl hf dX12_plays_46 (fun v10 hf => ?_)
        refine q_lt_go hf (fun j12 ej12 hf => ?_)
        have Jj12 : ∀ (σ11 : SS) (H : Heap) (locs : List Loc) (ls : Array Slot), va_P D vwCl ((wX12 cI cZ cS ad) σ11) H → va_D A ((wX12 cI cZ cS ad) σ11) → va_S A s.heap H locs → lv_has ls 5 [(0, .ref (ad 0)), (2, .int x2_1), (3, .int x3_2)] → j12 σ11 = some σr → W p l e rmX12_plays s m ([.ref (ad 0), .int a1] : List Value).toArray below meth c H locs 0 0 Q (F0 m 178 ls []) := by
          intro σ11 H locs ls hP hD hS hl hf
          have hf := (congrFun ej12 σ11).symm.trans hf
          refine lv_iinc (v := (x3_2 + (1 : Int32))) (lv' := [(3, .int (x3_2 + (1 : Int32))), (0, .ref (ad 0)), (2, .int x2_1)]) hx hb dX12_plays_178 hl (k := 2) rfl rfl (by decide) rfl (fun ls hl => ?_)
          refine lv_goto (tgt := 11) hx hb dX12_plays_181 (by decide) ?_
          exact ihz5 σ11 (x3_2 + (1 : Int32)) _ _ _ hP hD hS (lv_sub hl [1, 2, 0] rfl) hf
        by_cases h13 : v10 = (0 : Int32)
        · have hf := (if_pos h13).symm.trans hf
          refine lv_tableIn (tgt := 80) hx hb dX12_plays_47 (by rw [h13]; decide) (by rw [h13]; decide) (by rw [h13]; rfl) (by decide) ?_
          refine lv_aload_n hx hb dX12_plays_80 rfl (lv_at hl 1 rfl) ?_
          refine va_get (D := D) (ci := 12) (C := RX12) (T := TX12) (N := 19) hx hb hts fwX12_plays_X12 hown hK hP 0 rfl rfl 0 (by decide) (hts _ (List.mem_of_getElem? (i := 1) rfl)) (fun _ h9 => h9) rfl dX12_plays_81 ?_
          refine lv_iconst (v := 0) hx hb dX12_plays_84 (by decide) ?_
          refine lv_iload hx hb dX12_plays_85 (lv_at hl 0 rfl) ?_
          refine w_iast (wf := (wX12 cI cZ cS ad)) (cid := 1) hx hb hK hP hD hS 1 0 rfl rfl hf (fun _ => rfl) dX12_plays_87 (fun σ14 H locs hf hP hD hS => ?_)
          refine lv_goto (tgt := 178) hx hb dX12_plays_88 (by decide) ?_
          exact Jj12 σ14 _ _ _ hP hD hS (lv_sub hl [1, 2, 3] rfl) hf
        have hf := (if_neg h13).symm.trans hf
        by_cases h15 : v10 = (1 : Int32)
        · have hf := (if_pos h15).symm.trans hf
          refine lv_tableIn (tgt := 91) hx hb dX12_plays_47 (by rw [h15]; decide) (by rw [h15]; decide) (by rw [h15]; rfl) (by decide) ?_
          refine lv_aload_n hx hb dX12_plays_91 rfl (lv_at hl 1 rfl) ?_
          refine lv_iload hx hb dX12_plays_92 (lv_at hl 0 rfl) ?_
          refine q_cVv (wf := (wX12 cI cZ cS ad)) (wc := wX12 cI cZ cS ad) (rest := []) ⟨hx, hb, hml, hown, hts⟩ hK hZ hA hP hD hS hf (fun x ho => kX12_goesOn l D cI cZ cS zz ad σ3 v9 x ho) (cwV 1 hts gX12_plays_X12_goesOn rfl rfl rfl ndX12_goesOn ⟨Nat.le_of_ble_eq_true rfl, Nat.le_of_ble_eq_true rfl⟩) [0, 1, 2, 3, 4, 5, 6, 7, 8, 9, 10, 11] rfl rfl [some 0, some 1, some 2, some 3, some 4, some 5, some 6, some 7, some 8, some 9, some 10, some 11] (by decide +kernel) (Nat.le_of_ble_eq_true rfl) (fun _ => rfl) (fun _ => rfl) (fun _ => rfl) rfl rfl rfl rfl (hl.1) rfl (Nat.le_of_ble_eq_true rfl) dX12_plays_94 ⟨Nat.zero_le _, Nat.zero_le _⟩ (fun σ16 H locs hf hP hD hS => ?_)
          refine lv_goto (tgt := 178) hx hb dX12_plays_97 (by decide) ?_
          exact Jj12 σ16 _ _ _ hP hD hS (lv_sub hl [1, 2, 3] rfl) hf
        have hf := (if_neg h15).symm.trans hf
        by_cases h17 : v10 = (2 : Int32)
        · have hf := (if_pos h17).symm.trans hf
          refine lv_tableIn (tgt := 100) hx hb dX12_plays_47 (by rw [h17]; decide) (by rw [h17]; decide) (by rw [h17]; rfl) (by decide) ?_
          refine lv_aload_n hx hb dX12_plays_100 rfl (lv_at hl 1 rfl) ?_
          refine va_get (D := D) (ci := 12) (C := RX12) (T := TX12) (N := 19) hx hb hts fwX12_plays_X12 hown hK hP 0 rfl rfl 0 (by decide) (hts _ (List.mem_of_getElem? (i := 1) rfl)) (fun _ h9 => h9) rfl dX12_plays_101 ?_
          refine lv_bipush (v := 14) hx hb dX12_plays_104 (by decide) ?_
          refine lv_iload hx hb dX12_plays_106 (lv_at hl 0 rfl) ?_
          refine w_iast (wf := (wX12 cI cZ cS ad)) (cid := 1) hx hb hK hP hD hS 1 0 rfl rfl hf (fun _ => rfl) dX12_plays_108 (fun σ18 H locs hf hP hD hS => ?_)
          refine lv_goto (tgt := 178) hx hb dX12_plays_109 (by decide) ?_
          exact Jj12 σ18 _ _ _ hP hD hS (lv_sub hl [1, 2, 3] rfl) hf
        have hf := (if_neg h17).symm.trans hf
        by_cases h19 : v10 = (3 : Int32)
        · have hf := (if_pos h19).symm.trans hf
          refine lv_tableIn (tgt := 112) hx hb dX12_plays_47 (by rw [h19]; decide) (by rw [h19]; decide) (by rw [h19]; rfl) (by decide) ?_
          refine lv_aload_n hx hb dX12_plays_112 rfl (lv_at hl 1 rfl) ?_
          refine va_get (D := D) (ci := 12) (C := RX12) (T := TX12) (N := 19) hx hb hts fwX12_plays_X12 hown hK hP 0 rfl rfl 0 (by decide) (hts _ (List.mem_of_getElem? (i := 1) rfl)) (fun _ h9 => h9) rfl dX12_plays_113 ?_
          refine lv_bipush (v := 15) hx hb dX12_plays_116 (by decide) ?_
          refine lv_aload_n hx hb dX12_plays_118 rfl (lv_at hl 1 rfl) ?_
          refine lv_iconst (v := 1) hx hb dX12_plays_119 (by decide) ?_
          refine q_cVr (wf := (wX12 cI cZ cS ad)) (wc := wX12 cI cZ cS ad) (rest := [.int (15 : Int32), .ref (ad 1)]) ⟨hx, hb, hml, hown, hts⟩ hK hZ hA hP hD hS hf (fun x ho => kX12_has l D cI cZ cS zz ad σ3 (1 : Int32) x ho) (cwV 1 hts gX12_plays_X12_has rfl rfl rfl ndX12_has ⟨Nat.le_of_ble_eq_true rfl, Nat.le_of_ble_eq_true rfl⟩) [0, 1, 2, 3, 4, 5, 6, 7, 8, 9, 10, 11] rfl rfl rfl rfl rfl rfl (hl.1) rfl (Nat.le_of_ble_eq_true rfl) dX12_plays_120 ⟨Nat.zero_le _, Nat.zero_le _⟩ (fun r20 H locs hf hP hD hS => ?_)
          refine q_lt_go hf (fun j22 ej22 hf => ?_)
          have Jj22 : ∀ (y21 : Int32) (H : Heap) (locs : List Loc) (ls : Array Slot), va_P D vwCl ((wX12 cI cZ cS ad) σ3) H → va_D A ((wX12 cI cZ cS ad) σ3) → va_S A s.heap H locs → lv_has ls 5 [(0, .ref (ad 0)), (2, .int x2_1), (3, .int x3_2)] → j22 y21 = some σr → W p l e rmX12_plays s m ([.ref (ad 0), .int a1] : List Value).toArray below meth c H locs 0 0 Q (F0 m 132 ls [.int y21, .int (15 : Int32), .ref (ad 1)]) := by
            intro y21 H locs ls hP hD hS hl hf
            have hf := (congrFun ej22 y21).symm.trans hf
            refine w_iast (wf := (wX12 cI cZ cS ad)) (cid := 1) hx hb hK hP hD hS 1 0 rfl rfl hf (fun _ => rfl) dX12_plays_132 (fun σ23 H locs hf hP hD hS => ?_)
            refine lv_goto (tgt := 178) hx hb dX12_plays_133 (by decide) ?_
            exact Jj12 σ23 _ _ _ hP hD hS (lv_sub hl [0, 1, 2] rfl) hf
          refine lv_if_eq (tgt := 130) hx hb dX12_plays_123 (by decide) (fun h24 => ?_) (fun h24 => ?_)
          · have hf := (if_pos h24).symm.trans hf
            refine lv_iload hx hb dX12_plays_130 (lv_at hl 0 rfl) ?_
            exact Jj22 v9 _ _ _ hP hD hS (lv_sub hl [1, 2, 3] rfl) hf
          · have hf := (if_neg h24).symm.trans hf
            refine lv_iconst (v := 0) hx hb dX12_plays_126 (by decide) ?_
            refine lv_goto (tgt := 132) hx hb dX12_plays_127 (by decide) ?_
            exact Jj22 (0 : Int32) _ _ _ hP hD hS (lv_sub hl [1, 2, 3] rfl) hf
        have hf := (if_neg h19).symm.trans hf
        by_cases h25 : v10 = (4 : Int32)
        · have hf := (if_pos h25).symm.trans hf
          refine lv_tableIn (tgt := 136) hx hb dX12_plays_47 (by rw [h25]; decide) (by rw [h25]; decide) (by rw [h25]; rfl) (by decide) ?_
          refine lv_aload_n hx hb dX12_plays_136 rfl (lv_at hl 1 rfl) ?_
          refine va_get (D := D) (ci := 12) (C := RX12) (T := TX12) (N := 19) hx hb hts fwX12_plays_X12 hown hK hP 0 rfl rfl 0 (by decide) (hts _ (List.mem_of_getElem? (i := 1) rfl)) (fun _ h9 => h9) rfl dX12_plays_137 ?_
          refine lv_bipush (v := 7) hx hb dX12_plays_140 (by decide) ?_
          refine lv_iload hx hb dX12_plays_142 (lv_at hl 0 rfl) ?_
          refine w_iast (wf := (wX12 cI cZ cS ad)) (cid := 1) hx hb hK hP hD hS 1 0 rfl rfl hf (fun _ => rfl) dX12_plays_144 (fun σ26 H locs hf hP hD hS => ?_)
          refine lv_goto (tgt := 178) hx hb dX12_plays_145 (by decide) ?_
          exact Jj12 σ26 _ _ _ hP hD hS (lv_sub hl [1, 2, 3] rfl) hf
        have hf := (if_neg h25).symm.trans hf
        refine lv_tableOut (tgt := 148) hx hb dX12_plays_47 (by have := q_ne h13 (z := 0) rfl; have := q_ne h15 (z := 1) rfl; have := q_ne h17 (z := 2) rfl; have := q_ne h19 (z := 3) rfl; have := q_ne h25 (z := 4) rfl; omega) (by decide) ?_
        refine lv_aload_n hx hb dX12_plays_148 rfl (lv_at hl 1 rfl) ?_
        refine va_get (D := D) (ci := 12) (C := RX12) (T := TX12) (N := 19) hx hb hts fwX12_plays_X12 hown hK hP 0 rfl rfl 0 (by decide) (hts _ (List.mem_of_getElem? (i := 1) rfl)) (fun _ h9 => h9) rfl dX12_plays_149 ?_
        refine lv_iconst (v := 2) hx hb dX12_plays_152 (by decide) ?_
        refine lv_aload_n hx hb dX12_plays_153 rfl (lv_at hl 1 rfl) ?_
        refine va_get (D := D) (ci := 12) (C := RX12) (T := TX12) (N := 19) hx hb hts fwX12_plays_X12 hown hK hP 0 rfl rfl 0 (by decide) (hts _ (List.mem_of_getElem? (i := 1) rfl)) (fun _ h9 => h9) rfl dX12_plays_154 ?_
        refine lv_iconst (v := 2) hx hb dX12_plays_157 (by decide) ?_
        refine w_iald (wf := (wX12 cI cZ cS ad)) hx hb hK hP 1 0 rfl rfl hf dX12_plays_158 (fun v27 hf => ?_)
        refine lv_iload hx hb dX12_plays_159 (lv_at hl 0 rfl) ?_
        refine q_lt_go hf (fun j29 ej29 hf => ?_)
        have Jj29 : ∀ (y28 : Int32) (H : Heap) (locs : List Loc) (ls : Array Slot), va_P D vwCl ((wX12 cI cZ cS ad) σ3) H → va_D A ((wX12 cI cZ cS ad) σ3) → va_S A s.heap H locs → lv_has ls 5 [(0, .ref (ad 0)), (2, .int x2_1), (3, .int x3_2)] → j29 y28 = some σr → W p l e rmX12_plays s m ([.ref (ad 0), .int a1] : List Value).toArray below meth c H locs 0 0 Q (F0 m 177 ls [.int y28, .int (2 : Int32), .ref (ad 1)]) := by
          intro y28 H locs ls hP hD hS hl hf
          have hf := (congrFun ej29 y28).symm.trans hf
          refine w_iast (wf := (wX12 cI cZ cS ad)) (cid := 1) hx hb hK hP hD hS 1 0 rfl rfl hf (fun _ => rfl) dX12_plays_177 (fun σ30 H locs hf hP hD hS => ?_)
          exact Jj12 σ30 _ _ _ hP hD hS (lv_sub hl [0, 1, 2] rfl) hf
        refine lv_icmp_le (tgt := 176) hx hb dX12_plays_161 (by decide) (fun h31 => ?_) (fun h31 => ?_)
        · have hf := (if_pos h31).symm.trans hf
          refine lv_iconst (v := 0) hx hb dX12_plays_176 (by decide) ?_
          exact Jj29 (0 : Int32) _ _ _ hP hD hS (lv_sub hl [1, 2, 3] rfl) hf
        · have hf := (if_neg h31).symm.trans hf
          refine lv_aload_n hx hb dX12_plays_164 rfl (lv_at hl 1 rfl) ?_
          refine va_get (D := D) (ci := 12) (C := RX12) (T := TX12) (N := 19) hx hb hts fwX12_plays_X12 hown hK hP 0 rfl rfl 0 (by decide) (hts _ (List.mem_of_getElem? (i := 1) rfl)) (fun _ h9 => h9) rfl dX12_plays_165 ?_
          refine lv_iconst (v := 2) hx hb dX12_plays_168 (by decide) ?_
          refine w_iald (wf := (wX12 cI cZ cS ad)) hx hb hK hP 1 0 rfl rfl hf dX12_plays_169 (fun v32 hf => ?_)
          refine lv_iload hx hb dX12_plays_170 (lv_at hl 0 rfl) ?_
          refine lv_isub hx hb dX12_plays_172 ?_
          refine lv_goto (tgt := 177) hx hb dX12_plays_173 (by decide) ?_
          exact Jj29 (v32 - v9) _ _ _ hP hD hS (lv_sub hl [1, 2, 3] rfl) hf
  exact Lz5 q_fu σ (0 : Int32) _ _ _ hP hD hS (lv_sub hl [2, 1, 0] rfl) hf
def pX12_play (σ : SS) (a1 : Int32) : Option (Int32 × SS) := q_cr (pX12_isSky σ a1) (fun (r1 : Int32) => (if r1 = (0 : Int32) then q_ci (pX12_finding σ (0 : Int32)) (fun (τ : SS) => τ) (fun (r6 : Int32) (σ5 : SS) => some (r6, σ5)) else q_cs (pX12_plays σ a1) (fun (τ : SS) => τ) (fun (σ3 : SS) => q_rd (σ3 1) 307 (2 : Int32) (fun (v4 : Int32) => some (v4, σ3)))))
theorem fwX12_play_X12 : ∀ w ∈ wsX120, w ∈ wsX12_play := fun _ h => List.mem_cons_of_mem _ (List.mem_append_right _ h)
abbrev rmX12_play : Room := { frames := 7, cells := 0, slots := 0, locals := 158 }
set_option maxHeartbeats 4000000 in
set_option maxRecDepth 100000 in
theorem kX12_play (l : Launch) (D : va_G) (cI cZ cS : ClassId) (zz : ZT) (ad : Nat → Nat) (σ : SS) (a1 : Int32) (rr : Int32) (σr : SS) (hf : pX12_play σ a1 = some (rr, σr)) : CI l yX12_play wsX12_play rmX12_play D (K3 cI cZ cS) zz [.ref (ad 0), .int a1] (wX12 cI cZ cS ad σ) (wX12 cI cZ cS ad σr) rr := by
  refine q_ofI (cc := cX12_play) (maxL := 2) (ty := .int) (by decide) rfl (Nat.le_of_ble_eq_true rfl) ?_
  intro p e s m below meth c Q A ls hx hb hml hown hts hK hZ hA hP hD hS hl hret
  have hl : lv_has ls 2 [(0, .ref (ad 0)), (1, .int a1)] := hl
  unfold pX12_play at hf
  refine lv_aload_n hx hb dX12_play_0 rfl (lv_at hl 0 rfl) ?_
  refine lv_iload_n hx hb dX12_play_1 rfl (lv_at hl 1 rfl) ?_
  refine q_cVr (wf := (wX12 cI cZ cS ad)) (wc := wX12 cI cZ cS ad) (rest := []) ⟨hx, hb, hml, hown, hts⟩ hK hZ hA hP hD hS hf (fun x ho => kX12_isSky l D cI cZ cS zz ad σ a1 x ho) (cwV 1 hts gX12_play_X12_isSky rfl rfl rfl ndX12_isSky ⟨Nat.le_of_ble_eq_true rfl, Nat.le_of_ble_eq_true rfl⟩) [0, 1, 2, 3, 4, 5, 6, 7, 8, 9, 10, 11] rfl rfl rfl rfl rfl rfl (hl.1) rfl (Nat.le_of_ble_eq_true rfl) dX12_play_2 ⟨Nat.zero_le _, Nat.zero_le _⟩ (fun r1 H locs hf hP hD hS => ?_)
  refine lv_if_ne (tgt := 14) hx hb dX12_play_5 (by decide) (fun h2 => ?_) (fun h2 => ?_)
  · have hf := (if_neg h2).symm.trans hf
    refine lv_aload_n hx hb dX12_play_14 rfl (lv_at hl 0 rfl) ?_
    refine lv_iload_n hx hb dX12_play_15 rfl (lv_at hl 1 rfl) ?_
    refine q_cVv (wf := (wX12 cI cZ cS ad)) (wc := wX12 cI cZ cS ad) (rest := []) ⟨hx, hb, hml, hown, hts⟩ hK hZ hA hP hD hS hf (fun x ho => kX12_plays l D cI cZ cS zz ad σ a1 x ho) (cwV 1 hts gX12_play_X12_plays rfl rfl rfl ndX12_plays ⟨Nat.le_of_ble_eq_true rfl, Nat.le_of_ble_eq_true rfl⟩) [0, 1, 2, 3, 4, 5, 6, 7, 8, 9, 10, 11] rfl rfl [some 0, some 1, some 2, some 3, some 4, some 5, some 6, some 7, some 8, some 9, some 10, some 11] (by decide +kernel) (Nat.le_of_ble_eq_true rfl) (fun _ => rfl) (fun _ => rfl) (fun _ => rfl) rfl rfl rfl rfl (hl.1) rfl (Nat.le_of_ble_eq_true rfl) dX12_play_16 ⟨Nat.zero_le _, Nat.zero_le _⟩ (fun σ3 H locs hf hP hD hS => ?_)
    refine lv_aload_n hx hb dX12_play_19 rfl (lv_at hl 0 rfl) ?_
    refine va_get (D := D) (ci := 12) (C := RX12) (T := TX12) (N := 19) hx hb hts fwX12_play_X12 hown hK hP 0 rfl rfl 0 (by decide) (hts _ (List.mem_of_getElem? (i := 1) rfl)) (fun _ h9 => h9) rfl dX12_play_20 ?_
    refine lv_iconst (v := 2) hx hb dX12_play_23 (by decide) ?_
    refine w_iald (wf := (wX12 cI cZ cS ad)) hx hb hK hP 1 0 rfl rfl hf dX12_play_24 (fun v4 hf => ?_)
    obtain ⟨hi1, hi2⟩ := Prod.mk.inj (Option.some.inj hf)
    subst hi1
    subst hi2
    exact hret _ _ _ _ dX12_play_25 rfl hP hS
  · have hf := (if_pos h2).symm.trans hf
    refine lv_aload_n hx hb dX12_play_8 rfl (lv_at hl 0 rfl) ?_
    refine lv_iconst (v := 0) hx hb dX12_play_9 (by decide) ?_
    refine q_cVi (wf := (wX12 cI cZ cS ad)) (wc := wX12 cI cZ cS ad) (rest := []) ⟨hx, hb, hml, hown, hts⟩ hK hZ hA hP hD hS hf (fun x τ ho => kX12_finding l D cI cZ cS zz ad σ (0 : Int32) x τ ho) (cwV 1 hts gX12_play_X12_finding rfl rfl rfl ndX12_finding ⟨Nat.le_of_ble_eq_true rfl, Nat.le_of_ble_eq_true rfl⟩) [0, 1, 2, 3, 4, 5, 6, 7, 8, 9, 10, 11] rfl rfl [some 0, some 1, some 2, some 3, some 4, some 5, some 6, some 7, some 8, some 9, some 10, some 11] (by decide +kernel) (Nat.le_of_ble_eq_true rfl) (fun _ => rfl) (fun _ => rfl) (fun _ => rfl) rfl rfl rfl rfl (hl.1) rfl (Nat.le_of_ble_eq_true rfl) dX12_play_10 ⟨Nat.zero_le _, Nat.zero_le _⟩ (fun r6 σ5 H locs hf hP hD hS => ?_)
    obtain ⟨hi1, hi2⟩ := Prod.mk.inj (Option.some.inj hf)
    subst hi1
    subst hi2
    exact hret _ _ _ _ dX12_play_13 rfl hP hS
def pX12_toldOf (σ : SS) (a1 : Int32) (a2 : Int32) : Option (Int32 × SS) := q_lt (fun (y1 : Int32) => q_cs (pX12_layBack σ) (fun (τ : SS) => τ) (fun (σ3 : SS) => some (y1, σ3))) (fun j2 => (if a1 = (0 : Int32) then q_rd (σ 1) 307 (2 : Int32) (fun (v9 : Int32) => j2 v9) else (if a1 = (1 : Int32) then j2 (σ 0 5) else (if a1 = (2 : Int32) then q_rd (σ 1) 307 (9 : Int32) (fun (v8 : Int32) => j2 (v8 - a2)) else q_cr (pX12_harm σ) (fun (r7 : Int32) => j2 r7)))))
theorem fwX12_toldOf_X12 : ∀ w ∈ wsX120, w ∈ wsX12_toldOf := fun _ h => List.mem_cons_of_mem _ (List.mem_append_right _ h)
abbrev rmX12_toldOf : Room := { frames := 2, cells := 0, slots := 0, locals := 44 }
set_option maxHeartbeats 4000000 in
set_option maxRecDepth 100000 in
theorem kX12_toldOf (l : Launch) (D : va_G) (cI cZ cS : ClassId) (zz : ZT) (ad : Nat → Nat) (σ : SS) (a1 : Int32) (a2 : Int32) (rr : Int32) (σr : SS) (hf : pX12_toldOf σ a1 a2 = some (rr, σr)) : CI l yX12_toldOf wsX12_toldOf rmX12_toldOf D (K3 cI cZ cS) zz [.ref (ad 0), .int a1, .int a2] (wX12 cI cZ cS ad σ) (wX12 cI cZ cS ad σr) rr := by
  refine q_ofI (cc := cX12_toldOf) (maxL := 4) (ty := .int) (by decide) rfl (Nat.le_of_ble_eq_true rfl) ?_
  intro p e s m below meth c Q A ls hx hb hml hown hts hK hZ hA hP hD hS hl hret
  have hl : lv_has ls 4 [(0, .ref (ad 0)), (1, .int a1), (2, .int a2)] := hl
  unfold pX12_toldOf at hf
  refine lv_iload_n hx hb dX12_toldOf_0 rfl (lv_at hl 1 rfl) ?_
  refine q_lt_go hf (fun j2 ej2 hf => ?_)
  have Jj2 : ∀ (y1 : Int32) (H : Heap) (locs : List Loc) (ls : Array Slot), va_P D vwCl ((wX12 cI cZ cS ad) σ) H → va_D A ((wX12 cI cZ cS ad) σ) → va_S A s.heap H locs → lv_has ls 4 [(0, .ref (ad 0))] → j2 y1 = some (rr, σr) → W p l e rmX12_toldOf s m ([.ref (ad 0), .int a1, .int a2] : List Value).toArray below meth c H locs 0 0 Q (F0 m 46 ls [.int y1]) := by
    intro y1 H locs ls hP hD hS hl hf
    have hf := (congrFun ej2 y1).symm.trans hf
    refine lv_istore_n (lv' := [(3, .int y1), (0, .ref (ad 0))]) hx hb dX12_toldOf_46 rfl hl (by decide) rfl (fun ls hl => ?_)
    refine lv_aload_n hx hb dX12_toldOf_47 rfl (lv_at hl 1 rfl) ?_
    refine q_cVv (wf := (wX12 cI cZ cS ad)) (wc := wX12 cI cZ cS ad) (rest := []) ⟨hx, hb, hml, hown, hts⟩ hK hZ hA hP hD hS hf (fun x ho => kX12_layBack l D cI cZ cS zz ad σ x ho) (cwV 0 hts gX12_toldOf_X12_layBack rfl rfl rfl ndX12_layBack ⟨Nat.le_of_ble_eq_true rfl, Nat.le_of_ble_eq_true rfl⟩) [0, 1, 2, 3, 4, 5, 6, 7, 8, 9, 10, 11] rfl rfl [some 0, some 1, some 2, some 3, some 4, some 5, some 6, some 7, some 8, some 9, some 10, some 11] (by decide +kernel) (Nat.le_of_ble_eq_true rfl) (fun _ => rfl) (fun _ => rfl) (fun _ => rfl) rfl rfl rfl rfl (hl.1) rfl (Nat.le_of_ble_eq_true rfl) dX12_toldOf_48 ⟨Nat.zero_le _, Nat.zero_le _⟩ (fun σ3 H locs hf hP hD hS => ?_)
    refine lv_iload_n hx hb dX12_toldOf_51 rfl (lv_at hl 0 rfl) ?_
    obtain ⟨hi1, hi2⟩ := Prod.mk.inj (Option.some.inj hf)
    subst hi1
    subst hi2
    exact hret _ _ _ _ dX12_toldOf_52 rfl hP hS
  refine lv_if_ne (tgt := 13) hx hb dX12_toldOf_1 (by decide) (fun h4 => ?_) (fun h4 => ?_)
  · have hf := (if_neg h4).symm.trans hf
    refine lv_iload_n hx hb dX12_toldOf_13 rfl (lv_at hl 1 rfl) ?_
    refine lv_iconst (v := 1) hx hb dX12_toldOf_14 (by decide) ?_
    refine lv_icmp_ne (tgt := 25) hx hb dX12_toldOf_15 (by decide) (fun h5 => ?_) (fun h5 => ?_)
    · have hf := (if_neg h5).symm.trans hf
      refine lv_iload_n hx hb dX12_toldOf_25 rfl (lv_at hl 1 rfl) ?_
      refine lv_iconst (v := 2) hx hb dX12_toldOf_26 (by decide) ?_
      refine lv_icmp_ne (tgt := 42) hx hb dX12_toldOf_27 (by decide) (fun h6 => ?_) (fun h6 => ?_)
      · have hf := (if_neg h6).symm.trans hf
        refine lv_aload_n hx hb dX12_toldOf_42 rfl (lv_at hl 0 rfl) ?_
        refine q_cVr (wf := (wX12 cI cZ cS ad)) (wc := wX12 cI cZ cS ad) (rest := []) ⟨hx, hb, hml, hown, hts⟩ hK hZ hA hP hD hS hf (fun x ho => kX12_harm l D cI cZ cS zz ad σ x ho) (cwV 0 hts gX12_toldOf_X12_harm rfl rfl rfl ndX12_harm ⟨Nat.le_of_ble_eq_true rfl, Nat.le_of_ble_eq_true rfl⟩) [0, 1, 2, 3, 4, 5, 6, 7, 8, 9, 10, 11] rfl rfl rfl rfl rfl rfl (hl.1) rfl (Nat.le_of_ble_eq_true rfl) dX12_toldOf_43 ⟨Nat.zero_le _, Nat.zero_le _⟩ (fun r7 H locs hf hP hD hS => ?_)
        exact Jj2 r7 _ _ _ hP hD hS (lv_sub hl [0] rfl) hf
      · have hf := (if_pos h6).symm.trans hf
        refine lv_aload_n hx hb dX12_toldOf_30 rfl (lv_at hl 0 rfl) ?_
        refine va_get (D := D) (ci := 12) (C := RX12) (T := TX12) (N := 19) hx hb hts fwX12_toldOf_X12 hown hK hP 0 rfl rfl 0 (by decide) (hts _ (List.mem_of_getElem? (i := 1) rfl)) (fun _ h9 => h9) rfl dX12_toldOf_31 ?_
        refine lv_bipush (v := 9) hx hb dX12_toldOf_34 (by decide) ?_
        refine w_iald (wf := (wX12 cI cZ cS ad)) hx hb hK hP 1 0 rfl rfl hf dX12_toldOf_36 (fun v8 hf => ?_)
        refine lv_iload_n hx hb dX12_toldOf_37 rfl (lv_at hl 2 rfl) ?_
        refine lv_isub hx hb dX12_toldOf_38 ?_
        refine lv_goto (tgt := 46) hx hb dX12_toldOf_39 (by decide) ?_
        exact Jj2 (v8 - a2) _ _ _ hP hD hS (lv_sub hl [0] rfl) hf
    · have hf := (if_pos h5).symm.trans hf
      refine lv_aload_n hx hb dX12_toldOf_18 rfl (lv_at hl 0 rfl) ?_
      refine va_get (D := D) (ci := 12) (C := RX12) (T := TX12) (N := 19) hx hb hts fwX12_toldOf_X12 hown hK hP 0 rfl rfl 5 (by decide) (hts _ (List.mem_of_getElem? (i := 2) rfl)) (fun _ h9 => h9) rfl dX12_toldOf_19 ?_
      refine lv_goto (tgt := 46) hx hb dX12_toldOf_22 (by decide) ?_
      exact Jj2 (σ 0 5) _ _ _ hP hD hS (lv_sub hl [0] rfl) hf
  · have hf := (if_pos h4).symm.trans hf
    refine lv_aload_n hx hb dX12_toldOf_4 rfl (lv_at hl 0 rfl) ?_
    refine va_get (D := D) (ci := 12) (C := RX12) (T := TX12) (N := 19) hx hb hts fwX12_toldOf_X12 hown hK hP 0 rfl rfl 0 (by decide) (hts _ (List.mem_of_getElem? (i := 1) rfl)) (fun _ h9 => h9) rfl dX12_toldOf_5 ?_
    refine lv_iconst (v := 2) hx hb dX12_toldOf_8 (by decide) ?_
    refine w_iald (wf := (wX12 cI cZ cS ad)) hx hb hK hP 1 0 rfl rfl hf dX12_toldOf_9 (fun v9 hf => ?_)
    refine lv_goto (tgt := 46) hx hb dX12_toldOf_10 (by decide) ?_
    exact Jj2 v9 _ _ _ hP hD hS (lv_sub hl [0] rfl) hf
def pX12_ahead (σ : SS) (a1 : Int32) (a2 : Int32) : Option (Int32 × SS) := q_cr (pX12_in a1 (0 : Int32) (400 : Int32)) (fun (r1 : Int32) => q_lt (q_ci (pX12_finding σ (0 : Int32)) (fun (τ : SS) => τ) (fun (r4 : Int32) (σ3 : SS) => some (r4, σ3))) (fun j2 => (if r1 = (0 : Int32) then j2 else q_cr (pX12_in a2 (0 : Int32) (3 : Int32)) (fun (r6 : Int32) => (if r6 = (0 : Int32) then j2 else q_cs (pX12_begin σ) (fun (τ : SS) => τ) (fun (σ8 : SS) => q_lt (su σ8 0 5 (0 : Int32)) (fun (σ9 : SS) => q_rd (σ9 1) 307 (9 : Int32) (fun (v10 : Int32) => q_cs (pX12_goesOn σ9 a1) (fun (τ : SS) => τ) (fun (σ11 : SS) => q_ci (pX12_toldOf σ11 a2 v10) (fun (τ : SS) => τ) (fun (r13 : Int32) (σ12 : SS) => some (r13, σ12)))))))))))
theorem fwX12_ahead_X12 : ∀ w ∈ wsX120, w ∈ wsX12_ahead := fun _ h => List.mem_cons_of_mem _ (List.mem_append_right _ h)
abbrev rmX12_ahead : Room := { frames := 6, cells := 0, slots := 0, locals := 134 }
set_option maxHeartbeats 4000000 in
set_option maxRecDepth 100000 in
theorem kX12_ahead (l : Launch) (D : va_G) (cI cZ cS : ClassId) (zz : ZT) (ad : Nat → Nat) (σ : SS) (a1 : Int32) (a2 : Int32) (rr : Int32) (σr : SS) (hf : pX12_ahead σ a1 a2 = some (rr, σr)) : CI l yX12_ahead wsX12_ahead rmX12_ahead D (K3 cI cZ cS) zz [.ref (ad 0), .int a1, .int a2] (wX12 cI cZ cS ad σ) (wX12 cI cZ cS ad σr) rr := by
  refine q_ofI (cc := cX12_ahead) (maxL := 4) (ty := .int) (by decide) rfl (Nat.le_of_ble_eq_true rfl) ?_
  intro p e s m below meth c Q A ls hx hb hml hown hts hK hZ hA hP hD hS hl hret
  have hl : lv_has ls 4 [(0, .ref (ad 0)), (1, .int a1), (2, .int a2)] := hl
  unfold pX12_ahead at hf
  refine lv_iload_n hx hb dX12_ahead_0 rfl (lv_at hl 1 rfl) ?_
  refine lv_iconst (v := 0) hx hb dX12_ahead_1 (by decide) ?_
  refine lv_sipush (v := 400) hx hb dX12_ahead_2 (by decide) ?_
  refine q_cSr (wf := (wX12 cI cZ cS ad)) (rest := []) ⟨hx, hb, hml, hown, hts⟩ hK hZ hA hP hD hS hf (fun x ho => kX12_in l D cI cZ cS zz a1 (0 : Int32) (400 : Int32) x ho) (va_cwS 3 hts gX12_ahead_X12_in rfl rfl rfl ndX12_in.2 ⟨Nat.le_of_ble_eq_true rfl, Nat.le_of_ble_eq_true rfl⟩) rfl (hl.1) rfl (Nat.le_of_ble_eq_true rfl) dX12_ahead_5 ⟨Nat.zero_le _, Nat.zero_le _⟩ (fun r1 H locs hf hP hD hS => ?_)
  refine q_lt_go hf (fun j2 ej2 hf => ?_)
  have Jj2 : ∀ (H : Heap) (locs : List Loc) (ls : Array Slot), va_P D vwCl ((wX12 cI cZ cS ad) σ) H → va_D A ((wX12 cI cZ cS ad) σ) → va_S A s.heap H locs → lv_has ls 4 [(0, .ref (ad 0))] → j2 = some (rr, σr) → W p l e rmX12_ahead s m ([.ref (ad 0), .int a1, .int a2] : List Value).toArray below meth c H locs 0 0 Q (F0 m 20 ls []) := by
    intro  H locs ls hP hD hS hl hf
    have hf := ej2.symm.trans hf
    refine lv_aload_n hx hb dX12_ahead_20 rfl (lv_at hl 0 rfl) ?_
    refine lv_iconst (v := 0) hx hb dX12_ahead_21 (by decide) ?_
    refine q_cVi (wf := (wX12 cI cZ cS ad)) (wc := wX12 cI cZ cS ad) (rest := []) ⟨hx, hb, hml, hown, hts⟩ hK hZ hA hP hD hS hf (fun x τ ho => kX12_finding l D cI cZ cS zz ad σ (0 : Int32) x τ ho) (cwV 1 hts gX12_ahead_X12_finding rfl rfl rfl ndX12_finding ⟨Nat.le_of_ble_eq_true rfl, Nat.le_of_ble_eq_true rfl⟩) [0, 1, 2, 3, 4, 5, 6, 7, 8, 9, 10, 11] rfl rfl [some 0, some 1, some 2, some 3, some 4, some 5, some 6, some 7, some 8, some 9, some 10, some 11] (by decide +kernel) (Nat.le_of_ble_eq_true rfl) (fun _ => rfl) (fun _ => rfl) (fun _ => rfl) rfl rfl rfl rfl (hl.1) rfl (Nat.le_of_ble_eq_true rfl) dX12_ahead_22 ⟨Nat.zero_le _, Nat.zero_le _⟩ (fun r4 σ3 H locs hf hP hD hS => ?_)
    obtain ⟨hi1, hi2⟩ := Prod.mk.inj (Option.some.inj hf)
    subst hi1
    subst hi2
    exact hret _ _ _ _ dX12_ahead_25 rfl hP hS
  refine lv_if_eq (tgt := 20) hx hb dX12_ahead_8 (by decide) (fun h5 => ?_) (fun h5 => ?_)
  · have hf := (if_pos h5).symm.trans hf
    exact Jj2  _ _ _ hP hD hS (lv_sub hl [0] rfl) hf
  · have hf := (if_neg h5).symm.trans hf
    refine lv_iload_n hx hb dX12_ahead_11 rfl (lv_at hl 2 rfl) ?_
    refine lv_iconst (v := 0) hx hb dX12_ahead_12 (by decide) ?_
    refine lv_iconst (v := 3) hx hb dX12_ahead_13 (by decide) ?_
    refine q_cSr (wf := (wX12 cI cZ cS ad)) (rest := []) ⟨hx, hb, hml, hown, hts⟩ hK hZ hA hP hD hS hf (fun x ho => kX12_in l D cI cZ cS zz a2 (0 : Int32) (3 : Int32) x ho) (va_cwS 3 hts gX12_ahead_X12_in rfl rfl rfl ndX12_in.2 ⟨Nat.le_of_ble_eq_true rfl, Nat.le_of_ble_eq_true rfl⟩) rfl (hl.1) rfl (Nat.le_of_ble_eq_true rfl) dX12_ahead_14 ⟨Nat.zero_le _, Nat.zero_le _⟩ (fun r6 H locs hf hP hD hS => ?_)
    refine lv_if_ne (tgt := 26) hx hb dX12_ahead_17 (by decide) (fun h7 => ?_) (fun h7 => ?_)
    · have hf := (if_neg h7).symm.trans hf
      refine lv_aload_n hx hb dX12_ahead_26 rfl (lv_at hl 0 rfl) ?_
      refine q_cVv (wf := (wX12 cI cZ cS ad)) (wc := wX12 cI cZ cS ad) (rest := []) ⟨hx, hb, hml, hown, hts⟩ hK hZ hA hP hD hS hf (fun x ho => kX12_begin l D cI cZ cS zz ad σ x ho) (cwV 0 hts gX12_ahead_X12_begin rfl rfl rfl ndX12_begin ⟨Nat.le_of_ble_eq_true rfl, Nat.le_of_ble_eq_true rfl⟩) [0, 1, 2, 3, 4, 5, 6, 7, 8, 9, 10, 11] rfl rfl [some 0, some 1, some 2, some 3, some 4, some 5, some 6, some 7, some 8, some 9, some 10, some 11] (by decide +kernel) (Nat.le_of_ble_eq_true rfl) (fun _ => rfl) (fun _ => rfl) (fun _ => rfl) rfl rfl rfl rfl (hl.1) rfl (Nat.le_of_ble_eq_true rfl) dX12_ahead_27 ⟨Nat.zero_le _, Nat.zero_le _⟩ (fun σ8 H locs hf hP hD hS => ?_)
      refine lv_aload_n hx hb dX12_ahead_30 rfl (lv_at hl 0 rfl) ?_
      refine lv_iconst (v := 0) hx hb dX12_ahead_31 (by decide) ?_
      refine w_put (D := D) (wf := (wX12 cI cZ cS ad)) (cid := 0) (ci := 12) (C := RX12) (T := TX12) (N := 19) hx hb hts fwX12_ahead_X12 tyX12 tyX12_ok nmX12 hown hK hP hD hS 0 rfl rfl 5 (by decide) (hts _ (List.mem_of_getElem? (i := 1) rfl)) (fun _ h9 => h9) rfl (tyX12_ok 5 (by decide)) (Nat.le_of_ble_eq_true rfl) hf rfl dX12_ahead_32 (fun σ9 H locs hf hP hD hS => ?_)
      refine lv_aload_n hx hb dX12_ahead_35 rfl (lv_at hl 0 rfl) ?_
      refine va_get (D := D) (ci := 12) (C := RX12) (T := TX12) (N := 19) hx hb hts fwX12_ahead_X12 hown hK hP 0 rfl rfl 0 (by decide) (hts _ (List.mem_of_getElem? (i := 2) rfl)) (fun _ h9 => h9) rfl dX12_ahead_36 ?_
      refine lv_bipush (v := 9) hx hb dX12_ahead_39 (by decide) ?_
      refine w_iald (wf := (wX12 cI cZ cS ad)) hx hb hK hP 1 0 rfl rfl hf dX12_ahead_41 (fun v10 hf => ?_)
      refine lv_istore_n (lv' := [(3, .int v10), (0, .ref (ad 0)), (1, .int a1), (2, .int a2)]) hx hb dX12_ahead_42 rfl hl (by decide) rfl (fun ls hl => ?_)
      refine lv_aload_n hx hb dX12_ahead_43 rfl (lv_at hl 1 rfl) ?_
      refine lv_iload_n hx hb dX12_ahead_44 rfl (lv_at hl 2 rfl) ?_
      refine q_cVv (wf := (wX12 cI cZ cS ad)) (wc := wX12 cI cZ cS ad) (rest := []) ⟨hx, hb, hml, hown, hts⟩ hK hZ hA hP hD hS hf (fun x ho => kX12_goesOn l D cI cZ cS zz ad σ9 a1 x ho) (cwV 1 hts gX12_ahead_X12_goesOn rfl rfl rfl ndX12_goesOn ⟨Nat.le_of_ble_eq_true rfl, Nat.le_of_ble_eq_true rfl⟩) [0, 1, 2, 3, 4, 5, 6, 7, 8, 9, 10, 11] rfl rfl [some 0, some 1, some 2, some 3, some 4, some 5, some 6, some 7, some 8, some 9, some 10, some 11] (by decide +kernel) (Nat.le_of_ble_eq_true rfl) (fun _ => rfl) (fun _ => rfl) (fun _ => rfl) rfl rfl rfl rfl (hl.1) rfl (Nat.le_of_ble_eq_true rfl) dX12_ahead_45 ⟨Nat.zero_le _, Nat.zero_le _⟩ (fun σ11 H locs hf hP hD hS => ?_)
      refine lv_aload_n hx hb dX12_ahead_48 rfl (lv_at hl 1 rfl) ?_
      refine lv_iload_n hx hb dX12_ahead_49 rfl (lv_at hl 3 rfl) ?_
      refine lv_iload_n hx hb dX12_ahead_50 rfl (lv_at hl 0 rfl) ?_
      refine q_cVi (wf := (wX12 cI cZ cS ad)) (wc := wX12 cI cZ cS ad) (rest := []) ⟨hx, hb, hml, hown, hts⟩ hK hZ hA hP hD hS hf (fun x τ ho => kX12_toldOf l D cI cZ cS zz ad σ11 a2 v10 x τ ho) (cwV 2 hts gX12_ahead_X12_toldOf rfl rfl rfl ndX12_toldOf ⟨Nat.le_of_ble_eq_true rfl, Nat.le_of_ble_eq_true rfl⟩) [0, 1, 2, 3, 4, 5, 6, 7, 8, 9, 10, 11] rfl rfl [some 0, some 1, some 2, some 3, some 4, some 5, some 6, some 7, some 8, some 9, some 10, some 11] (by decide +kernel) (Nat.le_of_ble_eq_true rfl) (fun _ => rfl) (fun _ => rfl) (fun _ => rfl) rfl rfl rfl rfl (hl.1) rfl (Nat.le_of_ble_eq_true rfl) dX12_ahead_51 ⟨Nat.zero_le _, Nat.zero_le _⟩ (fun r13 σ12 H locs hf hP hD hS => ?_)
      obtain ⟨hi1, hi2⟩ := Prod.mk.inj (Option.some.inj hf)
      subst hi1
      subst hi2
      exact hret _ _ _ _ dX12_ahead_54 rfl hP hS
    · have hf := (if_pos h7).symm.trans hf
      exact Jj2  _ _ _ hP hD hS (lv_sub hl [0] rfl) hf
def pX12_under (σ : SS) (a1 : Int32) (a2 : Int32) : Option (Int32 × SS) := q_cr (pX12_isSky σ a1) (fun (r1 : Int32) => q_lt (q_ci (pX12_finding σ (0 : Int32)) (fun (τ : SS) => τ) (fun (r4 : Int32) (σ3 : SS) => some (r4, σ3))) (fun j2 => (if r1 = (0 : Int32) then j2 else q_cr (pX12_in a2 (0 : Int32) (3 : Int32)) (fun (r6 : Int32) => (if r6 = (0 : Int32) then j2 else q_cs (pX12_begin σ) (fun (τ : SS) => τ) (fun (σ8 : SS) => q_lt (su σ8 0 5 (0 : Int32)) (fun (σ9 : SS) => q_rd (σ9 1) 307 (9 : Int32) (fun (v10 : Int32) => q_cs (pX12_plays σ9 a1) (fun (τ : SS) => τ) (fun (σ11 : SS) => q_ci (pX12_toldOf σ11 a2 v10) (fun (τ : SS) => τ) (fun (r13 : Int32) (σ12 : SS) => some (r13, σ12)))))))))))
theorem fwX12_under_X12 : ∀ w ∈ wsX120, w ∈ wsX12_under := fun _ h => List.mem_cons_of_mem _ (List.mem_append_right _ h)
abbrev rmX12_under : Room := { frames := 7, cells := 0, slots := 0, locals := 158 }
set_option maxHeartbeats 4000000 in
set_option maxRecDepth 100000 in
theorem kX12_under (l : Launch) (D : va_G) (cI cZ cS : ClassId) (zz : ZT) (ad : Nat → Nat) (σ : SS) (a1 : Int32) (a2 : Int32) (rr : Int32) (σr : SS) (hf : pX12_under σ a1 a2 = some (rr, σr)) : CI l yX12_under wsX12_under rmX12_under D (K3 cI cZ cS) zz [.ref (ad 0), .int a1, .int a2] (wX12 cI cZ cS ad σ) (wX12 cI cZ cS ad σr) rr := by
  refine q_ofI (cc := cX12_under) (maxL := 4) (ty := .int) (by decide) rfl (Nat.le_of_ble_eq_true rfl) ?_
  intro p e s m below meth c Q A ls hx hb hml hown hts hK hZ hA hP hD hS hl hret
  have hl : lv_has ls 4 [(0, .ref (ad 0)), (1, .int a1), (2, .int a2)] := hl
  unfold pX12_under at hf
  refine lv_aload_n hx hb dX12_under_0 rfl (lv_at hl 0 rfl) ?_
  refine lv_iload_n hx hb dX12_under_1 rfl (lv_at hl 1 rfl) ?_
  refine q_cVr (wf := (wX12 cI cZ cS ad)) (wc := wX12 cI cZ cS ad) (rest := []) ⟨hx, hb, hml, hown, hts⟩ hK hZ hA hP hD hS hf (fun x ho => kX12_isSky l D cI cZ cS zz ad σ a1 x ho) (cwV 1 hts gX12_under_X12_isSky rfl rfl rfl ndX12_isSky ⟨Nat.le_of_ble_eq_true rfl, Nat.le_of_ble_eq_true rfl⟩) [0, 1, 2, 3, 4, 5, 6, 7, 8, 9, 10, 11] rfl rfl rfl rfl rfl rfl (hl.1) rfl (Nat.le_of_ble_eq_true rfl) dX12_under_2 ⟨Nat.zero_le _, Nat.zero_le _⟩ (fun r1 H locs hf hP hD hS => ?_)
  refine q_lt_go hf (fun j2 ej2 hf => ?_)
  have Jj2 : ∀ (H : Heap) (locs : List Loc) (ls : Array Slot), va_P D vwCl ((wX12 cI cZ cS ad) σ) H → va_D A ((wX12 cI cZ cS ad) σ) → va_S A s.heap H locs → lv_has ls 4 [(0, .ref (ad 0))] → j2 = some (rr, σr) → W p l e rmX12_under s m ([.ref (ad 0), .int a1, .int a2] : List Value).toArray below meth c H locs 0 0 Q (F0 m 17 ls []) := by
    intro  H locs ls hP hD hS hl hf
    have hf := ej2.symm.trans hf
    refine lv_aload_n hx hb dX12_under_17 rfl (lv_at hl 0 rfl) ?_
    refine lv_iconst (v := 0) hx hb dX12_under_18 (by decide) ?_
    refine q_cVi (wf := (wX12 cI cZ cS ad)) (wc := wX12 cI cZ cS ad) (rest := []) ⟨hx, hb, hml, hown, hts⟩ hK hZ hA hP hD hS hf (fun x τ ho => kX12_finding l D cI cZ cS zz ad σ (0 : Int32) x τ ho) (cwV 1 hts gX12_under_X12_finding rfl rfl rfl ndX12_finding ⟨Nat.le_of_ble_eq_true rfl, Nat.le_of_ble_eq_true rfl⟩) [0, 1, 2, 3, 4, 5, 6, 7, 8, 9, 10, 11] rfl rfl [some 0, some 1, some 2, some 3, some 4, some 5, some 6, some 7, some 8, some 9, some 10, some 11] (by decide +kernel) (Nat.le_of_ble_eq_true rfl) (fun _ => rfl) (fun _ => rfl) (fun _ => rfl) rfl rfl rfl rfl (hl.1) rfl (Nat.le_of_ble_eq_true rfl) dX12_under_19 ⟨Nat.zero_le _, Nat.zero_le _⟩ (fun r4 σ3 H locs hf hP hD hS => ?_)
    obtain ⟨hi1, hi2⟩ := Prod.mk.inj (Option.some.inj hf)
    subst hi1
    subst hi2
    exact hret _ _ _ _ dX12_under_22 rfl hP hS
  refine lv_if_eq (tgt := 17) hx hb dX12_under_5 (by decide) (fun h5 => ?_) (fun h5 => ?_)
  · have hf := (if_pos h5).symm.trans hf
    exact Jj2  _ _ _ hP hD hS (lv_sub hl [0] rfl) hf
  · have hf := (if_neg h5).symm.trans hf
    refine lv_iload_n hx hb dX12_under_8 rfl (lv_at hl 2 rfl) ?_
    refine lv_iconst (v := 0) hx hb dX12_under_9 (by decide) ?_
    refine lv_iconst (v := 3) hx hb dX12_under_10 (by decide) ?_
    refine q_cSr (wf := (wX12 cI cZ cS ad)) (rest := []) ⟨hx, hb, hml, hown, hts⟩ hK hZ hA hP hD hS hf (fun x ho => kX12_in l D cI cZ cS zz a2 (0 : Int32) (3 : Int32) x ho) (va_cwS 3 hts gX12_under_X12_in rfl rfl rfl ndX12_in.2 ⟨Nat.le_of_ble_eq_true rfl, Nat.le_of_ble_eq_true rfl⟩) rfl (hl.1) rfl (Nat.le_of_ble_eq_true rfl) dX12_under_11 ⟨Nat.zero_le _, Nat.zero_le _⟩ (fun r6 H locs hf hP hD hS => ?_)
    refine lv_if_ne (tgt := 23) hx hb dX12_under_14 (by decide) (fun h7 => ?_) (fun h7 => ?_)
    · have hf := (if_neg h7).symm.trans hf
      refine lv_aload_n hx hb dX12_under_23 rfl (lv_at hl 0 rfl) ?_
      refine q_cVv (wf := (wX12 cI cZ cS ad)) (wc := wX12 cI cZ cS ad) (rest := []) ⟨hx, hb, hml, hown, hts⟩ hK hZ hA hP hD hS hf (fun x ho => kX12_begin l D cI cZ cS zz ad σ x ho) (cwV 0 hts gX12_under_X12_begin rfl rfl rfl ndX12_begin ⟨Nat.le_of_ble_eq_true rfl, Nat.le_of_ble_eq_true rfl⟩) [0, 1, 2, 3, 4, 5, 6, 7, 8, 9, 10, 11] rfl rfl [some 0, some 1, some 2, some 3, some 4, some 5, some 6, some 7, some 8, some 9, some 10, some 11] (by decide +kernel) (Nat.le_of_ble_eq_true rfl) (fun _ => rfl) (fun _ => rfl) (fun _ => rfl) rfl rfl rfl rfl (hl.1) rfl (Nat.le_of_ble_eq_true rfl) dX12_under_24 ⟨Nat.zero_le _, Nat.zero_le _⟩ (fun σ8 H locs hf hP hD hS => ?_)
      refine lv_aload_n hx hb dX12_under_27 rfl (lv_at hl 0 rfl) ?_
      refine lv_iconst (v := 0) hx hb dX12_under_28 (by decide) ?_
      refine w_put (D := D) (wf := (wX12 cI cZ cS ad)) (cid := 0) (ci := 12) (C := RX12) (T := TX12) (N := 19) hx hb hts fwX12_under_X12 tyX12 tyX12_ok nmX12 hown hK hP hD hS 0 rfl rfl 5 (by decide) (hts _ (List.mem_of_getElem? (i := 1) rfl)) (fun _ h9 => h9) rfl (tyX12_ok 5 (by decide)) (Nat.le_of_ble_eq_true rfl) hf rfl dX12_under_29 (fun σ9 H locs hf hP hD hS => ?_)
      refine lv_aload_n hx hb dX12_under_32 rfl (lv_at hl 0 rfl) ?_
      refine va_get (D := D) (ci := 12) (C := RX12) (T := TX12) (N := 19) hx hb hts fwX12_under_X12 hown hK hP 0 rfl rfl 0 (by decide) (hts _ (List.mem_of_getElem? (i := 2) rfl)) (fun _ h9 => h9) rfl dX12_under_33 ?_
      refine lv_bipush (v := 9) hx hb dX12_under_36 (by decide) ?_
      refine w_iald (wf := (wX12 cI cZ cS ad)) hx hb hK hP 1 0 rfl rfl hf dX12_under_38 (fun v10 hf => ?_)
      refine lv_istore_n (lv' := [(3, .int v10), (0, .ref (ad 0)), (1, .int a1), (2, .int a2)]) hx hb dX12_under_39 rfl hl (by decide) rfl (fun ls hl => ?_)
      refine lv_aload_n hx hb dX12_under_40 rfl (lv_at hl 1 rfl) ?_
      refine lv_iload_n hx hb dX12_under_41 rfl (lv_at hl 2 rfl) ?_
      refine q_cVv (wf := (wX12 cI cZ cS ad)) (wc := wX12 cI cZ cS ad) (rest := []) ⟨hx, hb, hml, hown, hts⟩ hK hZ hA hP hD hS hf (fun x ho => kX12_plays l D cI cZ cS zz ad σ9 a1 x ho) (cwV 1 hts gX12_under_X12_plays rfl rfl rfl ndX12_plays ⟨Nat.le_of_ble_eq_true rfl, Nat.le_of_ble_eq_true rfl⟩) [0, 1, 2, 3, 4, 5, 6, 7, 8, 9, 10, 11] rfl rfl [some 0, some 1, some 2, some 3, some 4, some 5, some 6, some 7, some 8, some 9, some 10, some 11] (by decide +kernel) (Nat.le_of_ble_eq_true rfl) (fun _ => rfl) (fun _ => rfl) (fun _ => rfl) rfl rfl rfl rfl (hl.1) rfl (Nat.le_of_ble_eq_true rfl) dX12_under_42 ⟨Nat.zero_le _, Nat.zero_le _⟩ (fun σ11 H locs hf hP hD hS => ?_)
      refine lv_aload_n hx hb dX12_under_45 rfl (lv_at hl 1 rfl) ?_
      refine lv_iload_n hx hb dX12_under_46 rfl (lv_at hl 3 rfl) ?_
      refine lv_iload_n hx hb dX12_under_47 rfl (lv_at hl 0 rfl) ?_
      refine q_cVi (wf := (wX12 cI cZ cS ad)) (wc := wX12 cI cZ cS ad) (rest := []) ⟨hx, hb, hml, hown, hts⟩ hK hZ hA hP hD hS hf (fun x τ ho => kX12_toldOf l D cI cZ cS zz ad σ11 a2 v10 x τ ho) (cwV 2 hts gX12_under_X12_toldOf rfl rfl rfl ndX12_toldOf ⟨Nat.le_of_ble_eq_true rfl, Nat.le_of_ble_eq_true rfl⟩) [0, 1, 2, 3, 4, 5, 6, 7, 8, 9, 10, 11] rfl rfl [some 0, some 1, some 2, some 3, some 4, some 5, some 6, some 7, some 8, some 9, some 10, some 11] (by decide +kernel) (Nat.le_of_ble_eq_true rfl) (fun _ => rfl) (fun _ => rfl) (fun _ => rfl) rfl rfl rfl rfl (hl.1) rfl (Nat.le_of_ble_eq_true rfl) dX12_under_48 ⟨Nat.zero_le _, Nat.zero_le _⟩ (fun r13 σ12 H locs hf hP hD hS => ?_)
      obtain ⟨hi1, hi2⟩ := Prod.mk.inj (Option.some.inj hf)
      subst hi1
      subst hi2
      exact hret _ _ _ _ dX12_under_51 rfl hP hS
    · have hf := (if_pos h7).symm.trans hf
      exact Jj2  _ _ _ hP hD hS (lv_sub hl [0] rfl) hf
def pX12_reaches (σ : SS) (a1 : Int32) : Option (Int32 × SS) := q_cr (pX12_in a1 (0 : Int32) (9999 : Int32)) (fun (r1 : Int32) => (if r1 = (0 : Int32) then q_ci (pX12_finding σ (0 : Int32)) (fun (τ : SS) => τ) (fun (r25 : Int32) (σ24 : SS) => some (r25, σ24)) else q_cs (pX12_begin σ) (fun (τ : SS) => τ) (fun (σ3 : SS) => q_lt (su σ3 0 5 (0 : Int32)) (fun (σ4 : SS) => q_lp (fun _ _ => none) (fun (c7 : SS → Int32 → Option (Int32 × SS)) (σ6 : SS) (x2_5 : Int32) => q_lt (q_lt (fun (y11 : Int32) => q_cs (pX12_layBack σ6) (fun (τ : SS) => τ) (fun (σ13 : SS) => q_lt (fun (σ15 : SS) (y14 : Int32) => some (y14, σ15)) (fun j16 => (if y11 = (0 : Int32) then q_ci (pX12_finding σ13 (3 : Int32)) (fun (τ : SS) => τ) (fun (r19 : Int32) (σ18 : SS) => j16 σ18 r19) else j16 σ13 x2_5)))) (fun j12 => (if (σ6 0 5) ≤ a1 then j12 (0 : Int32) else j12 (1 : Int32)))) (fun j10 => (if (400 : Int32) ≤ x2_5 then j10 else (if a1 < (σ6 0 5) then j10 else q_cs (pX12_goesOn σ6 (1 : Int32)) (fun (τ : SS) => τ) (fun (σ23 : SS) => c7 σ23 (x2_5 + (1 : Int32))))))) q_fu σ4 (0 : Int32)))))
theorem fwX12_reaches_X12 : ∀ w ∈ wsX120, w ∈ wsX12_reaches := fun _ h => List.mem_cons_of_mem _ (List.mem_append_right _ h)
abbrev rmX12_reaches : Room := { frames := 6, cells := 0, slots := 0, locals := 134 }
set_option maxHeartbeats 4000000 in
set_option maxRecDepth 100000 in
theorem kX12_reaches (l : Launch) (D : va_G) (cI cZ cS : ClassId) (zz : ZT) (ad : Nat → Nat) (σ : SS) (a1 : Int32) (rr : Int32) (σr : SS) (hf : pX12_reaches σ a1 = some (rr, σr)) : CI l yX12_reaches wsX12_reaches rmX12_reaches D (K3 cI cZ cS) zz [.ref (ad 0), .int a1] (wX12 cI cZ cS ad σ) (wX12 cI cZ cS ad σr) rr := by
  refine q_ofI (cc := cX12_reaches) (maxL := 4) (ty := .int) (by decide) rfl (Nat.le_of_ble_eq_true rfl) ?_
  intro p e s m below meth c Q A ls hx hb hml hown hts hK hZ hA hP hD hS hl hret
  have hl : lv_has ls 4 [(0, .ref (ad 0)), (1, .int a1)] := hl
  unfold pX12_reaches at hf
  refine lv_iload_n hx hb dX12_reaches_0 rfl (lv_at hl 1 rfl) ?_
  refine lv_iconst (v := 0) hx hb dX12_reaches_1 (by decide) ?_
  refine lv_sipush (v := 9999) hx hb dX12_reaches_2 (by decide) ?_
  refine q_cSr (wf := (wX12 cI cZ cS ad)) (rest := []) ⟨hx, hb, hml, hown, hts⟩ hK hZ hA hP hD hS hf (fun x ho => kX12_in l D cI cZ cS zz a1 (0 : Int32) (9999 : Int32) x ho) (va_cwS 3 hts gX12_reaches_X12_in rfl rfl rfl ndX12_in.2 ⟨Nat.le_of_ble_eq_true rfl, Nat.le_of_ble_eq_true rfl⟩) rfl (hl.1) rfl (Nat.le_of_ble_eq_true rfl) dX12_reaches_5 ⟨Nat.zero_le _, Nat.zero_le _⟩ (fun r1 H locs hf hP hD hS => ?_)
  refine lv_if_ne (tgt := 17) hx hb dX12_reaches_8 (by decide) (fun h2 => ?_) (fun h2 => ?_)
  · have hf := (if_neg h2).symm.trans hf
    refine lv_aload_n hx hb dX12_reaches_17 rfl (lv_at hl 0 rfl) ?_
    refine q_cVv (wf := (wX12 cI cZ cS ad)) (wc := wX12 cI cZ cS ad) (rest := []) ⟨hx, hb, hml, hown, hts⟩ hK hZ hA hP hD hS hf (fun x ho => kX12_begin l D cI cZ cS zz ad σ x ho) (cwV 0 hts gX12_reaches_X12_begin rfl rfl rfl ndX12_begin ⟨Nat.le_of_ble_eq_true rfl, Nat.le_of_ble_eq_true rfl⟩) [0, 1, 2, 3, 4, 5, 6, 7, 8, 9, 10, 11] rfl rfl [some 0, some 1, some 2, some 3, some 4, some 5, some 6, some 7, some 8, some 9, some 10, some 11] (by decide +kernel) (Nat.le_of_ble_eq_true rfl) (fun _ => rfl) (fun _ => rfl) (fun _ => rfl) rfl rfl rfl rfl (hl.1) rfl (Nat.le_of_ble_eq_true rfl) dX12_reaches_18 ⟨Nat.zero_le _, Nat.zero_le _⟩ (fun σ3 H locs hf hP hD hS => ?_)
    refine lv_aload_n hx hb dX12_reaches_21 rfl (lv_at hl 0 rfl) ?_
    refine lv_iconst (v := 0) hx hb dX12_reaches_22 (by decide) ?_
    refine w_put (D := D) (wf := (wX12 cI cZ cS ad)) (cid := 0) (ci := 12) (C := RX12) (T := TX12) (N := 19) hx hb hts fwX12_reaches_X12 tyX12 tyX12_ok nmX12 hown hK hP hD hS 0 rfl rfl 5 (by decide) (hts _ (List.mem_of_getElem? (i := 1) rfl)) (fun _ h9 => h9) rfl (tyX12_ok 5 (by decide)) (Nat.le_of_ble_eq_true rfl) hf rfl dX12_reaches_23 (fun σ4 H locs hf hP hD hS => ?_)
    refine lv_iconst (v := 0) hx hb dX12_reaches_26 (by decide) ?_
    refine lv_istore_n (lv' := [(2, .int (0 : Int32)), (0, .ref (ad 0)), (1, .int a1)]) hx hb dX12_reaches_27 rfl hl (by decide) rfl (fun ls hl => ?_)
    refine q_lp_go (f := fun (zf : SS → Int32 → Option (Int32 × SS)) => zf σ4 (0 : Int32)) hf (fun z8 ez8 hf => ?_)
    have Lz8 : ∀ (n9 : Nat) (σ6 : SS) (x2_5 : Int32) (H : Heap) (locs : List Loc) (ls : Array Slot), va_P D vwCl ((wX12 cI cZ cS ad) σ6) H → va_D A ((wX12 cI cZ cS ad) σ6) → va_S A s.heap H locs → lv_has ls 4 [(0, .ref (ad 0)), (1, .int a1), (2, .int x2_5)] → q_lp (fun _ _ => none) z8 n9 σ6 x2_5 = some (rr, σr) → W p l e rmX12_reaches s m ([.ref (ad 0), .int a1] : List Value).toArray below meth c H locs 0 0 Q (F0 m 28 ls []) := by
      intro n9
      induction n9 with
      | zero => exact fun _ _ _ _ _ _ _ _ _ hf => q_no hf
      | succ n9 ihz8 =>
        intro σ6 x2_5 H locs ls hP hD hS hl hf
        have hf := (congrFun (congrFun (congrFun ez8 (q_lp (fun _ _ => none) z8 n9)) σ6) x2_5).symm.trans hf
        refine lv_iload_n hx hb dX12_reaches_28 rfl (lv_at hl 2 rfl) ?_
        refine lv_sipush (v := 400) hx hb dX12_reaches_29 (by decide) ?_
        refine q_lt_go hf (fun j10 ej10 hf => ?_)
        have Jj10 : ∀ (H : Heap) (locs : List Loc) (ls : Array Slot), va_P D vwCl ((wX12 cI cZ cS ad) σ6) H → va_D A ((wX12 cI cZ cS ad) σ6) → va_S A s.heap H locs → lv_has ls 4 [(0, .ref (ad 0)), (1, .int a1), (2, .int x2_5)] → j10 = some (rr, σr) → W p l e rmX12_reaches s m ([.ref (ad 0), .int a1] : List Value).toArray below meth c H locs 0 0 Q (F0 m 54 ls []) := by
          intro  H locs ls hP hD hS hl hf
          have hf := ej10.symm.trans hf
          refine lv_aload_n hx hb dX12_reaches_54 rfl (lv_at hl 0 rfl) ?_
          refine va_get (D := D) (ci := 12) (C := RX12) (T := TX12) (N := 19) hx hb hts fwX12_reaches_X12 hown hK hP 0 rfl rfl 5 (by decide) (hts _ (List.mem_of_getElem? (i := 1) rfl)) (fun _ h9 => h9) rfl dX12_reaches_55 ?_
          refine lv_iload_n hx hb dX12_reaches_58 rfl (lv_at hl 1 rfl) ?_
          refine q_lt_go hf (fun j12 ej12 hf => ?_)
          have Jj12 : ∀ (y11 : Int32) (H : Heap) (locs : List Loc) (ls : Array Slot), va_P D vwCl ((wX12 cI cZ cS ad) σ6) H → va_D A ((wX12 cI cZ cS ad) σ6) → va_S A s.heap H locs → lv_has ls 4 [(0, .ref (ad 0)), (2, .int x2_5)] → j12 y11 = some (rr, σr) → W p l e rmX12_reaches s m ([.ref (ad 0), .int a1] : List Value).toArray below meth c H locs 0 0 Q (F0 m 67 ls [.int y11]) := by
            intro y11 H locs ls hP hD hS hl hf
            have hf := (congrFun ej12 y11).symm.trans hf
            refine lv_istore_n (lv' := [(3, .int y11), (0, .ref (ad 0)), (2, .int x2_5)]) hx hb dX12_reaches_67 rfl hl (by decide) rfl (fun ls hl => ?_)
            refine lv_aload_n hx hb dX12_reaches_68 rfl (lv_at hl 1 rfl) ?_
            refine q_cVv (wf := (wX12 cI cZ cS ad)) (wc := wX12 cI cZ cS ad) (rest := []) ⟨hx, hb, hml, hown, hts⟩ hK hZ hA hP hD hS hf (fun x ho => kX12_layBack l D cI cZ cS zz ad σ6 x ho) (cwV 0 hts gX12_reaches_X12_layBack rfl rfl rfl ndX12_layBack ⟨Nat.le_of_ble_eq_true rfl, Nat.le_of_ble_eq_true rfl⟩) [0, 1, 2, 3, 4, 5, 6, 7, 8, 9, 10, 11] rfl rfl [some 0, some 1, some 2, some 3, some 4, some 5, some 6, some 7, some 8, some 9, some 10, some 11] (by decide +kernel) (Nat.le_of_ble_eq_true rfl) (fun _ => rfl) (fun _ => rfl) (fun _ => rfl) rfl rfl rfl rfl (hl.1) rfl (Nat.le_of_ble_eq_true rfl) dX12_reaches_69 ⟨Nat.zero_le _, Nat.zero_le _⟩ (fun σ13 H locs hf hP hD hS => ?_)
            refine lv_iload_n hx hb dX12_reaches_72 rfl (lv_at hl 0 rfl) ?_
            refine q_lt_go hf (fun j16 ej16 hf => ?_)
            have Jj16 : ∀ (σ15 : SS) (y14 : Int32) (H : Heap) (locs : List Loc) (ls : Array Slot), va_P D vwCl ((wX12 cI cZ cS ad) σ15) H → va_D A ((wX12 cI cZ cS ad) σ15) → va_S A s.heap H locs → lv_has ls 4 [] → j16 σ15 y14 = some (rr, σr) → W p l e rmX12_reaches s m ([.ref (ad 0), .int a1] : List Value).toArray below meth c H locs 0 0 Q (F0 m 85 ls [.int y14]) := by
              intro σ15 y14 H locs ls hP hD hS hl hf
              have hf := (congrFun (congrFun ej16 σ15) y14).symm.trans hf
              obtain ⟨hi1, hi2⟩ := Prod.mk.inj (Option.some.inj hf)
              subst hi1
              subst hi2
              exact hret _ _ _ _ dX12_reaches_85 rfl hP hS
            refine lv_if_eq (tgt := 80) hx hb dX12_reaches_73 (by decide) (fun h17 => ?_) (fun h17 => ?_)
            · have hf := (if_pos h17).symm.trans hf
              refine lv_aload_n hx hb dX12_reaches_80 rfl (lv_at hl 1 rfl) ?_
              refine lv_iconst (v := 3) hx hb dX12_reaches_81 (by decide) ?_
              refine q_cVi (wf := (wX12 cI cZ cS ad)) (wc := wX12 cI cZ cS ad) (rest := []) ⟨hx, hb, hml, hown, hts⟩ hK hZ hA hP hD hS hf (fun x τ ho => kX12_finding l D cI cZ cS zz ad σ13 (3 : Int32) x τ ho) (cwV 1 hts gX12_reaches_X12_finding rfl rfl rfl ndX12_finding ⟨Nat.le_of_ble_eq_true rfl, Nat.le_of_ble_eq_true rfl⟩) [0, 1, 2, 3, 4, 5, 6, 7, 8, 9, 10, 11] rfl rfl [some 0, some 1, some 2, some 3, some 4, some 5, some 6, some 7, some 8, some 9, some 10, some 11] (by decide +kernel) (Nat.le_of_ble_eq_true rfl) (fun _ => rfl) (fun _ => rfl) (fun _ => rfl) rfl rfl rfl rfl (hl.1) rfl (Nat.le_of_ble_eq_true rfl) dX12_reaches_82 ⟨Nat.zero_le _, Nat.zero_le _⟩ (fun r19 σ18 H locs hf hP hD hS => ?_)
              exact Jj16 σ18 r19 _ _ _ hP hD hS (lv_sub hl [] rfl) hf
            · have hf := (if_neg h17).symm.trans hf
              refine lv_iload_n hx hb dX12_reaches_76 rfl (lv_at hl 2 rfl) ?_
              refine lv_goto (tgt := 85) hx hb dX12_reaches_77 (by decide) ?_
              exact Jj16 σ13 x2_5 _ _ _ hP hD hS (lv_sub hl [] rfl) hf
          refine lv_icmp_le (tgt := 66) hx hb dX12_reaches_59 (by decide) (fun h20 => ?_) (fun h20 => ?_)
          · have hf := (if_pos h20).symm.trans hf
            refine lv_iconst (v := 0) hx hb dX12_reaches_66 (by decide) ?_
            exact Jj12 (0 : Int32) _ _ _ hP hD hS (lv_sub hl [0, 2] rfl) hf
          · have hf := (if_neg h20).symm.trans hf
            refine lv_iconst (v := 1) hx hb dX12_reaches_62 (by decide) ?_
            refine lv_goto (tgt := 67) hx hb dX12_reaches_63 (by decide) ?_
            exact Jj12 (1 : Int32) _ _ _ hP hD hS (lv_sub hl [0, 2] rfl) hf
        refine lv_icmp_ge (tgt := 54) hx hb dX12_reaches_32 (by decide) (fun h21 => ?_) (fun h21 => ?_)
        · have hf := (if_pos h21).symm.trans hf
          exact Jj10  _ _ _ hP hD hS (lv_sub hl [0, 1, 2] rfl) hf
        · have hf := (if_neg h21).symm.trans hf
          refine lv_aload_n hx hb dX12_reaches_35 rfl (lv_at hl 0 rfl) ?_
          refine va_get (D := D) (ci := 12) (C := RX12) (T := TX12) (N := 19) hx hb hts fwX12_reaches_X12 hown hK hP 0 rfl rfl 5 (by decide) (hts _ (List.mem_of_getElem? (i := 1) rfl)) (fun _ h9 => h9) rfl dX12_reaches_36 ?_
          refine lv_iload_n hx hb dX12_reaches_39 rfl (lv_at hl 1 rfl) ?_
          refine lv_icmp_gt (tgt := 54) hx hb dX12_reaches_40 (by decide) (fun h22 => ?_) (fun h22 => ?_)
          · have hf := (if_pos h22).symm.trans hf
            exact Jj10  _ _ _ hP hD hS (lv_sub hl [0, 1, 2] rfl) hf
          · have hf := (if_neg h22).symm.trans hf
            refine lv_aload_n hx hb dX12_reaches_43 rfl (lv_at hl 0 rfl) ?_
            refine lv_iconst (v := 1) hx hb dX12_reaches_44 (by decide) ?_
            refine q_cVv (wf := (wX12 cI cZ cS ad)) (wc := wX12 cI cZ cS ad) (rest := []) ⟨hx, hb, hml, hown, hts⟩ hK hZ hA hP hD hS hf (fun x ho => kX12_goesOn l D cI cZ cS zz ad σ6 (1 : Int32) x ho) (cwV 1 hts gX12_reaches_X12_goesOn rfl rfl rfl ndX12_goesOn ⟨Nat.le_of_ble_eq_true rfl, Nat.le_of_ble_eq_true rfl⟩) [0, 1, 2, 3, 4, 5, 6, 7, 8, 9, 10, 11] rfl rfl [some 0, some 1, some 2, some 3, some 4, some 5, some 6, some 7, some 8, some 9, some 10, some 11] (by decide +kernel) (Nat.le_of_ble_eq_true rfl) (fun _ => rfl) (fun _ => rfl) (fun _ => rfl) rfl rfl rfl rfl (hl.1) rfl (Nat.le_of_ble_eq_true rfl) dX12_reaches_45 ⟨Nat.zero_le _, Nat.zero_le _⟩ (fun σ23 H locs hf hP hD hS => ?_)
            refine lv_iinc (v := (x2_5 + (1 : Int32))) (lv' := [(2, .int (x2_5 + (1 : Int32))), (0, .ref (ad 0)), (1, .int a1)]) hx hb dX12_reaches_48 hl (k := 2) rfl rfl (by decide) rfl (fun ls hl => ?_)
            refine lv_goto (tgt := 28) hx hb dX12_reaches_51 (by decide) ?_
            exact ihz8 σ23 (x2_5 + (1 : Int32)) _ _ _ hP hD hS (lv_sub hl [1, 2, 0] rfl) hf
    exact Lz8 q_fu σ4 (0 : Int32) _ _ _ hP hD hS (lv_sub hl [1, 2, 0] rfl) hf
  · have hf := (if_pos h2).symm.trans hf
    refine lv_aload_n hx hb dX12_reaches_11 rfl (lv_at hl 0 rfl) ?_
    refine lv_iconst (v := 0) hx hb dX12_reaches_12 (by decide) ?_
    refine q_cVi (wf := (wX12 cI cZ cS ad)) (wc := wX12 cI cZ cS ad) (rest := []) ⟨hx, hb, hml, hown, hts⟩ hK hZ hA hP hD hS hf (fun x τ ho => kX12_finding l D cI cZ cS zz ad σ (0 : Int32) x τ ho) (cwV 1 hts gX12_reaches_X12_finding rfl rfl rfl ndX12_finding ⟨Nat.le_of_ble_eq_true rfl, Nat.le_of_ble_eq_true rfl⟩) [0, 1, 2, 3, 4, 5, 6, 7, 8, 9, 10, 11] rfl rfl [some 0, some 1, some 2, some 3, some 4, some 5, some 6, some 7, some 8, some 9, some 10, some 11] (by decide +kernel) (Nat.le_of_ble_eq_true rfl) (fun _ => rfl) (fun _ => rfl) (fun _ => rfl) rfl rfl rfl rfl (hl.1) rfl (Nat.le_of_ble_eq_true rfl) dX12_reaches_13 ⟨Nat.zero_le _, Nat.zero_le _⟩ (fun r25 σ24 H locs hf hP hD hS => ?_)
    obtain ⟨hi1, hi2⟩ := Prod.mk.inj (Option.some.inj hf)
    subst hi1
    subst hi2
    exact hret _ _ _ _ dX12_reaches_16 rfl hP hS
def pX12_isNight (a1 : Int32) (a2 : Int32) : Option Int32 := q_cr (pX12_in a1 (1 : Int32) (200 : Int32)) (fun (r1 : Int32) => q_lt (fun (y2 : Int32) => q_zz y2 (some y2)) (fun j3 => q_lt (j3 (0 : Int32)) (fun j4 => (if r1 = (0 : Int32) then j4 else q_cr (pX12_in a2 (0 : Int32) (9999 : Int32)) (fun (r6 : Int32) => (if r6 = (0 : Int32) then j4 else j3 (1 : Int32)))))))
abbrev rmX12_isNight : Room := { frames := 1, cells := 0, slots := 0, locals := 22 }
set_option maxHeartbeats 4000000 in
set_option maxRecDepth 100000 in
theorem kX12_isNight (l : Launch) (D : va_G) (cI cZ cS : ClassId) (zz : ZT) (a1 : Int32) (a2 : Int32) (rr : Int32) (hf : pX12_isNight a1 a2 = some rr) : CI l yX12_isNight wsX12_isNight rmX12_isNight D (K3 cI cZ cS) zz [.int a1, .int a2] [] [] rr := by
  refine q_ofI (cc := cX12_isNight) (maxL := 2) (ty := .boolean) (by decide) rfl (Nat.le_of_ble_eq_true rfl) ?_
  intro p e s m below meth c Q A ls hx hb hml hown hts hK hZ hA hP hD hS hl hret
  have hl : lv_has ls 2 [(0, .int a1), (1, .int a2)] := hl
  unfold pX12_isNight at hf
  refine lv_iload_n hx hb dX12_isNight_0 rfl (lv_at hl 0 rfl) ?_
  refine lv_iconst (v := 1) hx hb dX12_isNight_1 (by decide) ?_
  refine lv_sipush (v := 200) hx hb dX12_isNight_2 (by decide) ?_
  refine q_cSr (wf := (fun (_ : SS) => ([] : va_W))) (σ := q_s0) (rest := []) ⟨hx, hb, hml, hown, hts⟩ hK hZ hA hP hD hS hf (fun x ho => kX12_in l D cI cZ cS zz a1 (1 : Int32) (200 : Int32) x ho) (va_cwS 3 hts gX12_isNight_X12_in rfl rfl rfl ndX12_in.2 ⟨Nat.le_of_ble_eq_true rfl, Nat.le_of_ble_eq_true rfl⟩) rfl (hl.1) rfl (Nat.le_of_ble_eq_true rfl) dX12_isNight_5 ⟨Nat.zero_le _, Nat.zero_le _⟩ (fun r1 H locs hf hP hD hS => ?_)
  refine q_lt_go hf (fun j3 ej3 hf => ?_)
  have Jj3 : ∀ (y2 : Int32) (H : Heap) (locs : List Loc) (ls : Array Slot), va_P D vwCl ([] : va_W) H → va_D A ([] : va_W) → va_S A s.heap H locs → lv_has ls 2 [] → j3 y2 = some rr → W p l e rmX12_isNight s m ([.int a1, .int a2] : List Value).toArray below meth c H locs 0 0 Q (F0 m 27 ls [.int y2]) := by
    intro y2 H locs ls hP hD hS hl hf
    have hf := (congrFun ej3 y2).symm.trans hf
    obtain ⟨hz, hf⟩ := q_zz_o hf
    have hi1 := Option.some.inj hf
    subst hi1
    exact hret _ _ _ _ dX12_isNight_27 (q_zz_n hz).1 hP hS
  refine q_lt_go hf (fun j4 ej4 hf => ?_)
  have Jj4 : ∀ (H : Heap) (locs : List Loc) (ls : Array Slot), va_P D vwCl ([] : va_W) H → va_D A ([] : va_W) → va_S A s.heap H locs → lv_has ls 2 [] → j4 = some rr → W p l e rmX12_isNight s m ([.int a1, .int a2] : List Value).toArray below meth c H locs 0 0 Q (F0 m 26 ls []) := by
    intro  H locs ls hP hD hS hl hf
    have hf := ej4.symm.trans hf
    refine lv_iconst (v := 0) hx hb dX12_isNight_26 (by decide) ?_
    exact Jj3 (0 : Int32) _ _ _ hP hD hS (lv_sub hl [] rfl) hf
  refine lv_if_eq (tgt := 26) hx hb dX12_isNight_8 (by decide) (fun h5 => ?_) (fun h5 => ?_)
  · have hf := (if_pos h5).symm.trans hf
    exact Jj4  _ _ _ hP hD hS (lv_sub hl [] rfl) hf
  · have hf := (if_neg h5).symm.trans hf
    refine lv_iload_n hx hb dX12_isNight_11 rfl (lv_at hl 1 rfl) ?_
    refine lv_iconst (v := 0) hx hb dX12_isNight_12 (by decide) ?_
    refine lv_sipush (v := 9999) hx hb dX12_isNight_13 (by decide) ?_
    refine q_cSr (wf := (fun (_ : SS) => ([] : va_W))) (σ := q_s0) (rest := []) ⟨hx, hb, hml, hown, hts⟩ hK hZ hA hP hD hS hf (fun x ho => kX12_in l D cI cZ cS zz a2 (0 : Int32) (9999 : Int32) x ho) (va_cwS 3 hts gX12_isNight_X12_in rfl rfl rfl ndX12_in.2 ⟨Nat.le_of_ble_eq_true rfl, Nat.le_of_ble_eq_true rfl⟩) rfl (hl.1) rfl (Nat.le_of_ble_eq_true rfl) dX12_isNight_16 ⟨Nat.zero_le _, Nat.zero_le _⟩ (fun r6 H locs hf hP hD hS => ?_)
    refine lv_if_eq (tgt := 26) hx hb dX12_isNight_19 (by decide) (fun h7 => ?_) (fun h7 => ?_)
    · have hf := (if_pos h7).symm.trans hf
      exact Jj4  _ _ _ hP hD hS (lv_sub hl [] rfl) hf
    · have hf := (if_neg h7).symm.trans hf
      refine lv_iconst (v := 1) hx hb dX12_isNight_22 (by decide) ?_
      refine lv_goto (tgt := 27) hx hb dX12_isNight_23 (by decide) ?_
      exact Jj3 (1 : Int32) _ _ _ hP hD hS (lv_sub hl [] rfl) hf
def pX12_startsWith (σ : SS) (a1 : Int32) (a2 : Int32) (a3 : Int32) (a4 : Int32) : Option (Int32 × SS) := q_cs (pX12_begin σ) (fun (τ : SS) => τ) (fun (σ1 : SS) => q_lt (su σ1 0 5 (0 : Int32)) (fun (σ2 : SS) => q_wr σ2 1 307 a1 a2 (fun (σ3 : SS) => q_rd (σ3 1) 307 (9 : Int32) (fun (v4 : Int32) => q_cs (pX12_goesOn σ3 a3) (fun (τ : SS) => τ) (fun (σ5 : SS) => q_lt (fun (y6 : Int32) => q_cs (pX12_layBack σ5) (fun (τ : SS) => τ) (fun (σ8 : SS) => some (y6, σ8))) (fun j7 => (if (σ5 0 5) ≤ a4 then q_rd (σ5 1) 307 (9 : Int32) (fun (v10 : Int32) => j7 (v10 - v4)) else j7 (-1 : Int32))))))))
theorem fwX12_startsWith_X12 : ∀ w ∈ wsX120, w ∈ wsX12_startsWith := fun _ h => List.mem_cons_of_mem _ (List.mem_append_right _ h)
abbrev rmX12_startsWith : Room := { frames := 6, cells := 0, slots := 0, locals := 134 }
set_option maxHeartbeats 4000000 in
set_option maxRecDepth 100000 in
theorem kX12_startsWith (l : Launch) (D : va_G) (cI cZ cS : ClassId) (zz : ZT) (ad : Nat → Nat) (σ : SS) (a1 : Int32) (a2 : Int32) (a3 : Int32) (a4 : Int32) (rr : Int32) (σr : SS) (hf : pX12_startsWith σ a1 a2 a3 a4 = some (rr, σr)) : CI l yX12_startsWith wsX12_startsWith rmX12_startsWith D (K3 cI cZ cS) zz [.ref (ad 0), .int a1, .int a2, .int a3, .int a4] (wX12 cI cZ cS ad σ) (wX12 cI cZ cS ad σr) rr := by
  refine q_ofI (cc := cX12_startsWith) (maxL := 7) (ty := .int) (by decide) rfl (Nat.le_of_ble_eq_true rfl) ?_
  intro p e s m below meth c Q A ls hx hb hml hown hts hK hZ hA hP hD hS hl hret
  have hl : lv_has ls 7 [(0, .ref (ad 0)), (1, .int a1), (2, .int a2), (3, .int a3), (4, .int a4)] := hl
  unfold pX12_startsWith at hf
  refine lv_aload_n hx hb dX12_startsWith_0 rfl (lv_at hl 0 rfl) ?_
  refine q_cVv (wf := (wX12 cI cZ cS ad)) (wc := wX12 cI cZ cS ad) (rest := []) ⟨hx, hb, hml, hown, hts⟩ hK hZ hA hP hD hS hf (fun x ho => kX12_begin l D cI cZ cS zz ad σ x ho) (cwV 0 hts gX12_startsWith_X12_begin rfl rfl rfl ndX12_begin ⟨Nat.le_of_ble_eq_true rfl, Nat.le_of_ble_eq_true rfl⟩) [0, 1, 2, 3, 4, 5, 6, 7, 8, 9, 10, 11] rfl rfl [some 0, some 1, some 2, some 3, some 4, some 5, some 6, some 7, some 8, some 9, some 10, some 11] (by decide +kernel) (Nat.le_of_ble_eq_true rfl) (fun _ => rfl) (fun _ => rfl) (fun _ => rfl) rfl rfl rfl rfl (hl.1) rfl (Nat.le_of_ble_eq_true rfl) dX12_startsWith_1 ⟨Nat.zero_le _, Nat.zero_le _⟩ (fun σ1 H locs hf hP hD hS => ?_)
  refine lv_aload_n hx hb dX12_startsWith_4 rfl (lv_at hl 0 rfl) ?_
  refine lv_iconst (v := 0) hx hb dX12_startsWith_5 (by decide) ?_
  refine w_put (D := D) (wf := (wX12 cI cZ cS ad)) (cid := 0) (ci := 12) (C := RX12) (T := TX12) (N := 19) hx hb hts fwX12_startsWith_X12 tyX12 tyX12_ok nmX12 hown hK hP hD hS 0 rfl rfl 5 (by decide) (hts _ (List.mem_of_getElem? (i := 1) rfl)) (fun _ h9 => h9) rfl (tyX12_ok 5 (by decide)) (Nat.le_of_ble_eq_true rfl) hf rfl dX12_startsWith_6 (fun σ2 H locs hf hP hD hS => ?_)
  refine lv_aload_n hx hb dX12_startsWith_9 rfl (lv_at hl 0 rfl) ?_
  refine va_get (D := D) (ci := 12) (C := RX12) (T := TX12) (N := 19) hx hb hts fwX12_startsWith_X12 hown hK hP 0 rfl rfl 0 (by decide) (hts _ (List.mem_of_getElem? (i := 2) rfl)) (fun _ h9 => h9) rfl dX12_startsWith_10 ?_
  refine lv_iload_n hx hb dX12_startsWith_13 rfl (lv_at hl 1 rfl) ?_
  refine lv_iload_n hx hb dX12_startsWith_14 rfl (lv_at hl 2 rfl) ?_
  refine w_iast (wf := (wX12 cI cZ cS ad)) (cid := 1) hx hb hK hP hD hS 1 0 rfl rfl hf (fun _ => rfl) dX12_startsWith_15 (fun σ3 H locs hf hP hD hS => ?_)
  refine lv_aload_n hx hb dX12_startsWith_16 rfl (lv_at hl 0 rfl) ?_
  refine va_get (D := D) (ci := 12) (C := RX12) (T := TX12) (N := 19) hx hb hts fwX12_startsWith_X12 hown hK hP 0 rfl rfl 0 (by decide) (hts _ (List.mem_of_getElem? (i := 2) rfl)) (fun _ h9 => h9) rfl dX12_startsWith_17 ?_
  refine lv_bipush (v := 9) hx hb dX12_startsWith_20 (by decide) ?_
  refine w_iald (wf := (wX12 cI cZ cS ad)) hx hb hK hP 1 0 rfl rfl hf dX12_startsWith_22 (fun v4 hf => ?_)
  refine lv_istore (lv' := [(5, .int v4), (0, .ref (ad 0)), (1, .int a1), (2, .int a2), (3, .int a3), (4, .int a4)]) hx hb dX12_startsWith_23 hl (by decide) rfl (fun ls hl => ?_)
  refine lv_aload_n hx hb dX12_startsWith_25 rfl (lv_at hl 1 rfl) ?_
  refine lv_iload_n hx hb dX12_startsWith_26 rfl (lv_at hl 4 rfl) ?_
  refine q_cVv (wf := (wX12 cI cZ cS ad)) (wc := wX12 cI cZ cS ad) (rest := []) ⟨hx, hb, hml, hown, hts⟩ hK hZ hA hP hD hS hf (fun x ho => kX12_goesOn l D cI cZ cS zz ad σ3 a3 x ho) (cwV 1 hts gX12_startsWith_X12_goesOn rfl rfl rfl ndX12_goesOn ⟨Nat.le_of_ble_eq_true rfl, Nat.le_of_ble_eq_true rfl⟩) [0, 1, 2, 3, 4, 5, 6, 7, 8, 9, 10, 11] rfl rfl [some 0, some 1, some 2, some 3, some 4, some 5, some 6, some 7, some 8, some 9, some 10, some 11] (by decide +kernel) (Nat.le_of_ble_eq_true rfl) (fun _ => rfl) (fun _ => rfl) (fun _ => rfl) rfl rfl rfl rfl (hl.1) rfl (Nat.le_of_ble_eq_true rfl) dX12_startsWith_27 ⟨Nat.zero_le _, Nat.zero_le _⟩ (fun σ5 H locs hf hP hD hS => ?_)
  refine lv_aload_n hx hb dX12_startsWith_30 rfl (lv_at hl 1 rfl) ?_
  refine va_get (D := D) (ci := 12) (C := RX12) (T := TX12) (N := 19) hx hb hts fwX12_startsWith_X12 hown hK hP 0 rfl rfl 5 (by decide) (hts _ (List.mem_of_getElem? (i := 1) rfl)) (fun _ h9 => h9) rfl dX12_startsWith_31 ?_
  refine lv_iload hx hb dX12_startsWith_34 (lv_at hl 5 rfl) ?_
  refine q_lt_go hf (fun j7 ej7 hf => ?_)
  have Jj7 : ∀ (y6 : Int32) (H : Heap) (locs : List Loc) (ls : Array Slot), va_P D vwCl ((wX12 cI cZ cS ad) σ5) H → va_D A ((wX12 cI cZ cS ad) σ5) → va_S A s.heap H locs → lv_has ls 7 [(0, .ref (ad 0))] → j7 y6 = some (rr, σr) → W p l e rmX12_startsWith s m ([.ref (ad 0), .int a1, .int a2, .int a3, .int a4] : List Value).toArray below meth c H locs 0 0 Q (F0 m 53 ls [.int y6]) := by
    intro y6 H locs ls hP hD hS hl hf
    have hf := (congrFun ej7 y6).symm.trans hf
    refine lv_istore (lv' := [(6, .int y6), (0, .ref (ad 0))]) hx hb dX12_startsWith_53 hl (by decide) rfl (fun ls hl => ?_)
    refine lv_aload_n hx hb dX12_startsWith_55 rfl (lv_at hl 1 rfl) ?_
    refine q_cVv (wf := (wX12 cI cZ cS ad)) (wc := wX12 cI cZ cS ad) (rest := []) ⟨hx, hb, hml, hown, hts⟩ hK hZ hA hP hD hS hf (fun x ho => kX12_layBack l D cI cZ cS zz ad σ5 x ho) (cwV 0 hts gX12_startsWith_X12_layBack rfl rfl rfl ndX12_layBack ⟨Nat.le_of_ble_eq_true rfl, Nat.le_of_ble_eq_true rfl⟩) [0, 1, 2, 3, 4, 5, 6, 7, 8, 9, 10, 11] rfl rfl [some 0, some 1, some 2, some 3, some 4, some 5, some 6, some 7, some 8, some 9, some 10, some 11] (by decide +kernel) (Nat.le_of_ble_eq_true rfl) (fun _ => rfl) (fun _ => rfl) (fun _ => rfl) rfl rfl rfl rfl (hl.1) rfl (Nat.le_of_ble_eq_true rfl) dX12_startsWith_56 ⟨Nat.zero_le _, Nat.zero_le _⟩ (fun σ8 H locs hf hP hD hS => ?_)
    refine lv_iload hx hb dX12_startsWith_59 (lv_at hl 0 rfl) ?_
    obtain ⟨hi1, hi2⟩ := Prod.mk.inj (Option.some.inj hf)
    subst hi1
    subst hi2
    exact hret _ _ _ _ dX12_startsWith_61 rfl hP hS
  refine lv_icmp_le (tgt := 43) hx hb dX12_startsWith_36 (by decide) (fun h9 => ?_) (fun h9 => ?_)
  · have hf := (if_pos h9).symm.trans hf
    refine lv_aload_n hx hb dX12_startsWith_43 rfl (lv_at hl 1 rfl) ?_
    refine va_get (D := D) (ci := 12) (C := RX12) (T := TX12) (N := 19) hx hb hts fwX12_startsWith_X12 hown hK hP 0 rfl rfl 0 (by decide) (hts _ (List.mem_of_getElem? (i := 2) rfl)) (fun _ h9 => h9) rfl dX12_startsWith_44 ?_
    refine lv_bipush (v := 9) hx hb dX12_startsWith_47 (by decide) ?_
    refine w_iald (wf := (wX12 cI cZ cS ad)) hx hb hK hP 1 0 rfl rfl hf dX12_startsWith_49 (fun v10 hf => ?_)
    refine lv_iload hx hb dX12_startsWith_50 (lv_at hl 0 rfl) ?_
    refine lv_isub hx hb dX12_startsWith_52 ?_
    exact Jj7 (v10 - v4) _ _ _ hP hD hS (lv_sub hl [1] rfl) hf
  · have hf := (if_neg h9).symm.trans hf
    refine lv_iconst (v := -1) hx hb dX12_startsWith_39 (by decide) ?_
    refine lv_goto (tgt := 53) hx hb dX12_startsWith_40 (by decide) ?_
    exact Jj7 (-1 : Int32) _ _ _ hP hD hS (lv_sub hl [1] rfl) hf
def pX12_bestOn (σ : SS) (a1 : Int32) (a2 : Int32) : Option (Int32 × SS) := q_cr (pX12_isNight a1 a2) (fun (r1 : Int32) => (if r1 = (0 : Int32) then q_ci (pX12_finding σ (0 : Int32)) (fun (τ : SS) => τ) (fun (r29 : Int32) (σ28 : SS) => some (r29, σ28)) else q_rd (σ 1) 307 (4 : Int32) (fun (v3 : Int32) => q_lt (v3 + (1 : Int32)) (fun x5_4 => q_lp (fun _ _ _ _ => none) (fun (c9 : SS → Int32 → Int32 → Int32 → Option (Int32 × SS)) (σ8 : SS) (x3_5 : Int32) (x4_6 : Int32) (x5_7 : Int32) => (if (200 : Int32) < x5_7 then q_lt (fun (σ14 : SS) (y13 : Int32) => some (y13, σ14)) (fun j15 => (if (0 : Int32) ≤ x3_5 then j15 σ8 x3_5 else q_ci (pX12_finding σ8 (3 : Int32)) (fun (τ : SS) => τ) (fun (r18 : Int32) (σ17 : SS) => j15 σ17 r18))) else q_ci (pX12_startsWith σ8 (3 : Int32) x5_7 a1 a2) (fun (τ : SS) => τ) (fun (r20 : Int32) (σ19 : SS) => q_lt (fun (x3_21 : Int32) (x4_22 : Int32) => c9 σ19 x3_21 x4_22 (x5_7 + (1 : Int32))) (fun j23 => (if r20 < (0 : Int32) then j23 x3_5 x4_6 else q_lt (j23 x5_7 r20) (fun j25 => (if x3_5 < (0 : Int32) then j25 else (if x4_6 ≤ r20 then j23 x3_5 x4_6 else j25)))))))) q_fu σ (-1 : Int32) (0 : Int32) x5_4))))
theorem fwX12_bestOn_X12 : ∀ w ∈ wsX120, w ∈ wsX12_bestOn := fun _ h => List.mem_cons_of_mem _ (List.mem_append_right _ h)
abbrev rmX12_bestOn : Room := { frames := 7, cells := 0, slots := 0, locals := 160 }
set_option maxHeartbeats 4000000 in
set_option maxRecDepth 100000 in
theorem kX12_bestOn (l : Launch) (D : va_G) (cI cZ cS : ClassId) (zz : ZT) (ad : Nat → Nat) (σ : SS) (a1 : Int32) (a2 : Int32) (rr : Int32) (σr : SS) (hf : pX12_bestOn σ a1 a2 = some (rr, σr)) : CI l yX12_bestOn wsX12_bestOn rmX12_bestOn D (K3 cI cZ cS) zz [.ref (ad 0), .int a1, .int a2] (wX12 cI cZ cS ad σ) (wX12 cI cZ cS ad σr) rr := by
  refine q_ofI (cc := cX12_bestOn) (maxL := 7) (ty := .int) (by decide) rfl (Nat.le_of_ble_eq_true rfl) ?_
  intro p e s m below meth c Q A ls hx hb hml hown hts hK hZ hA hP hD hS hl hret
  have hl : lv_has ls 7 [(0, .ref (ad 0)), (1, .int a1), (2, .int a2)] := hl
  unfold pX12_bestOn at hf
  refine lv_iload_n hx hb dX12_bestOn_0 rfl (lv_at hl 1 rfl) ?_
  refine lv_iload_n hx hb dX12_bestOn_1 rfl (lv_at hl 2 rfl) ?_
  refine q_cSr (wf := (wX12 cI cZ cS ad)) (rest := []) ⟨hx, hb, hml, hown, hts⟩ hK hZ hA hP hD hS hf (fun x ho => kX12_isNight l D cI cZ cS zz a1 a2 x ho) (va_cwS 2 hts gX12_bestOn_X12_isNight rfl rfl rfl ndX12_isNight.2 ⟨Nat.le_of_ble_eq_true rfl, Nat.le_of_ble_eq_true rfl⟩) rfl (hl.1) rfl (Nat.le_of_ble_eq_true rfl) dX12_bestOn_2 ⟨Nat.zero_le _, Nat.zero_le _⟩ (fun r1 H locs hf hP hD hS => ?_)
  refine lv_if_ne (tgt := 14) hx hb dX12_bestOn_5 (by decide) (fun h2 => ?_) (fun h2 => ?_)
  · have hf := (if_neg h2).symm.trans hf
    refine lv_iconst (v := -1) hx hb dX12_bestOn_14 (by decide) ?_
    refine lv_istore_n (lv' := [(3, .int (-1 : Int32)), (0, .ref (ad 0)), (1, .int a1), (2, .int a2)]) hx hb dX12_bestOn_15 rfl hl (by decide) rfl (fun ls hl => ?_)
    refine lv_iconst (v := 0) hx hb dX12_bestOn_16 (by decide) ?_
    refine lv_istore (lv' := [(4, .int (0 : Int32)), (3, .int (-1 : Int32)), (0, .ref (ad 0)), (1, .int a1), (2, .int a2)]) hx hb dX12_bestOn_17 hl (by decide) rfl (fun ls hl => ?_)
    refine lv_aload_n hx hb dX12_bestOn_19 rfl (lv_at hl 2 rfl) ?_
    refine va_get (D := D) (ci := 12) (C := RX12) (T := TX12) (N := 19) hx hb hts fwX12_bestOn_X12 hown hK hP 0 rfl rfl 0 (by decide) (hts _ (List.mem_of_getElem? (i := 1) rfl)) (fun _ h9 => h9) rfl dX12_bestOn_20 ?_
    refine lv_iconst (v := 4) hx hb dX12_bestOn_23 (by decide) ?_
    refine w_iald (wf := (wX12 cI cZ cS ad)) hx hb hK hP 1 0 rfl rfl hf dX12_bestOn_24 (fun v3 hf => ?_)
    refine lv_iconst (v := 1) hx hb dX12_bestOn_25 (by decide) ?_
    refine lv_iadd hx hb dX12_bestOn_26 ?_
    refine lv_topi (fun x5_4 ex5_4 => ?_)
    have hf := q_lt_at ex5_4 hf
    refine lv_istore (lv' := [(5, .int x5_4), (4, .int (0 : Int32)), (3, .int (-1 : Int32)), (0, .ref (ad 0)), (1, .int a1), (2, .int a2)]) hx hb dX12_bestOn_27 hl (by decide) rfl (fun ls hl => ?_)
    refine q_lp_go (f := fun (zf : SS → Int32 → Int32 → Int32 → Option (Int32 × SS)) => zf σ (-1 : Int32) (0 : Int32) x5_4) hf (fun z10 ez10 hf => ?_)
    have Lz10 : ∀ (n11 : Nat) (σ8 : SS) (x3_5 : Int32) (x4_6 : Int32) (x5_7 : Int32) (H : Heap) (locs : List Loc) (ls : Array Slot), va_P D vwCl ((wX12 cI cZ cS ad) σ8) H → va_D A ((wX12 cI cZ cS ad) σ8) → va_S A s.heap H locs → lv_has ls 7 [(0, .ref (ad 0)), (1, .int a1), (2, .int a2), (3, .int x3_5), (4, .int x4_6), (5, .int x5_7)] → q_lp (fun _ _ _ _ => none) z10 n11 σ8 x3_5 x4_6 x5_7 = some (rr, σr) → W p l e rmX12_bestOn s m ([.ref (ad 0), .int a1, .int a2] : List Value).toArray below meth c H locs 0 0 Q (F0 m 29 ls []) := by
      intro n11
      induction n11 with
      | zero => exact fun _ _ _ _ _ _ _ _ _ _ _ hf => q_no hf
      | succ n11 ihz10 =>
        intro σ8 x3_5 x4_6 x5_7 H locs ls hP hD hS hl hf
        have hf := (congrFun (congrFun (congrFun (congrFun (congrFun ez10 (q_lp (fun _ _ _ _ => none) z10 n11)) σ8) x3_5) x4_6) x5_7).symm.trans hf
        refine lv_iload hx hb dX12_bestOn_29 (lv_at hl 5 rfl) ?_
        refine lv_sipush (v := 200) hx hb dX12_bestOn_31 (by decide) ?_
        refine lv_icmp_gt (tgt := 77) hx hb dX12_bestOn_34 (by decide) (fun h12 => ?_) (fun h12 => ?_)
        · have hf := (if_pos h12).symm.trans hf
          refine lv_iload_n hx hb dX12_bestOn_77 rfl (lv_at hl 3 rfl) ?_
          refine q_lt_go hf (fun j15 ej15 hf => ?_)
          have Jj15 : ∀ (σ14 : SS) (y13 : Int32) (H : Heap) (locs : List Loc) (ls : Array Slot), va_P D vwCl ((wX12 cI cZ cS ad) σ14) H → va_D A ((wX12 cI cZ cS ad) σ14) → va_S A s.heap H locs → lv_has ls 7 [] → j15 σ14 y13 = some (rr, σr) → W p l e rmX12_bestOn s m ([.ref (ad 0), .int a1, .int a2] : List Value).toArray below meth c H locs 0 0 Q (F0 m 90 ls [.int y13]) := by
            intro σ14 y13 H locs ls hP hD hS hl hf
            have hf := (congrFun (congrFun ej15 σ14) y13).symm.trans hf
            obtain ⟨hi1, hi2⟩ := Prod.mk.inj (Option.some.inj hf)
            subst hi1
            subst hi2
            exact hret _ _ _ _ dX12_bestOn_90 rfl hP hS
          refine lv_if_ge (tgt := 89) hx hb dX12_bestOn_78 (by decide) (fun h16 => ?_) (fun h16 => ?_)
          · have hf := (if_pos h16).symm.trans hf
            refine lv_iload_n hx hb dX12_bestOn_89 rfl (lv_at hl 3 rfl) ?_
            exact Jj15 σ8 x3_5 _ _ _ hP hD hS (lv_sub hl [] rfl) hf
          · have hf := (if_neg h16).symm.trans hf
            refine lv_aload_n hx hb dX12_bestOn_81 rfl (lv_at hl 0 rfl) ?_
            refine lv_iconst (v := 3) hx hb dX12_bestOn_82 (by decide) ?_
            refine q_cVi (wf := (wX12 cI cZ cS ad)) (wc := wX12 cI cZ cS ad) (rest := []) ⟨hx, hb, hml, hown, hts⟩ hK hZ hA hP hD hS hf (fun x τ ho => kX12_finding l D cI cZ cS zz ad σ8 (3 : Int32) x τ ho) (cwV 1 hts gX12_bestOn_X12_finding rfl rfl rfl ndX12_finding ⟨Nat.le_of_ble_eq_true rfl, Nat.le_of_ble_eq_true rfl⟩) [0, 1, 2, 3, 4, 5, 6, 7, 8, 9, 10, 11] rfl rfl [some 0, some 1, some 2, some 3, some 4, some 5, some 6, some 7, some 8, some 9, some 10, some 11] (by decide +kernel) (Nat.le_of_ble_eq_true rfl) (fun _ => rfl) (fun _ => rfl) (fun _ => rfl) rfl rfl rfl rfl (hl.1) rfl (Nat.le_of_ble_eq_true rfl) dX12_bestOn_83 ⟨Nat.zero_le _, Nat.zero_le _⟩ (fun r18 σ17 H locs hf hP hD hS => ?_)
            refine lv_goto (tgt := 90) hx hb dX12_bestOn_86 (by decide) ?_
            exact Jj15 σ17 r18 _ _ _ hP hD hS (lv_sub hl [] rfl) hf
        · have hf := (if_neg h12).symm.trans hf
          refine lv_aload_n hx hb dX12_bestOn_37 rfl (lv_at hl 0 rfl) ?_
          refine lv_iconst (v := 3) hx hb dX12_bestOn_38 (by decide) ?_
          refine lv_iload hx hb dX12_bestOn_39 (lv_at hl 5 rfl) ?_
          refine lv_iload_n hx hb dX12_bestOn_41 rfl (lv_at hl 1 rfl) ?_
          refine lv_iload_n hx hb dX12_bestOn_42 rfl (lv_at hl 2 rfl) ?_
          refine q_cVi (wf := (wX12 cI cZ cS ad)) (wc := wX12 cI cZ cS ad) (rest := []) ⟨hx, hb, hml, hown, hts⟩ hK hZ hA hP hD hS hf (fun x τ ho => kX12_startsWith l D cI cZ cS zz ad σ8 (3 : Int32) x5_7 a1 a2 x τ ho) (cwV 4 hts gX12_bestOn_X12_startsWith rfl rfl rfl ndX12_startsWith ⟨Nat.le_of_ble_eq_true rfl, Nat.le_of_ble_eq_true rfl⟩) [0, 1, 2, 3, 4, 5, 6, 7, 8, 9, 10, 11] rfl rfl [some 0, some 1, some 2, some 3, some 4, some 5, some 6, some 7, some 8, some 9, some 10, some 11] (by decide +kernel) (Nat.le_of_ble_eq_true rfl) (fun _ => rfl) (fun _ => rfl) (fun _ => rfl) rfl rfl rfl rfl (hl.1) rfl (Nat.le_of_ble_eq_true rfl) dX12_bestOn_43 ⟨Nat.zero_le _, Nat.zero_le _⟩ (fun r20 σ19 H locs hf hP hD hS => ?_)
          refine lv_istore (lv' := [(6, .int r20), (0, .ref (ad 0)), (1, .int a1), (2, .int a2), (3, .int x3_5), (4, .int x4_6), (5, .int x5_7)]) hx hb dX12_bestOn_46 hl (by decide) rfl (fun ls hl => ?_)
          refine lv_iload hx hb dX12_bestOn_48 (lv_at hl 0 rfl) ?_
          refine q_lt_go hf (fun j23 ej23 hf => ?_)
          have Jj23 : ∀ (x3_21 : Int32) (x4_22 : Int32) (H : Heap) (locs : List Loc) (ls : Array Slot), va_P D vwCl ((wX12 cI cZ cS ad) σ19) H → va_D A ((wX12 cI cZ cS ad) σ19) → va_S A s.heap H locs → lv_has ls 7 [(0, .ref (ad 0)), (1, .int a1), (2, .int a2), (3, .int x3_21), (4, .int x4_22), (5, .int x5_7)] → j23 x3_21 x4_22 = some (rr, σr) → W p l e rmX12_bestOn s m ([.ref (ad 0), .int a1, .int a2] : List Value).toArray below meth c H locs 0 0 Q (F0 m 71 ls []) := by
            intro x3_21 x4_22 H locs ls hP hD hS hl hf
            have hf := (congrFun (congrFun ej23 x3_21) x4_22).symm.trans hf
            refine lv_iinc (v := (x5_7 + (1 : Int32))) (lv' := [(5, .int (x5_7 + (1 : Int32))), (0, .ref (ad 0)), (1, .int a1), (2, .int a2), (3, .int x3_21), (4, .int x4_22)]) hx hb dX12_bestOn_71 hl (k := 5) rfl rfl (by decide) rfl (fun ls hl => ?_)
            refine lv_goto (tgt := 29) hx hb dX12_bestOn_74 (by decide) ?_
            exact ihz10 σ19 x3_21 x4_22 (x5_7 + (1 : Int32)) _ _ _ hP hD hS (lv_sub hl [1, 2, 3, 4, 5, 0] rfl) hf
          refine lv_if_lt (tgt := 71) hx hb dX12_bestOn_50 (by decide) (fun h24 => ?_) (fun h24 => ?_)
          · have hf := (if_pos h24).symm.trans hf
            exact Jj23 x3_5 x4_6 _ _ _ hP hD hS (lv_sub hl [1, 2, 3, 4, 5, 6] rfl) hf
          · have hf := (if_neg h24).symm.trans hf
            refine lv_iload_n hx hb dX12_bestOn_53 rfl (lv_at hl 4 rfl) ?_
            refine q_lt_go hf (fun j25 ej25 hf => ?_)
            have Jj25 : ∀ (H : Heap) (locs : List Loc) (ls : Array Slot), va_P D vwCl ((wX12 cI cZ cS ad) σ19) H → va_D A ((wX12 cI cZ cS ad) σ19) → va_S A s.heap H locs → lv_has ls 7 [(0, .ref (ad 0)), (1, .int a1), (2, .int a2), (5, .int x5_7), (6, .int r20)] → j25 = some (rr, σr) → W p l e rmX12_bestOn s m ([.ref (ad 0), .int a1, .int a2] : List Value).toArray below meth c H locs 0 0 Q (F0 m 64 ls []) := by
              intro  H locs ls hP hD hS hl hf
              have hf := ej25.symm.trans hf
              refine lv_iload hx hb dX12_bestOn_64 (lv_at hl 3 rfl) ?_
              refine lv_istore_n (lv' := [(3, .int x5_7), (0, .ref (ad 0)), (1, .int a1), (2, .int a2), (5, .int x5_7), (6, .int r20)]) hx hb dX12_bestOn_66 rfl hl (by decide) rfl (fun ls hl => ?_)
              refine lv_iload hx hb dX12_bestOn_67 (lv_at hl 5 rfl) ?_
              refine lv_istore (lv' := [(4, .int r20), (3, .int x5_7), (0, .ref (ad 0)), (1, .int a1), (2, .int a2), (5, .int x5_7), (6, .int r20)]) hx hb dX12_bestOn_69 hl (by decide) rfl (fun ls hl => ?_)
              exact Jj23 x5_7 r20 _ _ _ hP hD hS (lv_sub hl [2, 3, 4, 1, 0, 5] rfl) hf
            refine lv_if_lt (tgt := 64) hx hb dX12_bestOn_54 (by decide) (fun h26 => ?_) (fun h26 => ?_)
            · have hf := (if_pos h26).symm.trans hf
              exact Jj25  _ _ _ hP hD hS (lv_sub hl [1, 2, 3, 6, 0] rfl) hf
            · have hf := (if_neg h26).symm.trans hf
              refine lv_iload hx hb dX12_bestOn_57 (lv_at hl 0 rfl) ?_
              refine lv_iload hx hb dX12_bestOn_59 (lv_at hl 5 rfl) ?_
              refine lv_icmp_ge (tgt := 71) hx hb dX12_bestOn_61 (by decide) (fun h27 => ?_) (fun h27 => ?_)
              · have hf := (if_pos h27).symm.trans hf
                exact Jj23 x3_5 x4_6 _ _ _ hP hD hS (lv_sub hl [1, 2, 3, 4, 5, 6] rfl) hf
              · have hf := (if_neg h27).symm.trans hf
                exact Jj25  _ _ _ hP hD hS (lv_sub hl [1, 2, 3, 6, 0] rfl) hf
    exact Lz10 q_fu σ (-1 : Int32) (0 : Int32) x5_4 _ _ _ hP hD hS (lv_sub hl [3, 4, 5, 2, 1, 0] rfl) hf
  · have hf := (if_pos h2).symm.trans hf
    refine lv_aload_n hx hb dX12_bestOn_8 rfl (lv_at hl 0 rfl) ?_
    refine lv_iconst (v := 0) hx hb dX12_bestOn_9 (by decide) ?_
    refine q_cVi (wf := (wX12 cI cZ cS ad)) (wc := wX12 cI cZ cS ad) (rest := []) ⟨hx, hb, hml, hown, hts⟩ hK hZ hA hP hD hS hf (fun x τ ho => kX12_finding l D cI cZ cS zz ad σ (0 : Int32) x τ ho) (cwV 1 hts gX12_bestOn_X12_finding rfl rfl rfl ndX12_finding ⟨Nat.le_of_ble_eq_true rfl, Nat.le_of_ble_eq_true rfl⟩) [0, 1, 2, 3, 4, 5, 6, 7, 8, 9, 10, 11] rfl rfl [some 0, some 1, some 2, some 3, some 4, some 5, some 6, some 7, some 8, some 9, some 10, some 11] (by decide +kernel) (Nat.le_of_ble_eq_true rfl) (fun _ => rfl) (fun _ => rfl) (fun _ => rfl) rfl rfl rfl rfl (hl.1) rfl (Nat.le_of_ble_eq_true rfl) dX12_bestOn_10 ⟨Nat.zero_le _, Nat.zero_le _⟩ (fun r29 σ28 H locs hf hP hD hS => ?_)
    obtain ⟨hi1, hi2⟩ := Prod.mk.inj (Option.some.inj hf)
    subst hi1
    subst hi2
    exact hret _ _ _ _ dX12_bestOn_13 rfl hP hS
def pX12_rateFor (σ : SS) (a1 : Int32) (a2 : Int32) : Option (Int32 × SS) := q_cr (pX12_isNight a1 a2) (fun (r1 : Int32) => (if r1 = (0 : Int32) then q_ci (pX12_finding σ (0 : Int32)) (fun (τ : SS) => τ) (fun (r24 : Int32) (σ23 : SS) => some (r24, σ23)) else q_lp (fun _ _ _ => none) (fun (c6 : SS → Int32 → Int32 → Option (Int32 × SS)) (σ5 : SS) (x3_3 : Int32) (x4_4 : Int32) => q_lt (q_lt (fun (σ11 : SS) (y10 : Int32) => some (y10, σ11)) (fun j12 => (if (0 : Int32) ≤ x3_3 then j12 σ5 x3_3 else q_ci (pX12_finding σ5 (3 : Int32)) (fun (τ : SS) => τ) (fun (r15 : Int32) (σ14 : SS) => j12 σ14 r15)))) (fun j9 => (if (99 : Int32) < x4_4 then j9 else (if (0 : Int32) ≤ x3_3 then j9 else q_ci (pX12_startsWith σ5 (5 : Int32) x4_4 a1 a2) (fun (τ : SS) => τ) (fun (r19 : Int32) (σ18 : SS) => q_lt (fun (y20 : Int32) => c6 σ18 y20 (x4_4 + (1 : Int32))) (fun j21 => (if r19 < (0 : Int32) then j21 (-1 : Int32) else j21 x4_4))))))) q_fu σ (-1 : Int32) (1 : Int32)))
abbrev rmX12_rateFor : Room := { frames := 7, cells := 0, slots := 0, locals := 160 }
set_option maxHeartbeats 4000000 in
set_option maxRecDepth 100000 in
theorem kX12_rateFor (l : Launch) (D : va_G) (cI cZ cS : ClassId) (zz : ZT) (ad : Nat → Nat) (σ : SS) (a1 : Int32) (a2 : Int32) (rr : Int32) (σr : SS) (hf : pX12_rateFor σ a1 a2 = some (rr, σr)) : CI l yX12_rateFor wsX12_rateFor rmX12_rateFor D (K3 cI cZ cS) zz [.ref (ad 0), .int a1, .int a2] (wX12 cI cZ cS ad σ) (wX12 cI cZ cS ad σr) rr := by
  refine q_ofI (cc := cX12_rateFor) (maxL := 5) (ty := .int) (by decide) rfl (Nat.le_of_ble_eq_true rfl) ?_
  intro p e s m below meth c Q A ls hx hb hml hown hts hK hZ hA hP hD hS hl hret
  have hl : lv_has ls 5 [(0, .ref (ad 0)), (1, .int a1), (2, .int a2)] := hl
  unfold pX12_rateFor at hf
  refine lv_iload_n hx hb dX12_rateFor_0 rfl (lv_at hl 1 rfl) ?_
  refine lv_iload_n hx hb dX12_rateFor_1 rfl (lv_at hl 2 rfl) ?_
  refine q_cSr (wf := (wX12 cI cZ cS ad)) (rest := []) ⟨hx, hb, hml, hown, hts⟩ hK hZ hA hP hD hS hf (fun x ho => kX12_isNight l D cI cZ cS zz a1 a2 x ho) (va_cwS 2 hts gX12_rateFor_X12_isNight rfl rfl rfl ndX12_isNight.2 ⟨Nat.le_of_ble_eq_true rfl, Nat.le_of_ble_eq_true rfl⟩) rfl (hl.1) rfl (Nat.le_of_ble_eq_true rfl) dX12_rateFor_2 ⟨Nat.zero_le _, Nat.zero_le _⟩ (fun r1 H locs hf hP hD hS => ?_)
  refine lv_if_ne (tgt := 14) hx hb dX12_rateFor_5 (by decide) (fun h2 => ?_) (fun h2 => ?_)
  · have hf := (if_neg h2).symm.trans hf
    refine lv_iconst (v := -1) hx hb dX12_rateFor_14 (by decide) ?_
    refine lv_istore_n (lv' := [(3, .int (-1 : Int32)), (0, .ref (ad 0)), (1, .int a1), (2, .int a2)]) hx hb dX12_rateFor_15 rfl hl (by decide) rfl (fun ls hl => ?_)
    refine lv_iconst (v := 1) hx hb dX12_rateFor_16 (by decide) ?_
    refine lv_istore (lv' := [(4, .int (1 : Int32)), (3, .int (-1 : Int32)), (0, .ref (ad 0)), (1, .int a1), (2, .int a2)]) hx hb dX12_rateFor_17 hl (by decide) rfl (fun ls hl => ?_)
    refine q_lp_go (f := fun (zf : SS → Int32 → Int32 → Option (Int32 × SS)) => zf σ (-1 : Int32) (1 : Int32)) hf (fun z7 ez7 hf => ?_)
    have Lz7 : ∀ (n8 : Nat) (σ5 : SS) (x3_3 : Int32) (x4_4 : Int32) (H : Heap) (locs : List Loc) (ls : Array Slot), va_P D vwCl ((wX12 cI cZ cS ad) σ5) H → va_D A ((wX12 cI cZ cS ad) σ5) → va_S A s.heap H locs → lv_has ls 5 [(0, .ref (ad 0)), (1, .int a1), (2, .int a2), (3, .int x3_3), (4, .int x4_4)] → q_lp (fun _ _ _ => none) z7 n8 σ5 x3_3 x4_4 = some (rr, σr) → W p l e rmX12_rateFor s m ([.ref (ad 0), .int a1, .int a2] : List Value).toArray below meth c H locs 0 0 Q (F0 m 19 ls []) := by
      intro n8
      induction n8 with
      | zero => exact fun _ _ _ _ _ _ _ _ _ _ hf => q_no hf
      | succ n8 ihz7 =>
        intro σ5 x3_3 x4_4 H locs ls hP hD hS hl hf
        have hf := (congrFun (congrFun (congrFun (congrFun ez7 (q_lp (fun _ _ _ => none) z7 n8)) σ5) x3_3) x4_4).symm.trans hf
        refine lv_iload hx hb dX12_rateFor_19 (lv_at hl 4 rfl) ?_
        refine lv_bipush (v := 99) hx hb dX12_rateFor_21 (by decide) ?_
        refine q_lt_go hf (fun j9 ej9 hf => ?_)
        have Jj9 : ∀ (H : Heap) (locs : List Loc) (ls : Array Slot), va_P D vwCl ((wX12 cI cZ cS ad) σ5) H → va_D A ((wX12 cI cZ cS ad) σ5) → va_S A s.heap H locs → lv_has ls 5 [(0, .ref (ad 0)), (3, .int x3_3)] → j9 = some (rr, σr) → W p l e rmX12_rateFor s m ([.ref (ad 0), .int a1, .int a2] : List Value).toArray below meth c H locs 0 0 Q (F0 m 55 ls []) := by
          intro  H locs ls hP hD hS hl hf
          have hf := ej9.symm.trans hf
          refine lv_iload_n hx hb dX12_rateFor_55 rfl (lv_at hl 1 rfl) ?_
          refine q_lt_go hf (fun j12 ej12 hf => ?_)
          have Jj12 : ∀ (σ11 : SS) (y10 : Int32) (H : Heap) (locs : List Loc) (ls : Array Slot), va_P D vwCl ((wX12 cI cZ cS ad) σ11) H → va_D A ((wX12 cI cZ cS ad) σ11) → va_S A s.heap H locs → lv_has ls 5 [] → j12 σ11 y10 = some (rr, σr) → W p l e rmX12_rateFor s m ([.ref (ad 0), .int a1, .int a2] : List Value).toArray below meth c H locs 0 0 Q (F0 m 68 ls [.int y10]) := by
            intro σ11 y10 H locs ls hP hD hS hl hf
            have hf := (congrFun (congrFun ej12 σ11) y10).symm.trans hf
            obtain ⟨hi1, hi2⟩ := Prod.mk.inj (Option.some.inj hf)
            subst hi1
            subst hi2
            exact hret _ _ _ _ dX12_rateFor_68 rfl hP hS
          refine lv_if_ge (tgt := 67) hx hb dX12_rateFor_56 (by decide) (fun h13 => ?_) (fun h13 => ?_)
          · have hf := (if_pos h13).symm.trans hf
            refine lv_iload_n hx hb dX12_rateFor_67 rfl (lv_at hl 1 rfl) ?_
            exact Jj12 σ5 x3_3 _ _ _ hP hD hS (lv_sub hl [] rfl) hf
          · have hf := (if_neg h13).symm.trans hf
            refine lv_aload_n hx hb dX12_rateFor_59 rfl (lv_at hl 0 rfl) ?_
            refine lv_iconst (v := 3) hx hb dX12_rateFor_60 (by decide) ?_
            refine q_cVi (wf := (wX12 cI cZ cS ad)) (wc := wX12 cI cZ cS ad) (rest := []) ⟨hx, hb, hml, hown, hts⟩ hK hZ hA hP hD hS hf (fun x τ ho => kX12_finding l D cI cZ cS zz ad σ5 (3 : Int32) x τ ho) (cwV 1 hts gX12_rateFor_X12_finding rfl rfl rfl ndX12_finding ⟨Nat.le_of_ble_eq_true rfl, Nat.le_of_ble_eq_true rfl⟩) [0, 1, 2, 3, 4, 5, 6, 7, 8, 9, 10, 11] rfl rfl [some 0, some 1, some 2, some 3, some 4, some 5, some 6, some 7, some 8, some 9, some 10, some 11] (by decide +kernel) (Nat.le_of_ble_eq_true rfl) (fun _ => rfl) (fun _ => rfl) (fun _ => rfl) rfl rfl rfl rfl (hl.1) rfl (Nat.le_of_ble_eq_true rfl) dX12_rateFor_61 ⟨Nat.zero_le _, Nat.zero_le _⟩ (fun r15 σ14 H locs hf hP hD hS => ?_)
            refine lv_goto (tgt := 68) hx hb dX12_rateFor_64 (by decide) ?_
            exact Jj12 σ14 r15 _ _ _ hP hD hS (lv_sub hl [] rfl) hf
        refine lv_icmp_gt (tgt := 55) hx hb dX12_rateFor_23 (by decide) (fun h16 => ?_) (fun h16 => ?_)
        · have hf := (if_pos h16).symm.trans hf
          exact Jj9  _ _ _ hP hD hS (lv_sub hl [0, 3] rfl) hf
        · have hf := (if_neg h16).symm.trans hf
          refine lv_iload_n hx hb dX12_rateFor_26 rfl (lv_at hl 3 rfl) ?_
          refine lv_if_ge (tgt := 55) hx hb dX12_rateFor_27 (by decide) (fun h17 => ?_) (fun h17 => ?_)
          · have hf := (if_pos h17).symm.trans hf
            exact Jj9  _ _ _ hP hD hS (lv_sub hl [0, 3] rfl) hf
          · have hf := (if_neg h17).symm.trans hf
            refine lv_aload_n hx hb dX12_rateFor_30 rfl (lv_at hl 0 rfl) ?_
            refine lv_iconst (v := 5) hx hb dX12_rateFor_31 (by decide) ?_
            refine lv_iload hx hb dX12_rateFor_32 (lv_at hl 4 rfl) ?_
            refine lv_iload_n hx hb dX12_rateFor_34 rfl (lv_at hl 1 rfl) ?_
            refine lv_iload_n hx hb dX12_rateFor_35 rfl (lv_at hl 2 rfl) ?_
            refine q_cVi (wf := (wX12 cI cZ cS ad)) (wc := wX12 cI cZ cS ad) (rest := []) ⟨hx, hb, hml, hown, hts⟩ hK hZ hA hP hD hS hf (fun x τ ho => kX12_startsWith l D cI cZ cS zz ad σ5 (5 : Int32) x4_4 a1 a2 x τ ho) (cwV 4 hts gX12_rateFor_X12_startsWith rfl rfl rfl ndX12_startsWith ⟨Nat.le_of_ble_eq_true rfl, Nat.le_of_ble_eq_true rfl⟩) [0, 1, 2, 3, 4, 5, 6, 7, 8, 9, 10, 11] rfl rfl [some 0, some 1, some 2, some 3, some 4, some 5, some 6, some 7, some 8, some 9, some 10, some 11] (by decide +kernel) (Nat.le_of_ble_eq_true rfl) (fun _ => rfl) (fun _ => rfl) (fun _ => rfl) rfl rfl rfl rfl (hl.1) rfl (Nat.le_of_ble_eq_true rfl) dX12_rateFor_36 ⟨Nat.zero_le _, Nat.zero_le _⟩ (fun r19 σ18 H locs hf hP hD hS => ?_)
            refine q_lt_go hf (fun j21 ej21 hf => ?_)
            have Jj21 : ∀ (y20 : Int32) (H : Heap) (locs : List Loc) (ls : Array Slot), va_P D vwCl ((wX12 cI cZ cS ad) σ18) H → va_D A ((wX12 cI cZ cS ad) σ18) → va_S A s.heap H locs → lv_has ls 5 [(0, .ref (ad 0)), (1, .int a1), (2, .int a2), (4, .int x4_4)] → j21 y20 = some (rr, σr) → W p l e rmX12_rateFor s m ([.ref (ad 0), .int a1, .int a2] : List Value).toArray below meth c H locs 0 0 Q (F0 m 48 ls [.int y20]) := by
              intro y20 H locs ls hP hD hS hl hf
              have hf := (congrFun ej21 y20).symm.trans hf
              refine lv_istore_n (lv' := [(3, .int y20), (0, .ref (ad 0)), (1, .int a1), (2, .int a2), (4, .int x4_4)]) hx hb dX12_rateFor_48 rfl hl (by decide) rfl (fun ls hl => ?_)
              refine lv_iinc (v := (x4_4 + (1 : Int32))) (lv' := [(4, .int (x4_4 + (1 : Int32))), (3, .int y20), (0, .ref (ad 0)), (1, .int a1), (2, .int a2)]) hx hb dX12_rateFor_49 hl (k := 4) rfl rfl (by decide) rfl (fun ls hl => ?_)
              refine lv_goto (tgt := 19) hx hb dX12_rateFor_52 (by decide) ?_
              exact ihz7 σ18 y20 (x4_4 + (1 : Int32)) _ _ _ hP hD hS (lv_sub hl [2, 3, 4, 1, 0] rfl) hf
            refine lv_if_lt (tgt := 47) hx hb dX12_rateFor_39 (by decide) (fun h22 => ?_) (fun h22 => ?_)
            · have hf := (if_pos h22).symm.trans hf
              refine lv_iconst (v := -1) hx hb dX12_rateFor_47 (by decide) ?_
              exact Jj21 (-1 : Int32) _ _ _ hP hD hS (lv_sub hl [0, 1, 2, 4] rfl) hf
            · have hf := (if_neg h22).symm.trans hf
              refine lv_iload hx hb dX12_rateFor_42 (lv_at hl 4 rfl) ?_
              refine lv_goto (tgt := 48) hx hb dX12_rateFor_44 (by decide) ?_
              exact Jj21 x4_4 _ _ _ hP hD hS (lv_sub hl [0, 1, 2, 4] rfl) hf
    exact Lz7 q_fu σ (-1 : Int32) (1 : Int32) _ _ _ hP hD hS (lv_sub hl [2, 3, 4, 1, 0] rfl) hf
  · have hf := (if_pos h2).symm.trans hf
    refine lv_aload_n hx hb dX12_rateFor_8 rfl (lv_at hl 0 rfl) ?_
    refine lv_iconst (v := 0) hx hb dX12_rateFor_9 (by decide) ?_
    refine q_cVi (wf := (wX12 cI cZ cS ad)) (wc := wX12 cI cZ cS ad) (rest := []) ⟨hx, hb, hml, hown, hts⟩ hK hZ hA hP hD hS hf (fun x τ ho => kX12_finding l D cI cZ cS zz ad σ (0 : Int32) x τ ho) (cwV 1 hts gX12_rateFor_X12_finding rfl rfl rfl ndX12_finding ⟨Nat.le_of_ble_eq_true rfl, Nat.le_of_ble_eq_true rfl⟩) [0, 1, 2, 3, 4, 5, 6, 7, 8, 9, 10, 11] rfl rfl [some 0, some 1, some 2, some 3, some 4, some 5, some 6, some 7, some 8, some 9, some 10, some 11] (by decide +kernel) (Nat.le_of_ble_eq_true rfl) (fun _ => rfl) (fun _ => rfl) (fun _ => rfl) rfl rfl rfl rfl (hl.1) rfl (Nat.le_of_ble_eq_true rfl) dX12_rateFor_10 ⟨Nat.zero_le _, Nat.zero_le _⟩ (fun r24 σ23 H locs hf hP hD hS => ?_)
    obtain ⟨hi1, hi2⟩ := Prod.mk.inj (Option.some.inj hf)
    subst hi1
    subst hi2
    exact hret _ _ _ _ dX12_rateFor_13 rfl hP hS
def pX12_batteryFor (σ : SS) (a1 : Int32) (a2 : Int32) : Option (Int32 × SS) := q_cr (pX12_isNight a1 a2) (fun (r1 : Int32) => (if r1 = (0 : Int32) then q_ci (pX12_finding σ (0 : Int32)) (fun (τ : SS) => τ) (fun (r27 : Int32) (σ26 : SS) => some (r27, σ26)) else q_rd (σ 1) 307 (14 : Int32) (fun (v3 : Int32) => q_wr σ 1 307 (14 : Int32) (0 : Int32) (fun (σ4 : SS) => q_lp (fun _ _ _ => none) (fun (c8 : SS → Int32 → Int32 → Option (Int32 × SS)) (σ7 : SS) (x4_5 : Int32) (x5_6 : Int32) => q_lt (q_wr σ7 1 307 (14 : Int32) v3 (fun (σ12 : SS) => q_lt (fun (σ14 : SS) (y13 : Int32) => some (y13, σ14)) (fun j15 => (if (0 : Int32) ≤ x4_5 then j15 σ12 x4_5 else q_ci (pX12_finding σ12 (3 : Int32)) (fun (τ : SS) => τ) (fun (r18 : Int32) (σ17 : SS) => j15 σ17 r18))))) (fun j11 => (if (999 : Int32) < x5_6 then j11 else (if (0 : Int32) ≤ x4_5 then j11 else q_ci (pX12_startsWith σ7 (7 : Int32) x5_6 a1 a2) (fun (τ : SS) => τ) (fun (r22 : Int32) (σ21 : SS) => q_lt (fun (y23 : Int32) => c8 σ21 y23 (x5_6 + (1 : Int32))) (fun j24 => (if r22 < (0 : Int32) then j24 (-1 : Int32) else j24 x5_6))))))) q_fu σ4 (-1 : Int32) (0 : Int32)))))
theorem fwX12_batteryFor_X12 : ∀ w ∈ wsX120, w ∈ wsX12_batteryFor := fun _ h => List.mem_cons_of_mem _ (List.mem_append_right _ h)
abbrev rmX12_batteryFor : Room := { frames := 7, cells := 0, slots := 0, locals := 160 }
set_option maxHeartbeats 4000000 in
set_option maxRecDepth 100000 in
theorem kX12_batteryFor (l : Launch) (D : va_G) (cI cZ cS : ClassId) (zz : ZT) (ad : Nat → Nat) (σ : SS) (a1 : Int32) (a2 : Int32) (rr : Int32) (σr : SS) (hf : pX12_batteryFor σ a1 a2 = some (rr, σr)) : CI l yX12_batteryFor wsX12_batteryFor rmX12_batteryFor D (K3 cI cZ cS) zz [.ref (ad 0), .int a1, .int a2] (wX12 cI cZ cS ad σ) (wX12 cI cZ cS ad σr) rr := by
  refine q_ofI (cc := cX12_batteryFor) (maxL := 6) (ty := .int) (by decide) rfl (Nat.le_of_ble_eq_true rfl) ?_
  intro p e s m below meth c Q A ls hx hb hml hown hts hK hZ hA hP hD hS hl hret
  have hl : lv_has ls 6 [(0, .ref (ad 0)), (1, .int a1), (2, .int a2)] := hl
  unfold pX12_batteryFor at hf
  refine lv_iload_n hx hb dX12_batteryFor_0 rfl (lv_at hl 1 rfl) ?_
  refine lv_iload_n hx hb dX12_batteryFor_1 rfl (lv_at hl 2 rfl) ?_
  refine q_cSr (wf := (wX12 cI cZ cS ad)) (rest := []) ⟨hx, hb, hml, hown, hts⟩ hK hZ hA hP hD hS hf (fun x ho => kX12_isNight l D cI cZ cS zz a1 a2 x ho) (va_cwS 2 hts gX12_batteryFor_X12_isNight rfl rfl rfl ndX12_isNight.2 ⟨Nat.le_of_ble_eq_true rfl, Nat.le_of_ble_eq_true rfl⟩) rfl (hl.1) rfl (Nat.le_of_ble_eq_true rfl) dX12_batteryFor_2 ⟨Nat.zero_le _, Nat.zero_le _⟩ (fun r1 H locs hf hP hD hS => ?_)
  refine lv_if_ne (tgt := 14) hx hb dX12_batteryFor_5 (by decide) (fun h2 => ?_) (fun h2 => ?_)
  · have hf := (if_neg h2).symm.trans hf
    refine lv_aload_n hx hb dX12_batteryFor_14 rfl (lv_at hl 0 rfl) ?_
    refine va_get (D := D) (ci := 12) (C := RX12) (T := TX12) (N := 19) hx hb hts fwX12_batteryFor_X12 hown hK hP 0 rfl rfl 0 (by decide) (hts _ (List.mem_of_getElem? (i := 1) rfl)) (fun _ h9 => h9) rfl dX12_batteryFor_15 ?_
    refine lv_bipush (v := 14) hx hb dX12_batteryFor_18 (by decide) ?_
    refine w_iald (wf := (wX12 cI cZ cS ad)) hx hb hK hP 1 0 rfl rfl hf dX12_batteryFor_20 (fun v3 hf => ?_)
    refine lv_istore_n (lv' := [(3, .int v3), (0, .ref (ad 0)), (1, .int a1), (2, .int a2)]) hx hb dX12_batteryFor_21 rfl hl (by decide) rfl (fun ls hl => ?_)
    refine lv_aload_n hx hb dX12_batteryFor_22 rfl (lv_at hl 1 rfl) ?_
    refine va_get (D := D) (ci := 12) (C := RX12) (T := TX12) (N := 19) hx hb hts fwX12_batteryFor_X12 hown hK hP 0 rfl rfl 0 (by decide) (hts _ (List.mem_of_getElem? (i := 1) rfl)) (fun _ h9 => h9) rfl dX12_batteryFor_23 ?_
    refine lv_bipush (v := 14) hx hb dX12_batteryFor_26 (by decide) ?_
    refine lv_iconst (v := 0) hx hb dX12_batteryFor_28 (by decide) ?_
    refine w_iast (wf := (wX12 cI cZ cS ad)) (cid := 1) hx hb hK hP hD hS 1 0 rfl rfl hf (fun _ => rfl) dX12_batteryFor_29 (fun σ4 H locs hf hP hD hS => ?_)
    refine lv_iconst (v := -1) hx hb dX12_batteryFor_30 (by decide) ?_
    refine lv_istore (lv' := [(4, .int (-1 : Int32)), (3, .int v3), (0, .ref (ad 0)), (1, .int a1), (2, .int a2)]) hx hb dX12_batteryFor_31 hl (by decide) rfl (fun ls hl => ?_)
    refine lv_iconst (v := 0) hx hb dX12_batteryFor_33 (by decide) ?_
    refine lv_istore (lv' := [(5, .int (0 : Int32)), (4, .int (-1 : Int32)), (3, .int v3), (0, .ref (ad 0)), (1, .int a1), (2, .int a2)]) hx hb dX12_batteryFor_34 hl (by decide) rfl (fun ls hl => ?_)
    refine q_lp_go (f := fun (zf : SS → Int32 → Int32 → Option (Int32 × SS)) => zf σ4 (-1 : Int32) (0 : Int32)) hf (fun z9 ez9 hf => ?_)
    have Lz9 : ∀ (n10 : Nat) (σ7 : SS) (x4_5 : Int32) (x5_6 : Int32) (H : Heap) (locs : List Loc) (ls : Array Slot), va_P D vwCl ((wX12 cI cZ cS ad) σ7) H → va_D A ((wX12 cI cZ cS ad) σ7) → va_S A s.heap H locs → lv_has ls 6 [(0, .ref (ad 0)), (1, .int a1), (2, .int a2), (3, .int v3), (4, .int x4_5), (5, .int x5_6)] → q_lp (fun _ _ _ => none) z9 n10 σ7 x4_5 x5_6 = some (rr, σr) → W p l e rmX12_batteryFor s m ([.ref (ad 0), .int a1, .int a2] : List Value).toArray below meth c H locs 0 0 Q (F0 m 36 ls []) := by
      intro n10
      induction n10 with
      | zero => exact fun _ _ _ _ _ _ _ _ _ _ hf => q_no hf
      | succ n10 ihz9 =>
        intro σ7 x4_5 x5_6 H locs ls hP hD hS hl hf
        have hf := (congrFun (congrFun (congrFun (congrFun ez9 (q_lp (fun _ _ _ => none) z9 n10)) σ7) x4_5) x5_6).symm.trans hf
        refine lv_iload hx hb dX12_batteryFor_36 (lv_at hl 5 rfl) ?_
        refine lv_sipush (v := 999) hx hb dX12_batteryFor_38 (by decide) ?_
        refine q_lt_go hf (fun j11 ej11 hf => ?_)
        have Jj11 : ∀ (H : Heap) (locs : List Loc) (ls : Array Slot), va_P D vwCl ((wX12 cI cZ cS ad) σ7) H → va_D A ((wX12 cI cZ cS ad) σ7) → va_S A s.heap H locs → lv_has ls 6 [(0, .ref (ad 0)), (3, .int v3), (4, .int x4_5)] → j11 = some (rr, σr) → W p l e rmX12_batteryFor s m ([.ref (ad 0), .int a1, .int a2] : List Value).toArray below meth c H locs 0 0 Q (F0 m 76 ls []) := by
          intro  H locs ls hP hD hS hl hf
          have hf := ej11.symm.trans hf
          refine lv_aload_n hx hb dX12_batteryFor_76 rfl (lv_at hl 0 rfl) ?_
          refine va_get (D := D) (ci := 12) (C := RX12) (T := TX12) (N := 19) hx hb hts fwX12_batteryFor_X12 hown hK hP 0 rfl rfl 0 (by decide) (hts _ (List.mem_of_getElem? (i := 1) rfl)) (fun _ h9 => h9) rfl dX12_batteryFor_77 ?_
          refine lv_bipush (v := 14) hx hb dX12_batteryFor_80 (by decide) ?_
          refine lv_iload_n hx hb dX12_batteryFor_82 rfl (lv_at hl 1 rfl) ?_
          refine w_iast (wf := (wX12 cI cZ cS ad)) (cid := 1) hx hb hK hP hD hS 1 0 rfl rfl hf (fun _ => rfl) dX12_batteryFor_83 (fun σ12 H locs hf hP hD hS => ?_)
          refine lv_iload hx hb dX12_batteryFor_84 (lv_at hl 2 rfl) ?_
          refine q_lt_go hf (fun j15 ej15 hf => ?_)
          have Jj15 : ∀ (σ14 : SS) (y13 : Int32) (H : Heap) (locs : List Loc) (ls : Array Slot), va_P D vwCl ((wX12 cI cZ cS ad) σ14) H → va_D A ((wX12 cI cZ cS ad) σ14) → va_S A s.heap H locs → lv_has ls 6 [] → j15 σ14 y13 = some (rr, σr) → W p l e rmX12_batteryFor s m ([.ref (ad 0), .int a1, .int a2] : List Value).toArray below meth c H locs 0 0 Q (F0 m 99 ls [.int y13]) := by
            intro σ14 y13 H locs ls hP hD hS hl hf
            have hf := (congrFun (congrFun ej15 σ14) y13).symm.trans hf
            obtain ⟨hi1, hi2⟩ := Prod.mk.inj (Option.some.inj hf)
            subst hi1
            subst hi2
            exact hret _ _ _ _ dX12_batteryFor_99 rfl hP hS
          refine lv_if_ge (tgt := 97) hx hb dX12_batteryFor_86 (by decide) (fun h16 => ?_) (fun h16 => ?_)
          · have hf := (if_pos h16).symm.trans hf
            refine lv_iload hx hb dX12_batteryFor_97 (lv_at hl 2 rfl) ?_
            exact Jj15 σ12 x4_5 _ _ _ hP hD hS (lv_sub hl [] rfl) hf
          · have hf := (if_neg h16).symm.trans hf
            refine lv_aload_n hx hb dX12_batteryFor_89 rfl (lv_at hl 0 rfl) ?_
            refine lv_iconst (v := 3) hx hb dX12_batteryFor_90 (by decide) ?_
            refine q_cVi (wf := (wX12 cI cZ cS ad)) (wc := wX12 cI cZ cS ad) (rest := []) ⟨hx, hb, hml, hown, hts⟩ hK hZ hA hP hD hS hf (fun x τ ho => kX12_finding l D cI cZ cS zz ad σ12 (3 : Int32) x τ ho) (cwV 1 hts gX12_batteryFor_X12_finding rfl rfl rfl ndX12_finding ⟨Nat.le_of_ble_eq_true rfl, Nat.le_of_ble_eq_true rfl⟩) [0, 1, 2, 3, 4, 5, 6, 7, 8, 9, 10, 11] rfl rfl [some 0, some 1, some 2, some 3, some 4, some 5, some 6, some 7, some 8, some 9, some 10, some 11] (by decide +kernel) (Nat.le_of_ble_eq_true rfl) (fun _ => rfl) (fun _ => rfl) (fun _ => rfl) rfl rfl rfl rfl (hl.1) rfl (Nat.le_of_ble_eq_true rfl) dX12_batteryFor_91 ⟨Nat.zero_le _, Nat.zero_le _⟩ (fun r18 σ17 H locs hf hP hD hS => ?_)
            refine lv_goto (tgt := 99) hx hb dX12_batteryFor_94 (by decide) ?_
            exact Jj15 σ17 r18 _ _ _ hP hD hS (lv_sub hl [] rfl) hf
        refine lv_icmp_gt (tgt := 76) hx hb dX12_batteryFor_41 (by decide) (fun h19 => ?_) (fun h19 => ?_)
        · have hf := (if_pos h19).symm.trans hf
          exact Jj11  _ _ _ hP hD hS (lv_sub hl [0, 3, 4] rfl) hf
        · have hf := (if_neg h19).symm.trans hf
          refine lv_iload hx hb dX12_batteryFor_44 (lv_at hl 4 rfl) ?_
          refine lv_if_ge (tgt := 76) hx hb dX12_batteryFor_46 (by decide) (fun h20 => ?_) (fun h20 => ?_)
          · have hf := (if_pos h20).symm.trans hf
            exact Jj11  _ _ _ hP hD hS (lv_sub hl [0, 3, 4] rfl) hf
          · have hf := (if_neg h20).symm.trans hf
            refine lv_aload_n hx hb dX12_batteryFor_49 rfl (lv_at hl 0 rfl) ?_
            refine lv_bipush (v := 7) hx hb dX12_batteryFor_50 (by decide) ?_
            refine lv_iload hx hb dX12_batteryFor_52 (lv_at hl 5 rfl) ?_
            refine lv_iload_n hx hb dX12_batteryFor_54 rfl (lv_at hl 1 rfl) ?_
            refine lv_iload_n hx hb dX12_batteryFor_55 rfl (lv_at hl 2 rfl) ?_
            refine q_cVi (wf := (wX12 cI cZ cS ad)) (wc := wX12 cI cZ cS ad) (rest := []) ⟨hx, hb, hml, hown, hts⟩ hK hZ hA hP hD hS hf (fun x τ ho => kX12_startsWith l D cI cZ cS zz ad σ7 (7 : Int32) x5_6 a1 a2 x τ ho) (cwV 4 hts gX12_batteryFor_X12_startsWith rfl rfl rfl ndX12_startsWith ⟨Nat.le_of_ble_eq_true rfl, Nat.le_of_ble_eq_true rfl⟩) [0, 1, 2, 3, 4, 5, 6, 7, 8, 9, 10, 11] rfl rfl [some 0, some 1, some 2, some 3, some 4, some 5, some 6, some 7, some 8, some 9, some 10, some 11] (by decide +kernel) (Nat.le_of_ble_eq_true rfl) (fun _ => rfl) (fun _ => rfl) (fun _ => rfl) rfl rfl rfl rfl (hl.1) rfl (Nat.le_of_ble_eq_true rfl) dX12_batteryFor_56 ⟨Nat.zero_le _, Nat.zero_le _⟩ (fun r22 σ21 H locs hf hP hD hS => ?_)
            refine q_lt_go hf (fun j24 ej24 hf => ?_)
            have Jj24 : ∀ (y23 : Int32) (H : Heap) (locs : List Loc) (ls : Array Slot), va_P D vwCl ((wX12 cI cZ cS ad) σ21) H → va_D A ((wX12 cI cZ cS ad) σ21) → va_S A s.heap H locs → lv_has ls 6 [(0, .ref (ad 0)), (1, .int a1), (2, .int a2), (3, .int v3), (5, .int x5_6)] → j24 y23 = some (rr, σr) → W p l e rmX12_batteryFor s m ([.ref (ad 0), .int a1, .int a2] : List Value).toArray below meth c H locs 0 0 Q (F0 m 68 ls [.int y23]) := by
              intro y23 H locs ls hP hD hS hl hf
              have hf := (congrFun ej24 y23).symm.trans hf
              refine lv_istore (lv' := [(4, .int y23), (0, .ref (ad 0)), (1, .int a1), (2, .int a2), (3, .int v3), (5, .int x5_6)]) hx hb dX12_batteryFor_68 hl (by decide) rfl (fun ls hl => ?_)
              refine lv_iinc (v := (x5_6 + (1 : Int32))) (lv' := [(5, .int (x5_6 + (1 : Int32))), (4, .int y23), (0, .ref (ad 0)), (1, .int a1), (2, .int a2), (3, .int v3)]) hx hb dX12_batteryFor_70 hl (k := 5) rfl rfl (by decide) rfl (fun ls hl => ?_)
              refine lv_goto (tgt := 36) hx hb dX12_batteryFor_73 (by decide) ?_
              exact ihz9 σ21 y23 (x5_6 + (1 : Int32)) _ _ _ hP hD hS (lv_sub hl [2, 3, 4, 5, 1, 0] rfl) hf
            refine lv_if_lt (tgt := 67) hx hb dX12_batteryFor_59 (by decide) (fun h25 => ?_) (fun h25 => ?_)
            · have hf := (if_pos h25).symm.trans hf
              refine lv_iconst (v := -1) hx hb dX12_batteryFor_67 (by decide) ?_
              exact Jj24 (-1 : Int32) _ _ _ hP hD hS (lv_sub hl [0, 1, 2, 3, 5] rfl) hf
            · have hf := (if_neg h25).symm.trans hf
              refine lv_iload hx hb dX12_batteryFor_62 (lv_at hl 5 rfl) ?_
              refine lv_goto (tgt := 68) hx hb dX12_batteryFor_64 (by decide) ?_
              exact Jj24 x5_6 _ _ _ hP hD hS (lv_sub hl [0, 1, 2, 3, 5] rfl) hf
    exact Lz9 q_fu σ4 (-1 : Int32) (0 : Int32) _ _ _ hP hD hS (lv_sub hl [3, 4, 5, 2, 1, 0] rfl) hf
  · have hf := (if_pos h2).symm.trans hf
    refine lv_aload_n hx hb dX12_batteryFor_8 rfl (lv_at hl 0 rfl) ?_
    refine lv_iconst (v := 0) hx hb dX12_batteryFor_9 (by decide) ?_
    refine q_cVi (wf := (wX12 cI cZ cS ad)) (wc := wX12 cI cZ cS ad) (rest := []) ⟨hx, hb, hml, hown, hts⟩ hK hZ hA hP hD hS hf (fun x τ ho => kX12_finding l D cI cZ cS zz ad σ (0 : Int32) x τ ho) (cwV 1 hts gX12_batteryFor_X12_finding rfl rfl rfl ndX12_finding ⟨Nat.le_of_ble_eq_true rfl, Nat.le_of_ble_eq_true rfl⟩) [0, 1, 2, 3, 4, 5, 6, 7, 8, 9, 10, 11] rfl rfl [some 0, some 1, some 2, some 3, some 4, some 5, some 6, some 7, some 8, some 9, some 10, some 11] (by decide +kernel) (Nat.le_of_ble_eq_true rfl) (fun _ => rfl) (fun _ => rfl) (fun _ => rfl) rfl rfl rfl rfl (hl.1) rfl (Nat.le_of_ble_eq_true rfl) dX12_batteryFor_10 ⟨Nat.zero_le _, Nat.zero_le _⟩ (fun r27 σ26 H locs hf hP hD hS => ?_)
    obtain ⟨hi1, hi2⟩ := Prod.mk.inj (Option.some.inj hf)
    subst hi1
    subst hi2
    exact hret _ _ _ _ dX12_batteryFor_13 rfl hP hS
def pX12_cost (σ : SS) (a1 : Int32) (a2 : Int32) : Option (Int32 × SS) := q_cr (pX12_in a1 (0 : Int32) (3 : Int32)) (fun (r1 : Int32) => q_lt (q_ci (pX12_finding σ (0 : Int32)) (fun (τ : SS) => τ) (fun (r4 : Int32) (σ3 : SS) => some (r4, σ3))) (fun j2 => (if r1 = (0 : Int32) then j2 else q_cr (pX12_in a2 (0 : Int32) (999 : Int32)) (fun (r6 : Int32) => (if r6 = (0 : Int32) then j2 else q_rd (σ 1) 307 ((21 : Int32) + a1) (fun (v8 : Int32) => q_wr σ 1 307 ((21 : Int32) + a1) a2 (fun (σ9 : SS) => some (v8, σ9))))))))
theorem fwX12_cost_X12 : ∀ w ∈ wsX120, w ∈ wsX12_cost := fun _ h => List.mem_cons_of_mem _ (List.mem_append_right _ h)
abbrev rmX12_cost : Room := { frames := 1, cells := 0, slots := 0, locals := 22 }
set_option maxHeartbeats 4000000 in
set_option maxRecDepth 100000 in
theorem kX12_cost (l : Launch) (D : va_G) (cI cZ cS : ClassId) (zz : ZT) (ad : Nat → Nat) (σ : SS) (a1 : Int32) (a2 : Int32) (rr : Int32) (σr : SS) (hf : pX12_cost σ a1 a2 = some (rr, σr)) : CI l yX12_cost wsX12_cost rmX12_cost D (K3 cI cZ cS) zz [.ref (ad 0), .int a1, .int a2] (wX12 cI cZ cS ad σ) (wX12 cI cZ cS ad σr) rr := by
  refine q_ofI (cc := cX12_cost) (maxL := 4) (ty := .int) (by decide) rfl (Nat.le_of_ble_eq_true rfl) ?_
  intro p e s m below meth c Q A ls hx hb hml hown hts hK hZ hA hP hD hS hl hret
  have hl : lv_has ls 4 [(0, .ref (ad 0)), (1, .int a1), (2, .int a2)] := hl
  unfold pX12_cost at hf
  refine lv_iload_n hx hb dX12_cost_0 rfl (lv_at hl 1 rfl) ?_
  refine lv_iconst (v := 0) hx hb dX12_cost_1 (by decide) ?_
  refine lv_iconst (v := 3) hx hb dX12_cost_2 (by decide) ?_
  refine q_cSr (wf := (wX12 cI cZ cS ad)) (rest := []) ⟨hx, hb, hml, hown, hts⟩ hK hZ hA hP hD hS hf (fun x ho => kX12_in l D cI cZ cS zz a1 (0 : Int32) (3 : Int32) x ho) (va_cwS 3 hts gX12_cost_X12_in rfl rfl rfl ndX12_in.2 ⟨Nat.le_of_ble_eq_true rfl, Nat.le_of_ble_eq_true rfl⟩) rfl (hl.1) rfl (Nat.le_of_ble_eq_true rfl) dX12_cost_3 ⟨Nat.zero_le _, Nat.zero_le _⟩ (fun r1 H locs hf hP hD hS => ?_)
  refine q_lt_go hf (fun j2 ej2 hf => ?_)
  have Jj2 : ∀ (H : Heap) (locs : List Loc) (ls : Array Slot), va_P D vwCl ((wX12 cI cZ cS ad) σ) H → va_D A ((wX12 cI cZ cS ad) σ) → va_S A s.heap H locs → lv_has ls 4 [(0, .ref (ad 0))] → j2 = some (rr, σr) → W p l e rmX12_cost s m ([.ref (ad 0), .int a1, .int a2] : List Value).toArray below meth c H locs 0 0 Q (F0 m 20 ls []) := by
    intro  H locs ls hP hD hS hl hf
    have hf := ej2.symm.trans hf
    refine lv_aload_n hx hb dX12_cost_20 rfl (lv_at hl 0 rfl) ?_
    refine lv_iconst (v := 0) hx hb dX12_cost_21 (by decide) ?_
    refine q_cVi (wf := (wX12 cI cZ cS ad)) (wc := wX12 cI cZ cS ad) (rest := []) ⟨hx, hb, hml, hown, hts⟩ hK hZ hA hP hD hS hf (fun x τ ho => kX12_finding l D cI cZ cS zz ad σ (0 : Int32) x τ ho) (cwV 1 hts gX12_cost_X12_finding rfl rfl rfl ndX12_finding ⟨Nat.le_of_ble_eq_true rfl, Nat.le_of_ble_eq_true rfl⟩) [0, 1, 2, 3, 4, 5, 6, 7, 8, 9, 10, 11] rfl rfl [some 0, some 1, some 2, some 3, some 4, some 5, some 6, some 7, some 8, some 9, some 10, some 11] (by decide +kernel) (Nat.le_of_ble_eq_true rfl) (fun _ => rfl) (fun _ => rfl) (fun _ => rfl) rfl rfl rfl rfl (hl.1) rfl (Nat.le_of_ble_eq_true rfl) dX12_cost_22 ⟨Nat.zero_le _, Nat.zero_le _⟩ (fun r4 σ3 H locs hf hP hD hS => ?_)
    obtain ⟨hi1, hi2⟩ := Prod.mk.inj (Option.some.inj hf)
    subst hi1
    subst hi2
    exact hret _ _ _ _ dX12_cost_25 rfl hP hS
  refine lv_if_eq (tgt := 20) hx hb dX12_cost_6 (by decide) (fun h5 => ?_) (fun h5 => ?_)
  · have hf := (if_pos h5).symm.trans hf
    exact Jj2  _ _ _ hP hD hS (lv_sub hl [0] rfl) hf
  · have hf := (if_neg h5).symm.trans hf
    refine lv_iload_n hx hb dX12_cost_9 rfl (lv_at hl 2 rfl) ?_
    refine lv_iconst (v := 0) hx hb dX12_cost_10 (by decide) ?_
    refine lv_sipush (v := 999) hx hb dX12_cost_11 (by decide) ?_
    refine q_cSr (wf := (wX12 cI cZ cS ad)) (rest := []) ⟨hx, hb, hml, hown, hts⟩ hK hZ hA hP hD hS hf (fun x ho => kX12_in l D cI cZ cS zz a2 (0 : Int32) (999 : Int32) x ho) (va_cwS 3 hts gX12_cost_X12_in rfl rfl rfl ndX12_in.2 ⟨Nat.le_of_ble_eq_true rfl, Nat.le_of_ble_eq_true rfl⟩) rfl (hl.1) rfl (Nat.le_of_ble_eq_true rfl) dX12_cost_14 ⟨Nat.zero_le _, Nat.zero_le _⟩ (fun r6 H locs hf hP hD hS => ?_)
    refine lv_if_ne (tgt := 26) hx hb dX12_cost_17 (by decide) (fun h7 => ?_) (fun h7 => ?_)
    · have hf := (if_neg h7).symm.trans hf
      refine lv_aload_n hx hb dX12_cost_26 rfl (lv_at hl 0 rfl) ?_
      refine va_get (D := D) (ci := 12) (C := RX12) (T := TX12) (N := 19) hx hb hts fwX12_cost_X12 hown hK hP 0 rfl rfl 0 (by decide) (hts _ (List.mem_of_getElem? (i := 1) rfl)) (fun _ h9 => h9) rfl dX12_cost_27 ?_
      refine lv_bipush (v := 21) hx hb dX12_cost_30 (by decide) ?_
      refine lv_iload_n hx hb dX12_cost_32 rfl (lv_at hl 1 rfl) ?_
      refine lv_iadd hx hb dX12_cost_33 ?_
      refine w_iald (wf := (wX12 cI cZ cS ad)) hx hb hK hP 1 0 rfl rfl hf dX12_cost_34 (fun v8 hf => ?_)
      refine lv_istore_n (lv' := [(3, .int v8), (0, .ref (ad 0)), (1, .int a1), (2, .int a2)]) hx hb dX12_cost_35 rfl hl (by decide) rfl (fun ls hl => ?_)
      refine lv_aload_n hx hb dX12_cost_36 rfl (lv_at hl 1 rfl) ?_
      refine va_get (D := D) (ci := 12) (C := RX12) (T := TX12) (N := 19) hx hb hts fwX12_cost_X12 hown hK hP 0 rfl rfl 0 (by decide) (hts _ (List.mem_of_getElem? (i := 1) rfl)) (fun _ h9 => h9) rfl dX12_cost_37 ?_
      refine lv_bipush (v := 21) hx hb dX12_cost_40 (by decide) ?_
      refine lv_iload_n hx hb dX12_cost_42 rfl (lv_at hl 2 rfl) ?_
      refine lv_iadd hx hb dX12_cost_43 ?_
      refine lv_iload_n hx hb dX12_cost_44 rfl (lv_at hl 3 rfl) ?_
      refine w_iast (wf := (wX12 cI cZ cS ad)) (cid := 1) hx hb hK hP hD hS 1 0 rfl rfl hf (fun _ => rfl) dX12_cost_45 (fun σ9 H locs hf hP hD hS => ?_)
      refine lv_iload_n hx hb dX12_cost_46 rfl (lv_at hl 0 rfl) ?_
      obtain ⟨hi1, hi2⟩ := Prod.mk.inj (Option.some.inj hf)
      subst hi1
      subst hi2
      exact hret _ _ _ _ dX12_cost_47 rfl hP hS
    · have hf := (if_pos h7).symm.trans hf
      exact Jj2  _ _ _ hP hD hS (lv_sub hl [0] rfl) hf
def pX12_builds (σ : SS) (a1 : Int32) : Option SS := q_rd (σ 1) 307 (19 : Int32) (fun (v1 : Int32) => q_wr σ 1 307 (19 : Int32) (v1 ||| ((1 : Int32) <<< (a1 &&& (31 : Int32)))) (fun (σ2 : SS) => q_lt (fun (σ3 : SS) => q_lt (fun (σ5 : SS) => some σ5) (fun j6 => (if a1 = (3 : Int32) then q_rd (σ3 1) 307 (7 : Int32) (fun (v8 : Int32) => q_lt (fun (y9 : Int32) => q_wr σ3 1 307 (7 : Int32) y9 (fun (σ11 : SS) => j6 σ11)) (fun j10 => (if (v8 + (240 : Int32)) ≤ (999 : Int32) then q_rd (σ3 1) 307 (7 : Int32) (fun (v13 : Int32) => j10 (v13 + (240 : Int32))) else j10 (999 : Int32)))) else j6 σ3))) (fun j4 => (if a1 = (1 : Int32) then q_wr σ2 1 307 (15 : Int32) (0 : Int32) (fun (σ15 : SS) => j4 σ15) else j4 σ2))))
theorem fwX12_builds_X12 : ∀ w ∈ wsX120, w ∈ wsX12_builds := fun _ h => List.mem_cons_of_mem _ (List.mem_append_right _ h)
abbrev rmX12_builds : Room := { frames := 0, cells := 0, slots := 0, locals := 0 }
set_option maxHeartbeats 4000000 in
set_option maxRecDepth 100000 in
theorem kX12_builds (l : Launch) (D : va_G) (cI cZ cS : ClassId) (zz : ZT) (ad : Nat → Nat) (σ : SS) (a1 : Int32) (σr : SS) (hf : pX12_builds σ a1 = some σr) : CV l yX12_builds wsX12_builds rmX12_builds D (K3 cI cZ cS) zz [.ref (ad 0), .int a1] (wX12 cI cZ cS ad σ) (wX12 cI cZ cS ad σr) := by
  refine q_ofV (cc := cX12_builds) (maxL := 2) (by decide) rfl (Nat.le_of_ble_eq_true rfl) ?_
  intro p e s m below meth c Q A ls hx hb hml hown hts hK hZ hA hP hD hS hl hret
  have hl : lv_has ls 2 [(0, .ref (ad 0)), (1, .int a1)] := hl
  unfold pX12_builds at hf
  refine lv_aload_n hx hb dX12_builds_0 rfl (lv_at hl 0 rfl) ?_
  refine va_get (D := D) (ci := 12) (C := RX12) (T := TX12) (N := 19) hx hb hts fwX12_builds_X12 hown hK hP 0 rfl rfl 0 (by decide) (hts _ (List.mem_of_getElem? (i := 1) rfl)) (fun _ h9 => h9) rfl dX12_builds_1 ?_
  refine lv_bipush (v := 19) hx hb dX12_builds_4 (by decide) ?_
  refine lv_dup2_11 hx hb dX12_builds_6 rfl rfl ?_
  refine w_iald (wf := (wX12 cI cZ cS ad)) hx hb hK hP 1 0 rfl rfl hf dX12_builds_7 (fun v1 hf => ?_)
  refine lv_iconst (v := 1) hx hb dX12_builds_8 (by decide) ?_
  refine lv_iload_n hx hb dX12_builds_9 rfl (lv_at hl 1 rfl) ?_
  refine lv_ishl hx hb dX12_builds_10 ?_
  refine lv_ior hx hb dX12_builds_11 ?_
  refine w_iast (wf := (wX12 cI cZ cS ad)) (cid := 1) hx hb hK hP hD hS 1 0 rfl rfl hf (fun _ => rfl) dX12_builds_12 (fun σ2 H locs hf hP hD hS => ?_)
  refine lv_iload_n hx hb dX12_builds_13 rfl (lv_at hl 1 rfl) ?_
  refine lv_iconst (v := 1) hx hb dX12_builds_14 (by decide) ?_
  refine q_lt_go hf (fun j4 ej4 hf => ?_)
  have Jj4 : ∀ (σ3 : SS) (H : Heap) (locs : List Loc) (ls : Array Slot), va_P D vwCl ((wX12 cI cZ cS ad) σ3) H → va_D A ((wX12 cI cZ cS ad) σ3) → va_S A s.heap H locs → lv_has ls 2 [(0, .ref (ad 0)), (1, .int a1)] → j4 σ3 = some σr → W p l e rmX12_builds s m ([.ref (ad 0), .int a1] : List Value).toArray below meth c H locs 0 0 Q (F0 m 26 ls []) := by
    intro σ3 H locs ls hP hD hS hl hf
    have hf := (congrFun ej4 σ3).symm.trans hf
    refine lv_iload_n hx hb dX12_builds_26 rfl (lv_at hl 1 rfl) ?_
    refine lv_iconst (v := 3) hx hb dX12_builds_27 (by decide) ?_
    refine q_lt_go hf (fun j6 ej6 hf => ?_)
    have Jj6 : ∀ (σ5 : SS) (H : Heap) (locs : List Loc) (ls : Array Slot), va_P D vwCl ((wX12 cI cZ cS ad) σ5) H → va_D A ((wX12 cI cZ cS ad) σ5) → va_S A s.heap H locs → lv_has ls 2 [] → j6 σ5 = some σr → W p l e rmX12_builds s m ([.ref (ad 0), .int a1] : List Value).toArray below meth c H locs 0 0 Q (F0 m 72 ls []) := by
      intro σ5 H locs ls hP hD hS hl hf
      have hf := (congrFun ej6 σ5).symm.trans hf
      have hi1 := Option.some.inj hf
      subst hi1
      exact hret _ _ _ _ dX12_builds_72 hP hS
    refine lv_icmp_ne (tgt := 72) hx hb dX12_builds_28 (by decide) (fun h7 => ?_) (fun h7 => ?_)
    · have hf := (if_neg h7).symm.trans hf
      exact Jj6 σ3 _ _ _ hP hD hS (lv_sub hl [] rfl) hf
    · have hf := (if_pos h7).symm.trans hf
      refine lv_aload_n hx hb dX12_builds_31 rfl (lv_at hl 0 rfl) ?_
      refine va_get (D := D) (ci := 12) (C := RX12) (T := TX12) (N := 19) hx hb hts fwX12_builds_X12 hown hK hP 0 rfl rfl 0 (by decide) (hts _ (List.mem_of_getElem? (i := 1) rfl)) (fun _ h9 => h9) rfl dX12_builds_32 ?_
      refine lv_bipush (v := 7) hx hb dX12_builds_35 (by decide) ?_
      refine lv_aload_n hx hb dX12_builds_37 rfl (lv_at hl 0 rfl) ?_
      refine va_get (D := D) (ci := 12) (C := RX12) (T := TX12) (N := 19) hx hb hts fwX12_builds_X12 hown hK hP 0 rfl rfl 0 (by decide) (hts _ (List.mem_of_getElem? (i := 1) rfl)) (fun _ h9 => h9) rfl dX12_builds_38 ?_
      refine lv_bipush (v := 7) hx hb dX12_builds_41 (by decide) ?_
      refine w_iald (wf := (wX12 cI cZ cS ad)) hx hb hK hP 1 0 rfl rfl hf dX12_builds_43 (fun v8 hf => ?_)
      refine lv_sipush (v := 240) hx hb dX12_builds_44 (by decide) ?_
      refine lv_iadd hx hb dX12_builds_47 ?_
      refine lv_sipush (v := 999) hx hb dX12_builds_48 (by decide) ?_
      refine q_lt_go hf (fun j10 ej10 hf => ?_)
      have Jj10 : ∀ (y9 : Int32) (H : Heap) (locs : List Loc) (ls : Array Slot), va_P D vwCl ((wX12 cI cZ cS ad) σ3) H → va_D A ((wX12 cI cZ cS ad) σ3) → va_S A s.heap H locs → lv_has ls 2 [] → j10 y9 = some σr → W p l e rmX12_builds s m ([.ref (ad 0), .int a1] : List Value).toArray below meth c H locs 0 0 Q (F0 m 71 ls [.int y9, .int (7 : Int32), .ref (ad 1)]) := by
        intro y9 H locs ls hP hD hS hl hf
        have hf := (congrFun ej10 y9).symm.trans hf
        refine w_iast (wf := (wX12 cI cZ cS ad)) (cid := 1) hx hb hK hP hD hS 1 0 rfl rfl hf (fun _ => rfl) dX12_builds_71 (fun σ11 H locs hf hP hD hS => ?_)
        exact Jj6 σ11 _ _ _ hP hD hS (lv_sub hl [] rfl) hf
      refine lv_icmp_le (tgt := 60) hx hb dX12_builds_51 (by decide) (fun h12 => ?_) (fun h12 => ?_)
      · have hf := (if_pos h12).symm.trans hf
        refine lv_aload_n hx hb dX12_builds_60 rfl (lv_at hl 0 rfl) ?_
        refine va_get (D := D) (ci := 12) (C := RX12) (T := TX12) (N := 19) hx hb hts fwX12_builds_X12 hown hK hP 0 rfl rfl 0 (by decide) (hts _ (List.mem_of_getElem? (i := 1) rfl)) (fun _ h9 => h9) rfl dX12_builds_61 ?_
        refine lv_bipush (v := 7) hx hb dX12_builds_64 (by decide) ?_
        refine w_iald (wf := (wX12 cI cZ cS ad)) hx hb hK hP 1 0 rfl rfl hf dX12_builds_66 (fun v13 hf => ?_)
        refine lv_sipush (v := 240) hx hb dX12_builds_67 (by decide) ?_
        refine lv_iadd hx hb dX12_builds_70 ?_
        exact Jj10 (v13 + (240 : Int32)) _ _ _ hP hD hS (lv_sub hl [] rfl) hf
      · have hf := (if_neg h12).symm.trans hf
        refine lv_sipush (v := 999) hx hb dX12_builds_54 (by decide) ?_
        refine lv_goto (tgt := 71) hx hb dX12_builds_57 (by decide) ?_
        exact Jj10 (999 : Int32) _ _ _ hP hD hS (lv_sub hl [] rfl) hf
  refine lv_icmp_ne (tgt := 26) hx hb dX12_builds_15 (by decide) (fun h14 => ?_) (fun h14 => ?_)
  · have hf := (if_neg h14).symm.trans hf
    exact Jj4 σ2 _ _ _ hP hD hS (lv_sub hl [0, 1] rfl) hf
  · have hf := (if_pos h14).symm.trans hf
    refine lv_aload_n hx hb dX12_builds_18 rfl (lv_at hl 0 rfl) ?_
    refine va_get (D := D) (ci := 12) (C := RX12) (T := TX12) (N := 19) hx hb hts fwX12_builds_X12 hown hK hP 0 rfl rfl 0 (by decide) (hts _ (List.mem_of_getElem? (i := 1) rfl)) (fun _ h9 => h9) rfl dX12_builds_19 ?_
    refine lv_bipush (v := 15) hx hb dX12_builds_22 (by decide) ?_
    refine lv_iconst (v := 0) hx hb dX12_builds_24 (by decide) ?_
    refine w_iast (wf := (wX12 cI cZ cS ad)) (cid := 1) hx hb hK hP hD hS 1 0 rfl rfl hf (fun _ => rfl) dX12_builds_25 (fun σ15 H locs hf hP hD hS => ?_)
    exact Jj4 σ15 _ _ _ hP hD hS (lv_sub hl [0, 1] rfl) hf
def pX12_build (σ : SS) (a1 : Int32) : Option (Int32 × SS) := q_cr (pX12_in a1 (0 : Int32) (3 : Int32)) (fun (r1 : Int32) => (if r1 = (0 : Int32) then q_ci (pX12_finding σ (0 : Int32)) (fun (τ : SS) => τ) (fun (r10 : Int32) (σ9 : SS) => some (r10, σ9)) else q_cr (pX12_has σ a1) (fun (r3 : Int32) => (if r3 = (0 : Int32) then q_cs (pX12_builds σ a1) (fun (τ : SS) => τ) (fun (σ5 : SS) => q_rd (σ5 1) 307 (19 : Int32) (fun (v6 : Int32) => some (v6, σ5))) else q_ci (pX12_finding σ (4 : Int32)) (fun (τ : SS) => τ) (fun (r8 : Int32) (σ7 : SS) => some (r8, σ7))))))
theorem fwX12_build_X12 : ∀ w ∈ wsX120, w ∈ wsX12_build := fun _ h => List.mem_cons_of_mem _ (List.mem_append_right _ h)
abbrev rmX12_build : Room := { frames := 1, cells := 0, slots := 0, locals := 22 }
set_option maxHeartbeats 4000000 in
set_option maxRecDepth 100000 in
theorem kX12_build (l : Launch) (D : va_G) (cI cZ cS : ClassId) (zz : ZT) (ad : Nat → Nat) (σ : SS) (a1 : Int32) (rr : Int32) (σr : SS) (hf : pX12_build σ a1 = some (rr, σr)) : CI l yX12_build wsX12_build rmX12_build D (K3 cI cZ cS) zz [.ref (ad 0), .int a1] (wX12 cI cZ cS ad σ) (wX12 cI cZ cS ad σr) rr := by
  refine q_ofI (cc := cX12_build) (maxL := 2) (ty := .int) (by decide) rfl (Nat.le_of_ble_eq_true rfl) ?_
  intro p e s m below meth c Q A ls hx hb hml hown hts hK hZ hA hP hD hS hl hret
  have hl : lv_has ls 2 [(0, .ref (ad 0)), (1, .int a1)] := hl
  unfold pX12_build at hf
  refine lv_iload_n hx hb dX12_build_0 rfl (lv_at hl 1 rfl) ?_
  refine lv_iconst (v := 0) hx hb dX12_build_1 (by decide) ?_
  refine lv_iconst (v := 3) hx hb dX12_build_2 (by decide) ?_
  refine q_cSr (wf := (wX12 cI cZ cS ad)) (rest := []) ⟨hx, hb, hml, hown, hts⟩ hK hZ hA hP hD hS hf (fun x ho => kX12_in l D cI cZ cS zz a1 (0 : Int32) (3 : Int32) x ho) (va_cwS 3 hts gX12_build_X12_in rfl rfl rfl ndX12_in.2 ⟨Nat.le_of_ble_eq_true rfl, Nat.le_of_ble_eq_true rfl⟩) rfl (hl.1) rfl (Nat.le_of_ble_eq_true rfl) dX12_build_3 ⟨Nat.zero_le _, Nat.zero_le _⟩ (fun r1 H locs hf hP hD hS => ?_)
  refine lv_if_ne (tgt := 15) hx hb dX12_build_6 (by decide) (fun h2 => ?_) (fun h2 => ?_)
  · have hf := (if_neg h2).symm.trans hf
    refine lv_aload_n hx hb dX12_build_15 rfl (lv_at hl 0 rfl) ?_
    refine lv_iload_n hx hb dX12_build_16 rfl (lv_at hl 1 rfl) ?_
    refine q_cVr (wf := (wX12 cI cZ cS ad)) (wc := wX12 cI cZ cS ad) (rest := []) ⟨hx, hb, hml, hown, hts⟩ hK hZ hA hP hD hS hf (fun x ho => kX12_has l D cI cZ cS zz ad σ a1 x ho) (cwV 1 hts gX12_build_X12_has rfl rfl rfl ndX12_has ⟨Nat.le_of_ble_eq_true rfl, Nat.le_of_ble_eq_true rfl⟩) [0, 1, 2, 3, 4, 5, 6, 7, 8, 9, 10, 11] rfl rfl rfl rfl rfl rfl (hl.1) rfl (Nat.le_of_ble_eq_true rfl) dX12_build_17 ⟨Nat.zero_le _, Nat.zero_le _⟩ (fun r3 H locs hf hP hD hS => ?_)
    refine lv_if_eq (tgt := 29) hx hb dX12_build_20 (by decide) (fun h4 => ?_) (fun h4 => ?_)
    · have hf := (if_pos h4).symm.trans hf
      refine lv_aload_n hx hb dX12_build_29 rfl (lv_at hl 0 rfl) ?_
      refine lv_iload_n hx hb dX12_build_30 rfl (lv_at hl 1 rfl) ?_
      refine q_cVv (wf := (wX12 cI cZ cS ad)) (wc := wX12 cI cZ cS ad) (rest := []) ⟨hx, hb, hml, hown, hts⟩ hK hZ hA hP hD hS hf (fun x ho => kX12_builds l D cI cZ cS zz ad σ a1 x ho) (cwV 1 hts gX12_build_X12_builds rfl rfl rfl ndX12_builds ⟨Nat.le_of_ble_eq_true rfl, Nat.le_of_ble_eq_true rfl⟩) [0, 1, 2, 3, 4, 5, 6, 7, 8, 9, 10, 11] rfl rfl [some 0, some 1, some 2, some 3, some 4, some 5, some 6, some 7, some 8, some 9, some 10, some 11] (by decide +kernel) (Nat.le_of_ble_eq_true rfl) (fun _ => rfl) (fun _ => rfl) (fun _ => rfl) rfl rfl rfl rfl (hl.1) rfl (Nat.le_of_ble_eq_true rfl) dX12_build_31 ⟨Nat.zero_le _, Nat.zero_le _⟩ (fun σ5 H locs hf hP hD hS => ?_)
      refine lv_aload_n hx hb dX12_build_34 rfl (lv_at hl 0 rfl) ?_
      refine va_get (D := D) (ci := 12) (C := RX12) (T := TX12) (N := 19) hx hb hts fwX12_build_X12 hown hK hP 0 rfl rfl 0 (by decide) (hts _ (List.mem_of_getElem? (i := 1) rfl)) (fun _ h9 => h9) rfl dX12_build_35 ?_
      refine lv_bipush (v := 19) hx hb dX12_build_38 (by decide) ?_
      refine w_iald (wf := (wX12 cI cZ cS ad)) hx hb hK hP 1 0 rfl rfl hf dX12_build_40 (fun v6 hf => ?_)
      obtain ⟨hi1, hi2⟩ := Prod.mk.inj (Option.some.inj hf)
      subst hi1
      subst hi2
      exact hret _ _ _ _ dX12_build_41 rfl hP hS
    · have hf := (if_neg h4).symm.trans hf
      refine lv_aload_n hx hb dX12_build_23 rfl (lv_at hl 0 rfl) ?_
      refine lv_iconst (v := 4) hx hb dX12_build_24 (by decide) ?_
      refine q_cVi (wf := (wX12 cI cZ cS ad)) (wc := wX12 cI cZ cS ad) (rest := []) ⟨hx, hb, hml, hown, hts⟩ hK hZ hA hP hD hS hf (fun x τ ho => kX12_finding l D cI cZ cS zz ad σ (4 : Int32) x τ ho) (cwV 1 hts gX12_build_X12_finding rfl rfl rfl ndX12_finding ⟨Nat.le_of_ble_eq_true rfl, Nat.le_of_ble_eq_true rfl⟩) [0, 1, 2, 3, 4, 5, 6, 7, 8, 9, 10, 11] rfl rfl [some 0, some 1, some 2, some 3, some 4, some 5, some 6, some 7, some 8, some 9, some 10, some 11] (by decide +kernel) (Nat.le_of_ble_eq_true rfl) (fun _ => rfl) (fun _ => rfl) (fun _ => rfl) rfl rfl rfl rfl (hl.1) rfl (Nat.le_of_ble_eq_true rfl) dX12_build_25 ⟨Nat.zero_le _, Nat.zero_le _⟩ (fun r8 σ7 H locs hf hP hD hS => ?_)
      obtain ⟨hi1, hi2⟩ := Prod.mk.inj (Option.some.inj hf)
      subst hi1
      subst hi2
      exact hret _ _ _ _ dX12_build_28 rfl hP hS
  · have hf := (if_pos h2).symm.trans hf
    refine lv_aload_n hx hb dX12_build_9 rfl (lv_at hl 0 rfl) ?_
    refine lv_iconst (v := 0) hx hb dX12_build_10 (by decide) ?_
    refine q_cVi (wf := (wX12 cI cZ cS ad)) (wc := wX12 cI cZ cS ad) (rest := []) ⟨hx, hb, hml, hown, hts⟩ hK hZ hA hP hD hS hf (fun x τ ho => kX12_finding l D cI cZ cS zz ad σ (0 : Int32) x τ ho) (cwV 1 hts gX12_build_X12_finding rfl rfl rfl ndX12_finding ⟨Nat.le_of_ble_eq_true rfl, Nat.le_of_ble_eq_true rfl⟩) [0, 1, 2, 3, 4, 5, 6, 7, 8, 9, 10, 11] rfl rfl [some 0, some 1, some 2, some 3, some 4, some 5, some 6, some 7, some 8, some 9, some 10, some 11] (by decide +kernel) (Nat.le_of_ble_eq_true rfl) (fun _ => rfl) (fun _ => rfl) (fun _ => rfl) rfl rfl rfl rfl (hl.1) rfl (Nat.le_of_ble_eq_true rfl) dX12_build_11 ⟨Nat.zero_le _, Nat.zero_le _⟩ (fun r10 σ9 H locs hf hP hD hS => ?_)
    obtain ⟨hi1, hi2⟩ := Prod.mk.inj (Option.some.inj hf)
    subst hi1
    subst hi2
    exact hret _ _ _ _ dX12_build_14 rfl hP hS
def pX12_costOf (σ : SS) (a1 : Int32) : Option Int32 := q_lp (fun _ _ => none) (fun (c3 : Int32 → Int32 → Option Int32) (x2_1 : Int32) (x3_2 : Int32) => (if (4 : Int32) ≤ x3_2 then some x2_1 else q_lt (fun (y7 : Int32) => q_lt (x2_1 + y7) (fun x2_9 => c3 x2_9 (x3_2 + (1 : Int32)))) (fun j8 => (if ((a1 >>> (x3_2 &&& (31 : Int32))) &&& (1 : Int32)) = (1 : Int32) then q_rd (σ 1) 307 ((21 : Int32) + x3_2) (fun (v11 : Int32) => j8 v11) else j8 (0 : Int32))))) q_fu (0 : Int32) (0 : Int32)
theorem fwX12_costOf_X12 : ∀ w ∈ wsX120, w ∈ wsX12_costOf := fun _ h => List.mem_cons_of_mem _ (List.mem_append_right _ h)
abbrev rmX12_costOf : Room := { frames := 0, cells := 0, slots := 0, locals := 0 }
set_option maxHeartbeats 4000000 in
set_option maxRecDepth 100000 in
theorem kX12_costOf (l : Launch) (D : va_G) (cI cZ cS : ClassId) (zz : ZT) (ad : Nat → Nat) (σ : SS) (a1 : Int32) (rr : Int32) (hf : pX12_costOf σ a1 = some rr) : CI l yX12_costOf wsX12_costOf rmX12_costOf D (K3 cI cZ cS) zz [.ref (ad 0), .int a1] (wX12 cI cZ cS ad σ) (wX12 cI cZ cS ad σ) rr := by
  refine q_ofI (cc := cX12_costOf) (maxL := 4) (ty := .int) (by decide) rfl (Nat.le_of_ble_eq_true rfl) ?_
  intro p e s m below meth c Q A ls hx hb hml hown hts hK hZ hA hP hD hS hl hret
  have hl : lv_has ls 4 [(0, .ref (ad 0)), (1, .int a1)] := hl
  unfold pX12_costOf at hf
  refine lv_iconst (v := 0) hx hb dX12_costOf_0 (by decide) ?_
  refine lv_istore_n (lv' := [(2, .int (0 : Int32)), (0, .ref (ad 0)), (1, .int a1)]) hx hb dX12_costOf_1 rfl hl (by decide) rfl (fun ls hl => ?_)
  refine lv_iconst (v := 0) hx hb dX12_costOf_2 (by decide) ?_
  refine lv_istore_n (lv' := [(3, .int (0 : Int32)), (2, .int (0 : Int32)), (0, .ref (ad 0)), (1, .int a1)]) hx hb dX12_costOf_3 rfl hl (by decide) rfl (fun ls hl => ?_)
  refine q_lp_go (f := fun (zf : Int32 → Int32 → Option Int32) => zf (0 : Int32) (0 : Int32)) hf (fun z4 ez4 hf => ?_)
  have Lz4 : ∀ (n5 : Nat) (x2_1 : Int32) (x3_2 : Int32) (H : Heap) (locs : List Loc) (ls : Array Slot), va_P D vwCl ((wX12 cI cZ cS ad) σ) H → va_D A ((wX12 cI cZ cS ad) σ) → va_S A s.heap H locs → lv_has ls 4 [(0, .ref (ad 0)), (1, .int a1), (2, .int x2_1), (3, .int x3_2)] → q_lp (fun _ _ => none) z4 n5 x2_1 x3_2 = some rr → W p l e rmX12_costOf s m ([.ref (ad 0), .int a1] : List Value).toArray below meth c H locs 0 0 Q (F0 m 4 ls []) := by
    intro n5
    induction n5 with
    | zero => exact fun _ _ _ _ _ _ _ _ _ hf => q_no hf
    | succ n5 ihz4 =>
      intro x2_1 x3_2 H locs ls hP hD hS hl hf
      have hf := (congrFun (congrFun (congrFun ez4 (q_lp (fun _ _ => none) z4 n5)) x2_1) x3_2).symm.trans hf
      refine lv_iload_n hx hb dX12_costOf_4 rfl (lv_at hl 3 rfl) ?_
      refine lv_iconst (v := 4) hx hb dX12_costOf_5 (by decide) ?_
      refine lv_icmp_ge (tgt := 40) hx hb dX12_costOf_6 (by decide) (fun h6 => ?_) (fun h6 => ?_)
      · have hf := (if_pos h6).symm.trans hf
        refine lv_iload_n hx hb dX12_costOf_40 rfl (lv_at hl 2 rfl) ?_
        have hi1 := Option.some.inj hf
        subst hi1
        exact hret _ _ _ _ dX12_costOf_41 rfl hP hS
      · have hf := (if_neg h6).symm.trans hf
        refine lv_iload_n hx hb dX12_costOf_9 rfl (lv_at hl 2 rfl) ?_
        refine lv_iload_n hx hb dX12_costOf_10 rfl (lv_at hl 1 rfl) ?_
        refine lv_iload_n hx hb dX12_costOf_11 rfl (lv_at hl 3 rfl) ?_
        refine lv_ishr hx hb dX12_costOf_12 ?_
        refine lv_iconst (v := 1) hx hb dX12_costOf_13 (by decide) ?_
        refine lv_iand hx hb dX12_costOf_14 ?_
        refine lv_iconst (v := 1) hx hb dX12_costOf_15 (by decide) ?_
        refine q_lt_go hf (fun j8 ej8 hf => ?_)
        have Jj8 : ∀ (y7 : Int32) (H : Heap) (locs : List Loc) (ls : Array Slot), va_P D vwCl ((wX12 cI cZ cS ad) σ) H → va_D A ((wX12 cI cZ cS ad) σ) → va_S A s.heap H locs → lv_has ls 4 [(0, .ref (ad 0)), (1, .int a1), (3, .int x3_2)] → j8 y7 = some rr → W p l e rmX12_costOf s m ([.ref (ad 0), .int a1] : List Value).toArray below meth c H locs 0 0 Q (F0 m 32 ls [.int y7, .int x2_1]) := by
          intro y7 H locs ls hP hD hS hl hf
          have hf := (congrFun ej8 y7).symm.trans hf
          refine lv_iadd hx hb dX12_costOf_32 ?_
          refine lv_topi (fun x2_9 ex2_9 => ?_)
          have hf := q_lt_at ex2_9 hf
          refine lv_istore_n (lv' := [(2, .int x2_9), (0, .ref (ad 0)), (1, .int a1), (3, .int x3_2)]) hx hb dX12_costOf_33 rfl hl (by decide) rfl (fun ls hl => ?_)
          refine lv_iinc (v := (x3_2 + (1 : Int32))) (lv' := [(3, .int (x3_2 + (1 : Int32))), (2, .int x2_9), (0, .ref (ad 0)), (1, .int a1)]) hx hb dX12_costOf_34 hl (k := 3) rfl rfl (by decide) rfl (fun ls hl => ?_)
          refine lv_goto (tgt := 4) hx hb dX12_costOf_37 (by decide) ?_
          exact ihz4 x2_9 (x3_2 + (1 : Int32)) _ _ _ hP hD hS (lv_sub hl [2, 3, 1, 0] rfl) hf
        refine lv_icmp_ne (tgt := 31) hx hb dX12_costOf_16 (by decide) (fun h10 => ?_) (fun h10 => ?_)
        · have hf := (if_neg h10).symm.trans hf
          refine lv_iconst (v := 0) hx hb dX12_costOf_31 (by decide) ?_
          exact Jj8 (0 : Int32) _ _ _ hP hD hS (lv_sub hl [0, 1, 3] rfl) hf
        · have hf := (if_pos h10).symm.trans hf
          refine lv_aload_n hx hb dX12_costOf_19 rfl (lv_at hl 0 rfl) ?_
          refine va_get (D := D) (ci := 12) (C := RX12) (T := TX12) (N := 19) hx hb hts fwX12_costOf_X12 hown hK hP 0 rfl rfl 0 (by decide) (hts _ (List.mem_of_getElem? (i := 1) rfl)) (fun _ h9 => h9) rfl dX12_costOf_20 ?_
          refine lv_bipush (v := 21) hx hb dX12_costOf_23 (by decide) ?_
          refine lv_iload_n hx hb dX12_costOf_25 rfl (lv_at hl 3 rfl) ?_
          refine lv_iadd hx hb dX12_costOf_26 ?_
          refine w_iald (wf := (wX12 cI cZ cS ad)) hx hb hK hP 1 0 rfl rfl hf dX12_costOf_27 (fun v11 hf => ?_)
          refine lv_goto (tgt := 32) hx hb dX12_costOf_28 (by decide) ?_
          exact Jj8 v11 _ _ _ hP hD hS (lv_sub hl [0, 1, 3] rfl) hf
  exact Lz4 q_fu (0 : Int32) (0 : Int32) _ _ _ hP hD hS (lv_sub hl [2, 3, 1, 0] rfl) hf
def pX12_harmWith (σ : SS) (a1 : Int32) (a2 : Int32) : Option (Int32 × SS) := q_cs (pX12_begin σ) (fun (τ : SS) => τ) (fun (σ1 : SS) => q_lp (fun _ _ => none) (fun (c4 : SS → Int32 → Option (Int32 × SS)) (σ3 : SS) (x3_2 : Int32) => (if (4 : Int32) ≤ x3_2 then q_cs (pX12_plays σ3 a2) (fun (τ : SS) => τ) (fun (σ8 : SS) => q_ci (pX12_toldOf σ8 (3 : Int32) (0 : Int32)) (fun (τ : SS) => τ) (fun (r10 : Int32) (σ9 : SS) => some (r10, σ9))) else q_lt (fun (σ11 : SS) => c4 σ11 (x3_2 + (1 : Int32))) (fun j12 => (if ((a1 >>> (x3_2 &&& (31 : Int32))) &&& (1 : Int32)) = (1 : Int32) then q_cs (pX12_builds σ3 x3_2) (fun (τ : SS) => τ) (fun (σ14 : SS) => j12 σ14) else j12 σ3)))) q_fu σ1 (0 : Int32))
abbrev rmX12_harmWith : Room := { frames := 7, cells := 0, slots := 0, locals := 158 }
set_option maxHeartbeats 4000000 in
set_option maxRecDepth 100000 in
theorem kX12_harmWith (l : Launch) (D : va_G) (cI cZ cS : ClassId) (zz : ZT) (ad : Nat → Nat) (σ : SS) (a1 : Int32) (a2 : Int32) (rr : Int32) (σr : SS) (hf : pX12_harmWith σ a1 a2 = some (rr, σr)) : CI l yX12_harmWith wsX12_harmWith rmX12_harmWith D (K3 cI cZ cS) zz [.ref (ad 0), .int a1, .int a2] (wX12 cI cZ cS ad σ) (wX12 cI cZ cS ad σr) rr := by
  refine q_ofI (cc := cX12_harmWith) (maxL := 4) (ty := .int) (by decide) rfl (Nat.le_of_ble_eq_true rfl) ?_
  intro p e s m below meth c Q A ls hx hb hml hown hts hK hZ hA hP hD hS hl hret
  have hl : lv_has ls 4 [(0, .ref (ad 0)), (1, .int a1), (2, .int a2)] := hl
  unfold pX12_harmWith at hf
  refine lv_aload_n hx hb dX12_harmWith_0 rfl (lv_at hl 0 rfl) ?_
  refine q_cVv (wf := (wX12 cI cZ cS ad)) (wc := wX12 cI cZ cS ad) (rest := []) ⟨hx, hb, hml, hown, hts⟩ hK hZ hA hP hD hS hf (fun x ho => kX12_begin l D cI cZ cS zz ad σ x ho) (cwV 0 hts gX12_harmWith_X12_begin rfl rfl rfl ndX12_begin ⟨Nat.le_of_ble_eq_true rfl, Nat.le_of_ble_eq_true rfl⟩) [0, 1, 2, 3, 4, 5, 6, 7, 8, 9, 10, 11] rfl rfl [some 0, some 1, some 2, some 3, some 4, some 5, some 6, some 7, some 8, some 9, some 10, some 11] (by decide +kernel) (Nat.le_of_ble_eq_true rfl) (fun _ => rfl) (fun _ => rfl) (fun _ => rfl) rfl rfl rfl rfl (hl.1) rfl (Nat.le_of_ble_eq_true rfl) dX12_harmWith_1 ⟨Nat.zero_le _, Nat.zero_le _⟩ (fun σ1 H locs hf hP hD hS => ?_)
  refine lv_iconst (v := 0) hx hb dX12_harmWith_4 (by decide) ?_
  refine lv_istore_n (lv' := [(3, .int (0 : Int32)), (0, .ref (ad 0)), (1, .int a1), (2, .int a2)]) hx hb dX12_harmWith_5 rfl hl (by decide) rfl (fun ls hl => ?_)
  refine q_lp_go (f := fun (zf : SS → Int32 → Option (Int32 × SS)) => zf σ1 (0 : Int32)) hf (fun z5 ez5 hf => ?_)
  have Lz5 : ∀ (n6 : Nat) (σ3 : SS) (x3_2 : Int32) (H : Heap) (locs : List Loc) (ls : Array Slot), va_P D vwCl ((wX12 cI cZ cS ad) σ3) H → va_D A ((wX12 cI cZ cS ad) σ3) → va_S A s.heap H locs → lv_has ls 4 [(0, .ref (ad 0)), (1, .int a1), (2, .int a2), (3, .int x3_2)] → q_lp (fun _ _ => none) z5 n6 σ3 x3_2 = some (rr, σr) → W p l e rmX12_harmWith s m ([.ref (ad 0), .int a1, .int a2] : List Value).toArray below meth c H locs 0 0 Q (F0 m 6 ls []) := by
    intro n6
    induction n6 with
    | zero => exact fun _ _ _ _ _ _ _ _ _ hf => q_no hf
    | succ n6 ihz5 =>
      intro σ3 x3_2 H locs ls hP hD hS hl hf
      have hf := (congrFun (congrFun (congrFun ez5 (q_lp (fun _ _ => none) z5 n6)) σ3) x3_2).symm.trans hf
      refine lv_iload_n hx hb dX12_harmWith_6 rfl (lv_at hl 3 rfl) ?_
      refine lv_iconst (v := 4) hx hb dX12_harmWith_7 (by decide) ?_
      refine lv_icmp_ge (tgt := 31) hx hb dX12_harmWith_8 (by decide) (fun h7 => ?_) (fun h7 => ?_)
      · have hf := (if_pos h7).symm.trans hf
        refine lv_aload_n hx hb dX12_harmWith_31 rfl (lv_at hl 0 rfl) ?_
        refine lv_iload_n hx hb dX12_harmWith_32 rfl (lv_at hl 2 rfl) ?_
        refine q_cVv (wf := (wX12 cI cZ cS ad)) (wc := wX12 cI cZ cS ad) (rest := []) ⟨hx, hb, hml, hown, hts⟩ hK hZ hA hP hD hS hf (fun x ho => kX12_plays l D cI cZ cS zz ad σ3 a2 x ho) (cwV 1 hts gX12_harmWith_X12_plays rfl rfl rfl ndX12_plays ⟨Nat.le_of_ble_eq_true rfl, Nat.le_of_ble_eq_true rfl⟩) [0, 1, 2, 3, 4, 5, 6, 7, 8, 9, 10, 11] rfl rfl [some 0, some 1, some 2, some 3, some 4, some 5, some 6, some 7, some 8, some 9, some 10, some 11] (by decide +kernel) (Nat.le_of_ble_eq_true rfl) (fun _ => rfl) (fun _ => rfl) (fun _ => rfl) rfl rfl rfl rfl (hl.1) rfl (Nat.le_of_ble_eq_true rfl) dX12_harmWith_33 ⟨Nat.zero_le _, Nat.zero_le _⟩ (fun σ8 H locs hf hP hD hS => ?_)
        refine lv_aload_n hx hb dX12_harmWith_36 rfl (lv_at hl 0 rfl) ?_
        refine lv_iconst (v := 3) hx hb dX12_harmWith_37 (by decide) ?_
        refine lv_iconst (v := 0) hx hb dX12_harmWith_38 (by decide) ?_
        refine q_cVi (wf := (wX12 cI cZ cS ad)) (wc := wX12 cI cZ cS ad) (rest := []) ⟨hx, hb, hml, hown, hts⟩ hK hZ hA hP hD hS hf (fun x τ ho => kX12_toldOf l D cI cZ cS zz ad σ8 (3 : Int32) (0 : Int32) x τ ho) (cwV 2 hts gX12_harmWith_X12_toldOf rfl rfl rfl ndX12_toldOf ⟨Nat.le_of_ble_eq_true rfl, Nat.le_of_ble_eq_true rfl⟩) [0, 1, 2, 3, 4, 5, 6, 7, 8, 9, 10, 11] rfl rfl [some 0, some 1, some 2, some 3, some 4, some 5, some 6, some 7, some 8, some 9, some 10, some 11] (by decide +kernel) (Nat.le_of_ble_eq_true rfl) (fun _ => rfl) (fun _ => rfl) (fun _ => rfl) rfl rfl rfl rfl (hl.1) rfl (Nat.le_of_ble_eq_true rfl) dX12_harmWith_39 ⟨Nat.zero_le _, Nat.zero_le _⟩ (fun r10 σ9 H locs hf hP hD hS => ?_)
        obtain ⟨hi1, hi2⟩ := Prod.mk.inj (Option.some.inj hf)
        subst hi1
        subst hi2
        exact hret _ _ _ _ dX12_harmWith_42 rfl hP hS
      · have hf := (if_neg h7).symm.trans hf
        refine lv_iload_n hx hb dX12_harmWith_11 rfl (lv_at hl 1 rfl) ?_
        refine lv_iload_n hx hb dX12_harmWith_12 rfl (lv_at hl 3 rfl) ?_
        refine lv_ishr hx hb dX12_harmWith_13 ?_
        refine lv_iconst (v := 1) hx hb dX12_harmWith_14 (by decide) ?_
        refine lv_iand hx hb dX12_harmWith_15 ?_
        refine lv_iconst (v := 1) hx hb dX12_harmWith_16 (by decide) ?_
        refine q_lt_go hf (fun j12 ej12 hf => ?_)
        have Jj12 : ∀ (σ11 : SS) (H : Heap) (locs : List Loc) (ls : Array Slot), va_P D vwCl ((wX12 cI cZ cS ad) σ11) H → va_D A ((wX12 cI cZ cS ad) σ11) → va_S A s.heap H locs → lv_has ls 4 [(0, .ref (ad 0)), (1, .int a1), (2, .int a2), (3, .int x3_2)] → j12 σ11 = some (rr, σr) → W p l e rmX12_harmWith s m ([.ref (ad 0), .int a1, .int a2] : List Value).toArray below meth c H locs 0 0 Q (F0 m 25 ls []) := by
          intro σ11 H locs ls hP hD hS hl hf
          have hf := (congrFun ej12 σ11).symm.trans hf
          refine lv_iinc (v := (x3_2 + (1 : Int32))) (lv' := [(3, .int (x3_2 + (1 : Int32))), (0, .ref (ad 0)), (1, .int a1), (2, .int a2)]) hx hb dX12_harmWith_25 hl (k := 3) rfl rfl (by decide) rfl (fun ls hl => ?_)
          refine lv_goto (tgt := 6) hx hb dX12_harmWith_28 (by decide) ?_
          exact ihz5 σ11 (x3_2 + (1 : Int32)) _ _ _ hP hD hS (lv_sub hl [1, 2, 3, 0] rfl) hf
        refine lv_icmp_ne (tgt := 25) hx hb dX12_harmWith_17 (by decide) (fun h13 => ?_) (fun h13 => ?_)
        · have hf := (if_neg h13).symm.trans hf
          exact Jj12 σ3 _ _ _ hP hD hS (lv_sub hl [0, 1, 2, 3] rfl) hf
        · have hf := (if_pos h13).symm.trans hf
          refine lv_aload_n hx hb dX12_harmWith_20 rfl (lv_at hl 0 rfl) ?_
          refine lv_iload_n hx hb dX12_harmWith_21 rfl (lv_at hl 3 rfl) ?_
          refine q_cVv (wf := (wX12 cI cZ cS ad)) (wc := wX12 cI cZ cS ad) (rest := []) ⟨hx, hb, hml, hown, hts⟩ hK hZ hA hP hD hS hf (fun x ho => kX12_builds l D cI cZ cS zz ad σ3 x3_2 x ho) (cwV 1 hts gX12_harmWith_X12_builds rfl rfl rfl ndX12_builds ⟨Nat.le_of_ble_eq_true rfl, Nat.le_of_ble_eq_true rfl⟩) [0, 1, 2, 3, 4, 5, 6, 7, 8, 9, 10, 11] rfl rfl [some 0, some 1, some 2, some 3, some 4, some 5, some 6, some 7, some 8, some 9, some 10, some 11] (by decide +kernel) (Nat.le_of_ble_eq_true rfl) (fun _ => rfl) (fun _ => rfl) (fun _ => rfl) rfl rfl rfl rfl (hl.1) rfl (Nat.le_of_ble_eq_true rfl) dX12_harmWith_22 ⟨Nat.zero_le _, Nat.zero_le _⟩ (fun σ14 H locs hf hP hD hS => ?_)
          exact Jj12 σ14 _ _ _ hP hD hS (lv_sub hl [0, 1, 2, 3] rfl) hf
  exact Lz5 q_fu σ1 (0 : Int32) _ _ _ hP hD hS (lv_sub hl [1, 2, 3, 0] rfl) hf
def pX12_worth (σ : SS) (a1 : Int32) (a2 : Int32) (a3 : Int32) : Option (Int32 × SS) := q_cr (pX12_isSky σ a1) (fun (r1 : Int32) => q_lt (q_ci (pX12_finding σ (0 : Int32)) (fun (τ : SS) => τ) (fun (r4 : Int32) (σ3 : SS) => some (r4, σ3))) (fun j2 => (if r1 = (0 : Int32) then j2 else q_cr (pX12_in a2 (0 : Int32) (9999 : Int32)) (fun (r6 : Int32) => (if r6 = (0 : Int32) then j2 else q_cr (pX12_in a3 (0 : Int32) (1 : Int32)) (fun (r8 : Int32) => (if r8 = (0 : Int32) then j2 else q_ci (pX12_harmWith σ (0 : Int32) a1) (fun (τ : SS) => τ) (fun (r11 : Int32) (σ10 : SS) => q_lp (fun _ _ _ _ => none) (fun (c16 : SS → Int32 → Int32 → Int32 → Option (Int32 × SS)) (σ15 : SS) (x4_12 : Int32) (x5_13 : Int32) (x6_14 : Int32) => (if (16 : Int32) ≤ x6_14 then q_lt (fun (y20 : Int32) => some (y20, σ15)) (fun j21 => (if a3 = (0 : Int32) then j21 x4_12 else j21 x5_13)) else q_rd (σ15 1) 307 (19 : Int32) (fun (v23 : Int32) => q_lt (fun (σ26 : SS) (x4_24 : Int32) (x5_25 : Int32) => c16 σ26 x4_24 x5_25 (x6_14 + (1 : Int32))) (fun j27 => (if (x6_14 &&& v23) = (0 : Int32) then q_cr (pX12_costOf σ15 x6_14) (fun (r29 : Int32) => (if r29 ≤ a2 then q_ci (pX12_harmWith σ15 x6_14 a1) (fun (τ : SS) => τ) (fun (r32 : Int32) (σ31 : SS) => q_lt (j27 σ31 x6_14 r32) (fun j33 => (if r32 < x5_13 then j33 else (if r32 = x5_13 then q_cr (pX12_costOf σ31 x6_14) (fun (r36 : Int32) => q_cr (pX12_costOf σ31 x4_12) (fun (r37 : Int32) => (if r37 ≤ r36 then j27 σ31 x4_12 x5_13 else j33))) else j27 σ31 x4_12 x5_13)))) else j27 σ15 x4_12 x5_13)) else j27 σ15 x4_12 x5_13))))) q_fu σ10 (0 : Int32) r11 (1 : Int32)))))))))
theorem fwX12_worth_X12 : ∀ w ∈ wsX120, w ∈ wsX12_worth := fun _ h => List.mem_cons_of_mem _ (List.mem_append_right _ h)
abbrev rmX12_worth : Room := { frames := 8, cells := 0, slots := 0, locals := 181 }
set_option maxHeartbeats 4000000 in
set_option maxRecDepth 100000 in
theorem kX12_worth (l : Launch) (D : va_G) (cI cZ cS : ClassId) (zz : ZT) (ad : Nat → Nat) (σ : SS) (a1 : Int32) (a2 : Int32) (a3 : Int32) (rr : Int32) (σr : SS) (hf : pX12_worth σ a1 a2 a3 = some (rr, σr)) : CI l yX12_worth wsX12_worth rmX12_worth D (K3 cI cZ cS) zz [.ref (ad 0), .int a1, .int a2, .int a3] (wX12 cI cZ cS ad σ) (wX12 cI cZ cS ad σr) rr := by
  refine q_ofI (cc := cX12_worth) (maxL := 8) (ty := .int) (by decide) rfl (Nat.le_of_ble_eq_true rfl) ?_
  intro p e s m below meth c Q A ls hx hb hml hown hts hK hZ hA hP hD hS hl hret
  have hl : lv_has ls 8 [(0, .ref (ad 0)), (1, .int a1), (2, .int a2), (3, .int a3)] := hl
  unfold pX12_worth at hf
  refine lv_aload_n hx hb dX12_worth_0 rfl (lv_at hl 0 rfl) ?_
  refine lv_iload_n hx hb dX12_worth_1 rfl (lv_at hl 1 rfl) ?_
  refine q_cVr (wf := (wX12 cI cZ cS ad)) (wc := wX12 cI cZ cS ad) (rest := []) ⟨hx, hb, hml, hown, hts⟩ hK hZ hA hP hD hS hf (fun x ho => kX12_isSky l D cI cZ cS zz ad σ a1 x ho) (cwV 1 hts gX12_worth_X12_isSky rfl rfl rfl ndX12_isSky ⟨Nat.le_of_ble_eq_true rfl, Nat.le_of_ble_eq_true rfl⟩) [0, 1, 2, 3, 4, 5, 6, 7, 8, 9, 10, 11] rfl rfl rfl rfl rfl rfl (hl.1) rfl (Nat.le_of_ble_eq_true rfl) dX12_worth_2 ⟨Nat.zero_le _, Nat.zero_le _⟩ (fun r1 H locs hf hP hD hS => ?_)
  refine q_lt_go hf (fun j2 ej2 hf => ?_)
  have Jj2 : ∀ (H : Heap) (locs : List Loc) (ls : Array Slot), va_P D vwCl ((wX12 cI cZ cS ad) σ) H → va_D A ((wX12 cI cZ cS ad) σ) → va_S A s.heap H locs → lv_has ls 8 [(0, .ref (ad 0))] → j2 = some (rr, σr) → W p l e rmX12_worth s m ([.ref (ad 0), .int a1, .int a2, .int a3] : List Value).toArray below meth c H locs 0 0 Q (F0 m 28 ls []) := by
    intro  H locs ls hP hD hS hl hf
    have hf := ej2.symm.trans hf
    refine lv_aload_n hx hb dX12_worth_28 rfl (lv_at hl 0 rfl) ?_
    refine lv_iconst (v := 0) hx hb dX12_worth_29 (by decide) ?_
    refine q_cVi (wf := (wX12 cI cZ cS ad)) (wc := wX12 cI cZ cS ad) (rest := []) ⟨hx, hb, hml, hown, hts⟩ hK hZ hA hP hD hS hf (fun x τ ho => kX12_finding l D cI cZ cS zz ad σ (0 : Int32) x τ ho) (cwV 1 hts gX12_worth_X12_finding rfl rfl rfl ndX12_finding ⟨Nat.le_of_ble_eq_true rfl, Nat.le_of_ble_eq_true rfl⟩) [0, 1, 2, 3, 4, 5, 6, 7, 8, 9, 10, 11] rfl rfl [some 0, some 1, some 2, some 3, some 4, some 5, some 6, some 7, some 8, some 9, some 10, some 11] (by decide +kernel) (Nat.le_of_ble_eq_true rfl) (fun _ => rfl) (fun _ => rfl) (fun _ => rfl) rfl rfl rfl rfl (hl.1) rfl (Nat.le_of_ble_eq_true rfl) dX12_worth_30 ⟨Nat.zero_le _, Nat.zero_le _⟩ (fun r4 σ3 H locs hf hP hD hS => ?_)
    obtain ⟨hi1, hi2⟩ := Prod.mk.inj (Option.some.inj hf)
    subst hi1
    subst hi2
    exact hret _ _ _ _ dX12_worth_33 rfl hP hS
  refine lv_if_eq (tgt := 28) hx hb dX12_worth_5 (by decide) (fun h5 => ?_) (fun h5 => ?_)
  · have hf := (if_pos h5).symm.trans hf
    exact Jj2  _ _ _ hP hD hS (lv_sub hl [0] rfl) hf
  · have hf := (if_neg h5).symm.trans hf
    refine lv_iload_n hx hb dX12_worth_8 rfl (lv_at hl 2 rfl) ?_
    refine lv_iconst (v := 0) hx hb dX12_worth_9 (by decide) ?_
    refine lv_sipush (v := 9999) hx hb dX12_worth_10 (by decide) ?_
    refine q_cSr (wf := (wX12 cI cZ cS ad)) (rest := []) ⟨hx, hb, hml, hown, hts⟩ hK hZ hA hP hD hS hf (fun x ho => kX12_in l D cI cZ cS zz a2 (0 : Int32) (9999 : Int32) x ho) (va_cwS 3 hts gX12_worth_X12_in rfl rfl rfl ndX12_in.2 ⟨Nat.le_of_ble_eq_true rfl, Nat.le_of_ble_eq_true rfl⟩) rfl (hl.1) rfl (Nat.le_of_ble_eq_true rfl) dX12_worth_13 ⟨Nat.zero_le _, Nat.zero_le _⟩ (fun r6 H locs hf hP hD hS => ?_)
    refine lv_if_eq (tgt := 28) hx hb dX12_worth_16 (by decide) (fun h7 => ?_) (fun h7 => ?_)
    · have hf := (if_pos h7).symm.trans hf
      exact Jj2  _ _ _ hP hD hS (lv_sub hl [0] rfl) hf
    · have hf := (if_neg h7).symm.trans hf
      refine lv_iload_n hx hb dX12_worth_19 rfl (lv_at hl 3 rfl) ?_
      refine lv_iconst (v := 0) hx hb dX12_worth_20 (by decide) ?_
      refine lv_iconst (v := 1) hx hb dX12_worth_21 (by decide) ?_
      refine q_cSr (wf := (wX12 cI cZ cS ad)) (rest := []) ⟨hx, hb, hml, hown, hts⟩ hK hZ hA hP hD hS hf (fun x ho => kX12_in l D cI cZ cS zz a3 (0 : Int32) (1 : Int32) x ho) (va_cwS 3 hts gX12_worth_X12_in rfl rfl rfl ndX12_in.2 ⟨Nat.le_of_ble_eq_true rfl, Nat.le_of_ble_eq_true rfl⟩) rfl (hl.1) rfl (Nat.le_of_ble_eq_true rfl) dX12_worth_22 ⟨Nat.zero_le _, Nat.zero_le _⟩ (fun r8 H locs hf hP hD hS => ?_)
      refine lv_if_ne (tgt := 34) hx hb dX12_worth_25 (by decide) (fun h9 => ?_) (fun h9 => ?_)
      · have hf := (if_neg h9).symm.trans hf
        refine lv_iconst (v := 0) hx hb dX12_worth_34 (by decide) ?_
        refine lv_istore (lv' := [(4, .int (0 : Int32)), (0, .ref (ad 0)), (1, .int a1), (2, .int a2), (3, .int a3)]) hx hb dX12_worth_35 hl (by decide) rfl (fun ls hl => ?_)
        refine lv_aload_n hx hb dX12_worth_37 rfl (lv_at hl 1 rfl) ?_
        refine lv_iconst (v := 0) hx hb dX12_worth_38 (by decide) ?_
        refine lv_iload_n hx hb dX12_worth_39 rfl (lv_at hl 2 rfl) ?_
        refine q_cVi (wf := (wX12 cI cZ cS ad)) (wc := wX12 cI cZ cS ad) (rest := []) ⟨hx, hb, hml, hown, hts⟩ hK hZ hA hP hD hS hf (fun x τ ho => kX12_harmWith l D cI cZ cS zz ad σ (0 : Int32) a1 x τ ho) (cwV 2 hts gX12_worth_X12_harmWith rfl rfl rfl ndX12_harmWith ⟨Nat.le_of_ble_eq_true rfl, Nat.le_of_ble_eq_true rfl⟩) [0, 1, 2, 3, 4, 5, 6, 7, 8, 9, 10, 11] rfl rfl [some 0, some 1, some 2, some 3, some 4, some 5, some 6, some 7, some 8, some 9, some 10, some 11] (by decide +kernel) (Nat.le_of_ble_eq_true rfl) (fun _ => rfl) (fun _ => rfl) (fun _ => rfl) rfl rfl rfl rfl (hl.1) rfl (Nat.le_of_ble_eq_true rfl) dX12_worth_40 ⟨Nat.zero_le _, Nat.zero_le _⟩ (fun r11 σ10 H locs hf hP hD hS => ?_)
        refine lv_istore (lv' := [(5, .int r11), (4, .int (0 : Int32)), (0, .ref (ad 0)), (1, .int a1), (2, .int a2), (3, .int a3)]) hx hb dX12_worth_43 hl (by decide) rfl (fun ls hl => ?_)
        refine lv_iconst (v := 1) hx hb dX12_worth_45 (by decide) ?_
        refine lv_istore (lv' := [(6, .int (1 : Int32)), (5, .int r11), (4, .int (0 : Int32)), (0, .ref (ad 0)), (1, .int a1), (2, .int a2), (3, .int a3)]) hx hb dX12_worth_46 hl (by decide) rfl (fun ls hl => ?_)
        refine q_lp_go (f := fun (zf : SS → Int32 → Int32 → Int32 → Option (Int32 × SS)) => zf σ10 (0 : Int32) r11 (1 : Int32)) hf (fun z17 ez17 hf => ?_)
        have Lz17 : ∀ (n18 : Nat) (σ15 : SS) (x4_12 : Int32) (x5_13 : Int32) (x6_14 : Int32) (H : Heap) (locs : List Loc) (ls : Array Slot), va_P D vwCl ((wX12 cI cZ cS ad) σ15) H → va_D A ((wX12 cI cZ cS ad) σ15) → va_S A s.heap H locs → lv_has ls 8 [(0, .ref (ad 0)), (1, .int a1), (2, .int a2), (3, .int a3), (4, .int x4_12), (5, .int x5_13), (6, .int x6_14)] → q_lp (fun _ _ _ _ => none) z17 n18 σ15 x4_12 x5_13 x6_14 = some (rr, σr) → W p l e rmX12_worth s m ([.ref (ad 0), .int a1, .int a2, .int a3] : List Value).toArray below meth c H locs 0 0 Q (F0 m 48 ls []) := by
          intro n18
          induction n18 with
          | zero => exact fun _ _ _ _ _ _ _ _ _ _ _ hf => q_no hf
          | succ n18 ihz17 =>
            intro σ15 x4_12 x5_13 x6_14 H locs ls hP hD hS hl hf
            have hf := (congrFun (congrFun (congrFun (congrFun (congrFun ez17 (q_lp (fun _ _ _ _ => none) z17 n18)) σ15) x4_12) x5_13) x6_14).symm.trans hf
            refine lv_iload hx hb dX12_worth_48 (lv_at hl 6 rfl) ?_
            refine lv_bipush (v := 16) hx hb dX12_worth_50 (by decide) ?_
            refine lv_icmp_ge (tgt := 133) hx hb dX12_worth_52 (by decide) (fun h19 => ?_) (fun h19 => ?_)
            · have hf := (if_pos h19).symm.trans hf
              refine lv_iload_n hx hb dX12_worth_133 rfl (lv_at hl 3 rfl) ?_
              refine q_lt_go hf (fun j21 ej21 hf => ?_)
              have Jj21 : ∀ (y20 : Int32) (H : Heap) (locs : List Loc) (ls : Array Slot), va_P D vwCl ((wX12 cI cZ cS ad) σ15) H → va_D A ((wX12 cI cZ cS ad) σ15) → va_S A s.heap H locs → lv_has ls 8 [] → j21 y20 = some (rr, σr) → W p l e rmX12_worth s m ([.ref (ad 0), .int a1, .int a2, .int a3] : List Value).toArray below meth c H locs 0 0 Q (F0 m 144 ls [.int y20]) := by
                intro y20 H locs ls hP hD hS hl hf
                have hf := (congrFun ej21 y20).symm.trans hf
                obtain ⟨hi1, hi2⟩ := Prod.mk.inj (Option.some.inj hf)
                subst hi1
                subst hi2
                exact hret _ _ _ _ dX12_worth_144 rfl hP hS
              refine lv_if_ne (tgt := 142) hx hb dX12_worth_134 (by decide) (fun h22 => ?_) (fun h22 => ?_)
              · have hf := (if_neg h22).symm.trans hf
                refine lv_iload hx hb dX12_worth_142 (lv_at hl 5 rfl) ?_
                exact Jj21 x5_13 _ _ _ hP hD hS (lv_sub hl [] rfl) hf
              · have hf := (if_pos h22).symm.trans hf
                refine lv_iload hx hb dX12_worth_137 (lv_at hl 4 rfl) ?_
                refine lv_goto (tgt := 144) hx hb dX12_worth_139 (by decide) ?_
                exact Jj21 x4_12 _ _ _ hP hD hS (lv_sub hl [] rfl) hf
            · have hf := (if_neg h19).symm.trans hf
              refine lv_iload hx hb dX12_worth_55 (lv_at hl 6 rfl) ?_
              refine lv_aload_n hx hb dX12_worth_57 rfl (lv_at hl 0 rfl) ?_
              refine va_get (D := D) (ci := 12) (C := RX12) (T := TX12) (N := 19) hx hb hts fwX12_worth_X12 hown hK hP 0 rfl rfl 0 (by decide) (hts _ (List.mem_of_getElem? (i := 1) rfl)) (fun _ h9 => h9) rfl dX12_worth_58 ?_
              refine lv_bipush (v := 19) hx hb dX12_worth_61 (by decide) ?_
              refine w_iald (wf := (wX12 cI cZ cS ad)) hx hb hK hP 1 0 rfl rfl hf dX12_worth_63 (fun v23 hf => ?_)
              refine lv_iand hx hb dX12_worth_64 ?_
              refine q_lt_go hf (fun j27 ej27 hf => ?_)
              have Jj27 : ∀ (σ26 : SS) (x4_24 : Int32) (x5_25 : Int32) (H : Heap) (locs : List Loc) (ls : Array Slot), va_P D vwCl ((wX12 cI cZ cS ad) σ26) H → va_D A ((wX12 cI cZ cS ad) σ26) → va_S A s.heap H locs → lv_has ls 8 [(0, .ref (ad 0)), (1, .int a1), (2, .int a2), (3, .int a3), (4, .int x4_24), (5, .int x5_25), (6, .int x6_14)] → j27 σ26 x4_24 x5_25 = some (rr, σr) → W p l e rmX12_worth s m ([.ref (ad 0), .int a1, .int a2, .int a3] : List Value).toArray below meth c H locs 0 0 Q (F0 m 127 ls []) := by
                intro σ26 x4_24 x5_25 H locs ls hP hD hS hl hf
                have hf := (congrFun (congrFun (congrFun ej27 σ26) x4_24) x5_25).symm.trans hf
                refine lv_iinc (v := (x6_14 + (1 : Int32))) (lv' := [(6, .int (x6_14 + (1 : Int32))), (0, .ref (ad 0)), (1, .int a1), (2, .int a2), (3, .int a3), (4, .int x4_24), (5, .int x5_25)]) hx hb dX12_worth_127 hl (k := 6) rfl rfl (by decide) rfl (fun ls hl => ?_)
                refine lv_goto (tgt := 48) hx hb dX12_worth_130 (by decide) ?_
                exact ihz17 σ26 x4_24 x5_25 (x6_14 + (1 : Int32)) _ _ _ hP hD hS (lv_sub hl [1, 2, 3, 4, 5, 6, 0] rfl) hf
              refine lv_if_ne (tgt := 127) hx hb dX12_worth_65 (by decide) (fun h28 => ?_) (fun h28 => ?_)
              · have hf := (if_neg h28).symm.trans hf
                exact Jj27 σ15 x4_12 x5_13 _ _ _ hP hD hS (lv_sub hl [0, 1, 2, 3, 4, 5, 6] rfl) hf
              · have hf := (if_pos h28).symm.trans hf
                refine lv_aload_n hx hb dX12_worth_68 rfl (lv_at hl 0 rfl) ?_
                refine lv_iload hx hb dX12_worth_69 (lv_at hl 6 rfl) ?_
                refine q_cVr (wf := (wX12 cI cZ cS ad)) (wc := wX12 cI cZ cS ad) (rest := []) ⟨hx, hb, hml, hown, hts⟩ hK hZ hA hP hD hS hf (fun x ho => kX12_costOf l D cI cZ cS zz ad σ15 x6_14 x ho) (cwV 1 hts gX12_worth_X12_costOf rfl rfl rfl ndX12_costOf ⟨Nat.le_of_ble_eq_true rfl, Nat.le_of_ble_eq_true rfl⟩) [0, 1, 2, 3, 4, 5, 6, 7, 8, 9, 10, 11] rfl rfl rfl rfl rfl rfl (hl.1) rfl (Nat.le_of_ble_eq_true rfl) dX12_worth_71 ⟨Nat.zero_le _, Nat.zero_le _⟩ (fun r29 H locs hf hP hD hS => ?_)
                refine lv_iload_n hx hb dX12_worth_74 rfl (lv_at hl 2 rfl) ?_
                refine lv_icmp_le (tgt := 81) hx hb dX12_worth_75 (by decide) (fun h30 => ?_) (fun h30 => ?_)
                · have hf := (if_pos h30).symm.trans hf
                  refine lv_aload_n hx hb dX12_worth_81 rfl (lv_at hl 0 rfl) ?_
                  refine lv_iload hx hb dX12_worth_82 (lv_at hl 6 rfl) ?_
                  refine lv_iload_n hx hb dX12_worth_84 rfl (lv_at hl 1 rfl) ?_
                  refine q_cVi (wf := (wX12 cI cZ cS ad)) (wc := wX12 cI cZ cS ad) (rest := []) ⟨hx, hb, hml, hown, hts⟩ hK hZ hA hP hD hS hf (fun x τ ho => kX12_harmWith l D cI cZ cS zz ad σ15 x6_14 a1 x τ ho) (cwV 2 hts gX12_worth_X12_harmWith rfl rfl rfl ndX12_harmWith ⟨Nat.le_of_ble_eq_true rfl, Nat.le_of_ble_eq_true rfl⟩) [0, 1, 2, 3, 4, 5, 6, 7, 8, 9, 10, 11] rfl rfl [some 0, some 1, some 2, some 3, some 4, some 5, some 6, some 7, some 8, some 9, some 10, some 11] (by decide +kernel) (Nat.le_of_ble_eq_true rfl) (fun _ => rfl) (fun _ => rfl) (fun _ => rfl) rfl rfl rfl rfl (hl.1) rfl (Nat.le_of_ble_eq_true rfl) dX12_worth_85 ⟨Nat.zero_le _, Nat.zero_le _⟩ (fun r32 σ31 H locs hf hP hD hS => ?_)
                  refine lv_istore (lv' := [(7, .int r32), (0, .ref (ad 0)), (1, .int a1), (2, .int a2), (3, .int a3), (4, .int x4_12), (5, .int x5_13), (6, .int x6_14)]) hx hb dX12_worth_88 hl (by decide) rfl (fun ls hl => ?_)
                  refine lv_iload hx hb dX12_worth_90 (lv_at hl 0 rfl) ?_
                  refine lv_iload hx hb dX12_worth_92 (lv_at hl 6 rfl) ?_
                  refine q_lt_go hf (fun j33 ej33 hf => ?_)
                  have Jj33 : ∀ (H : Heap) (locs : List Loc) (ls : Array Slot), va_P D vwCl ((wX12 cI cZ cS ad) σ31) H → va_D A ((wX12 cI cZ cS ad) σ31) → va_S A s.heap H locs → lv_has ls 8 [(0, .ref (ad 0)), (1, .int a1), (2, .int a2), (3, .int a3), (6, .int x6_14), (7, .int r32)] → j33 = some (rr, σr) → W p l e rmX12_worth s m ([.ref (ad 0), .int a1, .int a2, .int a3] : List Value).toArray below meth c H locs 0 0 Q (F0 m 119 ls []) := by
                    intro  H locs ls hP hD hS hl hf
                    have hf := ej33.symm.trans hf
                    refine lv_iload hx hb dX12_worth_119 (lv_at hl 4 rfl) ?_
                    refine lv_istore (lv' := [(4, .int x6_14), (0, .ref (ad 0)), (1, .int a1), (2, .int a2), (3, .int a3), (6, .int x6_14), (7, .int r32)]) hx hb dX12_worth_121 hl (by decide) rfl (fun ls hl => ?_)
                    refine lv_iload hx hb dX12_worth_123 (lv_at hl 6 rfl) ?_
                    refine lv_istore (lv' := [(5, .int r32), (4, .int x6_14), (0, .ref (ad 0)), (1, .int a1), (2, .int a2), (3, .int a3), (6, .int x6_14), (7, .int r32)]) hx hb dX12_worth_125 hl (by decide) rfl (fun ls hl => ?_)
                    exact Jj27 σ31 x6_14 r32 _ _ _ hP hD hS (lv_sub hl [2, 3, 4, 5, 1, 0, 6] rfl) hf
                  refine lv_icmp_lt (tgt := 119) hx hb dX12_worth_94 (by decide) (fun h34 => ?_) (fun h34 => ?_)
                  · have hf := (if_pos h34).symm.trans hf
                    exact Jj33  _ _ _ hP hD hS (lv_sub hl [1, 2, 3, 4, 7, 0] rfl) hf
                  · have hf := (if_neg h34).symm.trans hf
                    refine lv_iload hx hb dX12_worth_97 (lv_at hl 0 rfl) ?_
                    refine lv_iload hx hb dX12_worth_99 (lv_at hl 6 rfl) ?_
                    refine lv_icmp_ne (tgt := 127) hx hb dX12_worth_101 (by decide) (fun h35 => ?_) (fun h35 => ?_)
                    · have hf := (if_neg h35).symm.trans hf
                      exact Jj27 σ31 x4_12 x5_13 _ _ _ hP hD hS (lv_sub hl [1, 2, 3, 4, 5, 6, 7] rfl) hf
                    · have hf := (if_pos h35).symm.trans hf
                      refine lv_aload_n hx hb dX12_worth_104 rfl (lv_at hl 1 rfl) ?_
                      refine lv_iload hx hb dX12_worth_105 (lv_at hl 7 rfl) ?_
                      refine q_cVr (wf := (wX12 cI cZ cS ad)) (wc := wX12 cI cZ cS ad) (rest := []) ⟨hx, hb, hml, hown, hts⟩ hK hZ hA hP hD hS hf (fun x ho => kX12_costOf l D cI cZ cS zz ad σ31 x6_14 x ho) (cwV 1 hts gX12_worth_X12_costOf rfl rfl rfl ndX12_costOf ⟨Nat.le_of_ble_eq_true rfl, Nat.le_of_ble_eq_true rfl⟩) [0, 1, 2, 3, 4, 5, 6, 7, 8, 9, 10, 11] rfl rfl rfl rfl rfl rfl (hl.1) rfl (Nat.le_of_ble_eq_true rfl) dX12_worth_107 ⟨Nat.zero_le _, Nat.zero_le _⟩ (fun r36 H locs hf hP hD hS => ?_)
                      refine lv_aload_n hx hb dX12_worth_110 rfl (lv_at hl 1 rfl) ?_
                      refine lv_iload hx hb dX12_worth_111 (lv_at hl 5 rfl) ?_
                      refine q_cVr (wf := (wX12 cI cZ cS ad)) (wc := wX12 cI cZ cS ad) (rest := [.int r36]) ⟨hx, hb, hml, hown, hts⟩ hK hZ hA hP hD hS hf (fun x ho => kX12_costOf l D cI cZ cS zz ad σ31 x4_12 x ho) (cwV 1 hts gX12_worth_X12_costOf rfl rfl rfl ndX12_costOf ⟨Nat.le_of_ble_eq_true rfl, Nat.le_of_ble_eq_true rfl⟩) [0, 1, 2, 3, 4, 5, 6, 7, 8, 9, 10, 11] rfl rfl rfl rfl rfl rfl (hl.1) rfl (Nat.le_of_ble_eq_true rfl) dX12_worth_113 ⟨Nat.zero_le _, Nat.zero_le _⟩ (fun r37 H locs hf hP hD hS => ?_)
                      refine lv_icmp_ge (tgt := 127) hx hb dX12_worth_116 (by decide) (fun h38 => ?_) (fun h38 => ?_)
                      · have hf := (if_pos h38).symm.trans hf
                        exact Jj27 σ31 x4_12 x5_13 _ _ _ hP hD hS (lv_sub hl [1, 2, 3, 4, 5, 6, 7] rfl) hf
                      · have hf := (if_neg h38).symm.trans hf
                        exact Jj33  _ _ _ hP hD hS (lv_sub hl [1, 2, 3, 4, 7, 0] rfl) hf
                · have hf := (if_neg h30).symm.trans hf
                  refine lv_goto (tgt := 127) hx hb dX12_worth_78 (by decide) ?_
                  exact Jj27 σ15 x4_12 x5_13 _ _ _ hP hD hS (lv_sub hl [0, 1, 2, 3, 4, 5, 6] rfl) hf
        exact Lz17 q_fu σ10 (0 : Int32) r11 (1 : Int32) _ _ _ hP hD hS (lv_sub hl [3, 4, 5, 6, 2, 1, 0] rfl) hf
      · have hf := (if_pos h9).symm.trans hf
        exact Jj2  _ _ _ hP hD hS (lv_sub hl [0] rfl) hf
def pX12_findDue (σ : SS) : Option SS := q_cs (pX12_begin σ) (fun (τ : SS) => τ) (fun (σ1 : SS) => q_lp (fun _ _ => none) (fun (c4 : SS → Int32 → Option SS) (σ3 : SS) (x1_2 : Int32) => (if (10 : Int32) ≤ x1_2 then q_lp (fun _ _ => none) (fun (c10 : SS → Int32 → Option SS) (σ9 : SS) (x1_8 : Int32) => (if (400 : Int32) < x1_8 then q_cs (pX12_layBack σ9) (fun (τ : SS) => τ) (fun (σ14 : SS) => some σ14) else q_cs (pX12_goes σ9) (fun (τ : SS) => τ) (fun (σ15 : SS) => q_lp (fun _ _ => none) (fun (c18 : SS → Int32 → Option SS) (σ17 : SS) (x2_16 : Int32) => q_rd (σ17 1) 307 (17 : Int32) (fun (v21 : Int32) => (if v21 ≤ x2_16 then c10 σ17 (x1_8 + (1 : Int32)) else q_rd (σ17 1) 307 (2 : Int32) (fun (v23 : Int32) => q_cr (pX12_thingIts σ17 x2_16 (2 : Int32)) (fun (r24 : Int32) => q_lt (fun (y25 : Int32) => q_wr σ17 7 10 x2_16 y25 (fun (σ27 : SS) => c18 σ27 (x2_16 + (1 : Int32)))) (fun j26 => q_lt (q_rd (σ17 7) 10 x2_16 (fun (v29 : Int32) => j26 v29)) (fun j28 => (if v23 ≤ r24 then j28 else q_rd (σ17 7) 10 x2_16 (fun (v31 : Int32) => (if v31 < x1_8 then j28 else j26 (x1_8 - (1 : Int32)))))))))))) q_fu σ15 (0 : Int32)))) q_fu σ3 (1 : Int32) else q_wr σ3 7 10 x1_2 (9999 : Int32) (fun (σ33 : SS) => c4 σ33 (x1_2 + (1 : Int32))))) q_fu σ1 (0 : Int32))
theorem fwX12_findDue_X12 : ∀ w ∈ wsX120, w ∈ wsX12_findDue := fun _ h => List.mem_cons_of_mem _ (List.mem_append_right _ h)
abbrev rmX12_findDue : Room := { frames := 5, cells := 0, slots := 0, locals := 112 }
set_option maxHeartbeats 4000000 in
set_option maxRecDepth 100000 in
theorem kX12_findDue (l : Launch) (D : va_G) (cI cZ cS : ClassId) (zz : ZT) (ad : Nat → Nat) (σ : SS) (σr : SS) (hf : pX12_findDue σ = some σr) : CV l yX12_findDue wsX12_findDue rmX12_findDue D (K3 cI cZ cS) zz [.ref (ad 0)] (wX12 cI cZ cS ad σ) (wX12 cI cZ cS ad σr) := by
  refine q_ofV (cc := cX12_findDue) (maxL := 3) (by decide) rfl (Nat.le_of_ble_eq_true rfl) ?_
  intro p e s m below meth c Q A ls hx hb hml hown hts hK hZ hA hP hD hS hl hret
  have hl : lv_has ls 3 [(0, .ref (ad 0))] := hl
  unfold pX12_findDue at hf
  refine lv_aload_n hx hb dX12_findDue_0 rfl (lv_at hl 0 rfl) ?_
  refine q_cVv (wf := (wX12 cI cZ cS ad)) (wc := wX12 cI cZ cS ad) (rest := []) ⟨hx, hb, hml, hown, hts⟩ hK hZ hA hP hD hS hf (fun x ho => kX12_begin l D cI cZ cS zz ad σ x ho) (cwV 0 hts gX12_findDue_X12_begin rfl rfl rfl ndX12_begin ⟨Nat.le_of_ble_eq_true rfl, Nat.le_of_ble_eq_true rfl⟩) [0, 1, 2, 3, 4, 5, 6, 7, 8, 9, 10, 11] rfl rfl [some 0, some 1, some 2, some 3, some 4, some 5, some 6, some 7, some 8, some 9, some 10, some 11] (by decide +kernel) (Nat.le_of_ble_eq_true rfl) (fun _ => rfl) (fun _ => rfl) (fun _ => rfl) rfl rfl rfl rfl (hl.1) rfl (Nat.le_of_ble_eq_true rfl) dX12_findDue_1 ⟨Nat.zero_le _, Nat.zero_le _⟩ (fun σ1 H locs hf hP hD hS => ?_)
  refine lv_iconst (v := 0) hx hb dX12_findDue_4 (by decide) ?_
  refine lv_istore_n (lv' := [(1, .int (0 : Int32)), (0, .ref (ad 0))]) hx hb dX12_findDue_5 rfl hl (by decide) rfl (fun ls hl => ?_)
  refine q_lp_go (f := fun (zf : SS → Int32 → Option SS) => zf σ1 (0 : Int32)) hf (fun z5 ez5 hf => ?_)
  have Lz5 : ∀ (n6 : Nat) (σ3 : SS) (x1_2 : Int32) (H : Heap) (locs : List Loc) (ls : Array Slot), va_P D vwCl ((wX12 cI cZ cS ad) σ3) H → va_D A ((wX12 cI cZ cS ad) σ3) → va_S A s.heap H locs → lv_has ls 3 [(0, .ref (ad 0)), (1, .int x1_2)] → q_lp (fun _ _ => none) z5 n6 σ3 x1_2 = some σr → W p l e rmX12_findDue s m ([.ref (ad 0)] : List Value).toArray below meth c H locs 0 0 Q (F0 m 6 ls []) := by
    intro n6
    induction n6 with
    | zero => exact fun _ _ _ _ _ _ _ _ _ hf => q_no hf
    | succ n6 ihz5 =>
      intro σ3 x1_2 H locs ls hP hD hS hl hf
      have hf := (congrFun (congrFun (congrFun ez5 (q_lp (fun _ _ => none) z5 n6)) σ3) x1_2).symm.trans hf
      refine lv_iload_n hx hb dX12_findDue_6 rfl (lv_at hl 1 rfl) ?_
      refine lv_bipush (v := 10) hx hb dX12_findDue_7 (by decide) ?_
      refine lv_icmp_ge (tgt := 27) hx hb dX12_findDue_9 (by decide) (fun h7 => ?_) (fun h7 => ?_)
      · have hf := (if_pos h7).symm.trans hf
        refine lv_iconst (v := 1) hx hb dX12_findDue_27 (by decide) ?_
        refine lv_istore_n (lv' := [(1, .int (1 : Int32)), (0, .ref (ad 0))]) hx hb dX12_findDue_28 rfl hl (by decide) rfl (fun ls hl => ?_)
        refine q_lp_go (f := fun (zf : SS → Int32 → Option SS) => zf σ3 (1 : Int32)) hf (fun z11 ez11 hf => ?_)
        have Lz11 : ∀ (n12 : Nat) (σ9 : SS) (x1_8 : Int32) (H : Heap) (locs : List Loc) (ls : Array Slot), va_P D vwCl ((wX12 cI cZ cS ad) σ9) H → va_D A ((wX12 cI cZ cS ad) σ9) → va_S A s.heap H locs → lv_has ls 3 [(0, .ref (ad 0)), (1, .int x1_8)] → q_lp (fun _ _ => none) z11 n12 σ9 x1_8 = some σr → W p l e rmX12_findDue s m ([.ref (ad 0)] : List Value).toArray below meth c H locs 0 0 Q (F0 m 29 ls []) := by
          intro n12
          induction n12 with
          | zero => exact fun _ _ _ _ _ _ _ _ _ hf => q_no hf
          | succ n12 ihz11 =>
            intro σ9 x1_8 H locs ls hP hD hS hl hf
            have hf := (congrFun (congrFun (congrFun ez11 (q_lp (fun _ _ => none) z11 n12)) σ9) x1_8).symm.trans hf
            refine lv_iload_n hx hb dX12_findDue_29 rfl (lv_at hl 1 rfl) ?_
            refine lv_sipush (v := 400) hx hb dX12_findDue_30 (by decide) ?_
            refine lv_icmp_gt (tgt := 108) hx hb dX12_findDue_33 (by decide) (fun h13 => ?_) (fun h13 => ?_)
            · have hf := (if_pos h13).symm.trans hf
              refine lv_aload_n hx hb dX12_findDue_108 rfl (lv_at hl 0 rfl) ?_
              refine q_cVv (wf := (wX12 cI cZ cS ad)) (wc := wX12 cI cZ cS ad) (rest := []) ⟨hx, hb, hml, hown, hts⟩ hK hZ hA hP hD hS hf (fun x ho => kX12_layBack l D cI cZ cS zz ad σ9 x ho) (cwV 0 hts gX12_findDue_X12_layBack rfl rfl rfl ndX12_layBack ⟨Nat.le_of_ble_eq_true rfl, Nat.le_of_ble_eq_true rfl⟩) [0, 1, 2, 3, 4, 5, 6, 7, 8, 9, 10, 11] rfl rfl [some 0, some 1, some 2, some 3, some 4, some 5, some 6, some 7, some 8, some 9, some 10, some 11] (by decide +kernel) (Nat.le_of_ble_eq_true rfl) (fun _ => rfl) (fun _ => rfl) (fun _ => rfl) rfl rfl rfl rfl (hl.1) rfl (Nat.le_of_ble_eq_true rfl) dX12_findDue_109 ⟨Nat.zero_le _, Nat.zero_le _⟩ (fun σ14 H locs hf hP hD hS => ?_)
              have hi1 := Option.some.inj hf
              subst hi1
              exact hret _ _ _ _ dX12_findDue_112 hP hS
            · have hf := (if_neg h13).symm.trans hf
              refine lv_aload_n hx hb dX12_findDue_36 rfl (lv_at hl 0 rfl) ?_
              refine q_cVv (wf := (wX12 cI cZ cS ad)) (wc := wX12 cI cZ cS ad) (rest := []) ⟨hx, hb, hml, hown, hts⟩ hK hZ hA hP hD hS hf (fun x ho => kX12_goes l D cI cZ cS zz ad σ9 x ho) (cwV 0 hts gX12_findDue_X12_goes rfl rfl rfl ndX12_goes ⟨Nat.le_of_ble_eq_true rfl, Nat.le_of_ble_eq_true rfl⟩) [0, 1, 2, 3, 4, 5, 6, 7, 8, 9, 10, 11] rfl rfl [some 0, some 1, some 2, some 3, some 4, some 5, some 6, some 7, some 8, some 9, some 10, some 11] (by decide +kernel) (Nat.le_of_ble_eq_true rfl) (fun _ => rfl) (fun _ => rfl) (fun _ => rfl) rfl rfl rfl rfl (hl.1) rfl (Nat.le_of_ble_eq_true rfl) dX12_findDue_37 ⟨Nat.zero_le _, Nat.zero_le _⟩ (fun σ15 H locs hf hP hD hS => ?_)
              refine lv_iconst (v := 0) hx hb dX12_findDue_40 (by decide) ?_
              refine lv_istore_n (lv' := [(2, .int (0 : Int32)), (0, .ref (ad 0)), (1, .int x1_8)]) hx hb dX12_findDue_41 rfl hl (by decide) rfl (fun ls hl => ?_)
              refine q_lp_go (f := fun (zf : SS → Int32 → Option SS) => zf σ15 (0 : Int32)) hf (fun z19 ez19 hf => ?_)
              have Lz19 : ∀ (n20 : Nat) (σ17 : SS) (x2_16 : Int32) (H : Heap) (locs : List Loc) (ls : Array Slot), va_P D vwCl ((wX12 cI cZ cS ad) σ17) H → va_D A ((wX12 cI cZ cS ad) σ17) → va_S A s.heap H locs → lv_has ls 3 [(0, .ref (ad 0)), (1, .int x1_8), (2, .int x2_16)] → q_lp (fun _ _ => none) z19 n20 σ17 x2_16 = some σr → W p l e rmX12_findDue s m ([.ref (ad 0)] : List Value).toArray below meth c H locs 0 0 Q (F0 m 42 ls []) := by
                intro n20
                induction n20 with
                | zero => exact fun _ _ _ _ _ _ _ _ _ hf => q_no hf
                | succ n20 ihz19 =>
                  intro σ17 x2_16 H locs ls hP hD hS hl hf
                  have hf := (congrFun (congrFun (congrFun ez19 (q_lp (fun _ _ => none) z19 n20)) σ17) x2_16).symm.trans hf
                  refine lv_iload_n hx hb dX12_findDue_42 rfl (lv_at hl 2 rfl) ?_
                  refine lv_aload_n hx hb dX12_findDue_43 rfl (lv_at hl 0 rfl) ?_
                  refine va_get (D := D) (ci := 12) (C := RX12) (T := TX12) (N := 19) hx hb hts fwX12_findDue_X12 hown hK hP 0 rfl rfl 0 (by decide) (hts _ (List.mem_of_getElem? (i := 2) rfl)) (fun _ h9 => h9) rfl dX12_findDue_44 ?_
                  refine lv_bipush (v := 17) hx hb dX12_findDue_47 (by decide) ?_
                  refine w_iald (wf := (wX12 cI cZ cS ad)) hx hb hK hP 1 0 rfl rfl hf dX12_findDue_49 (fun v21 hf => ?_)
                  refine lv_icmp_ge (tgt := 102) hx hb dX12_findDue_50 (by decide) (fun h22 => ?_) (fun h22 => ?_)
                  · have hf := (if_pos h22).symm.trans hf
                    refine lv_iinc (v := (x1_8 + (1 : Int32))) (lv' := [(1, .int (x1_8 + (1 : Int32))), (0, .ref (ad 0)), (2, .int x2_16)]) hx hb dX12_findDue_102 hl (k := 1) rfl rfl (by decide) rfl (fun ls hl => ?_)
                    refine lv_goto (tgt := 29) hx hb dX12_findDue_105 (by decide) ?_
                    exact ihz11 σ17 (x1_8 + (1 : Int32)) _ _ _ hP hD hS (lv_sub hl [1, 0] rfl) hf
                  · have hf := (if_neg h22).symm.trans hf
                    refine lv_aload_n hx hb dX12_findDue_53 rfl (lv_at hl 0 rfl) ?_
                    refine va_get (D := D) (ci := 12) (C := RX12) (T := TX12) (N := 19) hx hb hts fwX12_findDue_X12 hown hK hP 0 rfl rfl 14 (by decide) (hts _ (List.mem_of_getElem? (i := 1) rfl)) (fun _ h9 => h9) rfl dX12_findDue_54 ?_
                    refine lv_iload_n hx hb dX12_findDue_57 rfl (lv_at hl 2 rfl) ?_
                    refine lv_aload_n hx hb dX12_findDue_58 rfl (lv_at hl 0 rfl) ?_
                    refine va_get (D := D) (ci := 12) (C := RX12) (T := TX12) (N := 19) hx hb hts fwX12_findDue_X12 hown hK hP 0 rfl rfl 0 (by decide) (hts _ (List.mem_of_getElem? (i := 2) rfl)) (fun _ h9 => h9) rfl dX12_findDue_59 ?_
                    refine lv_iconst (v := 2) hx hb dX12_findDue_62 (by decide) ?_
                    refine w_iald (wf := (wX12 cI cZ cS ad)) hx hb hK hP 1 0 rfl rfl hf dX12_findDue_63 (fun v23 hf => ?_)
                    refine lv_aload_n hx hb dX12_findDue_64 rfl (lv_at hl 0 rfl) ?_
                    refine lv_iload_n hx hb dX12_findDue_65 rfl (lv_at hl 2 rfl) ?_
                    refine lv_iconst (v := 2) hx hb dX12_findDue_66 (by decide) ?_
                    refine q_cVr (wf := (wX12 cI cZ cS ad)) (wc := wX12 cI cZ cS ad) (rest := [.int v23, .int x2_16, .ref (ad 7)]) ⟨hx, hb, hml, hown, hts⟩ hK hZ hA hP hD hS hf (fun x ho => kX12_thingIts l D cI cZ cS zz ad σ17 x2_16 (2 : Int32) x ho) (cwV 2 hts gX12_findDue_X12_thingIts rfl rfl rfl ndX12_thingIts ⟨Nat.le_of_ble_eq_true rfl, Nat.le_of_ble_eq_true rfl⟩) [0, 1, 2, 3, 4, 5, 6, 7, 8, 9, 10, 11] rfl rfl rfl rfl rfl rfl (hl.1) rfl (Nat.le_of_ble_eq_true rfl) dX12_findDue_67 ⟨Nat.zero_le _, Nat.zero_le _⟩ (fun r24 H locs hf hP hD hS => ?_)
                    refine q_lt_go hf (fun j26 ej26 hf => ?_)
                    have Jj26 : ∀ (y25 : Int32) (H : Heap) (locs : List Loc) (ls : Array Slot), va_P D vwCl ((wX12 cI cZ cS ad) σ17) H → va_D A ((wX12 cI cZ cS ad) σ17) → va_S A s.heap H locs → lv_has ls 3 [(0, .ref (ad 0)), (1, .int x1_8), (2, .int x2_16)] → j26 y25 = some σr → W p l e rmX12_findDue s m ([.ref (ad 0)] : List Value).toArray below meth c H locs 0 0 Q (F0 m 95 ls [.int y25, .int x2_16, .ref (ad 7)]) := by
                      intro y25 H locs ls hP hD hS hl hf
                      have hf := (congrFun ej26 y25).symm.trans hf
                      refine w_iast (wf := (wX12 cI cZ cS ad)) (cid := 7) hx hb hK hP hD hS 7 0 rfl rfl hf (fun _ => rfl) dX12_findDue_95 (fun σ27 H locs hf hP hD hS => ?_)
                      refine lv_iinc (v := (x2_16 + (1 : Int32))) (lv' := [(2, .int (x2_16 + (1 : Int32))), (0, .ref (ad 0)), (1, .int x1_8)]) hx hb dX12_findDue_96 hl (k := 2) rfl rfl (by decide) rfl (fun ls hl => ?_)
                      refine lv_goto (tgt := 42) hx hb dX12_findDue_99 (by decide) ?_
                      exact ihz19 σ27 (x2_16 + (1 : Int32)) _ _ _ hP hD hS (lv_sub hl [1, 2, 0] rfl) hf
                    refine q_lt_go hf (fun j28 ej28 hf => ?_)
                    have Jj28 : ∀ (H : Heap) (locs : List Loc) (ls : Array Slot), va_P D vwCl ((wX12 cI cZ cS ad) σ17) H → va_D A ((wX12 cI cZ cS ad) σ17) → va_S A s.heap H locs → lv_has ls 3 [(0, .ref (ad 0)), (1, .int x1_8), (2, .int x2_16)] → j28 = some σr → W p l e rmX12_findDue s m ([.ref (ad 0)] : List Value).toArray below meth c H locs 0 0 Q (F0 m 89 ls [.int x2_16, .ref (ad 7)]) := by
                      intro  H locs ls hP hD hS hl hf
                      have hf := ej28.symm.trans hf
                      refine lv_aload_n hx hb dX12_findDue_89 rfl (lv_at hl 0 rfl) ?_
                      refine va_get (D := D) (ci := 12) (C := RX12) (T := TX12) (N := 19) hx hb hts fwX12_findDue_X12 hown hK hP 0 rfl rfl 14 (by decide) (hts _ (List.mem_of_getElem? (i := 1) rfl)) (fun _ h9 => h9) rfl dX12_findDue_90 ?_
                      refine lv_iload_n hx hb dX12_findDue_93 rfl (lv_at hl 2 rfl) ?_
                      refine w_iald (wf := (wX12 cI cZ cS ad)) hx hb hK hP 7 0 rfl rfl hf dX12_findDue_94 (fun v29 hf => ?_)
                      exact Jj26 v29 _ _ _ hP hD hS (lv_sub hl [0, 1, 2] rfl) hf
                    refine lv_icmp_le (tgt := 89) hx hb dX12_findDue_70 (by decide) (fun h30 => ?_) (fun h30 => ?_)
                    · have hf := (if_pos h30).symm.trans hf
                      exact Jj28  _ _ _ hP hD hS (lv_sub hl [0, 1, 2] rfl) hf
                    · have hf := (if_neg h30).symm.trans hf
                      refine lv_aload_n hx hb dX12_findDue_73 rfl (lv_at hl 0 rfl) ?_
                      refine va_get (D := D) (ci := 12) (C := RX12) (T := TX12) (N := 19) hx hb hts fwX12_findDue_X12 hown hK hP 0 rfl rfl 14 (by decide) (hts _ (List.mem_of_getElem? (i := 1) rfl)) (fun _ h9 => h9) rfl dX12_findDue_74 ?_
                      refine lv_iload_n hx hb dX12_findDue_77 rfl (lv_at hl 2 rfl) ?_
                      refine w_iald (wf := (wX12 cI cZ cS ad)) hx hb hK hP 7 0 rfl rfl hf dX12_findDue_78 (fun v31 hf => ?_)
                      refine lv_iload_n hx hb dX12_findDue_79 rfl (lv_at hl 1 rfl) ?_
                      refine lv_icmp_lt (tgt := 89) hx hb dX12_findDue_80 (by decide) (fun h32 => ?_) (fun h32 => ?_)
                      · have hf := (if_pos h32).symm.trans hf
                        exact Jj28  _ _ _ hP hD hS (lv_sub hl [0, 1, 2] rfl) hf
                      · have hf := (if_neg h32).symm.trans hf
                        refine lv_iload_n hx hb dX12_findDue_83 rfl (lv_at hl 1 rfl) ?_
                        refine lv_iconst (v := 1) hx hb dX12_findDue_84 (by decide) ?_
                        refine lv_isub hx hb dX12_findDue_85 ?_
                        refine lv_goto (tgt := 95) hx hb dX12_findDue_86 (by decide) ?_
                        exact Jj26 (x1_8 - (1 : Int32)) _ _ _ hP hD hS (lv_sub hl [0, 1, 2] rfl) hf
              exact Lz19 q_fu σ15 (0 : Int32) _ _ _ hP hD hS (lv_sub hl [1, 2, 0] rfl) hf
        exact Lz11 q_fu σ3 (1 : Int32) _ _ _ hP hD hS (lv_sub hl [1, 0] rfl) hf
      · have hf := (if_neg h7).symm.trans hf
        refine lv_aload_n hx hb dX12_findDue_12 rfl (lv_at hl 0 rfl) ?_
        refine va_get (D := D) (ci := 12) (C := RX12) (T := TX12) (N := 19) hx hb hts fwX12_findDue_X12 hown hK hP 0 rfl rfl 14 (by decide) (hts _ (List.mem_of_getElem? (i := 1) rfl)) (fun _ h9 => h9) rfl dX12_findDue_13 ?_
        refine lv_iload_n hx hb dX12_findDue_16 rfl (lv_at hl 1 rfl) ?_
        refine lv_sipush (v := 9999) hx hb dX12_findDue_17 (by decide) ?_
        refine w_iast (wf := (wX12 cI cZ cS ad)) (cid := 7) hx hb hK hP hD hS 7 0 rfl rfl hf (fun _ => rfl) dX12_findDue_20 (fun σ33 H locs hf hP hD hS => ?_)
        refine lv_iinc (v := (x1_2 + (1 : Int32))) (lv' := [(1, .int (x1_2 + (1 : Int32))), (0, .ref (ad 0))]) hx hb dX12_findDue_21 hl (k := 1) rfl rfl (by decide) rfl (fun ls hl => ?_)
        refine lv_goto (tgt := 6) hx hb dX12_findDue_24 (by decide) ?_
        exact ihz5 σ33 (x1_2 + (1 : Int32)) _ _ _ hP hD hS (lv_sub hl [1, 0] rfl) hf
  exact Lz5 q_fu σ1 (0 : Int32) _ _ _ hP hD hS (lv_sub hl [1, 0] rfl) hf
def pX12_canAll (σ : SS) (a1 : Int32) (a2 : Int32) : Option Int32 := q_lp (fun _ _ => none) (fun (c3 : Int32 → Int32 → Option Int32) (x3_1 : Int32) (x4_2 : Int32) => (if x4_2 = (0 : Int32) then q_zz (1 : Int32) (some (1 : Int32)) else q_lp (fun _ _ => none) (fun (c9 : Int32 → Int32 → Option Int32) (x5_7 : Int32) (x6_8 : Int32) => (if (10 : Int32) ≤ x6_8 then q_cr (pX12_thingIts σ x5_7 (1 : Int32)) (fun (r13 : Int32) => q_lt (x3_1 + r13) (fun x3_14 => q_rd (σ 7) 10 x5_7 (fun (v15 : Int32) => (if x3_14 ≤ v15 then q_lt (x4_2 &&& (((1 : Int32) <<< (x5_7 &&& (31 : Int32))) ^^^ (-1 : Int32))) (fun x4_17 => c3 x3_14 x4_17) else q_zz (0 : Int32) (some (0 : Int32)))))) else q_lt (fun (y18 : Int32) => c9 y18 (x6_8 + (1 : Int32))) (fun j19 => q_lt (j19 x5_7) (fun j20 => (if ((x4_2 >>> (x6_8 &&& (31 : Int32))) &&& (1 : Int32)) = (1 : Int32) then q_lt (j19 x6_8) (fun j22 => (if x5_7 < (0 : Int32) then j22 else q_rd (σ 7) 10 x6_8 (fun (v24 : Int32) => q_rd (σ 7) 10 x5_7 (fun (v25 : Int32) => (if v25 ≤ v24 then j20 else j22))))) else j20))))) q_fu (-1 : Int32) (0 : Int32))) q_fu a2 a1
theorem fwX12_canAll_X12 : ∀ w ∈ wsX120, w ∈ wsX12_canAll := fun _ h => List.mem_cons_of_mem _ (List.mem_append_right _ h)
abbrev rmX12_canAll : Room := { frames := 1, cells := 0, slots := 0, locals := 22 }
set_option maxHeartbeats 4000000 in
set_option maxRecDepth 100000 in
theorem kX12_canAll (l : Launch) (D : va_G) (cI cZ cS : ClassId) (zz : ZT) (ad : Nat → Nat) (σ : SS) (a1 : Int32) (a2 : Int32) (rr : Int32) (hf : pX12_canAll σ a1 a2 = some rr) : CI l yX12_canAll wsX12_canAll rmX12_canAll D (K3 cI cZ cS) zz [.ref (ad 0), .int a1, .int a2] (wX12 cI cZ cS ad σ) (wX12 cI cZ cS ad σ) rr := by
  refine q_ofI (cc := cX12_canAll) (maxL := 7) (ty := .boolean) (by decide) rfl (Nat.le_of_ble_eq_true rfl) ?_
  intro p e s m below meth c Q A ls hx hb hml hown hts hK hZ hA hP hD hS hl hret
  have hl : lv_has ls 7 [(0, .ref (ad 0)), (1, .int a1), (2, .int a2)] := hl
  unfold pX12_canAll at hf
  refine lv_iload_n hx hb dX12_canAll_0 rfl (lv_at hl 2 rfl) ?_
  refine lv_istore_n (lv' := [(3, .int a2), (0, .ref (ad 0)), (1, .int a1), (2, .int a2)]) hx hb dX12_canAll_1 rfl hl (by decide) rfl (fun ls hl => ?_)
  refine lv_iload_n hx hb dX12_canAll_2 rfl (lv_at hl 2 rfl) ?_
  refine lv_istore (lv' := [(4, .int a1), (3, .int a2), (0, .ref (ad 0)), (1, .int a1), (2, .int a2)]) hx hb dX12_canAll_3 hl (by decide) rfl (fun ls hl => ?_)
  refine q_lp_go (f := fun (zf : Int32 → Int32 → Option Int32) => zf a2 a1) hf (fun z4 ez4 hf => ?_)
  have Lz4 : ∀ (n5 : Nat) (x3_1 : Int32) (x4_2 : Int32) (H : Heap) (locs : List Loc) (ls : Array Slot), va_P D vwCl ((wX12 cI cZ cS ad) σ) H → va_D A ((wX12 cI cZ cS ad) σ) → va_S A s.heap H locs → lv_has ls 7 [(0, .ref (ad 0)), (3, .int x3_1), (4, .int x4_2)] → q_lp (fun _ _ => none) z4 n5 x3_1 x4_2 = some rr → W p l e rmX12_canAll s m ([.ref (ad 0), .int a1, .int a2] : List Value).toArray below meth c H locs 0 0 Q (F0 m 5 ls []) := by
    intro n5
    induction n5 with
    | zero => exact fun _ _ _ _ _ _ _ _ _ hf => q_no hf
    | succ n5 ihz4 =>
      intro x3_1 x4_2 H locs ls hP hD hS hl hf
      have hf := (congrFun (congrFun (congrFun ez4 (q_lp (fun _ _ => none) z4 n5)) x3_1) x4_2).symm.trans hf
      refine lv_iload hx hb dX12_canAll_5 (lv_at hl 2 rfl) ?_
      refine lv_if_eq (tgt := 108) hx hb dX12_canAll_7 (by decide) (fun h6 => ?_) (fun h6 => ?_)
      · have hf := (if_pos h6).symm.trans hf
        refine lv_iconst (v := 1) hx hb dX12_canAll_108 (by decide) ?_
        obtain ⟨hz, hf⟩ := q_zz_o hf
        have hi1 := Option.some.inj hf
        subst hi1
        exact hret _ _ _ _ dX12_canAll_109 (q_zz_n hz).1 hP hS
      · have hf := (if_neg h6).symm.trans hf
        refine lv_iconst (v := -1) hx hb dX12_canAll_10 (by decide) ?_
        refine lv_istore (lv' := [(5, .int (-1 : Int32)), (0, .ref (ad 0)), (3, .int x3_1), (4, .int x4_2)]) hx hb dX12_canAll_11 hl (by decide) rfl (fun ls hl => ?_)
        refine lv_iconst (v := 0) hx hb dX12_canAll_13 (by decide) ?_
        refine lv_istore (lv' := [(6, .int (0 : Int32)), (5, .int (-1 : Int32)), (0, .ref (ad 0)), (3, .int x3_1), (4, .int x4_2)]) hx hb dX12_canAll_14 hl (by decide) rfl (fun ls hl => ?_)
        refine q_lp_go (f := fun (zf : Int32 → Int32 → Option Int32) => zf (-1 : Int32) (0 : Int32)) hf (fun z10 ez10 hf => ?_)
        have Lz10 : ∀ (n11 : Nat) (x5_7 : Int32) (x6_8 : Int32) (H : Heap) (locs : List Loc) (ls : Array Slot), va_P D vwCl ((wX12 cI cZ cS ad) σ) H → va_D A ((wX12 cI cZ cS ad) σ) → va_S A s.heap H locs → lv_has ls 7 [(0, .ref (ad 0)), (3, .int x3_1), (4, .int x4_2), (5, .int x5_7), (6, .int x6_8)] → q_lp (fun _ _ => none) z10 n11 x5_7 x6_8 = some rr → W p l e rmX12_canAll s m ([.ref (ad 0), .int a1, .int a2] : List Value).toArray below meth c H locs 0 0 Q (F0 m 16 ls []) := by
          intro n11
          induction n11 with
          | zero => exact fun _ _ _ _ _ _ _ _ _ hf => q_no hf
          | succ n11 ihz10 =>
            intro x5_7 x6_8 H locs ls hP hD hS hl hf
            have hf := (congrFun (congrFun (congrFun ez10 (q_lp (fun _ _ => none) z10 n11)) x5_7) x6_8).symm.trans hf
            refine lv_iload hx hb dX12_canAll_16 (lv_at hl 4 rfl) ?_
            refine lv_bipush (v := 10) hx hb dX12_canAll_18 (by decide) ?_
            refine lv_icmp_ge (tgt := 71) hx hb dX12_canAll_20 (by decide) (fun h12 => ?_) (fun h12 => ?_)
            · have hf := (if_pos h12).symm.trans hf
              refine lv_iload_n hx hb dX12_canAll_71 rfl (lv_at hl 1 rfl) ?_
              refine lv_aload_n hx hb dX12_canAll_72 rfl (lv_at hl 0 rfl) ?_
              refine lv_iload hx hb dX12_canAll_73 (lv_at hl 3 rfl) ?_
              refine lv_iconst (v := 1) hx hb dX12_canAll_75 (by decide) ?_
              refine q_cVr (wf := (wX12 cI cZ cS ad)) (wc := wX12 cI cZ cS ad) (rest := [.int x3_1]) ⟨hx, hb, hml, hown, hts⟩ hK hZ hA hP hD hS hf (fun x ho => kX12_thingIts l D cI cZ cS zz ad σ x5_7 (1 : Int32) x ho) (cwV 2 hts gX12_canAll_X12_thingIts rfl rfl rfl ndX12_thingIts ⟨Nat.le_of_ble_eq_true rfl, Nat.le_of_ble_eq_true rfl⟩) [0, 1, 2, 3, 4, 5, 6, 7, 8, 9, 10, 11] rfl rfl rfl rfl rfl rfl (hl.1) rfl (Nat.le_of_ble_eq_true rfl) dX12_canAll_76 ⟨Nat.zero_le _, Nat.zero_le _⟩ (fun r13 H locs hf hP hD hS => ?_)
              refine lv_iadd hx hb dX12_canAll_79 ?_
              refine lv_topi (fun x3_14 ex3_14 => ?_)
              have hf := q_lt_at ex3_14 hf
              refine lv_istore_n (lv' := [(3, .int x3_14), (0, .ref (ad 0)), (4, .int x4_2), (5, .int x5_7), (6, .int x6_8)]) hx hb dX12_canAll_80 rfl hl (by decide) rfl (fun ls hl => ?_)
              refine lv_iload_n hx hb dX12_canAll_81 rfl (lv_at hl 0 rfl) ?_
              refine lv_aload_n hx hb dX12_canAll_82 rfl (lv_at hl 1 rfl) ?_
              refine va_get (D := D) (ci := 12) (C := RX12) (T := TX12) (N := 19) hx hb hts fwX12_canAll_X12 hown hK hP 0 rfl rfl 14 (by decide) (hts _ (List.mem_of_getElem? (i := 1) rfl)) (fun _ h9 => h9) rfl dX12_canAll_83 ?_
              refine lv_iload hx hb dX12_canAll_86 (lv_at hl 3 rfl) ?_
              refine w_iald (wf := (wX12 cI cZ cS ad)) hx hb hK hP 7 0 rfl rfl hf dX12_canAll_88 (fun v15 hf => ?_)
              refine lv_icmp_le (tgt := 94) hx hb dX12_canAll_89 (by decide) (fun h16 => ?_) (fun h16 => ?_)
              · have hf := (if_pos h16).symm.trans hf
                refine lv_iload hx hb dX12_canAll_94 (lv_at hl 2 rfl) ?_
                refine lv_iconst (v := 1) hx hb dX12_canAll_96 (by decide) ?_
                refine lv_iload hx hb dX12_canAll_97 (lv_at hl 3 rfl) ?_
                refine lv_ishl hx hb dX12_canAll_99 ?_
                refine lv_iconst (v := -1) hx hb dX12_canAll_100 (by decide) ?_
                refine lv_ixor hx hb dX12_canAll_101 ?_
                refine lv_iand hx hb dX12_canAll_102 ?_
                refine lv_topi (fun x4_17 ex4_17 => ?_)
                have hf := q_lt_at ex4_17 hf
                refine lv_istore (lv' := [(4, .int x4_17), (3, .int x3_14), (0, .ref (ad 0)), (5, .int x5_7), (6, .int x6_8)]) hx hb dX12_canAll_103 hl (by decide) rfl (fun ls hl => ?_)
                refine lv_goto (tgt := 5) hx hb dX12_canAll_105 (by decide) ?_
                exact ihz4 x3_14 x4_17 _ _ _ hP hD hS (lv_sub hl [2, 1, 0] rfl) hf
              · have hf := (if_neg h16).symm.trans hf
                refine lv_iconst (v := 0) hx hb dX12_canAll_92 (by decide) ?_
                obtain ⟨hz, hf⟩ := q_zz_o hf
                have hi1 := Option.some.inj hf
                subst hi1
                exact hret _ _ _ _ dX12_canAll_93 (q_zz_n hz).1 hP hS
            · have hf := (if_neg h12).symm.trans hf
              refine lv_iload hx hb dX12_canAll_23 (lv_at hl 2 rfl) ?_
              refine lv_iload hx hb dX12_canAll_25 (lv_at hl 4 rfl) ?_
              refine lv_ishr hx hb dX12_canAll_27 ?_
              refine lv_iconst (v := 1) hx hb dX12_canAll_28 (by decide) ?_
              refine lv_iand hx hb dX12_canAll_29 ?_
              refine lv_iconst (v := 1) hx hb dX12_canAll_30 (by decide) ?_
              refine q_lt_go hf (fun j19 ej19 hf => ?_)
              have Jj19 : ∀ (y18 : Int32) (H : Heap) (locs : List Loc) (ls : Array Slot), va_P D vwCl ((wX12 cI cZ cS ad) σ) H → va_D A ((wX12 cI cZ cS ad) σ) → va_S A s.heap H locs → lv_has ls 7 [(0, .ref (ad 0)), (3, .int x3_1), (4, .int x4_2), (6, .int x6_8)] → j19 y18 = some rr → W p l e rmX12_canAll s m ([.ref (ad 0), .int a1, .int a2] : List Value).toArray below meth c H locs 0 0 Q (F0 m 63 ls [.int y18]) := by
                intro y18 H locs ls hP hD hS hl hf
                have hf := (congrFun ej19 y18).symm.trans hf
                refine lv_istore (lv' := [(5, .int y18), (0, .ref (ad 0)), (3, .int x3_1), (4, .int x4_2), (6, .int x6_8)]) hx hb dX12_canAll_63 hl (by decide) rfl (fun ls hl => ?_)
                refine lv_iinc (v := (x6_8 + (1 : Int32))) (lv' := [(6, .int (x6_8 + (1 : Int32))), (5, .int y18), (0, .ref (ad 0)), (3, .int x3_1), (4, .int x4_2)]) hx hb dX12_canAll_65 hl (k := 4) rfl rfl (by decide) rfl (fun ls hl => ?_)
                refine lv_goto (tgt := 16) hx hb dX12_canAll_68 (by decide) ?_
                exact ihz10 y18 (x6_8 + (1 : Int32)) _ _ _ hP hD hS (lv_sub hl [2, 3, 4, 1, 0] rfl) hf
              refine q_lt_go hf (fun j20 ej20 hf => ?_)
              have Jj20 : ∀ (H : Heap) (locs : List Loc) (ls : Array Slot), va_P D vwCl ((wX12 cI cZ cS ad) σ) H → va_D A ((wX12 cI cZ cS ad) σ) → va_S A s.heap H locs → lv_has ls 7 [(0, .ref (ad 0)), (3, .int x3_1), (4, .int x4_2), (5, .int x5_7), (6, .int x6_8)] → j20 = some rr → W p l e rmX12_canAll s m ([.ref (ad 0), .int a1, .int a2] : List Value).toArray below meth c H locs 0 0 Q (F0 m 61 ls []) := by
                intro  H locs ls hP hD hS hl hf
                have hf := ej20.symm.trans hf
                refine lv_iload hx hb dX12_canAll_61 (lv_at hl 3 rfl) ?_
                exact Jj19 x5_7 _ _ _ hP hD hS (lv_sub hl [0, 1, 2, 4] rfl) hf
              refine lv_icmp_ne (tgt := 61) hx hb dX12_canAll_31 (by decide) (fun h21 => ?_) (fun h21 => ?_)
              · have hf := (if_neg h21).symm.trans hf
                exact Jj20  _ _ _ hP hD hS (lv_sub hl [0, 1, 2, 3, 4] rfl) hf
              · have hf := (if_pos h21).symm.trans hf
                refine lv_iload hx hb dX12_canAll_34 (lv_at hl 3 rfl) ?_
                refine q_lt_go hf (fun j22 ej22 hf => ?_)
                have Jj22 : ∀ (H : Heap) (locs : List Loc) (ls : Array Slot), va_P D vwCl ((wX12 cI cZ cS ad) σ) H → va_D A ((wX12 cI cZ cS ad) σ) → va_S A s.heap H locs → lv_has ls 7 [(0, .ref (ad 0)), (3, .int x3_1), (4, .int x4_2), (6, .int x6_8)] → j22 = some rr → W p l e rmX12_canAll s m ([.ref (ad 0), .int a1, .int a2] : List Value).toArray below meth c H locs 0 0 Q (F0 m 56 ls []) := by
                  intro  H locs ls hP hD hS hl hf
                  have hf := ej22.symm.trans hf
                  refine lv_iload hx hb dX12_canAll_56 (lv_at hl 3 rfl) ?_
                  refine lv_goto (tgt := 63) hx hb dX12_canAll_58 (by decide) ?_
                  exact Jj19 x6_8 _ _ _ hP hD hS (lv_sub hl [0, 1, 2, 3] rfl) hf
                refine lv_if_lt (tgt := 56) hx hb dX12_canAll_36 (by decide) (fun h23 => ?_) (fun h23 => ?_)
                · have hf := (if_pos h23).symm.trans hf
                  exact Jj22  _ _ _ hP hD hS (lv_sub hl [0, 1, 2, 4] rfl) hf
                · have hf := (if_neg h23).symm.trans hf
                  refine lv_aload_n hx hb dX12_canAll_39 rfl (lv_at hl 0 rfl) ?_
                  refine va_get (D := D) (ci := 12) (C := RX12) (T := TX12) (N := 19) hx hb hts fwX12_canAll_X12 hown hK hP 0 rfl rfl 14 (by decide) (hts _ (List.mem_of_getElem? (i := 1) rfl)) (fun _ h9 => h9) rfl dX12_canAll_40 ?_
                  refine lv_iload hx hb dX12_canAll_43 (lv_at hl 4 rfl) ?_
                  refine w_iald (wf := (wX12 cI cZ cS ad)) hx hb hK hP 7 0 rfl rfl hf dX12_canAll_45 (fun v24 hf => ?_)
                  refine lv_aload_n hx hb dX12_canAll_46 rfl (lv_at hl 0 rfl) ?_
                  refine va_get (D := D) (ci := 12) (C := RX12) (T := TX12) (N := 19) hx hb hts fwX12_canAll_X12 hown hK hP 0 rfl rfl 14 (by decide) (hts _ (List.mem_of_getElem? (i := 1) rfl)) (fun _ h9 => h9) rfl dX12_canAll_47 ?_
                  refine lv_iload hx hb dX12_canAll_50 (lv_at hl 3 rfl) ?_
                  refine w_iald (wf := (wX12 cI cZ cS ad)) hx hb hK hP 7 0 rfl rfl hf dX12_canAll_52 (fun v25 hf => ?_)
                  refine lv_icmp_ge (tgt := 61) hx hb dX12_canAll_53 (by decide) (fun h26 => ?_) (fun h26 => ?_)
                  · have hf := (if_pos h26).symm.trans hf
                    exact Jj20  _ _ _ hP hD hS (lv_sub hl [0, 1, 2, 3, 4] rfl) hf
                  · have hf := (if_neg h26).symm.trans hf
                    exact Jj22  _ _ _ hP hD hS (lv_sub hl [0, 1, 2, 4] rfl) hf
        exact Lz10 q_fu (-1 : Int32) (0 : Int32) _ _ _ hP hD hS (lv_sub hl [2, 3, 4, 1, 0] rfl) hf
  exact Lz4 q_fu a2 a1 _ _ _ hP hD hS (lv_sub hl [2, 1, 0] rfl) hf
def pX12_worthOf (σ : SS) (a1 : Int32) : Option Int32 := q_lp (fun _ _ => none) (fun (c3 : Int32 → Int32 → Option Int32) (x2_1 : Int32) (x3_2 : Int32) => (if (10 : Int32) ≤ x3_2 then some x2_1 else q_lt (fun (y7 : Int32) => q_lt (x2_1 + y7) (fun x2_9 => c3 x2_9 (x3_2 + (1 : Int32)))) (fun j8 => (if ((a1 >>> (x3_2 &&& (31 : Int32))) &&& (1 : Int32)) = (1 : Int32) then q_cr (pX12_thingIts σ x3_2 (0 : Int32)) (fun (r11 : Int32) => j8 r11) else j8 (0 : Int32))))) q_fu (0 : Int32) (0 : Int32)
abbrev rmX12_worthOf : Room := { frames := 1, cells := 0, slots := 0, locals := 22 }
set_option maxHeartbeats 4000000 in
set_option maxRecDepth 100000 in
theorem kX12_worthOf (l : Launch) (D : va_G) (cI cZ cS : ClassId) (zz : ZT) (ad : Nat → Nat) (σ : SS) (a1 : Int32) (rr : Int32) (hf : pX12_worthOf σ a1 = some rr) : CI l yX12_worthOf wsX12_worthOf rmX12_worthOf D (K3 cI cZ cS) zz [.ref (ad 0), .int a1] (wX12 cI cZ cS ad σ) (wX12 cI cZ cS ad σ) rr := by
  refine q_ofI (cc := cX12_worthOf) (maxL := 4) (ty := .int) (by decide) rfl (Nat.le_of_ble_eq_true rfl) ?_
  intro p e s m below meth c Q A ls hx hb hml hown hts hK hZ hA hP hD hS hl hret
  have hl : lv_has ls 4 [(0, .ref (ad 0)), (1, .int a1)] := hl
  unfold pX12_worthOf at hf
  refine lv_iconst (v := 0) hx hb dX12_worthOf_0 (by decide) ?_
  refine lv_istore_n (lv' := [(2, .int (0 : Int32)), (0, .ref (ad 0)), (1, .int a1)]) hx hb dX12_worthOf_1 rfl hl (by decide) rfl (fun ls hl => ?_)
  refine lv_iconst (v := 0) hx hb dX12_worthOf_2 (by decide) ?_
  refine lv_istore_n (lv' := [(3, .int (0 : Int32)), (2, .int (0 : Int32)), (0, .ref (ad 0)), (1, .int a1)]) hx hb dX12_worthOf_3 rfl hl (by decide) rfl (fun ls hl => ?_)
  refine q_lp_go (f := fun (zf : Int32 → Int32 → Option Int32) => zf (0 : Int32) (0 : Int32)) hf (fun z4 ez4 hf => ?_)
  have Lz4 : ∀ (n5 : Nat) (x2_1 : Int32) (x3_2 : Int32) (H : Heap) (locs : List Loc) (ls : Array Slot), va_P D vwCl ((wX12 cI cZ cS ad) σ) H → va_D A ((wX12 cI cZ cS ad) σ) → va_S A s.heap H locs → lv_has ls 4 [(0, .ref (ad 0)), (1, .int a1), (2, .int x2_1), (3, .int x3_2)] → q_lp (fun _ _ => none) z4 n5 x2_1 x3_2 = some rr → W p l e rmX12_worthOf s m ([.ref (ad 0), .int a1] : List Value).toArray below meth c H locs 0 0 Q (F0 m 4 ls []) := by
    intro n5
    induction n5 with
    | zero => exact fun _ _ _ _ _ _ _ _ _ hf => q_no hf
    | succ n5 ihz4 =>
      intro x2_1 x3_2 H locs ls hP hD hS hl hf
      have hf := (congrFun (congrFun (congrFun ez4 (q_lp (fun _ _ => none) z4 n5)) x2_1) x3_2).symm.trans hf
      refine lv_iload_n hx hb dX12_worthOf_4 rfl (lv_at hl 3 rfl) ?_
      refine lv_bipush (v := 10) hx hb dX12_worthOf_5 (by decide) ?_
      refine lv_icmp_ge (tgt := 38) hx hb dX12_worthOf_7 (by decide) (fun h6 => ?_) (fun h6 => ?_)
      · have hf := (if_pos h6).symm.trans hf
        refine lv_iload_n hx hb dX12_worthOf_38 rfl (lv_at hl 2 rfl) ?_
        have hi1 := Option.some.inj hf
        subst hi1
        exact hret _ _ _ _ dX12_worthOf_39 rfl hP hS
      · have hf := (if_neg h6).symm.trans hf
        refine lv_iload_n hx hb dX12_worthOf_10 rfl (lv_at hl 2 rfl) ?_
        refine lv_iload_n hx hb dX12_worthOf_11 rfl (lv_at hl 1 rfl) ?_
        refine lv_iload_n hx hb dX12_worthOf_12 rfl (lv_at hl 3 rfl) ?_
        refine lv_ishr hx hb dX12_worthOf_13 ?_
        refine lv_iconst (v := 1) hx hb dX12_worthOf_14 (by decide) ?_
        refine lv_iand hx hb dX12_worthOf_15 ?_
        refine lv_iconst (v := 1) hx hb dX12_worthOf_16 (by decide) ?_
        refine q_lt_go hf (fun j8 ej8 hf => ?_)
        have Jj8 : ∀ (y7 : Int32) (H : Heap) (locs : List Loc) (ls : Array Slot), va_P D vwCl ((wX12 cI cZ cS ad) σ) H → va_D A ((wX12 cI cZ cS ad) σ) → va_S A s.heap H locs → lv_has ls 4 [(0, .ref (ad 0)), (1, .int a1), (3, .int x3_2)] → j8 y7 = some rr → W p l e rmX12_worthOf s m ([.ref (ad 0), .int a1] : List Value).toArray below meth c H locs 0 0 Q (F0 m 30 ls [.int y7, .int x2_1]) := by
          intro y7 H locs ls hP hD hS hl hf
          have hf := (congrFun ej8 y7).symm.trans hf
          refine lv_iadd hx hb dX12_worthOf_30 ?_
          refine lv_topi (fun x2_9 ex2_9 => ?_)
          have hf := q_lt_at ex2_9 hf
          refine lv_istore_n (lv' := [(2, .int x2_9), (0, .ref (ad 0)), (1, .int a1), (3, .int x3_2)]) hx hb dX12_worthOf_31 rfl hl (by decide) rfl (fun ls hl => ?_)
          refine lv_iinc (v := (x3_2 + (1 : Int32))) (lv' := [(3, .int (x3_2 + (1 : Int32))), (2, .int x2_9), (0, .ref (ad 0)), (1, .int a1)]) hx hb dX12_worthOf_32 hl (k := 3) rfl rfl (by decide) rfl (fun ls hl => ?_)
          refine lv_goto (tgt := 4) hx hb dX12_worthOf_35 (by decide) ?_
          exact ihz4 x2_9 (x3_2 + (1 : Int32)) _ _ _ hP hD hS (lv_sub hl [2, 3, 1, 0] rfl) hf
        refine lv_icmp_ne (tgt := 29) hx hb dX12_worthOf_17 (by decide) (fun h10 => ?_) (fun h10 => ?_)
        · have hf := (if_neg h10).symm.trans hf
          refine lv_iconst (v := 0) hx hb dX12_worthOf_29 (by decide) ?_
          exact Jj8 (0 : Int32) _ _ _ hP hD hS (lv_sub hl [0, 1, 3] rfl) hf
        · have hf := (if_pos h10).symm.trans hf
          refine lv_aload_n hx hb dX12_worthOf_20 rfl (lv_at hl 0 rfl) ?_
          refine lv_iload_n hx hb dX12_worthOf_21 rfl (lv_at hl 3 rfl) ?_
          refine lv_iconst (v := 0) hx hb dX12_worthOf_22 (by decide) ?_
          refine q_cVr (wf := (wX12 cI cZ cS ad)) (wc := wX12 cI cZ cS ad) (rest := [.int x2_1]) ⟨hx, hb, hml, hown, hts⟩ hK hZ hA hP hD hS hf (fun x ho => kX12_thingIts l D cI cZ cS zz ad σ x3_2 (0 : Int32) x ho) (cwV 2 hts gX12_worthOf_X12_thingIts rfl rfl rfl ndX12_thingIts ⟨Nat.le_of_ble_eq_true rfl, Nat.le_of_ble_eq_true rfl⟩) [0, 1, 2, 3, 4, 5, 6, 7, 8, 9, 10, 11] rfl rfl rfl rfl rfl rfl (hl.1) rfl (Nat.le_of_ble_eq_true rfl) dX12_worthOf_23 ⟨Nat.zero_le _, Nat.zero_le _⟩ (fun r11 H locs hf hP hD hS => ?_)
          refine lv_goto (tgt := 30) hx hb dX12_worthOf_26 (by decide) ?_
          exact Jj8 r11 _ _ _ hP hD hS (lv_sub hl [0, 1, 3] rfl) hf
  exact Lz4 q_fu (0 : Int32) (0 : Int32) _ _ _ hP hD hS (lv_sub hl [2, 3, 1, 0] rfl) hf
def pX12_rescue (σ : SS) (a1 : Int32) : Option (Int32 × SS) := q_cr (pX12_in a1 (0 : Int32) (2 : Int32)) (fun (r1 : Int32) => (if r1 = (0 : Int32) then q_ci (pX12_finding σ (0 : Int32)) (fun (τ : SS) => τ) (fun (r57 : Int32) (σ56 : SS) => some (r57, σ56)) else q_cs (pX12_findDue σ) (fun (τ : SS) => τ) (fun (σ3 : SS) => q_lp (fun _ _ => none) (fun (c6 : Int32 → Int32 → Option (Int32 × SS)) (x2_4 : Int32) (x3_5 : Int32) => q_rd (σ3 1) 307 (17 : Int32) (fun (v9 : Int32) => (if v9 ≤ x3_5 then q_lp (fun _ _ => none) (fun (c13 : Int32 → Int32 → Option (Int32 × SS)) (x3_11 : Int32) (x4_12 : Int32) => q_rd (σ3 1) 307 (17 : Int32) (fun (v16 : Int32) => (if ((1 : Int32) <<< (v16 &&& (31 : Int32))) ≤ x4_12 then q_lp (fun _ _ => none) (fun (c20 : Int32 → Int32 → Option (Int32 × SS)) (x4_18 : Int32) (x5_19 : Int32) => q_rd (σ3 1) 307 (17 : Int32) (fun (v23 : Int32) => q_lt (q_lt (fun (y25 : Int32) => some (y25, σ3)) (fun j26 => (if a1 = (0 : Int32) then j26 x3_11 else (if a1 = (1 : Int32) then q_cr (pX12_worthOf σ3 x3_11) (fun (r29 : Int32) => j26 r29) else j26 x4_18)))) (fun j24 => (if v23 ≤ x5_19 then j24 else (if (0 : Int32) ≤ x4_18 then j24 else q_cr (pX12_thingIts σ3 x5_19 (1 : Int32)) (fun (r32 : Int32) => q_lt (fun (y33 : Int32) => c20 y33 (x5_19 + (1 : Int32))) (fun j34 => q_lt (j34 (-1 : Int32)) (fun j35 => (if ((x3_11 >>> (x5_19 &&& (31 : Int32))) &&& (1 : Int32)) = (1 : Int32) then q_rd (σ3 7) 10 x5_19 (fun (v37 : Int32) => (if v37 < r32 then j35 else q_cr (pX12_canAll σ3 (x3_11 &&& (((1 : Int32) <<< (x5_19 &&& (31 : Int32))) ^^^ (-1 : Int32))) r32) (fun (r39 : Int32) => (if r39 = (0 : Int32) then j35 else j34 x5_19)))) else j35))))))))) q_fu (-1 : Int32) (0 : Int32) else q_lt (fun (y41 : Int32) => c13 y41 (x4_12 + (1 : Int32))) (fun j42 => q_lt (j42 x3_11) (fun j43 => (if (x4_12 &&& (x2_4 ^^^ (-1 : Int32))) = (0 : Int32) then q_cr (pX12_worthOf σ3 x4_12) (fun (r45 : Int32) => q_cr (pX12_worthOf σ3 x3_11) (fun (r46 : Int32) => (if r45 ≤ r46 then j43 else q_cr (pX12_canAll σ3 x4_12 (0 : Int32)) (fun (r48 : Int32) => (if r48 = (0 : Int32) then j43 else j42 x4_12))))) else j43)))))) q_fu (0 : Int32) (1 : Int32) else q_cr (pX12_thingIts σ3 x3_5 (3 : Int32)) (fun (r50 : Int32) => q_cr (pX12_thingIts σ3 x3_5 (4 : Int32)) (fun (r51 : Int32) => q_lt (fun (y52 : Int32) => q_lt (x2_4 ||| y52) (fun x2_54 => c6 x2_54 (x3_5 + (1 : Int32)))) (fun j53 => (if (r50 + r51) = (0 : Int32) then j53 ((1 : Int32) <<< (x3_5 &&& (31 : Int32))) else j53 (0 : Int32)))))))) q_fu (0 : Int32) (0 : Int32))))
theorem fwX12_rescue_X12 : ∀ w ∈ wsX120, w ∈ wsX12_rescue := fun _ h => List.mem_cons_of_mem _ (List.mem_append_right _ h)
abbrev rmX12_rescue : Room := { frames := 6, cells := 0, slots := 0, locals := 134 }
set_option maxHeartbeats 4000000 in
set_option maxRecDepth 100000 in
theorem kX12_rescue (l : Launch) (D : va_G) (cI cZ cS : ClassId) (zz : ZT) (ad : Nat → Nat) (σ : SS) (a1 : Int32) (rr : Int32) (σr : SS) (hf : pX12_rescue σ a1 = some (rr, σr)) : CI l yX12_rescue wsX12_rescue rmX12_rescue D (K3 cI cZ cS) zz [.ref (ad 0), .int a1] (wX12 cI cZ cS ad σ) (wX12 cI cZ cS ad σr) rr := by
  refine q_ofI (cc := cX12_rescue) (maxL := 7) (ty := .int) (by decide) rfl (Nat.le_of_ble_eq_true rfl) ?_
  intro p e s m below meth c Q A ls hx hb hml hown hts hK hZ hA hP hD hS hl hret
  have hl : lv_has ls 7 [(0, .ref (ad 0)), (1, .int a1)] := hl
  unfold pX12_rescue at hf
  refine lv_iload_n hx hb dX12_rescue_0 rfl (lv_at hl 1 rfl) ?_
  refine lv_iconst (v := 0) hx hb dX12_rescue_1 (by decide) ?_
  refine lv_iconst (v := 2) hx hb dX12_rescue_2 (by decide) ?_
  refine q_cSr (wf := (wX12 cI cZ cS ad)) (rest := []) ⟨hx, hb, hml, hown, hts⟩ hK hZ hA hP hD hS hf (fun x ho => kX12_in l D cI cZ cS zz a1 (0 : Int32) (2 : Int32) x ho) (va_cwS 3 hts gX12_rescue_X12_in rfl rfl rfl ndX12_in.2 ⟨Nat.le_of_ble_eq_true rfl, Nat.le_of_ble_eq_true rfl⟩) rfl (hl.1) rfl (Nat.le_of_ble_eq_true rfl) dX12_rescue_3 ⟨Nat.zero_le _, Nat.zero_le _⟩ (fun r1 H locs hf hP hD hS => ?_)
  refine lv_if_ne (tgt := 15) hx hb dX12_rescue_6 (by decide) (fun h2 => ?_) (fun h2 => ?_)
  · have hf := (if_neg h2).symm.trans hf
    refine lv_aload_n hx hb dX12_rescue_15 rfl (lv_at hl 0 rfl) ?_
    refine q_cVv (wf := (wX12 cI cZ cS ad)) (wc := wX12 cI cZ cS ad) (rest := []) ⟨hx, hb, hml, hown, hts⟩ hK hZ hA hP hD hS hf (fun x ho => kX12_findDue l D cI cZ cS zz ad σ x ho) (cwV 0 hts gX12_rescue_X12_findDue rfl rfl rfl ndX12_findDue ⟨Nat.le_of_ble_eq_true rfl, Nat.le_of_ble_eq_true rfl⟩) [0, 1, 2, 3, 4, 5, 6, 7, 8, 9, 10, 11] rfl rfl [some 0, some 1, some 2, some 3, some 4, some 5, some 6, some 7, some 8, some 9, some 10, some 11] (by decide +kernel) (Nat.le_of_ble_eq_true rfl) (fun _ => rfl) (fun _ => rfl) (fun _ => rfl) rfl rfl rfl rfl (hl.1) rfl (Nat.le_of_ble_eq_true rfl) dX12_rescue_16 ⟨Nat.zero_le _, Nat.zero_le _⟩ (fun σ3 H locs hf hP hD hS => ?_)
    refine lv_iconst (v := 0) hx hb dX12_rescue_19 (by decide) ?_
    refine lv_istore_n (lv' := [(2, .int (0 : Int32)), (0, .ref (ad 0)), (1, .int a1)]) hx hb dX12_rescue_20 rfl hl (by decide) rfl (fun ls hl => ?_)
    refine lv_iconst (v := 0) hx hb dX12_rescue_21 (by decide) ?_
    refine lv_istore_n (lv' := [(3, .int (0 : Int32)), (2, .int (0 : Int32)), (0, .ref (ad 0)), (1, .int a1)]) hx hb dX12_rescue_22 rfl hl (by decide) rfl (fun ls hl => ?_)
    refine q_lp_go (f := fun (zf : Int32 → Int32 → Option (Int32 × SS)) => zf (0 : Int32) (0 : Int32)) hf (fun z7 ez7 hf => ?_)
    have Lz7 : ∀ (n8 : Nat) (x2_4 : Int32) (x3_5 : Int32) (H : Heap) (locs : List Loc) (ls : Array Slot), va_P D vwCl ((wX12 cI cZ cS ad) σ3) H → va_D A ((wX12 cI cZ cS ad) σ3) → va_S A s.heap H locs → lv_has ls 7 [(0, .ref (ad 0)), (1, .int a1), (2, .int x2_4), (3, .int x3_5)] → q_lp (fun _ _ => none) z7 n8 x2_4 x3_5 = some (rr, σr) → W p l e rmX12_rescue s m ([.ref (ad 0), .int a1] : List Value).toArray below meth c H locs 0 0 Q (F0 m 23 ls []) := by
      intro n8
      induction n8 with
      | zero => exact fun _ _ _ _ _ _ _ _ _ hf => q_no hf
      | succ n8 ihz7 =>
        intro x2_4 x3_5 H locs ls hP hD hS hl hf
        have hf := (congrFun (congrFun (congrFun ez7 (q_lp (fun _ _ => none) z7 n8)) x2_4) x3_5).symm.trans hf
        refine lv_iload_n hx hb dX12_rescue_23 rfl (lv_at hl 3 rfl) ?_
        refine lv_aload_n hx hb dX12_rescue_24 rfl (lv_at hl 0 rfl) ?_
        refine va_get (D := D) (ci := 12) (C := RX12) (T := TX12) (N := 19) hx hb hts fwX12_rescue_X12 hown hK hP 0 rfl rfl 0 (by decide) (hts _ (List.mem_of_getElem? (i := 1) rfl)) (fun _ h9 => h9) rfl dX12_rescue_25 ?_
        refine lv_bipush (v := 17) hx hb dX12_rescue_28 (by decide) ?_
        refine w_iald (wf := (wX12 cI cZ cS ad)) hx hb hK hP 1 0 rfl rfl hf dX12_rescue_30 (fun v9 hf => ?_)
        refine lv_icmp_ge (tgt := 66) hx hb dX12_rescue_31 (by decide) (fun h10 => ?_) (fun h10 => ?_)
        · have hf := (if_pos h10).symm.trans hf
          refine lv_iconst (v := 0) hx hb dX12_rescue_66 (by decide) ?_
          refine lv_istore_n (lv' := [(3, .int (0 : Int32)), (0, .ref (ad 0)), (1, .int a1), (2, .int x2_4)]) hx hb dX12_rescue_67 rfl hl (by decide) rfl (fun ls hl => ?_)
          refine lv_iconst (v := 1) hx hb dX12_rescue_68 (by decide) ?_
          refine lv_istore (lv' := [(4, .int (1 : Int32)), (3, .int (0 : Int32)), (0, .ref (ad 0)), (1, .int a1), (2, .int x2_4)]) hx hb dX12_rescue_69 hl (by decide) rfl (fun ls hl => ?_)
          refine q_lp_go (f := fun (zf : Int32 → Int32 → Option (Int32 × SS)) => zf (0 : Int32) (1 : Int32)) hf (fun z14 ez14 hf => ?_)
          have Lz14 : ∀ (n15 : Nat) (x3_11 : Int32) (x4_12 : Int32) (H : Heap) (locs : List Loc) (ls : Array Slot), va_P D vwCl ((wX12 cI cZ cS ad) σ3) H → va_D A ((wX12 cI cZ cS ad) σ3) → va_S A s.heap H locs → lv_has ls 7 [(0, .ref (ad 0)), (1, .int a1), (2, .int x2_4), (3, .int x3_11), (4, .int x4_12)] → q_lp (fun _ _ => none) z14 n15 x3_11 x4_12 = some (rr, σr) → W p l e rmX12_rescue s m ([.ref (ad 0), .int a1] : List Value).toArray below meth c H locs 0 0 Q (F0 m 71 ls []) := by
            intro n15
            induction n15 with
            | zero => exact fun _ _ _ _ _ _ _ _ _ hf => q_no hf
            | succ n15 ihz14 =>
              intro x3_11 x4_12 H locs ls hP hD hS hl hf
              have hf := (congrFun (congrFun (congrFun ez14 (q_lp (fun _ _ => none) z14 n15)) x3_11) x4_12).symm.trans hf
              refine lv_iload hx hb dX12_rescue_71 (lv_at hl 4 rfl) ?_
              refine lv_iconst (v := 1) hx hb dX12_rescue_73 (by decide) ?_
              refine lv_aload_n hx hb dX12_rescue_74 rfl (lv_at hl 0 rfl) ?_
              refine va_get (D := D) (ci := 12) (C := RX12) (T := TX12) (N := 19) hx hb hts fwX12_rescue_X12 hown hK hP 0 rfl rfl 0 (by decide) (hts _ (List.mem_of_getElem? (i := 1) rfl)) (fun _ h9 => h9) rfl dX12_rescue_75 ?_
              refine lv_bipush (v := 17) hx hb dX12_rescue_78 (by decide) ?_
              refine w_iald (wf := (wX12 cI cZ cS ad)) hx hb hK hP 1 0 rfl rfl hf dX12_rescue_80 (fun v16 hf => ?_)
              refine lv_ishl hx hb dX12_rescue_81 ?_
              refine lv_icmp_ge (tgt := 131) hx hb dX12_rescue_82 (by decide) (fun h17 => ?_) (fun h17 => ?_)
              · have hf := (if_pos h17).symm.trans hf
                refine lv_iconst (v := -1) hx hb dX12_rescue_131 (by decide) ?_
                refine lv_istore (lv' := [(4, .int (-1 : Int32)), (0, .ref (ad 0)), (1, .int a1), (2, .int x2_4), (3, .int x3_11)]) hx hb dX12_rescue_132 hl (by decide) rfl (fun ls hl => ?_)
                refine lv_iconst (v := 0) hx hb dX12_rescue_134 (by decide) ?_
                refine lv_istore (lv' := [(5, .int (0 : Int32)), (4, .int (-1 : Int32)), (0, .ref (ad 0)), (1, .int a1), (2, .int x2_4), (3, .int x3_11)]) hx hb dX12_rescue_135 hl (by decide) rfl (fun ls hl => ?_)
                refine q_lp_go (f := fun (zf : Int32 → Int32 → Option (Int32 × SS)) => zf (-1 : Int32) (0 : Int32)) hf (fun z21 ez21 hf => ?_)
                have Lz21 : ∀ (n22 : Nat) (x4_18 : Int32) (x5_19 : Int32) (H : Heap) (locs : List Loc) (ls : Array Slot), va_P D vwCl ((wX12 cI cZ cS ad) σ3) H → va_D A ((wX12 cI cZ cS ad) σ3) → va_S A s.heap H locs → lv_has ls 7 [(0, .ref (ad 0)), (1, .int a1), (3, .int x3_11), (4, .int x4_18), (5, .int x5_19)] → q_lp (fun _ _ => none) z21 n22 x4_18 x5_19 = some (rr, σr) → W p l e rmX12_rescue s m ([.ref (ad 0), .int a1] : List Value).toArray below meth c H locs 0 0 Q (F0 m 137 ls []) := by
                  intro n22
                  induction n22 with
                  | zero => exact fun _ _ _ _ _ _ _ _ _ hf => q_no hf
                  | succ n22 ihz21 =>
                    intro x4_18 x5_19 H locs ls hP hD hS hl hf
                    have hf := (congrFun (congrFun (congrFun ez21 (q_lp (fun _ _ => none) z21 n22)) x4_18) x5_19).symm.trans hf
                    refine lv_iload hx hb dX12_rescue_137 (lv_at hl 4 rfl) ?_
                    refine lv_aload_n hx hb dX12_rescue_139 rfl (lv_at hl 0 rfl) ?_
                    refine va_get (D := D) (ci := 12) (C := RX12) (T := TX12) (N := 19) hx hb hts fwX12_rescue_X12 hown hK hP 0 rfl rfl 0 (by decide) (hts _ (List.mem_of_getElem? (i := 1) rfl)) (fun _ h9 => h9) rfl dX12_rescue_140 ?_
                    refine lv_bipush (v := 17) hx hb dX12_rescue_143 (by decide) ?_
                    refine w_iald (wf := (wX12 cI cZ cS ad)) hx hb hK hP 1 0 rfl rfl hf dX12_rescue_145 (fun v23 hf => ?_)
                    refine q_lt_go hf (fun j24 ej24 hf => ?_)
                    have Jj24 : ∀ (H : Heap) (locs : List Loc) (ls : Array Slot), va_P D vwCl ((wX12 cI cZ cS ad) σ3) H → va_D A ((wX12 cI cZ cS ad) σ3) → va_S A s.heap H locs → lv_has ls 7 [(0, .ref (ad 0)), (1, .int a1), (3, .int x3_11), (4, .int x4_18)] → j24 = some (rr, σr) → W p l e rmX12_rescue s m ([.ref (ad 0), .int a1] : List Value).toArray below meth c H locs 0 0 Q (F0 m 216 ls []) := by
                      intro  H locs ls hP hD hS hl hf
                      have hf := ej24.symm.trans hf
                      refine lv_iload_n hx hb dX12_rescue_216 rfl (lv_at hl 1 rfl) ?_
                      refine q_lt_go hf (fun j26 ej26 hf => ?_)
                      have Jj26 : ∀ (y25 : Int32) (H : Heap) (locs : List Loc) (ls : Array Slot), va_P D vwCl ((wX12 cI cZ cS ad) σ3) H → va_D A ((wX12 cI cZ cS ad) σ3) → va_S A s.heap H locs → lv_has ls 7 [] → j26 y25 = some (rr, σr) → W p l e rmX12_rescue s m ([.ref (ad 0), .int a1] : List Value).toArray below meth c H locs 0 0 Q (F0 m 239 ls [.int y25]) := by
                        intro y25 H locs ls hP hD hS hl hf
                        have hf := (congrFun ej26 y25).symm.trans hf
                        obtain ⟨hi1, hi2⟩ := Prod.mk.inj (Option.some.inj hf)
                        subst hi1
                        subst hi2
                        exact hret _ _ _ _ dX12_rescue_239 rfl hP hS
                      refine lv_if_ne (tgt := 224) hx hb dX12_rescue_217 (by decide) (fun h27 => ?_) (fun h27 => ?_)
                      · have hf := (if_neg h27).symm.trans hf
                        refine lv_iload_n hx hb dX12_rescue_224 rfl (lv_at hl 1 rfl) ?_
                        refine lv_iconst (v := 1) hx hb dX12_rescue_225 (by decide) ?_
                        refine lv_icmp_ne (tgt := 237) hx hb dX12_rescue_226 (by decide) (fun h28 => ?_) (fun h28 => ?_)
                        · have hf := (if_neg h28).symm.trans hf
                          refine lv_iload hx hb dX12_rescue_237 (lv_at hl 3 rfl) ?_
                          exact Jj26 x4_18 _ _ _ hP hD hS (lv_sub hl [] rfl) hf
                        · have hf := (if_pos h28).symm.trans hf
                          refine lv_aload_n hx hb dX12_rescue_229 rfl (lv_at hl 0 rfl) ?_
                          refine lv_iload_n hx hb dX12_rescue_230 rfl (lv_at hl 2 rfl) ?_
                          refine q_cVr (wf := (wX12 cI cZ cS ad)) (wc := wX12 cI cZ cS ad) (rest := []) ⟨hx, hb, hml, hown, hts⟩ hK hZ hA hP hD hS hf (fun x ho => kX12_worthOf l D cI cZ cS zz ad σ3 x3_11 x ho) (cwV 1 hts gX12_rescue_X12_worthOf rfl rfl rfl ndX12_worthOf ⟨Nat.le_of_ble_eq_true rfl, Nat.le_of_ble_eq_true rfl⟩) [0, 1, 2, 3, 4, 5, 6, 7, 8, 9, 10, 11] rfl rfl rfl rfl rfl rfl (hl.1) rfl (Nat.le_of_ble_eq_true rfl) dX12_rescue_231 ⟨Nat.zero_le _, Nat.zero_le _⟩ (fun r29 H locs hf hP hD hS => ?_)
                          refine lv_goto (tgt := 239) hx hb dX12_rescue_234 (by decide) ?_
                          exact Jj26 r29 _ _ _ hP hD hS (lv_sub hl [] rfl) hf
                      · have hf := (if_pos h27).symm.trans hf
                        refine lv_iload_n hx hb dX12_rescue_220 rfl (lv_at hl 2 rfl) ?_
                        refine lv_goto (tgt := 239) hx hb dX12_rescue_221 (by decide) ?_
                        exact Jj26 x3_11 _ _ _ hP hD hS (lv_sub hl [] rfl) hf
                    refine lv_icmp_ge (tgt := 216) hx hb dX12_rescue_146 (by decide) (fun h30 => ?_) (fun h30 => ?_)
                    · have hf := (if_pos h30).symm.trans hf
                      exact Jj24  _ _ _ hP hD hS (lv_sub hl [0, 1, 2, 3] rfl) hf
                    · have hf := (if_neg h30).symm.trans hf
                      refine lv_iload hx hb dX12_rescue_149 (lv_at hl 3 rfl) ?_
                      refine lv_if_ge (tgt := 216) hx hb dX12_rescue_151 (by decide) (fun h31 => ?_) (fun h31 => ?_)
                      · have hf := (if_pos h31).symm.trans hf
                        exact Jj24  _ _ _ hP hD hS (lv_sub hl [0, 1, 2, 3] rfl) hf
                      · have hf := (if_neg h31).symm.trans hf
                        refine lv_aload_n hx hb dX12_rescue_154 rfl (lv_at hl 0 rfl) ?_
                        refine lv_iload hx hb dX12_rescue_155 (lv_at hl 4 rfl) ?_
                        refine lv_iconst (v := 1) hx hb dX12_rescue_157 (by decide) ?_
                        refine q_cVr (wf := (wX12 cI cZ cS ad)) (wc := wX12 cI cZ cS ad) (rest := []) ⟨hx, hb, hml, hown, hts⟩ hK hZ hA hP hD hS hf (fun x ho => kX12_thingIts l D cI cZ cS zz ad σ3 x5_19 (1 : Int32) x ho) (cwV 2 hts gX12_rescue_X12_thingIts rfl rfl rfl ndX12_thingIts ⟨Nat.le_of_ble_eq_true rfl, Nat.le_of_ble_eq_true rfl⟩) [0, 1, 2, 3, 4, 5, 6, 7, 8, 9, 10, 11] rfl rfl rfl rfl rfl rfl (hl.1) rfl (Nat.le_of_ble_eq_true rfl) dX12_rescue_158 ⟨Nat.zero_le _, Nat.zero_le _⟩ (fun r32 H locs hf hP hD hS => ?_)
                        refine lv_istore (lv' := [(6, .int r32), (0, .ref (ad 0)), (1, .int a1), (3, .int x3_11), (4, .int x4_18), (5, .int x5_19)]) hx hb dX12_rescue_161 hl (by decide) rfl (fun ls hl => ?_)
                        refine lv_iload_n hx hb dX12_rescue_163 rfl (lv_at hl 3 rfl) ?_
                        refine lv_iload hx hb dX12_rescue_164 (lv_at hl 5 rfl) ?_
                        refine lv_ishr hx hb dX12_rescue_166 ?_
                        refine lv_iconst (v := 1) hx hb dX12_rescue_167 (by decide) ?_
                        refine lv_iand hx hb dX12_rescue_168 ?_
                        refine lv_iconst (v := 1) hx hb dX12_rescue_169 (by decide) ?_
                        refine q_lt_go hf (fun j34 ej34 hf => ?_)
                        have Jj34 : ∀ (y33 : Int32) (H : Heap) (locs : List Loc) (ls : Array Slot), va_P D vwCl ((wX12 cI cZ cS ad) σ3) H → va_D A ((wX12 cI cZ cS ad) σ3) → va_S A s.heap H locs → lv_has ls 7 [(0, .ref (ad 0)), (1, .int a1), (3, .int x3_11), (5, .int x5_19)] → j34 y33 = some (rr, σr) → W p l e rmX12_rescue s m ([.ref (ad 0), .int a1] : List Value).toArray below meth c H locs 0 0 Q (F0 m 208 ls [.int y33]) := by
                          intro y33 H locs ls hP hD hS hl hf
                          have hf := (congrFun ej34 y33).symm.trans hf
                          refine lv_istore (lv' := [(4, .int y33), (0, .ref (ad 0)), (1, .int a1), (3, .int x3_11), (5, .int x5_19)]) hx hb dX12_rescue_208 hl (by decide) rfl (fun ls hl => ?_)
                          refine lv_iinc (v := (x5_19 + (1 : Int32))) (lv' := [(5, .int (x5_19 + (1 : Int32))), (4, .int y33), (0, .ref (ad 0)), (1, .int a1), (3, .int x3_11)]) hx hb dX12_rescue_210 hl (k := 4) rfl rfl (by decide) rfl (fun ls hl => ?_)
                          refine lv_goto (tgt := 137) hx hb dX12_rescue_213 (by decide) ?_
                          exact ihz21 y33 (x5_19 + (1 : Int32)) _ _ _ hP hD hS (lv_sub hl [2, 3, 4, 1, 0] rfl) hf
                        refine q_lt_go hf (fun j35 ej35 hf => ?_)
                        have Jj35 : ∀ (H : Heap) (locs : List Loc) (ls : Array Slot), va_P D vwCl ((wX12 cI cZ cS ad) σ3) H → va_D A ((wX12 cI cZ cS ad) σ3) → va_S A s.heap H locs → lv_has ls 7 [(0, .ref (ad 0)), (1, .int a1), (3, .int x3_11), (5, .int x5_19)] → j35 = some (rr, σr) → W p l e rmX12_rescue s m ([.ref (ad 0), .int a1] : List Value).toArray below meth c H locs 0 0 Q (F0 m 207 ls []) := by
                          intro  H locs ls hP hD hS hl hf
                          have hf := ej35.symm.trans hf
                          refine lv_iconst (v := -1) hx hb dX12_rescue_207 (by decide) ?_
                          exact Jj34 (-1 : Int32) _ _ _ hP hD hS (lv_sub hl [0, 1, 2, 3] rfl) hf
                        refine lv_icmp_ne (tgt := 207) hx hb dX12_rescue_170 (by decide) (fun h36 => ?_) (fun h36 => ?_)
                        · have hf := (if_neg h36).symm.trans hf
                          exact Jj35  _ _ _ hP hD hS (lv_sub hl [1, 2, 3, 5] rfl) hf
                        · have hf := (if_pos h36).symm.trans hf
                          refine lv_iload hx hb dX12_rescue_173 (lv_at hl 0 rfl) ?_
                          refine lv_aload_n hx hb dX12_rescue_175 rfl (lv_at hl 1 rfl) ?_
                          refine va_get (D := D) (ci := 12) (C := RX12) (T := TX12) (N := 19) hx hb hts fwX12_rescue_X12 hown hK hP 0 rfl rfl 14 (by decide) (hts _ (List.mem_of_getElem? (i := 2) rfl)) (fun _ h9 => h9) rfl dX12_rescue_176 ?_
                          refine lv_iload hx hb dX12_rescue_179 (lv_at hl 5 rfl) ?_
                          refine w_iald (wf := (wX12 cI cZ cS ad)) hx hb hK hP 7 0 rfl rfl hf dX12_rescue_181 (fun v37 hf => ?_)
                          refine lv_icmp_gt (tgt := 207) hx hb dX12_rescue_182 (by decide) (fun h38 => ?_) (fun h38 => ?_)
                          · have hf := (if_pos h38).symm.trans hf
                            exact Jj35  _ _ _ hP hD hS (lv_sub hl [1, 2, 3, 5] rfl) hf
                          · have hf := (if_neg h38).symm.trans hf
                            refine lv_aload_n hx hb dX12_rescue_185 rfl (lv_at hl 1 rfl) ?_
                            refine lv_iload_n hx hb dX12_rescue_186 rfl (lv_at hl 3 rfl) ?_
                            refine lv_iconst (v := 1) hx hb dX12_rescue_187 (by decide) ?_
                            refine lv_iload hx hb dX12_rescue_188 (lv_at hl 5 rfl) ?_
                            refine lv_ishl hx hb dX12_rescue_190 ?_
                            refine lv_iconst (v := -1) hx hb dX12_rescue_191 (by decide) ?_
                            refine lv_ixor hx hb dX12_rescue_192 ?_
                            refine lv_iand hx hb dX12_rescue_193 ?_
                            refine lv_iload hx hb dX12_rescue_194 (lv_at hl 0 rfl) ?_
                            refine q_cVr (wf := (wX12 cI cZ cS ad)) (wc := wX12 cI cZ cS ad) (rest := []) ⟨hx, hb, hml, hown, hts⟩ hK hZ hA hP hD hS hf (fun x ho => kX12_canAll l D cI cZ cS zz ad σ3 (x3_11 &&& (((1 : Int32) <<< (x5_19 &&& (31 : Int32))) ^^^ (-1 : Int32))) r32 x ho) (cwV 2 hts gX12_rescue_X12_canAll rfl rfl rfl ndX12_canAll ⟨Nat.le_of_ble_eq_true rfl, Nat.le_of_ble_eq_true rfl⟩) [0, 1, 2, 3, 4, 5, 6, 7, 8, 9, 10, 11] rfl rfl rfl rfl rfl rfl (hl.1) rfl (Nat.le_of_ble_eq_true rfl) dX12_rescue_196 ⟨Nat.zero_le _, Nat.zero_le _⟩ (fun r39 H locs hf hP hD hS => ?_)
                            refine lv_if_eq (tgt := 207) hx hb dX12_rescue_199 (by decide) (fun h40 => ?_) (fun h40 => ?_)
                            · have hf := (if_pos h40).symm.trans hf
                              exact Jj35  _ _ _ hP hD hS (lv_sub hl [1, 2, 3, 5] rfl) hf
                            · have hf := (if_neg h40).symm.trans hf
                              refine lv_iload hx hb dX12_rescue_202 (lv_at hl 5 rfl) ?_
                              refine lv_goto (tgt := 208) hx hb dX12_rescue_204 (by decide) ?_
                              exact Jj34 x5_19 _ _ _ hP hD hS (lv_sub hl [1, 2, 3, 5] rfl) hf
                exact Lz21 q_fu (-1 : Int32) (0 : Int32) _ _ _ hP hD hS (lv_sub hl [2, 3, 5, 1, 0] rfl) hf
              · have hf := (if_neg h17).symm.trans hf
                refine lv_iload hx hb dX12_rescue_85 (lv_at hl 4 rfl) ?_
                refine lv_iload_n hx hb dX12_rescue_87 rfl (lv_at hl 2 rfl) ?_
                refine lv_iconst (v := -1) hx hb dX12_rescue_88 (by decide) ?_
                refine lv_ixor hx hb dX12_rescue_89 ?_
                refine lv_iand hx hb dX12_rescue_90 ?_
                refine q_lt_go hf (fun j42 ej42 hf => ?_)
                have Jj42 : ∀ (y41 : Int32) (H : Heap) (locs : List Loc) (ls : Array Slot), va_P D vwCl ((wX12 cI cZ cS ad) σ3) H → va_D A ((wX12 cI cZ cS ad) σ3) → va_S A s.heap H locs → lv_has ls 7 [(0, .ref (ad 0)), (1, .int a1), (2, .int x2_4), (4, .int x4_12)] → j42 y41 = some (rr, σr) → W p l e rmX12_rescue s m ([.ref (ad 0), .int a1] : List Value).toArray below meth c H locs 0 0 Q (F0 m 124 ls [.int y41]) := by
                  intro y41 H locs ls hP hD hS hl hf
                  have hf := (congrFun ej42 y41).symm.trans hf
                  refine lv_istore_n (lv' := [(3, .int y41), (0, .ref (ad 0)), (1, .int a1), (2, .int x2_4), (4, .int x4_12)]) hx hb dX12_rescue_124 rfl hl (by decide) rfl (fun ls hl => ?_)
                  refine lv_iinc (v := (x4_12 + (1 : Int32))) (lv' := [(4, .int (x4_12 + (1 : Int32))), (3, .int y41), (0, .ref (ad 0)), (1, .int a1), (2, .int x2_4)]) hx hb dX12_rescue_125 hl (k := 4) rfl rfl (by decide) rfl (fun ls hl => ?_)
                  refine lv_goto (tgt := 71) hx hb dX12_rescue_128 (by decide) ?_
                  exact ihz14 y41 (x4_12 + (1 : Int32)) _ _ _ hP hD hS (lv_sub hl [2, 3, 4, 1, 0] rfl) hf
                refine q_lt_go hf (fun j43 ej43 hf => ?_)
                have Jj43 : ∀ (H : Heap) (locs : List Loc) (ls : Array Slot), va_P D vwCl ((wX12 cI cZ cS ad) σ3) H → va_D A ((wX12 cI cZ cS ad) σ3) → va_S A s.heap H locs → lv_has ls 7 [(0, .ref (ad 0)), (1, .int a1), (2, .int x2_4), (3, .int x3_11), (4, .int x4_12)] → j43 = some (rr, σr) → W p l e rmX12_rescue s m ([.ref (ad 0), .int a1] : List Value).toArray below meth c H locs 0 0 Q (F0 m 123 ls []) := by
                  intro  H locs ls hP hD hS hl hf
                  have hf := ej43.symm.trans hf
                  refine lv_iload_n hx hb dX12_rescue_123 rfl (lv_at hl 3 rfl) ?_
                  exact Jj42 x3_11 _ _ _ hP hD hS (lv_sub hl [0, 1, 2, 4] rfl) hf
                refine lv_if_ne (tgt := 123) hx hb dX12_rescue_91 (by decide) (fun h44 => ?_) (fun h44 => ?_)
                · have hf := (if_neg h44).symm.trans hf
                  exact Jj43  _ _ _ hP hD hS (lv_sub hl [0, 1, 2, 3, 4] rfl) hf
                · have hf := (if_pos h44).symm.trans hf
                  refine lv_aload_n hx hb dX12_rescue_94 rfl (lv_at hl 0 rfl) ?_
                  refine lv_iload hx hb dX12_rescue_95 (lv_at hl 4 rfl) ?_
                  refine q_cVr (wf := (wX12 cI cZ cS ad)) (wc := wX12 cI cZ cS ad) (rest := []) ⟨hx, hb, hml, hown, hts⟩ hK hZ hA hP hD hS hf (fun x ho => kX12_worthOf l D cI cZ cS zz ad σ3 x4_12 x ho) (cwV 1 hts gX12_rescue_X12_worthOf rfl rfl rfl ndX12_worthOf ⟨Nat.le_of_ble_eq_true rfl, Nat.le_of_ble_eq_true rfl⟩) [0, 1, 2, 3, 4, 5, 6, 7, 8, 9, 10, 11] rfl rfl rfl rfl rfl rfl (hl.1) rfl (Nat.le_of_ble_eq_true rfl) dX12_rescue_97 ⟨Nat.zero_le _, Nat.zero_le _⟩ (fun r45 H locs hf hP hD hS => ?_)
                  refine lv_aload_n hx hb dX12_rescue_100 rfl (lv_at hl 0 rfl) ?_
                  refine lv_iload_n hx hb dX12_rescue_101 rfl (lv_at hl 3 rfl) ?_
                  refine q_cVr (wf := (wX12 cI cZ cS ad)) (wc := wX12 cI cZ cS ad) (rest := [.int r45]) ⟨hx, hb, hml, hown, hts⟩ hK hZ hA hP hD hS hf (fun x ho => kX12_worthOf l D cI cZ cS zz ad σ3 x3_11 x ho) (cwV 1 hts gX12_rescue_X12_worthOf rfl rfl rfl ndX12_worthOf ⟨Nat.le_of_ble_eq_true rfl, Nat.le_of_ble_eq_true rfl⟩) [0, 1, 2, 3, 4, 5, 6, 7, 8, 9, 10, 11] rfl rfl rfl rfl rfl rfl (hl.1) rfl (Nat.le_of_ble_eq_true rfl) dX12_rescue_102 ⟨Nat.zero_le _, Nat.zero_le _⟩ (fun r46 H locs hf hP hD hS => ?_)
                  refine lv_icmp_le (tgt := 123) hx hb dX12_rescue_105 (by decide) (fun h47 => ?_) (fun h47 => ?_)
                  · have hf := (if_pos h47).symm.trans hf
                    exact Jj43  _ _ _ hP hD hS (lv_sub hl [0, 1, 2, 3, 4] rfl) hf
                  · have hf := (if_neg h47).symm.trans hf
                    refine lv_aload_n hx hb dX12_rescue_108 rfl (lv_at hl 0 rfl) ?_
                    refine lv_iload hx hb dX12_rescue_109 (lv_at hl 4 rfl) ?_
                    refine lv_iconst (v := 0) hx hb dX12_rescue_111 (by decide) ?_
                    refine q_cVr (wf := (wX12 cI cZ cS ad)) (wc := wX12 cI cZ cS ad) (rest := []) ⟨hx, hb, hml, hown, hts⟩ hK hZ hA hP hD hS hf (fun x ho => kX12_canAll l D cI cZ cS zz ad σ3 x4_12 (0 : Int32) x ho) (cwV 2 hts gX12_rescue_X12_canAll rfl rfl rfl ndX12_canAll ⟨Nat.le_of_ble_eq_true rfl, Nat.le_of_ble_eq_true rfl⟩) [0, 1, 2, 3, 4, 5, 6, 7, 8, 9, 10, 11] rfl rfl rfl rfl rfl rfl (hl.1) rfl (Nat.le_of_ble_eq_true rfl) dX12_rescue_112 ⟨Nat.zero_le _, Nat.zero_le _⟩ (fun r48 H locs hf hP hD hS => ?_)
                    refine lv_if_eq (tgt := 123) hx hb dX12_rescue_115 (by decide) (fun h49 => ?_) (fun h49 => ?_)
                    · have hf := (if_pos h49).symm.trans hf
                      exact Jj43  _ _ _ hP hD hS (lv_sub hl [0, 1, 2, 3, 4] rfl) hf
                    · have hf := (if_neg h49).symm.trans hf
                      refine lv_iload hx hb dX12_rescue_118 (lv_at hl 4 rfl) ?_
                      refine lv_goto (tgt := 124) hx hb dX12_rescue_120 (by decide) ?_
                      exact Jj42 x4_12 _ _ _ hP hD hS (lv_sub hl [0, 1, 2, 4] rfl) hf
          exact Lz14 q_fu (0 : Int32) (1 : Int32) _ _ _ hP hD hS (lv_sub hl [2, 3, 4, 1, 0] rfl) hf
        · have hf := (if_neg h10).symm.trans hf
          refine lv_iload_n hx hb dX12_rescue_34 rfl (lv_at hl 2 rfl) ?_
          refine lv_aload_n hx hb dX12_rescue_35 rfl (lv_at hl 0 rfl) ?_
          refine lv_iload_n hx hb dX12_rescue_36 rfl (lv_at hl 3 rfl) ?_
          refine lv_iconst (v := 3) hx hb dX12_rescue_37 (by decide) ?_
          refine q_cVr (wf := (wX12 cI cZ cS ad)) (wc := wX12 cI cZ cS ad) (rest := [.int x2_4]) ⟨hx, hb, hml, hown, hts⟩ hK hZ hA hP hD hS hf (fun x ho => kX12_thingIts l D cI cZ cS zz ad σ3 x3_5 (3 : Int32) x ho) (cwV 2 hts gX12_rescue_X12_thingIts rfl rfl rfl ndX12_thingIts ⟨Nat.le_of_ble_eq_true rfl, Nat.le_of_ble_eq_true rfl⟩) [0, 1, 2, 3, 4, 5, 6, 7, 8, 9, 10, 11] rfl rfl rfl rfl rfl rfl (hl.1) rfl (Nat.le_of_ble_eq_true rfl) dX12_rescue_38 ⟨Nat.zero_le _, Nat.zero_le _⟩ (fun r50 H locs hf hP hD hS => ?_)
          refine lv_aload_n hx hb dX12_rescue_41 rfl (lv_at hl 0 rfl) ?_
          refine lv_iload_n hx hb dX12_rescue_42 rfl (lv_at hl 3 rfl) ?_
          refine lv_iconst (v := 4) hx hb dX12_rescue_43 (by decide) ?_
          refine q_cVr (wf := (wX12 cI cZ cS ad)) (wc := wX12 cI cZ cS ad) (rest := [.int r50, .int x2_4]) ⟨hx, hb, hml, hown, hts⟩ hK hZ hA hP hD hS hf (fun x ho => kX12_thingIts l D cI cZ cS zz ad σ3 x3_5 (4 : Int32) x ho) (cwV 2 hts gX12_rescue_X12_thingIts rfl rfl rfl ndX12_thingIts ⟨Nat.le_of_ble_eq_true rfl, Nat.le_of_ble_eq_true rfl⟩) [0, 1, 2, 3, 4, 5, 6, 7, 8, 9, 10, 11] rfl rfl rfl rfl rfl rfl (hl.1) rfl (Nat.le_of_ble_eq_true rfl) dX12_rescue_44 ⟨Nat.zero_le _, Nat.zero_le _⟩ (fun r51 H locs hf hP hD hS => ?_)
          refine lv_iadd hx hb dX12_rescue_47 ?_
          refine q_lt_go hf (fun j53 ej53 hf => ?_)
          have Jj53 : ∀ (y52 : Int32) (H : Heap) (locs : List Loc) (ls : Array Slot), va_P D vwCl ((wX12 cI cZ cS ad) σ3) H → va_D A ((wX12 cI cZ cS ad) σ3) → va_S A s.heap H locs → lv_has ls 7 [(0, .ref (ad 0)), (1, .int a1), (3, .int x3_5)] → j53 y52 = some (rr, σr) → W p l e rmX12_rescue s m ([.ref (ad 0), .int a1] : List Value).toArray below meth c H locs 0 0 Q (F0 m 58 ls [.int y52, .int x2_4]) := by
            intro y52 H locs ls hP hD hS hl hf
            have hf := (congrFun ej53 y52).symm.trans hf
            refine lv_ior hx hb dX12_rescue_58 ?_
            refine lv_topi (fun x2_54 ex2_54 => ?_)
            have hf := q_lt_at ex2_54 hf
            refine lv_istore_n (lv' := [(2, .int x2_54), (0, .ref (ad 0)), (1, .int a1), (3, .int x3_5)]) hx hb dX12_rescue_59 rfl hl (by decide) rfl (fun ls hl => ?_)
            refine lv_iinc (v := (x3_5 + (1 : Int32))) (lv' := [(3, .int (x3_5 + (1 : Int32))), (2, .int x2_54), (0, .ref (ad 0)), (1, .int a1)]) hx hb dX12_rescue_60 hl (k := 3) rfl rfl (by decide) rfl (fun ls hl => ?_)
            refine lv_goto (tgt := 23) hx hb dX12_rescue_63 (by decide) ?_
            exact ihz7 x2_54 (x3_5 + (1 : Int32)) _ _ _ hP hD hS (lv_sub hl [2, 3, 1, 0] rfl) hf
          refine lv_if_ne (tgt := 57) hx hb dX12_rescue_48 (by decide) (fun h55 => ?_) (fun h55 => ?_)
          · have hf := (if_neg h55).symm.trans hf
            refine lv_iconst (v := 0) hx hb dX12_rescue_57 (by decide) ?_
            exact Jj53 (0 : Int32) _ _ _ hP hD hS (lv_sub hl [0, 1, 3] rfl) hf
          · have hf := (if_pos h55).symm.trans hf
            refine lv_iconst (v := 1) hx hb dX12_rescue_51 (by decide) ?_
            refine lv_iload_n hx hb dX12_rescue_52 rfl (lv_at hl 3 rfl) ?_
            refine lv_ishl hx hb dX12_rescue_53 ?_
            refine lv_goto (tgt := 58) hx hb dX12_rescue_54 (by decide) ?_
            exact Jj53 ((1 : Int32) <<< (x3_5 &&& (31 : Int32))) _ _ _ hP hD hS (lv_sub hl [0, 1, 3] rfl) hf
    exact Lz7 q_fu (0 : Int32) (0 : Int32) _ _ _ hP hD hS (lv_sub hl [2, 3, 1, 0] rfl) hf
  · have hf := (if_pos h2).symm.trans hf
    refine lv_aload_n hx hb dX12_rescue_9 rfl (lv_at hl 0 rfl) ?_
    refine lv_iconst (v := 0) hx hb dX12_rescue_10 (by decide) ?_
    refine q_cVi (wf := (wX12 cI cZ cS ad)) (wc := wX12 cI cZ cS ad) (rest := []) ⟨hx, hb, hml, hown, hts⟩ hK hZ hA hP hD hS hf (fun x τ ho => kX12_finding l D cI cZ cS zz ad σ (0 : Int32) x τ ho) (cwV 1 hts gX12_rescue_X12_finding rfl rfl rfl ndX12_finding ⟨Nat.le_of_ble_eq_true rfl, Nat.le_of_ble_eq_true rfl⟩) [0, 1, 2, 3, 4, 5, 6, 7, 8, 9, 10, 11] rfl rfl [some 0, some 1, some 2, some 3, some 4, some 5, some 6, some 7, some 8, some 9, some 10, some 11] (by decide +kernel) (Nat.le_of_ble_eq_true rfl) (fun _ => rfl) (fun _ => rfl) (fun _ => rfl) rfl rfl rfl rfl (hl.1) rfl (Nat.le_of_ble_eq_true rfl) dX12_rescue_11 ⟨Nat.zero_le _, Nat.zero_le _⟩ (fun r57 σ56 H locs hf hP hD hS => ?_)
    obtain ⟨hi1, hi2⟩ := Prod.mk.inj (Option.some.inj hf)
    subst hi1
    subst hi2
    exact hret _ _ _ _ dX12_rescue_14 rfl hP hS
def pX12_weightOf (σ : SS) (a1 : Int32) : Option Int32 := q_lp (fun _ _ => none) (fun (c3 : Int32 → Int32 → Option Int32) (x2_1 : Int32) (x3_2 : Int32) => (if (10 : Int32) ≤ x3_2 then some x2_1 else q_lt (fun (y7 : Int32) => q_lt (x2_1 + y7) (fun x2_9 => c3 x2_9 (x3_2 + (1 : Int32)))) (fun j8 => (if ((a1 >>> (x3_2 &&& (31 : Int32))) &&& (1 : Int32)) = (1 : Int32) then q_cr (pX12_thingIts σ x3_2 (1 : Int32)) (fun (r11 : Int32) => j8 r11) else j8 (0 : Int32))))) q_fu (0 : Int32) (0 : Int32)
abbrev rmX12_weightOf : Room := { frames := 1, cells := 0, slots := 0, locals := 22 }
set_option maxHeartbeats 4000000 in
set_option maxRecDepth 100000 in
theorem kX12_weightOf (l : Launch) (D : va_G) (cI cZ cS : ClassId) (zz : ZT) (ad : Nat → Nat) (σ : SS) (a1 : Int32) (rr : Int32) (hf : pX12_weightOf σ a1 = some rr) : CI l yX12_weightOf wsX12_weightOf rmX12_weightOf D (K3 cI cZ cS) zz [.ref (ad 0), .int a1] (wX12 cI cZ cS ad σ) (wX12 cI cZ cS ad σ) rr := by
  refine q_ofI (cc := cX12_weightOf) (maxL := 4) (ty := .int) (by decide) rfl (Nat.le_of_ble_eq_true rfl) ?_
  intro p e s m below meth c Q A ls hx hb hml hown hts hK hZ hA hP hD hS hl hret
  have hl : lv_has ls 4 [(0, .ref (ad 0)), (1, .int a1)] := hl
  unfold pX12_weightOf at hf
  refine lv_iconst (v := 0) hx hb dX12_weightOf_0 (by decide) ?_
  refine lv_istore_n (lv' := [(2, .int (0 : Int32)), (0, .ref (ad 0)), (1, .int a1)]) hx hb dX12_weightOf_1 rfl hl (by decide) rfl (fun ls hl => ?_)
  refine lv_iconst (v := 0) hx hb dX12_weightOf_2 (by decide) ?_
  refine lv_istore_n (lv' := [(3, .int (0 : Int32)), (2, .int (0 : Int32)), (0, .ref (ad 0)), (1, .int a1)]) hx hb dX12_weightOf_3 rfl hl (by decide) rfl (fun ls hl => ?_)
  refine q_lp_go (f := fun (zf : Int32 → Int32 → Option Int32) => zf (0 : Int32) (0 : Int32)) hf (fun z4 ez4 hf => ?_)
  have Lz4 : ∀ (n5 : Nat) (x2_1 : Int32) (x3_2 : Int32) (H : Heap) (locs : List Loc) (ls : Array Slot), va_P D vwCl ((wX12 cI cZ cS ad) σ) H → va_D A ((wX12 cI cZ cS ad) σ) → va_S A s.heap H locs → lv_has ls 4 [(0, .ref (ad 0)), (1, .int a1), (2, .int x2_1), (3, .int x3_2)] → q_lp (fun _ _ => none) z4 n5 x2_1 x3_2 = some rr → W p l e rmX12_weightOf s m ([.ref (ad 0), .int a1] : List Value).toArray below meth c H locs 0 0 Q (F0 m 4 ls []) := by
    intro n5
    induction n5 with
    | zero => exact fun _ _ _ _ _ _ _ _ _ hf => q_no hf
    | succ n5 ihz4 =>
      intro x2_1 x3_2 H locs ls hP hD hS hl hf
      have hf := (congrFun (congrFun (congrFun ez4 (q_lp (fun _ _ => none) z4 n5)) x2_1) x3_2).symm.trans hf
      refine lv_iload_n hx hb dX12_weightOf_4 rfl (lv_at hl 3 rfl) ?_
      refine lv_bipush (v := 10) hx hb dX12_weightOf_5 (by decide) ?_
      refine lv_icmp_ge (tgt := 38) hx hb dX12_weightOf_7 (by decide) (fun h6 => ?_) (fun h6 => ?_)
      · have hf := (if_pos h6).symm.trans hf
        refine lv_iload_n hx hb dX12_weightOf_38 rfl (lv_at hl 2 rfl) ?_
        have hi1 := Option.some.inj hf
        subst hi1
        exact hret _ _ _ _ dX12_weightOf_39 rfl hP hS
      · have hf := (if_neg h6).symm.trans hf
        refine lv_iload_n hx hb dX12_weightOf_10 rfl (lv_at hl 2 rfl) ?_
        refine lv_iload_n hx hb dX12_weightOf_11 rfl (lv_at hl 1 rfl) ?_
        refine lv_iload_n hx hb dX12_weightOf_12 rfl (lv_at hl 3 rfl) ?_
        refine lv_ishr hx hb dX12_weightOf_13 ?_
        refine lv_iconst (v := 1) hx hb dX12_weightOf_14 (by decide) ?_
        refine lv_iand hx hb dX12_weightOf_15 ?_
        refine lv_iconst (v := 1) hx hb dX12_weightOf_16 (by decide) ?_
        refine q_lt_go hf (fun j8 ej8 hf => ?_)
        have Jj8 : ∀ (y7 : Int32) (H : Heap) (locs : List Loc) (ls : Array Slot), va_P D vwCl ((wX12 cI cZ cS ad) σ) H → va_D A ((wX12 cI cZ cS ad) σ) → va_S A s.heap H locs → lv_has ls 4 [(0, .ref (ad 0)), (1, .int a1), (3, .int x3_2)] → j8 y7 = some rr → W p l e rmX12_weightOf s m ([.ref (ad 0), .int a1] : List Value).toArray below meth c H locs 0 0 Q (F0 m 30 ls [.int y7, .int x2_1]) := by
          intro y7 H locs ls hP hD hS hl hf
          have hf := (congrFun ej8 y7).symm.trans hf
          refine lv_iadd hx hb dX12_weightOf_30 ?_
          refine lv_topi (fun x2_9 ex2_9 => ?_)
          have hf := q_lt_at ex2_9 hf
          refine lv_istore_n (lv' := [(2, .int x2_9), (0, .ref (ad 0)), (1, .int a1), (3, .int x3_2)]) hx hb dX12_weightOf_31 rfl hl (by decide) rfl (fun ls hl => ?_)
          refine lv_iinc (v := (x3_2 + (1 : Int32))) (lv' := [(3, .int (x3_2 + (1 : Int32))), (2, .int x2_9), (0, .ref (ad 0)), (1, .int a1)]) hx hb dX12_weightOf_32 hl (k := 3) rfl rfl (by decide) rfl (fun ls hl => ?_)
          refine lv_goto (tgt := 4) hx hb dX12_weightOf_35 (by decide) ?_
          exact ihz4 x2_9 (x3_2 + (1 : Int32)) _ _ _ hP hD hS (lv_sub hl [2, 3, 1, 0] rfl) hf
        refine lv_icmp_ne (tgt := 29) hx hb dX12_weightOf_17 (by decide) (fun h10 => ?_) (fun h10 => ?_)
        · have hf := (if_neg h10).symm.trans hf
          refine lv_iconst (v := 0) hx hb dX12_weightOf_29 (by decide) ?_
          exact Jj8 (0 : Int32) _ _ _ hP hD hS (lv_sub hl [0, 1, 3] rfl) hf
        · have hf := (if_pos h10).symm.trans hf
          refine lv_aload_n hx hb dX12_weightOf_20 rfl (lv_at hl 0 rfl) ?_
          refine lv_iload_n hx hb dX12_weightOf_21 rfl (lv_at hl 3 rfl) ?_
          refine lv_iconst (v := 1) hx hb dX12_weightOf_22 (by decide) ?_
          refine q_cVr (wf := (wX12 cI cZ cS ad)) (wc := wX12 cI cZ cS ad) (rest := [.int x2_1]) ⟨hx, hb, hml, hown, hts⟩ hK hZ hA hP hD hS hf (fun x ho => kX12_thingIts l D cI cZ cS zz ad σ x3_2 (1 : Int32) x ho) (cwV 2 hts gX12_weightOf_X12_thingIts rfl rfl rfl ndX12_thingIts ⟨Nat.le_of_ble_eq_true rfl, Nat.le_of_ble_eq_true rfl⟩) [0, 1, 2, 3, 4, 5, 6, 7, 8, 9, 10, 11] rfl rfl rfl rfl rfl rfl (hl.1) rfl (Nat.le_of_ble_eq_true rfl) dX12_weightOf_23 ⟨Nat.zero_le _, Nat.zero_le _⟩ (fun r11 H locs hf hP hD hS => ?_)
          refine lv_goto (tgt := 30) hx hb dX12_weightOf_26 (by decide) ?_
          exact Jj8 r11 _ _ _ hP hD hS (lv_sub hl [0, 1, 3] rfl) hf
  exact Lz4 q_fu (0 : Int32) (0 : Int32) _ _ _ hP hD hS (lv_sub hl [2, 3, 1, 0] rfl) hf
def pX12_shelf (σ : SS) (a1 : Int32) (a2 : Int32) : Option (Int32 × SS) := q_cr (pX12_in a1 (0 : Int32) (600 : Int32)) (fun (r1 : Int32) => q_lt (q_ci (pX12_finding σ (0 : Int32)) (fun (τ : SS) => τ) (fun (r4 : Int32) (σ3 : SS) => some (r4, σ3))) (fun j2 => (if r1 = (0 : Int32) then j2 else q_cr (pX12_in a2 (0 : Int32) (1 : Int32)) (fun (r6 : Int32) => (if r6 = (0 : Int32) then j2 else q_lp (fun _ _ => none) (fun (c10 : Int32 → Int32 → Option (Int32 × SS)) (x3_8 : Int32) (x4_9 : Int32) => q_rd (σ 1) 307 (17 : Int32) (fun (v13 : Int32) => (if ((1 : Int32) <<< (v13 &&& (31 : Int32))) ≤ x4_9 then q_lt (fun (y15 : Int32) => some (y15, σ)) (fun j16 => (if a2 = (0 : Int32) then j16 x3_8 else q_cr (pX12_worthOf σ x3_8) (fun (r18 : Int32) => j16 r18))) else q_cr (pX12_weightOf σ x4_9) (fun (r19 : Int32) => q_lt (fun (y20 : Int32) => c10 y20 (x4_9 + (1 : Int32))) (fun j21 => q_lt (j21 x3_8) (fun j22 => (if a1 < r19 then j22 else q_cr (pX12_worthOf σ x4_9) (fun (r24 : Int32) => q_cr (pX12_worthOf σ x3_8) (fun (r25 : Int32) => (if r24 ≤ r25 then j22 else j21 x4_9)))))))))) q_fu (0 : Int32) (1 : Int32))))))
theorem fwX12_shelf_X12 : ∀ w ∈ wsX120, w ∈ wsX12_shelf := fun _ h => List.mem_cons_of_mem _ (List.mem_append_right _ h)
abbrev rmX12_shelf : Room := { frames := 2, cells := 0, slots := 0, locals := 45 }
set_option maxHeartbeats 4000000 in
set_option maxRecDepth 100000 in
theorem kX12_shelf (l : Launch) (D : va_G) (cI cZ cS : ClassId) (zz : ZT) (ad : Nat → Nat) (σ : SS) (a1 : Int32) (a2 : Int32) (rr : Int32) (σr : SS) (hf : pX12_shelf σ a1 a2 = some (rr, σr)) : CI l yX12_shelf wsX12_shelf rmX12_shelf D (K3 cI cZ cS) zz [.ref (ad 0), .int a1, .int a2] (wX12 cI cZ cS ad σ) (wX12 cI cZ cS ad σr) rr := by
  refine q_ofI (cc := cX12_shelf) (maxL := 5) (ty := .int) (by decide) rfl (Nat.le_of_ble_eq_true rfl) ?_
  intro p e s m below meth c Q A ls hx hb hml hown hts hK hZ hA hP hD hS hl hret
  have hl : lv_has ls 5 [(0, .ref (ad 0)), (1, .int a1), (2, .int a2)] := hl
  unfold pX12_shelf at hf
  refine lv_iload_n hx hb dX12_shelf_0 rfl (lv_at hl 1 rfl) ?_
  refine lv_iconst (v := 0) hx hb dX12_shelf_1 (by decide) ?_
  refine lv_sipush (v := 600) hx hb dX12_shelf_2 (by decide) ?_
  refine q_cSr (wf := (wX12 cI cZ cS ad)) (rest := []) ⟨hx, hb, hml, hown, hts⟩ hK hZ hA hP hD hS hf (fun x ho => kX12_in l D cI cZ cS zz a1 (0 : Int32) (600 : Int32) x ho) (va_cwS 3 hts gX12_shelf_X12_in rfl rfl rfl ndX12_in.2 ⟨Nat.le_of_ble_eq_true rfl, Nat.le_of_ble_eq_true rfl⟩) rfl (hl.1) rfl (Nat.le_of_ble_eq_true rfl) dX12_shelf_5 ⟨Nat.zero_le _, Nat.zero_le _⟩ (fun r1 H locs hf hP hD hS => ?_)
  refine q_lt_go hf (fun j2 ej2 hf => ?_)
  have Jj2 : ∀ (H : Heap) (locs : List Loc) (ls : Array Slot), va_P D vwCl ((wX12 cI cZ cS ad) σ) H → va_D A ((wX12 cI cZ cS ad) σ) → va_S A s.heap H locs → lv_has ls 5 [(0, .ref (ad 0))] → j2 = some (rr, σr) → W p l e rmX12_shelf s m ([.ref (ad 0), .int a1, .int a2] : List Value).toArray below meth c H locs 0 0 Q (F0 m 20 ls []) := by
    intro  H locs ls hP hD hS hl hf
    have hf := ej2.symm.trans hf
    refine lv_aload_n hx hb dX12_shelf_20 rfl (lv_at hl 0 rfl) ?_
    refine lv_iconst (v := 0) hx hb dX12_shelf_21 (by decide) ?_
    refine q_cVi (wf := (wX12 cI cZ cS ad)) (wc := wX12 cI cZ cS ad) (rest := []) ⟨hx, hb, hml, hown, hts⟩ hK hZ hA hP hD hS hf (fun x τ ho => kX12_finding l D cI cZ cS zz ad σ (0 : Int32) x τ ho) (cwV 1 hts gX12_shelf_X12_finding rfl rfl rfl ndX12_finding ⟨Nat.le_of_ble_eq_true rfl, Nat.le_of_ble_eq_true rfl⟩) [0, 1, 2, 3, 4, 5, 6, 7, 8, 9, 10, 11] rfl rfl [some 0, some 1, some 2, some 3, some 4, some 5, some 6, some 7, some 8, some 9, some 10, some 11] (by decide +kernel) (Nat.le_of_ble_eq_true rfl) (fun _ => rfl) (fun _ => rfl) (fun _ => rfl) rfl rfl rfl rfl (hl.1) rfl (Nat.le_of_ble_eq_true rfl) dX12_shelf_22 ⟨Nat.zero_le _, Nat.zero_le _⟩ (fun r4 σ3 H locs hf hP hD hS => ?_)
    obtain ⟨hi1, hi2⟩ := Prod.mk.inj (Option.some.inj hf)
    subst hi1
    subst hi2
    exact hret _ _ _ _ dX12_shelf_25 rfl hP hS
  refine lv_if_eq (tgt := 20) hx hb dX12_shelf_8 (by decide) (fun h5 => ?_) (fun h5 => ?_)
  · have hf := (if_pos h5).symm.trans hf
    exact Jj2  _ _ _ hP hD hS (lv_sub hl [0] rfl) hf
  · have hf := (if_neg h5).symm.trans hf
    refine lv_iload_n hx hb dX12_shelf_11 rfl (lv_at hl 2 rfl) ?_
    refine lv_iconst (v := 0) hx hb dX12_shelf_12 (by decide) ?_
    refine lv_iconst (v := 1) hx hb dX12_shelf_13 (by decide) ?_
    refine q_cSr (wf := (wX12 cI cZ cS ad)) (rest := []) ⟨hx, hb, hml, hown, hts⟩ hK hZ hA hP hD hS hf (fun x ho => kX12_in l D cI cZ cS zz a2 (0 : Int32) (1 : Int32) x ho) (va_cwS 3 hts gX12_shelf_X12_in rfl rfl rfl ndX12_in.2 ⟨Nat.le_of_ble_eq_true rfl, Nat.le_of_ble_eq_true rfl⟩) rfl (hl.1) rfl (Nat.le_of_ble_eq_true rfl) dX12_shelf_14 ⟨Nat.zero_le _, Nat.zero_le _⟩ (fun r6 H locs hf hP hD hS => ?_)
    refine lv_if_ne (tgt := 26) hx hb dX12_shelf_17 (by decide) (fun h7 => ?_) (fun h7 => ?_)
    · have hf := (if_neg h7).symm.trans hf
      refine lv_iconst (v := 0) hx hb dX12_shelf_26 (by decide) ?_
      refine lv_istore_n (lv' := [(3, .int (0 : Int32)), (0, .ref (ad 0)), (1, .int a1), (2, .int a2)]) hx hb dX12_shelf_27 rfl hl (by decide) rfl (fun ls hl => ?_)
      refine lv_iconst (v := 1) hx hb dX12_shelf_28 (by decide) ?_
      refine lv_istore (lv' := [(4, .int (1 : Int32)), (3, .int (0 : Int32)), (0, .ref (ad 0)), (1, .int a1), (2, .int a2)]) hx hb dX12_shelf_29 hl (by decide) rfl (fun ls hl => ?_)
      refine q_lp_go (f := fun (zf : Int32 → Int32 → Option (Int32 × SS)) => zf (0 : Int32) (1 : Int32)) hf (fun z11 ez11 hf => ?_)
      have Lz11 : ∀ (n12 : Nat) (x3_8 : Int32) (x4_9 : Int32) (H : Heap) (locs : List Loc) (ls : Array Slot), va_P D vwCl ((wX12 cI cZ cS ad) σ) H → va_D A ((wX12 cI cZ cS ad) σ) → va_S A s.heap H locs → lv_has ls 5 [(0, .ref (ad 0)), (1, .int a1), (2, .int a2), (3, .int x3_8), (4, .int x4_9)] → q_lp (fun _ _ => none) z11 n12 x3_8 x4_9 = some (rr, σr) → W p l e rmX12_shelf s m ([.ref (ad 0), .int a1, .int a2] : List Value).toArray below meth c H locs 0 0 Q (F0 m 31 ls []) := by
        intro n12
        induction n12 with
        | zero => exact fun _ _ _ _ _ _ _ _ _ hf => q_no hf
        | succ n12 ihz11 =>
          intro x3_8 x4_9 H locs ls hP hD hS hl hf
          have hf := (congrFun (congrFun (congrFun ez11 (q_lp (fun _ _ => none) z11 n12)) x3_8) x4_9).symm.trans hf
          refine lv_iload hx hb dX12_shelf_31 (lv_at hl 4 rfl) ?_
          refine lv_iconst (v := 1) hx hb dX12_shelf_33 (by decide) ?_
          refine lv_aload_n hx hb dX12_shelf_34 rfl (lv_at hl 0 rfl) ?_
          refine va_get (D := D) (ci := 12) (C := RX12) (T := TX12) (N := 19) hx hb hts fwX12_shelf_X12 hown hK hP 0 rfl rfl 0 (by decide) (hts _ (List.mem_of_getElem? (i := 1) rfl)) (fun _ h9 => h9) rfl dX12_shelf_35 ?_
          refine lv_bipush (v := 17) hx hb dX12_shelf_38 (by decide) ?_
          refine w_iald (wf := (wX12 cI cZ cS ad)) hx hb hK hP 1 0 rfl rfl hf dX12_shelf_40 (fun v13 hf => ?_)
          refine lv_ishl hx hb dX12_shelf_41 ?_
          refine lv_icmp_ge (tgt := 82) hx hb dX12_shelf_42 (by decide) (fun h14 => ?_) (fun h14 => ?_)
          · have hf := (if_pos h14).symm.trans hf
            refine lv_iload_n hx hb dX12_shelf_82 rfl (lv_at hl 2 rfl) ?_
            refine q_lt_go hf (fun j16 ej16 hf => ?_)
            have Jj16 : ∀ (y15 : Int32) (H : Heap) (locs : List Loc) (ls : Array Slot), va_P D vwCl ((wX12 cI cZ cS ad) σ) H → va_D A ((wX12 cI cZ cS ad) σ) → va_S A s.heap H locs → lv_has ls 5 [] → j16 y15 = some (rr, σr) → W p l e rmX12_shelf s m ([.ref (ad 0), .int a1, .int a2] : List Value).toArray below meth c H locs 0 0 Q (F0 m 95 ls [.int y15]) := by
              intro y15 H locs ls hP hD hS hl hf
              have hf := (congrFun ej16 y15).symm.trans hf
              obtain ⟨hi1, hi2⟩ := Prod.mk.inj (Option.some.inj hf)
              subst hi1
              subst hi2
              exact hret _ _ _ _ dX12_shelf_95 rfl hP hS
            refine lv_if_ne (tgt := 90) hx hb dX12_shelf_83 (by decide) (fun h17 => ?_) (fun h17 => ?_)
            · have hf := (if_neg h17).symm.trans hf
              refine lv_aload_n hx hb dX12_shelf_90 rfl (lv_at hl 0 rfl) ?_
              refine lv_iload_n hx hb dX12_shelf_91 rfl (lv_at hl 3 rfl) ?_
              refine q_cVr (wf := (wX12 cI cZ cS ad)) (wc := wX12 cI cZ cS ad) (rest := []) ⟨hx, hb, hml, hown, hts⟩ hK hZ hA hP hD hS hf (fun x ho => kX12_worthOf l D cI cZ cS zz ad σ x3_8 x ho) (cwV 1 hts gX12_shelf_X12_worthOf rfl rfl rfl ndX12_worthOf ⟨Nat.le_of_ble_eq_true rfl, Nat.le_of_ble_eq_true rfl⟩) [0, 1, 2, 3, 4, 5, 6, 7, 8, 9, 10, 11] rfl rfl rfl rfl rfl rfl (hl.1) rfl (Nat.le_of_ble_eq_true rfl) dX12_shelf_92 ⟨Nat.zero_le _, Nat.zero_le _⟩ (fun r18 H locs hf hP hD hS => ?_)
              exact Jj16 r18 _ _ _ hP hD hS (lv_sub hl [] rfl) hf
            · have hf := (if_pos h17).symm.trans hf
              refine lv_iload_n hx hb dX12_shelf_86 rfl (lv_at hl 3 rfl) ?_
              refine lv_goto (tgt := 95) hx hb dX12_shelf_87 (by decide) ?_
              exact Jj16 x3_8 _ _ _ hP hD hS (lv_sub hl [] rfl) hf
          · have hf := (if_neg h14).symm.trans hf
            refine lv_aload_n hx hb dX12_shelf_45 rfl (lv_at hl 0 rfl) ?_
            refine lv_iload hx hb dX12_shelf_46 (lv_at hl 4 rfl) ?_
            refine q_cVr (wf := (wX12 cI cZ cS ad)) (wc := wX12 cI cZ cS ad) (rest := []) ⟨hx, hb, hml, hown, hts⟩ hK hZ hA hP hD hS hf (fun x ho => kX12_weightOf l D cI cZ cS zz ad σ x4_9 x ho) (cwV 1 hts gX12_shelf_X12_weightOf rfl rfl rfl ndX12_weightOf ⟨Nat.le_of_ble_eq_true rfl, Nat.le_of_ble_eq_true rfl⟩) [0, 1, 2, 3, 4, 5, 6, 7, 8, 9, 10, 11] rfl rfl rfl rfl rfl rfl (hl.1) rfl (Nat.le_of_ble_eq_true rfl) dX12_shelf_48 ⟨Nat.zero_le _, Nat.zero_le _⟩ (fun r19 H locs hf hP hD hS => ?_)
            refine lv_iload_n hx hb dX12_shelf_51 rfl (lv_at hl 1 rfl) ?_
            refine q_lt_go hf (fun j21 ej21 hf => ?_)
            have Jj21 : ∀ (y20 : Int32) (H : Heap) (locs : List Loc) (ls : Array Slot), va_P D vwCl ((wX12 cI cZ cS ad) σ) H → va_D A ((wX12 cI cZ cS ad) σ) → va_S A s.heap H locs → lv_has ls 5 [(0, .ref (ad 0)), (1, .int a1), (2, .int a2), (4, .int x4_9)] → j21 y20 = some (rr, σr) → W p l e rmX12_shelf s m ([.ref (ad 0), .int a1, .int a2] : List Value).toArray below meth c H locs 0 0 Q (F0 m 75 ls [.int y20]) := by
              intro y20 H locs ls hP hD hS hl hf
              have hf := (congrFun ej21 y20).symm.trans hf
              refine lv_istore_n (lv' := [(3, .int y20), (0, .ref (ad 0)), (1, .int a1), (2, .int a2), (4, .int x4_9)]) hx hb dX12_shelf_75 rfl hl (by decide) rfl (fun ls hl => ?_)
              refine lv_iinc (v := (x4_9 + (1 : Int32))) (lv' := [(4, .int (x4_9 + (1 : Int32))), (3, .int y20), (0, .ref (ad 0)), (1, .int a1), (2, .int a2)]) hx hb dX12_shelf_76 hl (k := 4) rfl rfl (by decide) rfl (fun ls hl => ?_)
              refine lv_goto (tgt := 31) hx hb dX12_shelf_79 (by decide) ?_
              exact ihz11 y20 (x4_9 + (1 : Int32)) _ _ _ hP hD hS (lv_sub hl [2, 3, 4, 1, 0] rfl) hf
            refine q_lt_go hf (fun j22 ej22 hf => ?_)
            have Jj22 : ∀ (H : Heap) (locs : List Loc) (ls : Array Slot), va_P D vwCl ((wX12 cI cZ cS ad) σ) H → va_D A ((wX12 cI cZ cS ad) σ) → va_S A s.heap H locs → lv_has ls 5 [(0, .ref (ad 0)), (1, .int a1), (2, .int a2), (3, .int x3_8), (4, .int x4_9)] → j22 = some (rr, σr) → W p l e rmX12_shelf s m ([.ref (ad 0), .int a1, .int a2] : List Value).toArray below meth c H locs 0 0 Q (F0 m 74 ls []) := by
              intro  H locs ls hP hD hS hl hf
              have hf := ej22.symm.trans hf
              refine lv_iload_n hx hb dX12_shelf_74 rfl (lv_at hl 3 rfl) ?_
              exact Jj21 x3_8 _ _ _ hP hD hS (lv_sub hl [0, 1, 2, 4] rfl) hf
            refine lv_icmp_gt (tgt := 74) hx hb dX12_shelf_52 (by decide) (fun h23 => ?_) (fun h23 => ?_)
            · have hf := (if_pos h23).symm.trans hf
              exact Jj22  _ _ _ hP hD hS (lv_sub hl [0, 1, 2, 3, 4] rfl) hf
            · have hf := (if_neg h23).symm.trans hf
              refine lv_aload_n hx hb dX12_shelf_55 rfl (lv_at hl 0 rfl) ?_
              refine lv_iload hx hb dX12_shelf_56 (lv_at hl 4 rfl) ?_
              refine q_cVr (wf := (wX12 cI cZ cS ad)) (wc := wX12 cI cZ cS ad) (rest := []) ⟨hx, hb, hml, hown, hts⟩ hK hZ hA hP hD hS hf (fun x ho => kX12_worthOf l D cI cZ cS zz ad σ x4_9 x ho) (cwV 1 hts gX12_shelf_X12_worthOf rfl rfl rfl ndX12_worthOf ⟨Nat.le_of_ble_eq_true rfl, Nat.le_of_ble_eq_true rfl⟩) [0, 1, 2, 3, 4, 5, 6, 7, 8, 9, 10, 11] rfl rfl rfl rfl rfl rfl (hl.1) rfl (Nat.le_of_ble_eq_true rfl) dX12_shelf_58 ⟨Nat.zero_le _, Nat.zero_le _⟩ (fun r24 H locs hf hP hD hS => ?_)
              refine lv_aload_n hx hb dX12_shelf_61 rfl (lv_at hl 0 rfl) ?_
              refine lv_iload_n hx hb dX12_shelf_62 rfl (lv_at hl 3 rfl) ?_
              refine q_cVr (wf := (wX12 cI cZ cS ad)) (wc := wX12 cI cZ cS ad) (rest := [.int r24]) ⟨hx, hb, hml, hown, hts⟩ hK hZ hA hP hD hS hf (fun x ho => kX12_worthOf l D cI cZ cS zz ad σ x3_8 x ho) (cwV 1 hts gX12_shelf_X12_worthOf rfl rfl rfl ndX12_worthOf ⟨Nat.le_of_ble_eq_true rfl, Nat.le_of_ble_eq_true rfl⟩) [0, 1, 2, 3, 4, 5, 6, 7, 8, 9, 10, 11] rfl rfl rfl rfl rfl rfl (hl.1) rfl (Nat.le_of_ble_eq_true rfl) dX12_shelf_63 ⟨Nat.zero_le _, Nat.zero_le _⟩ (fun r25 H locs hf hP hD hS => ?_)
              refine lv_icmp_le (tgt := 74) hx hb dX12_shelf_66 (by decide) (fun h26 => ?_) (fun h26 => ?_)
              · have hf := (if_pos h26).symm.trans hf
                exact Jj22  _ _ _ hP hD hS (lv_sub hl [0, 1, 2, 3, 4] rfl) hf
              · have hf := (if_neg h26).symm.trans hf
                refine lv_iload hx hb dX12_shelf_69 (lv_at hl 4 rfl) ?_
                refine lv_goto (tgt := 75) hx hb dX12_shelf_71 (by decide) ?_
                exact Jj21 x4_9 _ _ _ hP hD hS (lv_sub hl [0, 1, 2, 4] rfl) hf
      exact Lz11 q_fu (0 : Int32) (1 : Int32) _ _ _ hP hD hS (lv_sub hl [2, 3, 4, 1, 0] rfl) hf
    · have hf := (if_pos h7).symm.trans hf
      exact Jj2  _ _ _ hP hD hS (lv_sub hl [0] rfl) hf
def pX12_draw (σ : SS) : Option (Int32 × SS) := q_rd (σ 1) 307 (20 : Int32) (fun (v1 : Int32) => q_wr σ 1 307 (20 : Int32) ((v1 * (1103515245 : Int32)) + (12345 : Int32)) (fun (σ2 : SS) => q_rd (σ2 1) 307 (20 : Int32) (fun (v3 : Int32) => some ((Int32.toUInt32 v3 >>> (Int32.toUInt32 (8 : Int32) &&& Int32.toUInt32 31)).toInt32, σ2))))
theorem fwX12_draw_X12 : ∀ w ∈ wsX120, w ∈ wsX12_draw := fun _ h => List.mem_cons_of_mem _ (List.mem_append_right _ h)
abbrev rmX12_draw : Room := { frames := 0, cells := 0, slots := 0, locals := 0 }
set_option maxHeartbeats 4000000 in
set_option maxRecDepth 100000 in
theorem kX12_draw (l : Launch) (D : va_G) (cI cZ cS : ClassId) (zz : ZT) (ad : Nat → Nat) (σ : SS) (rr : Int32) (σr : SS) (hf : pX12_draw σ = some (rr, σr)) : CI l yX12_draw wsX12_draw rmX12_draw D (K3 cI cZ cS) zz [.ref (ad 0)] (wX12 cI cZ cS ad σ) (wX12 cI cZ cS ad σr) rr := by
  refine q_ofI (cc := cX12_draw) (maxL := 1) (ty := .int) (by decide) rfl (Nat.le_of_ble_eq_true rfl) ?_
  intro p e s m below meth c Q A ls hx hb hml hown hts hK hZ hA hP hD hS hl hret
  have hl : lv_has ls 1 [(0, .ref (ad 0))] := hl
  unfold pX12_draw at hf
  refine lv_aload_n hx hb dX12_draw_0 rfl (lv_at hl 0 rfl) ?_
  refine va_get (D := D) (ci := 12) (C := RX12) (T := TX12) (N := 19) hx hb hts fwX12_draw_X12 hown hK hP 0 rfl rfl 0 (by decide) (hts _ (List.mem_of_getElem? (i := 1) rfl)) (fun _ h9 => h9) rfl dX12_draw_1 ?_
  refine lv_bipush (v := 20) hx hb dX12_draw_4 (by decide) ?_
  refine lv_aload_n hx hb dX12_draw_6 rfl (lv_at hl 0 rfl) ?_
  refine va_get (D := D) (ci := 12) (C := RX12) (T := TX12) (N := 19) hx hb hts fwX12_draw_X12 hown hK hP 0 rfl rfl 0 (by decide) (hts _ (List.mem_of_getElem? (i := 1) rfl)) (fun _ h9 => h9) rfl dX12_draw_7 ?_
  refine lv_bipush (v := 20) hx hb dX12_draw_10 (by decide) ?_
  refine w_iald (wf := (wX12 cI cZ cS ad)) hx hb hK hP 1 0 rfl rfl hf dX12_draw_12 (fun v1 hf => ?_)
  refine lv_ldc (v := 1103515245) hx hb hown (hts _ (List.mem_of_getElem? (i := 2) rfl)) dX12_draw_13 ?_
  refine lv_imul hx hb dX12_draw_15 ?_
  refine lv_sipush (v := 12345) hx hb dX12_draw_16 (by decide) ?_
  refine lv_iadd hx hb dX12_draw_19 ?_
  refine w_iast (wf := (wX12 cI cZ cS ad)) (cid := 1) hx hb hK hP hD hS 1 0 rfl rfl hf (fun _ => rfl) dX12_draw_20 (fun σ2 H locs hf hP hD hS => ?_)
  refine lv_aload_n hx hb dX12_draw_21 rfl (lv_at hl 0 rfl) ?_
  refine va_get (D := D) (ci := 12) (C := RX12) (T := TX12) (N := 19) hx hb hts fwX12_draw_X12 hown hK hP 0 rfl rfl 0 (by decide) (hts _ (List.mem_of_getElem? (i := 1) rfl)) (fun _ h9 => h9) rfl dX12_draw_22 ?_
  refine lv_bipush (v := 20) hx hb dX12_draw_25 (by decide) ?_
  refine w_iald (wf := (wX12 cI cZ cS ad)) hx hb hK hP 1 0 rfl rfl hf dX12_draw_27 (fun v3 hf => ?_)
  refine lv_bipush (v := 8) hx hb dX12_draw_28 (by decide) ?_
  refine lv_iushr hx hb dX12_draw_30 rfl ?_
  obtain ⟨hi1, hi2⟩ := Prod.mk.inj (Option.some.inj hf)
  subst hi1
  subst hi2
  exact hret _ _ _ _ dX12_draw_31 rfl hP hS
def pX12_odds (σ : SS) (a1 : Int32) (a2 : Int32) (a3 : Int32) : Option (Int32 × SS) := q_cr (pX12_in a1 (1 : Int32) (20 : Int32)) (fun (r1 : Int32) => q_lt (q_ci (pX12_finding σ (0 : Int32)) (fun (τ : SS) => τ) (fun (r4 : Int32) (σ3 : SS) => some (r4, σ3))) (fun j2 => (if r1 = (0 : Int32) then j2 else q_cr (pX12_in a2 (1 : Int32) (200 : Int32)) (fun (r6 : Int32) => (if r6 = (0 : Int32) then j2 else q_cr (pX12_in a3 (0 : Int32) (9999 : Int32)) (fun (r8 : Int32) => (if r8 = (0 : Int32) then j2 else q_lp (fun _ _ _ => none) (fun (c13 : SS → Int32 → Int32 → Option (Int32 × SS)) (σ12 : SS) (x4_10 : Int32) (x5_11 : Int32) => (if a1 ≤ x5_11 then some (x4_10, σ12) else q_ci (pX12_draw σ12) (fun (τ : SS) => τ) (fun (r18 : Int32) (σ17 : SS) => q_lt (r18 - r18 / (40 : Int32) * (40 : Int32)) (fun x6_19 => q_ci (pX12_draw σ17) (fun (τ : SS) => τ) (fun (r21 : Int32) (σ20 : SS) => q_lt (fun (y22 : Int32) => q_cs (pX12_begin σ20) (fun (τ : SS) => τ) (fun (σ24 : SS) => q_lt (su σ24 0 5 (0 : Int32)) (fun (σ25 : SS) => q_wr σ25 1 307 (0 : Int32) x6_19 (fun (σ26 : SS) => q_lt (fun (y27 : Int32) => q_wr σ26 1 307 (14 : Int32) y27 (fun (σ29 : SS) => q_cs (pX12_goesOn σ29 a2) (fun (τ : SS) => τ) (fun (σ30 : SS) => q_lt (fun (y31 : Int32) => q_lt (x4_10 + y31) (fun x4_33 => q_cs (pX12_layBack σ30) (fun (τ : SS) => τ) (fun (σ34 : SS) => c13 σ34 x4_33 (x5_11 + (1 : Int32))))) (fun j32 => (if (σ30 0 5) ≤ a3 then j32 (0 : Int32) else j32 (1 : Int32)))))) (fun j28 => (if y22 = (0 : Int32) then q_rd (σ26 1) 307 (14 : Int32) (fun (v37 : Int32) => j28 v37) else j28 (0 : Int32))))))) (fun j23 => (if (r21 - r21 / (4 : Int32) * (4 : Int32)) = (0 : Int32) then j23 (1 : Int32) else j23 (0 : Int32)))))))) q_fu σ (0 : Int32) (0 : Int32))))))))
theorem fwX12_odds_X12 : ∀ w ∈ wsX120, w ∈ wsX12_odds := fun _ h => List.mem_cons_of_mem _ (List.mem_append_right _ h)
abbrev rmX12_odds : Room := { frames := 6, cells := 0, slots := 0, locals := 134 }
set_option maxHeartbeats 4000000 in
set_option maxRecDepth 100000 in
theorem kX12_odds (l : Launch) (D : va_G) (cI cZ cS : ClassId) (zz : ZT) (ad : Nat → Nat) (σ : SS) (a1 : Int32) (a2 : Int32) (a3 : Int32) (rr : Int32) (σr : SS) (hf : pX12_odds σ a1 a2 a3 = some (rr, σr)) : CI l yX12_odds wsX12_odds rmX12_odds D (K3 cI cZ cS) zz [.ref (ad 0), .int a1, .int a2, .int a3] (wX12 cI cZ cS ad σ) (wX12 cI cZ cS ad σr) rr := by
  refine q_ofI (cc := cX12_odds) (maxL := 8) (ty := .int) (by decide) rfl (Nat.le_of_ble_eq_true rfl) ?_
  intro p e s m below meth c Q A ls hx hb hml hown hts hK hZ hA hP hD hS hl hret
  have hl : lv_has ls 8 [(0, .ref (ad 0)), (1, .int a1), (2, .int a2), (3, .int a3)] := hl
  unfold pX12_odds at hf
  refine lv_iload_n hx hb dX12_odds_0 rfl (lv_at hl 1 rfl) ?_
  refine lv_iconst (v := 1) hx hb dX12_odds_1 (by decide) ?_
  refine lv_bipush (v := 20) hx hb dX12_odds_2 (by decide) ?_
  refine q_cSr (wf := (wX12 cI cZ cS ad)) (rest := []) ⟨hx, hb, hml, hown, hts⟩ hK hZ hA hP hD hS hf (fun x ho => kX12_in l D cI cZ cS zz a1 (1 : Int32) (20 : Int32) x ho) (va_cwS 3 hts gX12_odds_X12_in rfl rfl rfl ndX12_in.2 ⟨Nat.le_of_ble_eq_true rfl, Nat.le_of_ble_eq_true rfl⟩) rfl (hl.1) rfl (Nat.le_of_ble_eq_true rfl) dX12_odds_4 ⟨Nat.zero_le _, Nat.zero_le _⟩ (fun r1 H locs hf hP hD hS => ?_)
  refine q_lt_go hf (fun j2 ej2 hf => ?_)
  have Jj2 : ∀ (H : Heap) (locs : List Loc) (ls : Array Slot), va_P D vwCl ((wX12 cI cZ cS ad) σ) H → va_D A ((wX12 cI cZ cS ad) σ) → va_S A s.heap H locs → lv_has ls 8 [(0, .ref (ad 0))] → j2 = some (rr, σr) → W p l e rmX12_odds s m ([.ref (ad 0), .int a1, .int a2, .int a3] : List Value).toArray below meth c H locs 0 0 Q (F0 m 32 ls []) := by
    intro  H locs ls hP hD hS hl hf
    have hf := ej2.symm.trans hf
    refine lv_aload_n hx hb dX12_odds_32 rfl (lv_at hl 0 rfl) ?_
    refine lv_iconst (v := 0) hx hb dX12_odds_33 (by decide) ?_
    refine q_cVi (wf := (wX12 cI cZ cS ad)) (wc := wX12 cI cZ cS ad) (rest := []) ⟨hx, hb, hml, hown, hts⟩ hK hZ hA hP hD hS hf (fun x τ ho => kX12_finding l D cI cZ cS zz ad σ (0 : Int32) x τ ho) (cwV 1 hts gX12_odds_X12_finding rfl rfl rfl ndX12_finding ⟨Nat.le_of_ble_eq_true rfl, Nat.le_of_ble_eq_true rfl⟩) [0, 1, 2, 3, 4, 5, 6, 7, 8, 9, 10, 11] rfl rfl [some 0, some 1, some 2, some 3, some 4, some 5, some 6, some 7, some 8, some 9, some 10, some 11] (by decide +kernel) (Nat.le_of_ble_eq_true rfl) (fun _ => rfl) (fun _ => rfl) (fun _ => rfl) rfl rfl rfl rfl (hl.1) rfl (Nat.le_of_ble_eq_true rfl) dX12_odds_34 ⟨Nat.zero_le _, Nat.zero_le _⟩ (fun r4 σ3 H locs hf hP hD hS => ?_)
    obtain ⟨hi1, hi2⟩ := Prod.mk.inj (Option.some.inj hf)
    subst hi1
    subst hi2
    exact hret _ _ _ _ dX12_odds_37 rfl hP hS
  refine lv_if_eq (tgt := 32) hx hb dX12_odds_7 (by decide) (fun h5 => ?_) (fun h5 => ?_)
  · have hf := (if_pos h5).symm.trans hf
    exact Jj2  _ _ _ hP hD hS (lv_sub hl [0] rfl) hf
  · have hf := (if_neg h5).symm.trans hf
    refine lv_iload_n hx hb dX12_odds_10 rfl (lv_at hl 2 rfl) ?_
    refine lv_iconst (v := 1) hx hb dX12_odds_11 (by decide) ?_
    refine lv_sipush (v := 200) hx hb dX12_odds_12 (by decide) ?_
    refine q_cSr (wf := (wX12 cI cZ cS ad)) (rest := []) ⟨hx, hb, hml, hown, hts⟩ hK hZ hA hP hD hS hf (fun x ho => kX12_in l D cI cZ cS zz a2 (1 : Int32) (200 : Int32) x ho) (va_cwS 3 hts gX12_odds_X12_in rfl rfl rfl ndX12_in.2 ⟨Nat.le_of_ble_eq_true rfl, Nat.le_of_ble_eq_true rfl⟩) rfl (hl.1) rfl (Nat.le_of_ble_eq_true rfl) dX12_odds_15 ⟨Nat.zero_le _, Nat.zero_le _⟩ (fun r6 H locs hf hP hD hS => ?_)
    refine lv_if_eq (tgt := 32) hx hb dX12_odds_18 (by decide) (fun h7 => ?_) (fun h7 => ?_)
    · have hf := (if_pos h7).symm.trans hf
      exact Jj2  _ _ _ hP hD hS (lv_sub hl [0] rfl) hf
    · have hf := (if_neg h7).symm.trans hf
      refine lv_iload_n hx hb dX12_odds_21 rfl (lv_at hl 3 rfl) ?_
      refine lv_iconst (v := 0) hx hb dX12_odds_22 (by decide) ?_
      refine lv_sipush (v := 9999) hx hb dX12_odds_23 (by decide) ?_
      refine q_cSr (wf := (wX12 cI cZ cS ad)) (rest := []) ⟨hx, hb, hml, hown, hts⟩ hK hZ hA hP hD hS hf (fun x ho => kX12_in l D cI cZ cS zz a3 (0 : Int32) (9999 : Int32) x ho) (va_cwS 3 hts gX12_odds_X12_in rfl rfl rfl ndX12_in.2 ⟨Nat.le_of_ble_eq_true rfl, Nat.le_of_ble_eq_true rfl⟩) rfl (hl.1) rfl (Nat.le_of_ble_eq_true rfl) dX12_odds_26 ⟨Nat.zero_le _, Nat.zero_le _⟩ (fun r8 H locs hf hP hD hS => ?_)
      refine lv_if_ne (tgt := 38) hx hb dX12_odds_29 (by decide) (fun h9 => ?_) (fun h9 => ?_)
      · have hf := (if_neg h9).symm.trans hf
        refine lv_iconst (v := 0) hx hb dX12_odds_38 (by decide) ?_
        refine lv_istore (lv' := [(4, .int (0 : Int32)), (0, .ref (ad 0)), (1, .int a1), (2, .int a2), (3, .int a3)]) hx hb dX12_odds_39 hl (by decide) rfl (fun ls hl => ?_)
        refine lv_iconst (v := 0) hx hb dX12_odds_41 (by decide) ?_
        refine lv_istore (lv' := [(5, .int (0 : Int32)), (4, .int (0 : Int32)), (0, .ref (ad 0)), (1, .int a1), (2, .int a2), (3, .int a3)]) hx hb dX12_odds_42 hl (by decide) rfl (fun ls hl => ?_)
        refine q_lp_go (f := fun (zf : SS → Int32 → Int32 → Option (Int32 × SS)) => zf σ (0 : Int32) (0 : Int32)) hf (fun z14 ez14 hf => ?_)
        have Lz14 : ∀ (n15 : Nat) (σ12 : SS) (x4_10 : Int32) (x5_11 : Int32) (H : Heap) (locs : List Loc) (ls : Array Slot), va_P D vwCl ((wX12 cI cZ cS ad) σ12) H → va_D A ((wX12 cI cZ cS ad) σ12) → va_S A s.heap H locs → lv_has ls 8 [(0, .ref (ad 0)), (1, .int a1), (2, .int a2), (3, .int a3), (4, .int x4_10), (5, .int x5_11)] → q_lp (fun _ _ _ => none) z14 n15 σ12 x4_10 x5_11 = some (rr, σr) → W p l e rmX12_odds s m ([.ref (ad 0), .int a1, .int a2, .int a3] : List Value).toArray below meth c H locs 0 0 Q (F0 m 44 ls []) := by
          intro n15
          induction n15 with
          | zero => exact fun _ _ _ _ _ _ _ _ _ _ hf => q_no hf
          | succ n15 ihz14 =>
            intro σ12 x4_10 x5_11 H locs ls hP hD hS hl hf
            have hf := (congrFun (congrFun (congrFun (congrFun ez14 (q_lp (fun _ _ _ => none) z14 n15)) σ12) x4_10) x5_11).symm.trans hf
            refine lv_iload hx hb dX12_odds_44 (lv_at hl 5 rfl) ?_
            refine lv_iload_n hx hb dX12_odds_46 rfl (lv_at hl 1 rfl) ?_
            refine lv_icmp_ge (tgt := 148) hx hb dX12_odds_47 (by decide) (fun h16 => ?_) (fun h16 => ?_)
            · have hf := (if_pos h16).symm.trans hf
              refine lv_iload hx hb dX12_odds_148 (lv_at hl 4 rfl) ?_
              obtain ⟨hi1, hi2⟩ := Prod.mk.inj (Option.some.inj hf)
              subst hi1
              subst hi2
              exact hret _ _ _ _ dX12_odds_150 rfl hP hS
            · have hf := (if_neg h16).symm.trans hf
              refine lv_aload_n hx hb dX12_odds_50 rfl (lv_at hl 0 rfl) ?_
              refine q_cVi (wf := (wX12 cI cZ cS ad)) (wc := wX12 cI cZ cS ad) (rest := []) ⟨hx, hb, hml, hown, hts⟩ hK hZ hA hP hD hS hf (fun x τ ho => kX12_draw l D cI cZ cS zz ad σ12 x τ ho) (cwV 0 hts gX12_odds_X12_draw rfl rfl rfl ndX12_draw ⟨Nat.le_of_ble_eq_true rfl, Nat.le_of_ble_eq_true rfl⟩) [0, 1, 2, 3, 4, 5, 6, 7, 8, 9, 10, 11] rfl rfl [some 0, some 1, some 2, some 3, some 4, some 5, some 6, some 7, some 8, some 9, some 10, some 11] (by decide +kernel) (Nat.le_of_ble_eq_true rfl) (fun _ => rfl) (fun _ => rfl) (fun _ => rfl) rfl rfl rfl rfl (hl.1) rfl (Nat.le_of_ble_eq_true rfl) dX12_odds_51 ⟨Nat.zero_le _, Nat.zero_le _⟩ (fun r18 σ17 H locs hf hP hD hS => ?_)
              refine lv_bipush (v := 40) hx hb dX12_odds_54 (by decide) ?_
              refine lv_irem hx hb dX12_odds_56 (by decide) ?_
              refine lv_topi (fun x6_19 ex6_19 => ?_)
              have hf := q_lt_at ex6_19 hf
              refine lv_istore (lv' := [(6, .int x6_19), (0, .ref (ad 0)), (1, .int a1), (2, .int a2), (3, .int a3), (4, .int x4_10), (5, .int x5_11)]) hx hb dX12_odds_57 hl (by decide) rfl (fun ls hl => ?_)
              refine lv_aload_n hx hb dX12_odds_59 rfl (lv_at hl 1 rfl) ?_
              refine q_cVi (wf := (wX12 cI cZ cS ad)) (wc := wX12 cI cZ cS ad) (rest := []) ⟨hx, hb, hml, hown, hts⟩ hK hZ hA hP hD hS hf (fun x τ ho => kX12_draw l D cI cZ cS zz ad σ17 x τ ho) (cwV 0 hts gX12_odds_X12_draw rfl rfl rfl ndX12_draw ⟨Nat.le_of_ble_eq_true rfl, Nat.le_of_ble_eq_true rfl⟩) [0, 1, 2, 3, 4, 5, 6, 7, 8, 9, 10, 11] rfl rfl [some 0, some 1, some 2, some 3, some 4, some 5, some 6, some 7, some 8, some 9, some 10, some 11] (by decide +kernel) (Nat.le_of_ble_eq_true rfl) (fun _ => rfl) (fun _ => rfl) (fun _ => rfl) rfl rfl rfl rfl (hl.1) rfl (Nat.le_of_ble_eq_true rfl) dX12_odds_60 ⟨Nat.zero_le _, Nat.zero_le _⟩ (fun r21 σ20 H locs hf hP hD hS => ?_)
              refine lv_iconst (v := 4) hx hb dX12_odds_63 (by decide) ?_
              refine lv_irem hx hb dX12_odds_64 (by decide) ?_
              refine q_lt_go hf (fun j23 ej23 hf => ?_)
              have Jj23 : ∀ (y22 : Int32) (H : Heap) (locs : List Loc) (ls : Array Slot), va_P D vwCl ((wX12 cI cZ cS ad) σ20) H → va_D A ((wX12 cI cZ cS ad) σ20) → va_S A s.heap H locs → lv_has ls 8 [(0, .ref (ad 0)), (1, .int a1), (2, .int a2), (3, .int a3), (4, .int x4_10), (5, .int x5_11), (6, .int x6_19)] → j23 y22 = some (rr, σr) → W p l e rmX12_odds s m ([.ref (ad 0), .int a1, .int a2, .int a3] : List Value).toArray below meth c H locs 0 0 Q (F0 m 73 ls [.int y22]) := by
                intro y22 H locs ls hP hD hS hl hf
                have hf := (congrFun ej23 y22).symm.trans hf
                refine lv_istore (lv' := [(7, .int y22), (0, .ref (ad 0)), (1, .int a1), (2, .int a2), (3, .int a3), (4, .int x4_10), (5, .int x5_11), (6, .int x6_19)]) hx hb dX12_odds_73 hl (by decide) rfl (fun ls hl => ?_)
                refine lv_aload_n hx hb dX12_odds_75 rfl (lv_at hl 1 rfl) ?_
                refine q_cVv (wf := (wX12 cI cZ cS ad)) (wc := wX12 cI cZ cS ad) (rest := []) ⟨hx, hb, hml, hown, hts⟩ hK hZ hA hP hD hS hf (fun x ho => kX12_begin l D cI cZ cS zz ad σ20 x ho) (cwV 0 hts gX12_odds_X12_begin rfl rfl rfl ndX12_begin ⟨Nat.le_of_ble_eq_true rfl, Nat.le_of_ble_eq_true rfl⟩) [0, 1, 2, 3, 4, 5, 6, 7, 8, 9, 10, 11] rfl rfl [some 0, some 1, some 2, some 3, some 4, some 5, some 6, some 7, some 8, some 9, some 10, some 11] (by decide +kernel) (Nat.le_of_ble_eq_true rfl) (fun _ => rfl) (fun _ => rfl) (fun _ => rfl) rfl rfl rfl rfl (hl.1) rfl (Nat.le_of_ble_eq_true rfl) dX12_odds_76 ⟨Nat.zero_le _, Nat.zero_le _⟩ (fun σ24 H locs hf hP hD hS => ?_)
                refine lv_aload_n hx hb dX12_odds_79 rfl (lv_at hl 1 rfl) ?_
                refine lv_iconst (v := 0) hx hb dX12_odds_80 (by decide) ?_
                refine w_put (D := D) (wf := (wX12 cI cZ cS ad)) (cid := 0) (ci := 12) (C := RX12) (T := TX12) (N := 19) hx hb hts fwX12_odds_X12 tyX12 tyX12_ok nmX12 hown hK hP hD hS 0 rfl rfl 5 (by decide) (hts _ (List.mem_of_getElem? (i := 1) rfl)) (fun _ h9 => h9) rfl (tyX12_ok 5 (by decide)) (Nat.le_of_ble_eq_true rfl) hf rfl dX12_odds_81 (fun σ25 H locs hf hP hD hS => ?_)
                refine lv_aload_n hx hb dX12_odds_84 rfl (lv_at hl 1 rfl) ?_
                refine va_get (D := D) (ci := 12) (C := RX12) (T := TX12) (N := 19) hx hb hts fwX12_odds_X12 hown hK hP 0 rfl rfl 0 (by decide) (hts _ (List.mem_of_getElem? (i := 2) rfl)) (fun _ h9 => h9) rfl dX12_odds_85 ?_
                refine lv_iconst (v := 0) hx hb dX12_odds_88 (by decide) ?_
                refine lv_iload hx hb dX12_odds_89 (lv_at hl 7 rfl) ?_
                refine w_iast (wf := (wX12 cI cZ cS ad)) (cid := 1) hx hb hK hP hD hS 1 0 rfl rfl hf (fun _ => rfl) dX12_odds_91 (fun σ26 H locs hf hP hD hS => ?_)
                refine lv_aload_n hx hb dX12_odds_92 rfl (lv_at hl 1 rfl) ?_
                refine va_get (D := D) (ci := 12) (C := RX12) (T := TX12) (N := 19) hx hb hts fwX12_odds_X12 hown hK hP 0 rfl rfl 0 (by decide) (hts _ (List.mem_of_getElem? (i := 2) rfl)) (fun _ h9 => h9) rfl dX12_odds_93 ?_
                refine lv_bipush (v := 14) hx hb dX12_odds_96 (by decide) ?_
                refine lv_iload hx hb dX12_odds_98 (lv_at hl 0 rfl) ?_
                refine q_lt_go hf (fun j28 ej28 hf => ?_)
                have Jj28 : ∀ (y27 : Int32) (H : Heap) (locs : List Loc) (ls : Array Slot), va_P D vwCl ((wX12 cI cZ cS ad) σ26) H → va_D A ((wX12 cI cZ cS ad) σ26) → va_S A s.heap H locs → lv_has ls 8 [(0, .ref (ad 0)), (1, .int a1), (2, .int a2), (3, .int a3), (4, .int x4_10), (5, .int x5_11)] → j28 y27 = some (rr, σr) → W p l e rmX12_odds s m ([.ref (ad 0), .int a1, .int a2, .int a3] : List Value).toArray below meth c H locs 0 0 Q (F0 m 114 ls [.int y27, .int (14 : Int32), .ref (ad 1)]) := by
                  intro y27 H locs ls hP hD hS hl hf
                  have hf := (congrFun ej28 y27).symm.trans hf
                  refine w_iast (wf := (wX12 cI cZ cS ad)) (cid := 1) hx hb hK hP hD hS 1 0 rfl rfl hf (fun _ => rfl) dX12_odds_114 (fun σ29 H locs hf hP hD hS => ?_)
                  refine lv_aload_n hx hb dX12_odds_115 rfl (lv_at hl 0 rfl) ?_
                  refine lv_iload_n hx hb dX12_odds_116 rfl (lv_at hl 2 rfl) ?_
                  refine q_cVv (wf := (wX12 cI cZ cS ad)) (wc := wX12 cI cZ cS ad) (rest := []) ⟨hx, hb, hml, hown, hts⟩ hK hZ hA hP hD hS hf (fun x ho => kX12_goesOn l D cI cZ cS zz ad σ29 a2 x ho) (cwV 1 hts gX12_odds_X12_goesOn rfl rfl rfl ndX12_goesOn ⟨Nat.le_of_ble_eq_true rfl, Nat.le_of_ble_eq_true rfl⟩) [0, 1, 2, 3, 4, 5, 6, 7, 8, 9, 10, 11] rfl rfl [some 0, some 1, some 2, some 3, some 4, some 5, some 6, some 7, some 8, some 9, some 10, some 11] (by decide +kernel) (Nat.le_of_ble_eq_true rfl) (fun _ => rfl) (fun _ => rfl) (fun _ => rfl) rfl rfl rfl rfl (hl.1) rfl (Nat.le_of_ble_eq_true rfl) dX12_odds_117 ⟨Nat.zero_le _, Nat.zero_le _⟩ (fun σ30 H locs hf hP hD hS => ?_)
                  refine lv_iload hx hb dX12_odds_120 (lv_at hl 4 rfl) ?_
                  refine lv_aload_n hx hb dX12_odds_122 rfl (lv_at hl 0 rfl) ?_
                  refine va_get (D := D) (ci := 12) (C := RX12) (T := TX12) (N := 19) hx hb hts fwX12_odds_X12 hown hK hP 0 rfl rfl 5 (by decide) (hts _ (List.mem_of_getElem? (i := 1) rfl)) (fun _ h9 => h9) rfl dX12_odds_123 ?_
                  refine lv_iload_n hx hb dX12_odds_126 rfl (lv_at hl 3 rfl) ?_
                  refine q_lt_go hf (fun j32 ej32 hf => ?_)
                  have Jj32 : ∀ (y31 : Int32) (H : Heap) (locs : List Loc) (ls : Array Slot), va_P D vwCl ((wX12 cI cZ cS ad) σ30) H → va_D A ((wX12 cI cZ cS ad) σ30) → va_S A s.heap H locs → lv_has ls 8 [(0, .ref (ad 0)), (1, .int a1), (2, .int a2), (3, .int a3), (5, .int x5_11)] → j32 y31 = some (rr, σr) → W p l e rmX12_odds s m ([.ref (ad 0), .int a1, .int a2, .int a3] : List Value).toArray below meth c H locs 0 0 Q (F0 m 135 ls [.int y31, .int x4_10]) := by
                    intro y31 H locs ls hP hD hS hl hf
                    have hf := (congrFun ej32 y31).symm.trans hf
                    refine lv_iadd hx hb dX12_odds_135 ?_
                    refine lv_topi (fun x4_33 ex4_33 => ?_)
                    have hf := q_lt_at ex4_33 hf
                    refine lv_istore (lv' := [(4, .int x4_33), (0, .ref (ad 0)), (1, .int a1), (2, .int a2), (3, .int a3), (5, .int x5_11)]) hx hb dX12_odds_136 hl (by decide) rfl (fun ls hl => ?_)
                    refine lv_aload_n hx hb dX12_odds_138 rfl (lv_at hl 1 rfl) ?_
                    refine q_cVv (wf := (wX12 cI cZ cS ad)) (wc := wX12 cI cZ cS ad) (rest := []) ⟨hx, hb, hml, hown, hts⟩ hK hZ hA hP hD hS hf (fun x ho => kX12_layBack l D cI cZ cS zz ad σ30 x ho) (cwV 0 hts gX12_odds_X12_layBack rfl rfl rfl ndX12_layBack ⟨Nat.le_of_ble_eq_true rfl, Nat.le_of_ble_eq_true rfl⟩) [0, 1, 2, 3, 4, 5, 6, 7, 8, 9, 10, 11] rfl rfl [some 0, some 1, some 2, some 3, some 4, some 5, some 6, some 7, some 8, some 9, some 10, some 11] (by decide +kernel) (Nat.le_of_ble_eq_true rfl) (fun _ => rfl) (fun _ => rfl) (fun _ => rfl) rfl rfl rfl rfl (hl.1) rfl (Nat.le_of_ble_eq_true rfl) dX12_odds_139 ⟨Nat.zero_le _, Nat.zero_le _⟩ (fun σ34 H locs hf hP hD hS => ?_)
                    refine lv_iinc (v := (x5_11 + (1 : Int32))) (lv' := [(5, .int (x5_11 + (1 : Int32))), (4, .int x4_33), (0, .ref (ad 0)), (1, .int a1), (2, .int a2), (3, .int a3)]) hx hb dX12_odds_142 hl (k := 5) rfl rfl (by decide) rfl (fun ls hl => ?_)
                    refine lv_goto (tgt := 44) hx hb dX12_odds_145 (by decide) ?_
                    exact ihz14 σ34 x4_33 (x5_11 + (1 : Int32)) _ _ _ hP hD hS (lv_sub hl [2, 3, 4, 5, 1, 0] rfl) hf
                  refine lv_icmp_le (tgt := 134) hx hb dX12_odds_127 (by decide) (fun h35 => ?_) (fun h35 => ?_)
                  · have hf := (if_pos h35).symm.trans hf
                    refine lv_iconst (v := 0) hx hb dX12_odds_134 (by decide) ?_
                    exact Jj32 (0 : Int32) _ _ _ hP hD hS (lv_sub hl [0, 1, 2, 3, 5] rfl) hf
                  · have hf := (if_neg h35).symm.trans hf
                    refine lv_iconst (v := 1) hx hb dX12_odds_130 (by decide) ?_
                    refine lv_goto (tgt := 135) hx hb dX12_odds_131 (by decide) ?_
                    exact Jj32 (1 : Int32) _ _ _ hP hD hS (lv_sub hl [0, 1, 2, 3, 5] rfl) hf
                refine lv_if_eq (tgt := 107) hx hb dX12_odds_100 (by decide) (fun h36 => ?_) (fun h36 => ?_)
                · have hf := (if_pos h36).symm.trans hf
                  refine lv_aload_n hx hb dX12_odds_107 rfl (lv_at hl 1 rfl) ?_
                  refine va_get (D := D) (ci := 12) (C := RX12) (T := TX12) (N := 19) hx hb hts fwX12_odds_X12 hown hK hP 0 rfl rfl 0 (by decide) (hts _ (List.mem_of_getElem? (i := 2) rfl)) (fun _ h9 => h9) rfl dX12_odds_108 ?_
                  refine lv_bipush (v := 14) hx hb dX12_odds_111 (by decide) ?_
                  refine w_iald (wf := (wX12 cI cZ cS ad)) hx hb hK hP 1 0 rfl rfl hf dX12_odds_113 (fun v37 hf => ?_)
                  exact Jj28 v37 _ _ _ hP hD hS (lv_sub hl [1, 2, 3, 4, 5, 6] rfl) hf
                · have hf := (if_neg h36).symm.trans hf
                  refine lv_iconst (v := 0) hx hb dX12_odds_103 (by decide) ?_
                  refine lv_goto (tgt := 114) hx hb dX12_odds_104 (by decide) ?_
                  exact Jj28 (0 : Int32) _ _ _ hP hD hS (lv_sub hl [1, 2, 3, 4, 5, 6] rfl) hf
              refine lv_if_ne (tgt := 72) hx hb dX12_odds_65 (by decide) (fun h38 => ?_) (fun h38 => ?_)
              · have hf := (if_neg h38).symm.trans hf
                refine lv_iconst (v := 0) hx hb dX12_odds_72 (by decide) ?_
                exact Jj23 (0 : Int32) _ _ _ hP hD hS (lv_sub hl [1, 2, 3, 4, 5, 6, 0] rfl) hf
              · have hf := (if_pos h38).symm.trans hf
                refine lv_iconst (v := 1) hx hb dX12_odds_68 (by decide) ?_
                refine lv_goto (tgt := 73) hx hb dX12_odds_69 (by decide) ?_
                exact Jj23 (1 : Int32) _ _ _ hP hD hS (lv_sub hl [1, 2, 3, 4, 5, 6, 0] rfl) hf
        exact Lz14 q_fu σ (0 : Int32) (0 : Int32) _ _ _ hP hD hS (lv_sub hl [2, 3, 4, 5, 1, 0] rfl) hf
      · have hf := (if_pos h9).symm.trans hf
        exact Jj2  _ _ _ hP hD hS (lv_sub hl [0] rfl) hf
def pX12_seed (σ : SS) (a1 : Int32) : Option (Int32 × SS) := q_rd (σ 1) 307 (20 : Int32) (fun (v1 : Int32) => q_wr σ 1 307 (20 : Int32) a1 (fun (σ2 : SS) => some (v1, σ2)))
theorem fwX12_seed_X12 : ∀ w ∈ wsX120, w ∈ wsX12_seed := fun _ h => List.mem_cons_of_mem _ (List.mem_append_right _ h)
abbrev rmX12_seed : Room := { frames := 0, cells := 0, slots := 0, locals := 0 }
set_option maxHeartbeats 4000000 in
set_option maxRecDepth 100000 in
theorem kX12_seed (l : Launch) (D : va_G) (cI cZ cS : ClassId) (zz : ZT) (ad : Nat → Nat) (σ : SS) (a1 : Int32) (rr : Int32) (σr : SS) (hf : pX12_seed σ a1 = some (rr, σr)) : CI l yX12_seed wsX12_seed rmX12_seed D (K3 cI cZ cS) zz [.ref (ad 0), .int a1] (wX12 cI cZ cS ad σ) (wX12 cI cZ cS ad σr) rr := by
  refine q_ofI (cc := cX12_seed) (maxL := 3) (ty := .int) (by decide) rfl (Nat.le_of_ble_eq_true rfl) ?_
  intro p e s m below meth c Q A ls hx hb hml hown hts hK hZ hA hP hD hS hl hret
  have hl : lv_has ls 3 [(0, .ref (ad 0)), (1, .int a1)] := hl
  unfold pX12_seed at hf
  refine lv_aload_n hx hb dX12_seed_0 rfl (lv_at hl 0 rfl) ?_
  refine va_get (D := D) (ci := 12) (C := RX12) (T := TX12) (N := 19) hx hb hts fwX12_seed_X12 hown hK hP 0 rfl rfl 0 (by decide) (hts _ (List.mem_of_getElem? (i := 1) rfl)) (fun _ h9 => h9) rfl dX12_seed_1 ?_
  refine lv_bipush (v := 20) hx hb dX12_seed_4 (by decide) ?_
  refine w_iald (wf := (wX12 cI cZ cS ad)) hx hb hK hP 1 0 rfl rfl hf dX12_seed_6 (fun v1 hf => ?_)
  refine lv_istore_n (lv' := [(2, .int v1), (0, .ref (ad 0)), (1, .int a1)]) hx hb dX12_seed_7 rfl hl (by decide) rfl (fun ls hl => ?_)
  refine lv_aload_n hx hb dX12_seed_8 rfl (lv_at hl 1 rfl) ?_
  refine va_get (D := D) (ci := 12) (C := RX12) (T := TX12) (N := 19) hx hb hts fwX12_seed_X12 hown hK hP 0 rfl rfl 0 (by decide) (hts _ (List.mem_of_getElem? (i := 1) rfl)) (fun _ h9 => h9) rfl dX12_seed_9 ?_
  refine lv_bipush (v := 20) hx hb dX12_seed_12 (by decide) ?_
  refine lv_iload_n hx hb dX12_seed_14 rfl (lv_at hl 2 rfl) ?_
  refine w_iast (wf := (wX12 cI cZ cS ad)) (cid := 1) hx hb hK hP hD hS 1 0 rfl rfl hf (fun _ => rfl) dX12_seed_15 (fun σ2 H locs hf hP hD hS => ?_)
  refine lv_iload_n hx hb dX12_seed_16 rfl (lv_at hl 0 rfl) ?_
  obtain ⟨hi1, hi2⟩ := Prod.mk.inj (Option.some.inj hf)
  subst hi1
  subst hi2
  exact hret _ _ _ _ dX12_seed_17 rfl hP hS
def pX12_hold (σ : SS) (a1 : Int32) (a2 : Int32) : Option (Int32 × SS) := q_cr (pX12_in a1 (0 : Int32) (9 : Int32)) (fun (r1 : Int32) => q_lt (q_ci (pX12_finding σ (0 : Int32)) (fun (τ : SS) => τ) (fun (r4 : Int32) (σ3 : SS) => some (r4, σ3))) (fun j2 => (if r1 = (0 : Int32) then j2 else q_lt (q_wr σ 1 307 ((297 : Int32) + a1) a2 (fun (σ7 : SS) => some ((1 : Int32), σ7))) (fun j6 => (if a2 = (-1 : Int32) then j6 else q_cr (pX12_isWater σ a2) (fun (r9 : Int32) => (if r9 = (0 : Int32) then j2 else j6)))))))
theorem fwX12_hold_X12 : ∀ w ∈ wsX120, w ∈ wsX12_hold := fun _ h => List.mem_cons_of_mem _ (List.mem_append_right _ h)
abbrev rmX12_hold : Room := { frames := 2, cells := 0, slots := 0, locals := 43 }
set_option maxHeartbeats 4000000 in
set_option maxRecDepth 100000 in
theorem kX12_hold (l : Launch) (D : va_G) (cI cZ cS : ClassId) (zz : ZT) (ad : Nat → Nat) (σ : SS) (a1 : Int32) (a2 : Int32) (rr : Int32) (σr : SS) (hf : pX12_hold σ a1 a2 = some (rr, σr)) : CI l yX12_hold wsX12_hold rmX12_hold D (K3 cI cZ cS) zz [.ref (ad 0), .int a1, .int a2] (wX12 cI cZ cS ad σ) (wX12 cI cZ cS ad σr) rr := by
  refine q_ofI (cc := cX12_hold) (maxL := 3) (ty := .int) (by decide) rfl (Nat.le_of_ble_eq_true rfl) ?_
  intro p e s m below meth c Q A ls hx hb hml hown hts hK hZ hA hP hD hS hl hret
  have hl : lv_has ls 3 [(0, .ref (ad 0)), (1, .int a1), (2, .int a2)] := hl
  unfold pX12_hold at hf
  refine lv_iload_n hx hb dX12_hold_0 rfl (lv_at hl 1 rfl) ?_
  refine lv_iconst (v := 0) hx hb dX12_hold_1 (by decide) ?_
  refine lv_bipush (v := 9) hx hb dX12_hold_2 (by decide) ?_
  refine q_cSr (wf := (wX12 cI cZ cS ad)) (rest := []) ⟨hx, hb, hml, hown, hts⟩ hK hZ hA hP hD hS hf (fun x ho => kX12_in l D cI cZ cS zz a1 (0 : Int32) (9 : Int32) x ho) (va_cwS 3 hts gX12_hold_X12_in rfl rfl rfl ndX12_in.2 ⟨Nat.le_of_ble_eq_true rfl, Nat.le_of_ble_eq_true rfl⟩) rfl (hl.1) rfl (Nat.le_of_ble_eq_true rfl) dX12_hold_4 ⟨Nat.zero_le _, Nat.zero_le _⟩ (fun r1 H locs hf hP hD hS => ?_)
  refine q_lt_go hf (fun j2 ej2 hf => ?_)
  have Jj2 : ∀ (H : Heap) (locs : List Loc) (ls : Array Slot), va_P D vwCl ((wX12 cI cZ cS ad) σ) H → va_D A ((wX12 cI cZ cS ad) σ) → va_S A s.heap H locs → lv_has ls 3 [(0, .ref (ad 0))] → j2 = some (rr, σr) → W p l e rmX12_hold s m ([.ref (ad 0), .int a1, .int a2] : List Value).toArray below meth c H locs 0 0 Q (F0 m 23 ls []) := by
    intro  H locs ls hP hD hS hl hf
    have hf := ej2.symm.trans hf
    refine lv_aload_n hx hb dX12_hold_23 rfl (lv_at hl 0 rfl) ?_
    refine lv_iconst (v := 0) hx hb dX12_hold_24 (by decide) ?_
    refine q_cVi (wf := (wX12 cI cZ cS ad)) (wc := wX12 cI cZ cS ad) (rest := []) ⟨hx, hb, hml, hown, hts⟩ hK hZ hA hP hD hS hf (fun x τ ho => kX12_finding l D cI cZ cS zz ad σ (0 : Int32) x τ ho) (cwV 1 hts gX12_hold_X12_finding rfl rfl rfl ndX12_finding ⟨Nat.le_of_ble_eq_true rfl, Nat.le_of_ble_eq_true rfl⟩) [0, 1, 2, 3, 4, 5, 6, 7, 8, 9, 10, 11] rfl rfl [some 0, some 1, some 2, some 3, some 4, some 5, some 6, some 7, some 8, some 9, some 10, some 11] (by decide +kernel) (Nat.le_of_ble_eq_true rfl) (fun _ => rfl) (fun _ => rfl) (fun _ => rfl) rfl rfl rfl rfl (hl.1) rfl (Nat.le_of_ble_eq_true rfl) dX12_hold_25 ⟨Nat.zero_le _, Nat.zero_le _⟩ (fun r4 σ3 H locs hf hP hD hS => ?_)
    obtain ⟨hi1, hi2⟩ := Prod.mk.inj (Option.some.inj hf)
    subst hi1
    subst hi2
    exact hret _ _ _ _ dX12_hold_28 rfl hP hS
  refine lv_if_eq (tgt := 23) hx hb dX12_hold_7 (by decide) (fun h5 => ?_) (fun h5 => ?_)
  · have hf := (if_pos h5).symm.trans hf
    exact Jj2  _ _ _ hP hD hS (lv_sub hl [0] rfl) hf
  · have hf := (if_neg h5).symm.trans hf
    refine lv_iload_n hx hb dX12_hold_10 rfl (lv_at hl 2 rfl) ?_
    refine lv_iconst (v := -1) hx hb dX12_hold_11 (by decide) ?_
    refine q_lt_go hf (fun j6 ej6 hf => ?_)
    have Jj6 : ∀ (H : Heap) (locs : List Loc) (ls : Array Slot), va_P D vwCl ((wX12 cI cZ cS ad) σ) H → va_D A ((wX12 cI cZ cS ad) σ) → va_S A s.heap H locs → lv_has ls 3 [(0, .ref (ad 0)), (1, .int a1), (2, .int a2)] → j6 = some (rr, σr) → W p l e rmX12_hold s m ([.ref (ad 0), .int a1, .int a2] : List Value).toArray below meth c H locs 0 0 Q (F0 m 29 ls []) := by
      intro  H locs ls hP hD hS hl hf
      have hf := ej6.symm.trans hf
      refine lv_aload_n hx hb dX12_hold_29 rfl (lv_at hl 0 rfl) ?_
      refine va_get (D := D) (ci := 12) (C := RX12) (T := TX12) (N := 19) hx hb hts fwX12_hold_X12 hown hK hP 0 rfl rfl 0 (by decide) (hts _ (List.mem_of_getElem? (i := 1) rfl)) (fun _ h9 => h9) rfl dX12_hold_30 ?_
      refine lv_sipush (v := 297) hx hb dX12_hold_33 (by decide) ?_
      refine lv_iload_n hx hb dX12_hold_36 rfl (lv_at hl 1 rfl) ?_
      refine lv_iadd hx hb dX12_hold_37 ?_
      refine lv_iload_n hx hb dX12_hold_38 rfl (lv_at hl 2 rfl) ?_
      refine w_iast (wf := (wX12 cI cZ cS ad)) (cid := 1) hx hb hK hP hD hS 1 0 rfl rfl hf (fun _ => rfl) dX12_hold_39 (fun σ7 H locs hf hP hD hS => ?_)
      refine lv_iconst (v := 1) hx hb dX12_hold_40 (by decide) ?_
      obtain ⟨hi1, hi2⟩ := Prod.mk.inj (Option.some.inj hf)
      subst hi1
      subst hi2
      exact hret _ _ _ _ dX12_hold_41 rfl hP hS
    refine lv_icmp_eq (tgt := 29) hx hb dX12_hold_12 (by decide) (fun h8 => ?_) (fun h8 => ?_)
    · have hf := (if_pos h8).symm.trans hf
      exact Jj6  _ _ _ hP hD hS (lv_sub hl [0, 1, 2] rfl) hf
    · have hf := (if_neg h8).symm.trans hf
      refine lv_aload_n hx hb dX12_hold_15 rfl (lv_at hl 0 rfl) ?_
      refine lv_iload_n hx hb dX12_hold_16 rfl (lv_at hl 2 rfl) ?_
      refine q_cVr (wf := (wX12 cI cZ cS ad)) (wc := wX12 cI cZ cS ad) (rest := []) ⟨hx, hb, hml, hown, hts⟩ hK hZ hA hP hD hS hf (fun x ho => kX12_isWater l D cI cZ cS zz ad σ a2 x ho) (cwV 1 hts gX12_hold_X12_isWater rfl rfl rfl ndX12_isWater ⟨Nat.le_of_ble_eq_true rfl, Nat.le_of_ble_eq_true rfl⟩) [0, 1, 2, 3, 4, 5, 6, 7, 8, 9, 10, 11] rfl rfl rfl rfl rfl rfl (hl.1) rfl (Nat.le_of_ble_eq_true rfl) dX12_hold_17 ⟨Nat.zero_le _, Nat.zero_le _⟩ (fun r9 H locs hf hP hD hS => ?_)
      refine lv_if_ne (tgt := 29) hx hb dX12_hold_20 (by decide) (fun h10 => ?_) (fun h10 => ?_)
      · have hf := (if_neg h10).symm.trans hf
        exact Jj6  _ _ _ hP hD hS (lv_sub hl [0, 1, 2] rfl) hf
      · have hf := (if_pos h10).symm.trans hf
        exact Jj2  _ _ _ hP hD hS (lv_sub hl [0] rfl) hf
def pX12_isUnder (a1 : Int32) (a2 : Int32) : Option Int32 := q_lt (fun (y1 : Int32) => q_zz y1 (some y1)) (fun j2 => q_lt (j2 (1 : Int32)) (fun j3 => (if a2 = (0 : Int32) then j3 else (if a1 = a2 then j3 else q_lt (q_lt (q_lt (j2 (0 : Int32)) (fun j8 => (if a2 = (2 : Int32) then (if a1 = (3 : Int32) then j3 else j8) else j8))) (fun j7 => (if a2 = (4 : Int32) then (if a1 = (6 : Int32) then j3 else j7) else j7))) (fun j6 => (if a2 = (1 : Int32) then (if a1 = (4 : Int32) then j3 else (if a1 = (6 : Int32) then j3 else j6)) else j6))))))
abbrev rmX12_isUnder : Room := { frames := 0, cells := 0, slots := 0, locals := 0 }
set_option maxHeartbeats 4000000 in
set_option maxRecDepth 100000 in
theorem kX12_isUnder (l : Launch) (D : va_G) (cI cZ cS : ClassId) (zz : ZT) (a1 : Int32) (a2 : Int32) (rr : Int32) (hf : pX12_isUnder a1 a2 = some rr) : CI l yX12_isUnder wsX12_isUnder rmX12_isUnder D (K3 cI cZ cS) zz [.int a1, .int a2] [] [] rr := by
  refine q_ofI (cc := cX12_isUnder) (maxL := 2) (ty := .boolean) (by decide) rfl (Nat.le_of_ble_eq_true rfl) ?_
  intro p e s m below meth c Q A ls hx hb hml hown hts hK hZ hA hP hD hS hl hret
  have hl : lv_has ls 2 [(0, .int a1), (1, .int a2)] := hl
  unfold pX12_isUnder at hf
  refine lv_iload_n hx hb dX12_isUnder_0 rfl (lv_at hl 1 rfl) ?_
  refine q_lt_go hf (fun j2 ej2 hf => ?_)
  have Jj2 : ∀ (y1 : Int32) (H : Heap) (locs : List Loc) (ls : Array Slot), va_P D vwCl ([] : va_W) H → va_D A ([] : va_W) → va_S A s.heap H locs → lv_has ls 2 [] → j2 y1 = some rr → W p l e rmX12_isUnder s m ([.int a1, .int a2] : List Value).toArray below meth c H locs 0 0 Q (F0 m 51 ls [.int y1]) := by
    intro y1 H locs ls hP hD hS hl hf
    have hf := (congrFun ej2 y1).symm.trans hf
    obtain ⟨hz, hf⟩ := q_zz_o hf
    have hi1 := Option.some.inj hf
    subst hi1
    exact hret _ _ _ _ dX12_isUnder_51 (q_zz_n hz).1 hP hS
  refine q_lt_go hf (fun j3 ej3 hf => ?_)
  have Jj3 : ∀ (H : Heap) (locs : List Loc) (ls : Array Slot), va_P D vwCl ([] : va_W) H → va_D A ([] : va_W) → va_S A s.heap H locs → lv_has ls 2 [] → j3 = some rr → W p l e rmX12_isUnder s m ([.int a1, .int a2] : List Value).toArray below meth c H locs 0 0 Q (F0 m 46 ls []) := by
    intro  H locs ls hP hD hS hl hf
    have hf := ej3.symm.trans hf
    refine lv_iconst (v := 1) hx hb dX12_isUnder_46 (by decide) ?_
    refine lv_goto (tgt := 51) hx hb dX12_isUnder_47 (by decide) ?_
    exact Jj2 (1 : Int32) _ _ _ hP hD hS (lv_sub hl [] rfl) hf
  refine lv_if_eq (tgt := 46) hx hb dX12_isUnder_1 (by decide) (fun h4 => ?_) (fun h4 => ?_)
  · have hf := (if_pos h4).symm.trans hf
    exact Jj3  _ _ _ hP hD hS (lv_sub hl [] rfl) hf
  · have hf := (if_neg h4).symm.trans hf
    refine lv_iload_n hx hb dX12_isUnder_4 rfl (lv_at hl 0 rfl) ?_
    refine lv_iload_n hx hb dX12_isUnder_5 rfl (lv_at hl 1 rfl) ?_
    refine lv_icmp_eq (tgt := 46) hx hb dX12_isUnder_6 (by decide) (fun h5 => ?_) (fun h5 => ?_)
    · have hf := (if_pos h5).symm.trans hf
      exact Jj3  _ _ _ hP hD hS (lv_sub hl [] rfl) hf
    · have hf := (if_neg h5).symm.trans hf
      refine lv_iload_n hx hb dX12_isUnder_9 rfl (lv_at hl 1 rfl) ?_
      refine lv_iconst (v := 1) hx hb dX12_isUnder_10 (by decide) ?_
      refine q_lt_go hf (fun j6 ej6 hf => ?_)
      have Jj6 : ∀ (H : Heap) (locs : List Loc) (ls : Array Slot), va_P D vwCl ([] : va_W) H → va_D A ([] : va_W) → va_S A s.heap H locs → lv_has ls 2 [(0, .int a1), (1, .int a2)] → j6 = some rr → W p l e rmX12_isUnder s m ([.int a1, .int a2] : List Value).toArray below meth c H locs 0 0 Q (F0 m 25 ls []) := by
        intro  H locs ls hP hD hS hl hf
        have hf := ej6.symm.trans hf
        refine lv_iload_n hx hb dX12_isUnder_25 rfl (lv_at hl 1 rfl) ?_
        refine lv_iconst (v := 4) hx hb dX12_isUnder_26 (by decide) ?_
        refine q_lt_go hf (fun j7 ej7 hf => ?_)
        have Jj7 : ∀ (H : Heap) (locs : List Loc) (ls : Array Slot), va_P D vwCl ([] : va_W) H → va_D A ([] : va_W) → va_S A s.heap H locs → lv_has ls 2 [(0, .int a1), (1, .int a2)] → j7 = some rr → W p l e rmX12_isUnder s m ([.int a1, .int a2] : List Value).toArray below meth c H locs 0 0 Q (F0 m 36 ls []) := by
          intro  H locs ls hP hD hS hl hf
          have hf := ej7.symm.trans hf
          refine lv_iload_n hx hb dX12_isUnder_36 rfl (lv_at hl 1 rfl) ?_
          refine lv_iconst (v := 2) hx hb dX12_isUnder_37 (by decide) ?_
          refine q_lt_go hf (fun j8 ej8 hf => ?_)
          have Jj8 : ∀ (H : Heap) (locs : List Loc) (ls : Array Slot), va_P D vwCl ([] : va_W) H → va_D A ([] : va_W) → va_S A s.heap H locs → lv_has ls 2 [] → j8 = some rr → W p l e rmX12_isUnder s m ([.int a1, .int a2] : List Value).toArray below meth c H locs 0 0 Q (F0 m 50 ls []) := by
            intro  H locs ls hP hD hS hl hf
            have hf := ej8.symm.trans hf
            refine lv_iconst (v := 0) hx hb dX12_isUnder_50 (by decide) ?_
            exact Jj2 (0 : Int32) _ _ _ hP hD hS (lv_sub hl [] rfl) hf
          refine lv_icmp_ne (tgt := 50) hx hb dX12_isUnder_38 (by decide) (fun h9 => ?_) (fun h9 => ?_)
          · have hf := (if_neg h9).symm.trans hf
            exact Jj8  _ _ _ hP hD hS (lv_sub hl [] rfl) hf
          · have hf := (if_pos h9).symm.trans hf
            refine lv_iload_n hx hb dX12_isUnder_41 rfl (lv_at hl 0 rfl) ?_
            refine lv_iconst (v := 3) hx hb dX12_isUnder_42 (by decide) ?_
            refine lv_icmp_ne (tgt := 50) hx hb dX12_isUnder_43 (by decide) (fun h10 => ?_) (fun h10 => ?_)
            · have hf := (if_neg h10).symm.trans hf
              exact Jj8  _ _ _ hP hD hS (lv_sub hl [] rfl) hf
            · have hf := (if_pos h10).symm.trans hf
              exact Jj3  _ _ _ hP hD hS (lv_sub hl [] rfl) hf
        refine lv_icmp_ne (tgt := 36) hx hb dX12_isUnder_27 (by decide) (fun h11 => ?_) (fun h11 => ?_)
        · have hf := (if_neg h11).symm.trans hf
          exact Jj7  _ _ _ hP hD hS (lv_sub hl [0, 1] rfl) hf
        · have hf := (if_pos h11).symm.trans hf
          refine lv_iload_n hx hb dX12_isUnder_30 rfl (lv_at hl 0 rfl) ?_
          refine lv_bipush (v := 6) hx hb dX12_isUnder_31 (by decide) ?_
          refine lv_icmp_eq (tgt := 46) hx hb dX12_isUnder_33 (by decide) (fun h12 => ?_) (fun h12 => ?_)
          · have hf := (if_pos h12).symm.trans hf
            exact Jj3  _ _ _ hP hD hS (lv_sub hl [] rfl) hf
          · have hf := (if_neg h12).symm.trans hf
            exact Jj7  _ _ _ hP hD hS (lv_sub hl [0, 1] rfl) hf
      refine lv_icmp_ne (tgt := 25) hx hb dX12_isUnder_11 (by decide) (fun h13 => ?_) (fun h13 => ?_)
      · have hf := (if_neg h13).symm.trans hf
        exact Jj6  _ _ _ hP hD hS (lv_sub hl [0, 1] rfl) hf
      · have hf := (if_pos h13).symm.trans hf
        refine lv_iload_n hx hb dX12_isUnder_14 rfl (lv_at hl 0 rfl) ?_
        refine lv_iconst (v := 4) hx hb dX12_isUnder_15 (by decide) ?_
        refine lv_icmp_eq (tgt := 46) hx hb dX12_isUnder_16 (by decide) (fun h14 => ?_) (fun h14 => ?_)
        · have hf := (if_pos h14).symm.trans hf
          exact Jj3  _ _ _ hP hD hS (lv_sub hl [] rfl) hf
        · have hf := (if_neg h14).symm.trans hf
          refine lv_iload_n hx hb dX12_isUnder_19 rfl (lv_at hl 0 rfl) ?_
          refine lv_bipush (v := 6) hx hb dX12_isUnder_20 (by decide) ?_
          refine lv_icmp_eq (tgt := 46) hx hb dX12_isUnder_22 (by decide) (fun h15 => ?_) (fun h15 => ?_)
          · have hf := (if_pos h15).symm.trans hf
            exact Jj3  _ _ _ hP hD hS (lv_sub hl [] rfl) hf
          · have hf := (if_neg h15).symm.trans hf
            exact Jj6  _ _ _ hP hD hS (lv_sub hl [0, 1] rfl) hf
def pX12_as (σ : SS) (a1 : Int32) (a2 : Int32) : Option (Int32 × SS) := q_cr (pX12_in a1 (0 : Int32) (9 : Int32)) (fun (r1 : Int32) => q_lt (q_ci (pX12_finding σ (0 : Int32)) (fun (τ : SS) => τ) (fun (r4 : Int32) (σ3 : SS) => some (r4, σ3))) (fun j2 => (if r1 = (0 : Int32) then j2 else q_cr (pX12_in a2 (0 : Int32) (6 : Int32)) (fun (r6 : Int32) => (if r6 = (0 : Int32) then j2 else q_rd (σ 1) 307 ((297 : Int32) + a1) (fun (v8 : Int32) => (if v8 = (-1 : Int32) then q_ci (pX12_finding σ (5 : Int32)) (fun (τ : SS) => τ) (fun (r19 : Int32) (σ18 : SS) => some (r19, σ18)) else q_cr (pX12_its σ v8 (0 : Int32)) (fun (r10 : Int32) => q_cr (pX12_isUnder r10 a2) (fun (r11 : Int32) => q_lt (fun (σ13 : SS) (y12 : Int32) => some (y12, σ13)) (fun j14 => (if r11 = (0 : Int32) then q_ci (pX12_finding σ (2 : Int32)) (fun (τ : SS) => τ) (fun (r17 : Int32) (σ16 : SS) => j14 σ16 r17) else j14 σ v8)))))))))))
theorem fwX12_as_X12 : ∀ w ∈ wsX120, w ∈ wsX12_as := fun _ h => List.mem_cons_of_mem _ (List.mem_append_right _ h)
abbrev rmX12_as : Room := { frames := 1, cells := 0, slots := 0, locals := 22 }
set_option maxHeartbeats 4000000 in
set_option maxRecDepth 100000 in
theorem kX12_as (l : Launch) (D : va_G) (cI cZ cS : ClassId) (zz : ZT) (ad : Nat → Nat) (σ : SS) (a1 : Int32) (a2 : Int32) (rr : Int32) (σr : SS) (hf : pX12_as σ a1 a2 = some (rr, σr)) : CI l yX12_as wsX12_as rmX12_as D (K3 cI cZ cS) zz [.ref (ad 0), .int a1, .int a2] (wX12 cI cZ cS ad σ) (wX12 cI cZ cS ad σr) rr := by
  refine q_ofI (cc := cX12_as) (maxL := 4) (ty := .int) (by decide) rfl (Nat.le_of_ble_eq_true rfl) ?_
  intro p e s m below meth c Q A ls hx hb hml hown hts hK hZ hA hP hD hS hl hret
  have hl : lv_has ls 4 [(0, .ref (ad 0)), (1, .int a1), (2, .int a2)] := hl
  unfold pX12_as at hf
  refine lv_iload_n hx hb dX12_as_0 rfl (lv_at hl 1 rfl) ?_
  refine lv_iconst (v := 0) hx hb dX12_as_1 (by decide) ?_
  refine lv_bipush (v := 9) hx hb dX12_as_2 (by decide) ?_
  refine q_cSr (wf := (wX12 cI cZ cS ad)) (rest := []) ⟨hx, hb, hml, hown, hts⟩ hK hZ hA hP hD hS hf (fun x ho => kX12_in l D cI cZ cS zz a1 (0 : Int32) (9 : Int32) x ho) (va_cwS 3 hts gX12_as_X12_in rfl rfl rfl ndX12_in.2 ⟨Nat.le_of_ble_eq_true rfl, Nat.le_of_ble_eq_true rfl⟩) rfl (hl.1) rfl (Nat.le_of_ble_eq_true rfl) dX12_as_4 ⟨Nat.zero_le _, Nat.zero_le _⟩ (fun r1 H locs hf hP hD hS => ?_)
  refine q_lt_go hf (fun j2 ej2 hf => ?_)
  have Jj2 : ∀ (H : Heap) (locs : List Loc) (ls : Array Slot), va_P D vwCl ((wX12 cI cZ cS ad) σ) H → va_D A ((wX12 cI cZ cS ad) σ) → va_S A s.heap H locs → lv_has ls 4 [(0, .ref (ad 0))] → j2 = some (rr, σr) → W p l e rmX12_as s m ([.ref (ad 0), .int a1, .int a2] : List Value).toArray below meth c H locs 0 0 Q (F0 m 20 ls []) := by
    intro  H locs ls hP hD hS hl hf
    have hf := ej2.symm.trans hf
    refine lv_aload_n hx hb dX12_as_20 rfl (lv_at hl 0 rfl) ?_
    refine lv_iconst (v := 0) hx hb dX12_as_21 (by decide) ?_
    refine q_cVi (wf := (wX12 cI cZ cS ad)) (wc := wX12 cI cZ cS ad) (rest := []) ⟨hx, hb, hml, hown, hts⟩ hK hZ hA hP hD hS hf (fun x τ ho => kX12_finding l D cI cZ cS zz ad σ (0 : Int32) x τ ho) (cwV 1 hts gX12_as_X12_finding rfl rfl rfl ndX12_finding ⟨Nat.le_of_ble_eq_true rfl, Nat.le_of_ble_eq_true rfl⟩) [0, 1, 2, 3, 4, 5, 6, 7, 8, 9, 10, 11] rfl rfl [some 0, some 1, some 2, some 3, some 4, some 5, some 6, some 7, some 8, some 9, some 10, some 11] (by decide +kernel) (Nat.le_of_ble_eq_true rfl) (fun _ => rfl) (fun _ => rfl) (fun _ => rfl) rfl rfl rfl rfl (hl.1) rfl (Nat.le_of_ble_eq_true rfl) dX12_as_22 ⟨Nat.zero_le _, Nat.zero_le _⟩ (fun r4 σ3 H locs hf hP hD hS => ?_)
    obtain ⟨hi1, hi2⟩ := Prod.mk.inj (Option.some.inj hf)
    subst hi1
    subst hi2
    exact hret _ _ _ _ dX12_as_25 rfl hP hS
  refine lv_if_eq (tgt := 20) hx hb dX12_as_7 (by decide) (fun h5 => ?_) (fun h5 => ?_)
  · have hf := (if_pos h5).symm.trans hf
    exact Jj2  _ _ _ hP hD hS (lv_sub hl [0] rfl) hf
  · have hf := (if_neg h5).symm.trans hf
    refine lv_iload_n hx hb dX12_as_10 rfl (lv_at hl 2 rfl) ?_
    refine lv_iconst (v := 0) hx hb dX12_as_11 (by decide) ?_
    refine lv_bipush (v := 6) hx hb dX12_as_12 (by decide) ?_
    refine q_cSr (wf := (wX12 cI cZ cS ad)) (rest := []) ⟨hx, hb, hml, hown, hts⟩ hK hZ hA hP hD hS hf (fun x ho => kX12_in l D cI cZ cS zz a2 (0 : Int32) (6 : Int32) x ho) (va_cwS 3 hts gX12_as_X12_in rfl rfl rfl ndX12_in.2 ⟨Nat.le_of_ble_eq_true rfl, Nat.le_of_ble_eq_true rfl⟩) rfl (hl.1) rfl (Nat.le_of_ble_eq_true rfl) dX12_as_14 ⟨Nat.zero_le _, Nat.zero_le _⟩ (fun r6 H locs hf hP hD hS => ?_)
    refine lv_if_ne (tgt := 26) hx hb dX12_as_17 (by decide) (fun h7 => ?_) (fun h7 => ?_)
    · have hf := (if_neg h7).symm.trans hf
      refine lv_aload_n hx hb dX12_as_26 rfl (lv_at hl 0 rfl) ?_
      refine va_get (D := D) (ci := 12) (C := RX12) (T := TX12) (N := 19) hx hb hts fwX12_as_X12 hown hK hP 0 rfl rfl 0 (by decide) (hts _ (List.mem_of_getElem? (i := 1) rfl)) (fun _ h9 => h9) rfl dX12_as_27 ?_
      refine lv_sipush (v := 297) hx hb dX12_as_30 (by decide) ?_
      refine lv_iload_n hx hb dX12_as_33 rfl (lv_at hl 1 rfl) ?_
      refine lv_iadd hx hb dX12_as_34 ?_
      refine w_iald (wf := (wX12 cI cZ cS ad)) hx hb hK hP 1 0 rfl rfl hf dX12_as_35 (fun v8 hf => ?_)
      refine lv_istore_n (lv' := [(3, .int v8), (0, .ref (ad 0)), (1, .int a1), (2, .int a2)]) hx hb dX12_as_36 rfl hl (by decide) rfl (fun ls hl => ?_)
      refine lv_iload_n hx hb dX12_as_37 rfl (lv_at hl 0 rfl) ?_
      refine lv_iconst (v := -1) hx hb dX12_as_38 (by decide) ?_
      refine lv_icmp_ne (tgt := 48) hx hb dX12_as_39 (by decide) (fun h9 => ?_) (fun h9 => ?_)
      · have hf := (if_neg h9).symm.trans hf
        refine lv_aload_n hx hb dX12_as_48 rfl (lv_at hl 1 rfl) ?_
        refine lv_iload_n hx hb dX12_as_49 rfl (lv_at hl 0 rfl) ?_
        refine lv_iconst (v := 0) hx hb dX12_as_50 (by decide) ?_
        refine q_cVr (wf := (wX12 cI cZ cS ad)) (wc := wX12 cI cZ cS ad) (rest := []) ⟨hx, hb, hml, hown, hts⟩ hK hZ hA hP hD hS hf (fun x ho => kX12_its l D cI cZ cS zz ad σ v8 (0 : Int32) x ho) (cwV 2 hts gX12_as_X12_its rfl rfl rfl ndX12_its ⟨Nat.le_of_ble_eq_true rfl, Nat.le_of_ble_eq_true rfl⟩) [0, 1, 2, 3, 4, 5, 6, 7, 8, 9, 10, 11] rfl rfl rfl rfl rfl rfl (hl.1) rfl (Nat.le_of_ble_eq_true rfl) dX12_as_51 ⟨Nat.zero_le _, Nat.zero_le _⟩ (fun r10 H locs hf hP hD hS => ?_)
        refine lv_iload_n hx hb dX12_as_54 rfl (lv_at hl 3 rfl) ?_
        refine q_cSr (wf := (wX12 cI cZ cS ad)) (rest := []) ⟨hx, hb, hml, hown, hts⟩ hK hZ hA hP hD hS hf (fun x ho => kX12_isUnder l D cI cZ cS zz r10 a2 x ho) (va_cwS 2 hts gX12_as_X12_isUnder rfl rfl rfl ndX12_isUnder.2 ⟨Nat.le_of_ble_eq_true rfl, Nat.le_of_ble_eq_true rfl⟩) rfl (hl.1) rfl (Nat.le_of_ble_eq_true rfl) dX12_as_55 ⟨Nat.zero_le _, Nat.zero_le _⟩ (fun r11 H locs hf hP hD hS => ?_)
        refine q_lt_go hf (fun j14 ej14 hf => ?_)
        have Jj14 : ∀ (σ13 : SS) (y12 : Int32) (H : Heap) (locs : List Loc) (ls : Array Slot), va_P D vwCl ((wX12 cI cZ cS ad) σ13) H → va_D A ((wX12 cI cZ cS ad) σ13) → va_S A s.heap H locs → lv_has ls 4 [] → j14 σ13 y12 = some (rr, σr) → W p l e rmX12_as s m ([.ref (ad 0), .int a1, .int a2] : List Value).toArray below meth c H locs 0 0 Q (F0 m 70 ls [.int y12]) := by
          intro σ13 y12 H locs ls hP hD hS hl hf
          have hf := (congrFun (congrFun ej14 σ13) y12).symm.trans hf
          obtain ⟨hi1, hi2⟩ := Prod.mk.inj (Option.some.inj hf)
          subst hi1
          subst hi2
          exact hret _ _ _ _ dX12_as_70 rfl hP hS
        refine lv_if_eq (tgt := 65) hx hb dX12_as_58 (by decide) (fun h15 => ?_) (fun h15 => ?_)
        · have hf := (if_pos h15).symm.trans hf
          refine lv_aload_n hx hb dX12_as_65 rfl (lv_at hl 1 rfl) ?_
          refine lv_iconst (v := 2) hx hb dX12_as_66 (by decide) ?_
          refine q_cVi (wf := (wX12 cI cZ cS ad)) (wc := wX12 cI cZ cS ad) (rest := []) ⟨hx, hb, hml, hown, hts⟩ hK hZ hA hP hD hS hf (fun x τ ho => kX12_finding l D cI cZ cS zz ad σ (2 : Int32) x τ ho) (cwV 1 hts gX12_as_X12_finding rfl rfl rfl ndX12_finding ⟨Nat.le_of_ble_eq_true rfl, Nat.le_of_ble_eq_true rfl⟩) [0, 1, 2, 3, 4, 5, 6, 7, 8, 9, 10, 11] rfl rfl [some 0, some 1, some 2, some 3, some 4, some 5, some 6, some 7, some 8, some 9, some 10, some 11] (by decide +kernel) (Nat.le_of_ble_eq_true rfl) (fun _ => rfl) (fun _ => rfl) (fun _ => rfl) rfl rfl rfl rfl (hl.1) rfl (Nat.le_of_ble_eq_true rfl) dX12_as_67 ⟨Nat.zero_le _, Nat.zero_le _⟩ (fun r17 σ16 H locs hf hP hD hS => ?_)
          exact Jj14 σ16 r17 _ _ _ hP hD hS (lv_sub hl [] rfl) hf
        · have hf := (if_neg h15).symm.trans hf
          refine lv_iload_n hx hb dX12_as_61 rfl (lv_at hl 0 rfl) ?_
          refine lv_goto (tgt := 70) hx hb dX12_as_62 (by decide) ?_
          exact Jj14 σ v8 _ _ _ hP hD hS (lv_sub hl [] rfl) hf
      · have hf := (if_pos h9).symm.trans hf
        refine lv_aload_n hx hb dX12_as_42 rfl (lv_at hl 1 rfl) ?_
        refine lv_iconst (v := 5) hx hb dX12_as_43 (by decide) ?_
        refine q_cVi (wf := (wX12 cI cZ cS ad)) (wc := wX12 cI cZ cS ad) (rest := []) ⟨hx, hb, hml, hown, hts⟩ hK hZ hA hP hD hS hf (fun x τ ho => kX12_finding l D cI cZ cS zz ad σ (5 : Int32) x τ ho) (cwV 1 hts gX12_as_X12_finding rfl rfl rfl ndX12_finding ⟨Nat.le_of_ble_eq_true rfl, Nat.le_of_ble_eq_true rfl⟩) [0, 1, 2, 3, 4, 5, 6, 7, 8, 9, 10, 11] rfl rfl [some 0, some 1, some 2, some 3, some 4, some 5, some 6, some 7, some 8, some 9, some 10, some 11] (by decide +kernel) (Nat.le_of_ble_eq_true rfl) (fun _ => rfl) (fun _ => rfl) (fun _ => rfl) rfl rfl rfl rfl (hl.1) rfl (Nat.le_of_ble_eq_true rfl) dX12_as_44 ⟨Nat.zero_le _, Nat.zero_le _⟩ (fun r19 σ18 H locs hf hP hD hS => ?_)
        obtain ⟨hi1, hi2⟩ := Prod.mk.inj (Option.some.inj hf)
        subst hi1
        subst hi2
        exact hret _ _ _ _ dX12_as_47 rfl hP hS
    · have hf := (if_pos h7).symm.trans hf
      exact Jj2  _ _ _ hP hD hS (lv_sub hl [0] rfl) hf
def pX12_isSheet (a1 : Int32) : Option Int32 := q_cr (pX12_in a1 (0 : Int32) (3 : Int32)) (fun (r1 : Int32) => q_zz r1 (some r1))
abbrev rmX12_isSheet : Room := { frames := 1, cells := 0, slots := 0, locals := 22 }
set_option maxHeartbeats 4000000 in
set_option maxRecDepth 100000 in
theorem kX12_isSheet (l : Launch) (D : va_G) (cI cZ cS : ClassId) (zz : ZT) (a1 : Int32) (rr : Int32) (hf : pX12_isSheet a1 = some rr) : CI l yX12_isSheet wsX12_isSheet rmX12_isSheet D (K3 cI cZ cS) zz [.int a1] [] [] rr := by
  refine q_ofI (cc := cX12_isSheet) (maxL := 1) (ty := .boolean) (by decide) rfl (Nat.le_of_ble_eq_true rfl) ?_
  intro p e s m below meth c Q A ls hx hb hml hown hts hK hZ hA hP hD hS hl hret
  have hl : lv_has ls 1 [(0, .int a1)] := hl
  unfold pX12_isSheet at hf
  refine lv_iload_n hx hb dX12_isSheet_0 rfl (lv_at hl 0 rfl) ?_
  refine lv_iconst (v := 0) hx hb dX12_isSheet_1 (by decide) ?_
  refine lv_iconst (v := 3) hx hb dX12_isSheet_2 (by decide) ?_
  refine q_cSr (wf := (fun (_ : SS) => ([] : va_W))) (σ := q_s0) (rest := []) ⟨hx, hb, hml, hown, hts⟩ hK hZ hA hP hD hS hf (fun x ho => kX12_in l D cI cZ cS zz a1 (0 : Int32) (3 : Int32) x ho) (va_cwS 3 hts gX12_isSheet_X12_in rfl rfl rfl ndX12_in.2 ⟨Nat.le_of_ble_eq_true rfl, Nat.le_of_ble_eq_true rfl⟩) rfl (hl.1) rfl (Nat.le_of_ble_eq_true rfl) dX12_isSheet_3 ⟨Nat.zero_le _, Nat.zero_le _⟩ (fun r1 H locs hf hP hD hS => ?_)
  obtain ⟨hz, hf⟩ := q_zz_o hf
  have hi1 := Option.some.inj hf
  subst hi1
  exact hret _ _ _ _ dX12_isSheet_6 (q_zz_n hz).1 hP hS
def pX12_sheet (σ : SS) (a1 : Int32) (a2 : Int32) (a3 : Int32) : Option (Int32 × SS) := q_cr (pX12_isSheet a1) (fun (r1 : Int32) => q_lt (q_ci (pX12_finding σ (0 : Int32)) (fun (τ : SS) => τ) (fun (r4 : Int32) (σ3 : SS) => some (r4, σ3))) (fun j2 => (if r1 = (0 : Int32) then j2 else q_lt ((if (0 : Int32) ≤ a3 then (if a3 ≤ (40 : Int32) then q_wr σ 8 4 a1 a2 (fun (σ9 : SS) => q_lt (fun (y10 : Int32) => q_wr σ9 9 4 a1 y10 (fun (σ12 : SS) => q_lp (fun _ _ => none) (fun (c15 : SS → Int32 → Option (Int32 × SS)) (σ14 : SS) (x4_13 : Int32) => (if (40 : Int32) ≤ x4_13 then q_rd (σ14 9) 4 a1 (fun (v19 : Int32) => some (v19, σ14)) else q_wr σ14 10 160 (((40 : Int32) * a1) + x4_13) (0 : Int32) (fun (σ20 : SS) => c15 σ20 (x4_13 + (1 : Int32))))) q_fu σ12 (0 : Int32))) (fun j11 => (if a2 = (0 : Int32) then j11 (0 : Int32) else j11 a3))) else q_ci (pX12_finding σ (0 : Int32)) (fun (τ : SS) => τ) (fun (r23 : Int32) (σ22 : SS) => some (r23, σ22))) else q_ci (pX12_finding σ (6 : Int32)) (fun (τ : SS) => τ) (fun (r25 : Int32) (σ24 : SS) => some (r25, σ24)))) (fun j6 => (if a2 = (0 : Int32) then j6 else (if a2 = (8 : Int32) then j6 else (if a2 = (16 : Int32) then j6 else (if a2 = (32 : Int32) then j6 else j2))))))))
theorem fwX12_sheet_X12 : ∀ w ∈ wsX120, w ∈ wsX12_sheet := fun _ h => List.mem_cons_of_mem _ (List.mem_append_right _ h)
abbrev rmX12_sheet : Room := { frames := 2, cells := 0, slots := 0, locals := 42 }
set_option maxHeartbeats 4000000 in
set_option maxRecDepth 100000 in
theorem kX12_sheet (l : Launch) (D : va_G) (cI cZ cS : ClassId) (zz : ZT) (ad : Nat → Nat) (σ : SS) (a1 : Int32) (a2 : Int32) (a3 : Int32) (rr : Int32) (σr : SS) (hf : pX12_sheet σ a1 a2 a3 = some (rr, σr)) : CI l yX12_sheet wsX12_sheet rmX12_sheet D (K3 cI cZ cS) zz [.ref (ad 0), .int a1, .int a2, .int a3] (wX12 cI cZ cS ad σ) (wX12 cI cZ cS ad σr) rr := by
  refine q_ofI (cc := cX12_sheet) (maxL := 5) (ty := .int) (by decide) rfl (Nat.le_of_ble_eq_true rfl) ?_
  intro p e s m below meth c Q A ls hx hb hml hown hts hK hZ hA hP hD hS hl hret
  have hl : lv_has ls 5 [(0, .ref (ad 0)), (1, .int a1), (2, .int a2), (3, .int a3)] := hl
  unfold pX12_sheet at hf
  refine lv_iload_n hx hb dX12_sheet_0 rfl (lv_at hl 1 rfl) ?_
  refine q_cSr (wf := (wX12 cI cZ cS ad)) (rest := []) ⟨hx, hb, hml, hown, hts⟩ hK hZ hA hP hD hS hf (fun x ho => kX12_isSheet l D cI cZ cS zz a1 x ho) (va_cwS 1 hts gX12_sheet_X12_isSheet rfl rfl rfl ndX12_isSheet.2 ⟨Nat.le_of_ble_eq_true rfl, Nat.le_of_ble_eq_true rfl⟩) rfl (hl.1) rfl (Nat.le_of_ble_eq_true rfl) dX12_sheet_1 ⟨Nat.zero_le _, Nat.zero_le _⟩ (fun r1 H locs hf hP hD hS => ?_)
  refine q_lt_go hf (fun j2 ej2 hf => ?_)
  have Jj2 : ∀ (H : Heap) (locs : List Loc) (ls : Array Slot), va_P D vwCl ((wX12 cI cZ cS ad) σ) H → va_D A ((wX12 cI cZ cS ad) σ) → va_S A s.heap H locs → lv_has ls 5 [(0, .ref (ad 0))] → j2 = some (rr, σr) → W p l e rmX12_sheet s m ([.ref (ad 0), .int a1, .int a2, .int a3] : List Value).toArray below meth c H locs 0 0 Q (F0 m 29 ls []) := by
    intro  H locs ls hP hD hS hl hf
    have hf := ej2.symm.trans hf
    refine lv_aload_n hx hb dX12_sheet_29 rfl (lv_at hl 0 rfl) ?_
    refine lv_iconst (v := 0) hx hb dX12_sheet_30 (by decide) ?_
    refine q_cVi (wf := (wX12 cI cZ cS ad)) (wc := wX12 cI cZ cS ad) (rest := []) ⟨hx, hb, hml, hown, hts⟩ hK hZ hA hP hD hS hf (fun x τ ho => kX12_finding l D cI cZ cS zz ad σ (0 : Int32) x τ ho) (cwV 1 hts gX12_sheet_X12_finding rfl rfl rfl ndX12_finding ⟨Nat.le_of_ble_eq_true rfl, Nat.le_of_ble_eq_true rfl⟩) [0, 1, 2, 3, 4, 5, 6, 7, 8, 9, 10, 11] rfl rfl [some 0, some 1, some 2, some 3, some 4, some 5, some 6, some 7, some 8, some 9, some 10, some 11] (by decide +kernel) (Nat.le_of_ble_eq_true rfl) (fun _ => rfl) (fun _ => rfl) (fun _ => rfl) rfl rfl rfl rfl (hl.1) rfl (Nat.le_of_ble_eq_true rfl) dX12_sheet_31 ⟨Nat.zero_le _, Nat.zero_le _⟩ (fun r4 σ3 H locs hf hP hD hS => ?_)
    obtain ⟨hi1, hi2⟩ := Prod.mk.inj (Option.some.inj hf)
    subst hi1
    subst hi2
    exact hret _ _ _ _ dX12_sheet_34 rfl hP hS
  refine lv_if_eq (tgt := 29) hx hb dX12_sheet_4 (by decide) (fun h5 => ?_) (fun h5 => ?_)
  · have hf := (if_pos h5).symm.trans hf
    exact Jj2  _ _ _ hP hD hS (lv_sub hl [0] rfl) hf
  · have hf := (if_neg h5).symm.trans hf
    refine lv_iload_n hx hb dX12_sheet_7 rfl (lv_at hl 2 rfl) ?_
    refine q_lt_go hf (fun j6 ej6 hf => ?_)
    have Jj6 : ∀ (H : Heap) (locs : List Loc) (ls : Array Slot), va_P D vwCl ((wX12 cI cZ cS ad) σ) H → va_D A ((wX12 cI cZ cS ad) σ) → va_S A s.heap H locs → lv_has ls 5 [(0, .ref (ad 0)), (1, .int a1), (2, .int a2), (3, .int a3)] → j6 = some (rr, σr) → W p l e rmX12_sheet s m ([.ref (ad 0), .int a1, .int a2, .int a3] : List Value).toArray below meth c H locs 0 0 Q (F0 m 35 ls []) := by
      intro  H locs ls hP hD hS hl hf
      have hf := ej6.symm.trans hf
      refine lv_iload_n hx hb dX12_sheet_35 rfl (lv_at hl 3 rfl) ?_
      refine lv_if_ge (tgt := 46) hx hb dX12_sheet_36 (by decide) (fun h7 => ?_) (fun h7 => ?_)
      · have hf := (if_pos h7).symm.trans hf
        refine lv_iload_n hx hb dX12_sheet_46 rfl (lv_at hl 3 rfl) ?_
        refine lv_bipush (v := 40) hx hb dX12_sheet_47 (by decide) ?_
        refine lv_icmp_le (tgt := 58) hx hb dX12_sheet_49 (by decide) (fun h8 => ?_) (fun h8 => ?_)
        · have hf := (if_pos h8).symm.trans hf
          refine lv_aload_n hx hb dX12_sheet_58 rfl (lv_at hl 0 rfl) ?_
          refine va_get (D := D) (ci := 12) (C := RX12) (T := TX12) (N := 19) hx hb hts fwX12_sheet_X12 hown hK hP 0 rfl rfl 15 (by decide) (hts _ (List.mem_of_getElem? (i := 1) rfl)) (fun _ h9 => h9) rfl dX12_sheet_59 ?_
          refine lv_iload_n hx hb dX12_sheet_62 rfl (lv_at hl 1 rfl) ?_
          refine lv_iload_n hx hb dX12_sheet_63 rfl (lv_at hl 2 rfl) ?_
          refine w_iast (wf := (wX12 cI cZ cS ad)) (cid := 8) hx hb hK hP hD hS 8 0 rfl rfl hf (fun _ => rfl) dX12_sheet_64 (fun σ9 H locs hf hP hD hS => ?_)
          refine lv_aload_n hx hb dX12_sheet_65 rfl (lv_at hl 0 rfl) ?_
          refine va_get (D := D) (ci := 12) (C := RX12) (T := TX12) (N := 19) hx hb hts fwX12_sheet_X12 hown hK hP 0 rfl rfl 16 (by decide) (hts _ (List.mem_of_getElem? (i := 2) rfl)) (fun _ h9 => h9) rfl dX12_sheet_66 ?_
          refine lv_iload_n hx hb dX12_sheet_69 rfl (lv_at hl 1 rfl) ?_
          refine lv_iload_n hx hb dX12_sheet_70 rfl (lv_at hl 2 rfl) ?_
          refine q_lt_go hf (fun j11 ej11 hf => ?_)
          have Jj11 : ∀ (y10 : Int32) (H : Heap) (locs : List Loc) (ls : Array Slot), va_P D vwCl ((wX12 cI cZ cS ad) σ9) H → va_D A ((wX12 cI cZ cS ad) σ9) → va_S A s.heap H locs → lv_has ls 5 [(0, .ref (ad 0)), (1, .int a1)] → j11 y10 = some (rr, σr) → W p l e rmX12_sheet s m ([.ref (ad 0), .int a1, .int a2, .int a3] : List Value).toArray below meth c H locs 0 0 Q (F0 m 79 ls [.int y10, .int a1, .ref (ad 9)]) := by
            intro y10 H locs ls hP hD hS hl hf
            have hf := (congrFun ej11 y10).symm.trans hf
            refine w_iast (wf := (wX12 cI cZ cS ad)) (cid := 9) hx hb hK hP hD hS 9 0 rfl rfl hf (fun _ => rfl) dX12_sheet_79 (fun σ12 H locs hf hP hD hS => ?_)
            refine lv_iconst (v := 0) hx hb dX12_sheet_80 (by decide) ?_
            refine lv_istore (lv' := [(4, .int (0 : Int32)), (0, .ref (ad 0)), (1, .int a1)]) hx hb dX12_sheet_81 hl (by decide) rfl (fun ls hl => ?_)
            refine q_lp_go (f := fun (zf : SS → Int32 → Option (Int32 × SS)) => zf σ12 (0 : Int32)) hf (fun z16 ez16 hf => ?_)
            have Lz16 : ∀ (n17 : Nat) (σ14 : SS) (x4_13 : Int32) (H : Heap) (locs : List Loc) (ls : Array Slot), va_P D vwCl ((wX12 cI cZ cS ad) σ14) H → va_D A ((wX12 cI cZ cS ad) σ14) → va_S A s.heap H locs → lv_has ls 5 [(0, .ref (ad 0)), (1, .int a1), (4, .int x4_13)] → q_lp (fun _ _ => none) z16 n17 σ14 x4_13 = some (rr, σr) → W p l e rmX12_sheet s m ([.ref (ad 0), .int a1, .int a2, .int a3] : List Value).toArray below meth c H locs 0 0 Q (F0 m 83 ls []) := by
              intro n17
              induction n17 with
              | zero => exact fun _ _ _ _ _ _ _ _ _ hf => q_no hf
              | succ n17 ihz16 =>
                intro σ14 x4_13 H locs ls hP hD hS hl hf
                have hf := (congrFun (congrFun (congrFun ez16 (q_lp (fun _ _ => none) z16 n17)) σ14) x4_13).symm.trans hf
                refine lv_iload hx hb dX12_sheet_83 (lv_at hl 2 rfl) ?_
                refine lv_bipush (v := 40) hx hb dX12_sheet_85 (by decide) ?_
                refine lv_icmp_ge (tgt := 109) hx hb dX12_sheet_87 (by decide) (fun h18 => ?_) (fun h18 => ?_)
                · have hf := (if_pos h18).symm.trans hf
                  refine lv_aload_n hx hb dX12_sheet_109 rfl (lv_at hl 0 rfl) ?_
                  refine va_get (D := D) (ci := 12) (C := RX12) (T := TX12) (N := 19) hx hb hts fwX12_sheet_X12 hown hK hP 0 rfl rfl 16 (by decide) (hts _ (List.mem_of_getElem? (i := 2) rfl)) (fun _ h9 => h9) rfl dX12_sheet_110 ?_
                  refine lv_iload_n hx hb dX12_sheet_113 rfl (lv_at hl 1 rfl) ?_
                  refine w_iald (wf := (wX12 cI cZ cS ad)) hx hb hK hP 9 0 rfl rfl hf dX12_sheet_114 (fun v19 hf => ?_)
                  obtain ⟨hi1, hi2⟩ := Prod.mk.inj (Option.some.inj hf)
                  subst hi1
                  subst hi2
                  exact hret _ _ _ _ dX12_sheet_115 rfl hP hS
                · have hf := (if_neg h18).symm.trans hf
                  refine lv_aload_n hx hb dX12_sheet_90 rfl (lv_at hl 0 rfl) ?_
                  refine va_get (D := D) (ci := 12) (C := RX12) (T := TX12) (N := 19) hx hb hts fwX12_sheet_X12 hown hK hP 0 rfl rfl 17 (by decide) (hts _ (List.mem_of_getElem? (i := 3) rfl)) (fun _ h9 => h9) rfl dX12_sheet_91 ?_
                  refine lv_bipush (v := 40) hx hb dX12_sheet_94 (by decide) ?_
                  refine lv_iload_n hx hb dX12_sheet_96 rfl (lv_at hl 1 rfl) ?_
                  refine lv_imul hx hb dX12_sheet_97 ?_
                  refine lv_iload hx hb dX12_sheet_98 (lv_at hl 2 rfl) ?_
                  refine lv_iadd hx hb dX12_sheet_100 ?_
                  refine lv_iconst (v := 0) hx hb dX12_sheet_101 (by decide) ?_
                  refine w_iast (wf := (wX12 cI cZ cS ad)) (cid := 10) hx hb hK hP hD hS 10 0 rfl rfl hf (fun _ => rfl) dX12_sheet_102 (fun σ20 H locs hf hP hD hS => ?_)
                  refine lv_iinc (v := (x4_13 + (1 : Int32))) (lv' := [(4, .int (x4_13 + (1 : Int32))), (0, .ref (ad 0)), (1, .int a1)]) hx hb dX12_sheet_103 hl (k := 2) rfl rfl (by decide) rfl (fun ls hl => ?_)
                  refine lv_goto (tgt := 83) hx hb dX12_sheet_106 (by decide) ?_
                  exact ihz16 σ20 (x4_13 + (1 : Int32)) _ _ _ hP hD hS (lv_sub hl [1, 2, 0] rfl) hf
            exact Lz16 q_fu σ12 (0 : Int32) _ _ _ hP hD hS (lv_sub hl [1, 2, 0] rfl) hf
          refine lv_if_ne (tgt := 78) hx hb dX12_sheet_71 (by decide) (fun h21 => ?_) (fun h21 => ?_)
          · have hf := (if_neg h21).symm.trans hf
            refine lv_iload_n hx hb dX12_sheet_78 rfl (lv_at hl 3 rfl) ?_
            exact Jj11 a3 _ _ _ hP hD hS (lv_sub hl [0, 1] rfl) hf
          · have hf := (if_pos h21).symm.trans hf
            refine lv_iconst (v := 0) hx hb dX12_sheet_74 (by decide) ?_
            refine lv_goto (tgt := 79) hx hb dX12_sheet_75 (by decide) ?_
            exact Jj11 (0 : Int32) _ _ _ hP hD hS (lv_sub hl [0, 1] rfl) hf
        · have hf := (if_neg h8).symm.trans hf
          refine lv_aload_n hx hb dX12_sheet_52 rfl (lv_at hl 0 rfl) ?_
          refine lv_iconst (v := 0) hx hb dX12_sheet_53 (by decide) ?_
          refine q_cVi (wf := (wX12 cI cZ cS ad)) (wc := wX12 cI cZ cS ad) (rest := []) ⟨hx, hb, hml, hown, hts⟩ hK hZ hA hP hD hS hf (fun x τ ho => kX12_finding l D cI cZ cS zz ad σ (0 : Int32) x τ ho) (cwV 1 hts gX12_sheet_X12_finding rfl rfl rfl ndX12_finding ⟨Nat.le_of_ble_eq_true rfl, Nat.le_of_ble_eq_true rfl⟩) [0, 1, 2, 3, 4, 5, 6, 7, 8, 9, 10, 11] rfl rfl [some 0, some 1, some 2, some 3, some 4, some 5, some 6, some 7, some 8, some 9, some 10, some 11] (by decide +kernel) (Nat.le_of_ble_eq_true rfl) (fun _ => rfl) (fun _ => rfl) (fun _ => rfl) rfl rfl rfl rfl (hl.1) rfl (Nat.le_of_ble_eq_true rfl) dX12_sheet_54 ⟨Nat.zero_le _, Nat.zero_le _⟩ (fun r23 σ22 H locs hf hP hD hS => ?_)
          obtain ⟨hi1, hi2⟩ := Prod.mk.inj (Option.some.inj hf)
          subst hi1
          subst hi2
          exact hret _ _ _ _ dX12_sheet_57 rfl hP hS
      · have hf := (if_neg h7).symm.trans hf
        refine lv_aload_n hx hb dX12_sheet_39 rfl (lv_at hl 0 rfl) ?_
        refine lv_bipush (v := 6) hx hb dX12_sheet_40 (by decide) ?_
        refine q_cVi (wf := (wX12 cI cZ cS ad)) (wc := wX12 cI cZ cS ad) (rest := []) ⟨hx, hb, hml, hown, hts⟩ hK hZ hA hP hD hS hf (fun x τ ho => kX12_finding l D cI cZ cS zz ad σ (6 : Int32) x τ ho) (cwV 1 hts gX12_sheet_X12_finding rfl rfl rfl ndX12_finding ⟨Nat.le_of_ble_eq_true rfl, Nat.le_of_ble_eq_true rfl⟩) [0, 1, 2, 3, 4, 5, 6, 7, 8, 9, 10, 11] rfl rfl [some 0, some 1, some 2, some 3, some 4, some 5, some 6, some 7, some 8, some 9, some 10, some 11] (by decide +kernel) (Nat.le_of_ble_eq_true rfl) (fun _ => rfl) (fun _ => rfl) (fun _ => rfl) rfl rfl rfl rfl (hl.1) rfl (Nat.le_of_ble_eq_true rfl) dX12_sheet_42 ⟨Nat.zero_le _, Nat.zero_le _⟩ (fun r25 σ24 H locs hf hP hD hS => ?_)
        obtain ⟨hi1, hi2⟩ := Prod.mk.inj (Option.some.inj hf)
        subst hi1
        subst hi2
        exact hret _ _ _ _ dX12_sheet_45 rfl hP hS
    refine lv_if_eq (tgt := 35) hx hb dX12_sheet_8 (by decide) (fun h26 => ?_) (fun h26 => ?_)
    · have hf := (if_pos h26).symm.trans hf
      exact Jj6  _ _ _ hP hD hS (lv_sub hl [0, 1, 2, 3] rfl) hf
    · have hf := (if_neg h26).symm.trans hf
      refine lv_iload_n hx hb dX12_sheet_11 rfl (lv_at hl 2 rfl) ?_
      refine lv_bipush (v := 8) hx hb dX12_sheet_12 (by decide) ?_
      refine lv_icmp_eq (tgt := 35) hx hb dX12_sheet_14 (by decide) (fun h27 => ?_) (fun h27 => ?_)
      · have hf := (if_pos h27).symm.trans hf
        exact Jj6  _ _ _ hP hD hS (lv_sub hl [0, 1, 2, 3] rfl) hf
      · have hf := (if_neg h27).symm.trans hf
        refine lv_iload_n hx hb dX12_sheet_17 rfl (lv_at hl 2 rfl) ?_
        refine lv_bipush (v := 16) hx hb dX12_sheet_18 (by decide) ?_
        refine lv_icmp_eq (tgt := 35) hx hb dX12_sheet_20 (by decide) (fun h28 => ?_) (fun h28 => ?_)
        · have hf := (if_pos h28).symm.trans hf
          exact Jj6  _ _ _ hP hD hS (lv_sub hl [0, 1, 2, 3] rfl) hf
        · have hf := (if_neg h28).symm.trans hf
          refine lv_iload_n hx hb dX12_sheet_23 rfl (lv_at hl 2 rfl) ?_
          refine lv_bipush (v := 32) hx hb dX12_sheet_24 (by decide) ?_
          refine lv_icmp_eq (tgt := 35) hx hb dX12_sheet_26 (by decide) (fun h29 => ?_) (fun h29 => ?_)
          · have hf := (if_pos h29).symm.trans hf
            exact Jj6  _ _ _ hP hD hS (lv_sub hl [0, 1, 2, 3] rfl) hf
          · have hf := (if_neg h29).symm.trans hf
            exact Jj2  _ _ _ hP hD hS (lv_sub hl [0] rfl) hf
def pX12_write (σ : SS) (a1 : Int32) (a2 : Int32) (a3 : Int32) : Option (Int32 × SS) := q_cr (pX12_isSheet a1) (fun (r1 : Int32) => (if r1 = (0 : Int32) then q_ci (pX12_finding σ (0 : Int32)) (fun (τ : SS) => τ) (fun (r16 : Int32) (σ15 : SS) => some (r16, σ15)) else q_rd (σ 8) 4 a1 (fun (v3 : Int32) => (if v3 = (0 : Int32) then q_ci (pX12_finding σ (5 : Int32)) (fun (τ : SS) => τ) (fun (r14 : Int32) (σ13 : SS) => some (r14, σ13)) else q_rd (σ 9) 4 a1 (fun (v5 : Int32) => q_cr (pX12_in a2 (0 : Int32) (v5 - (1 : Int32))) (fun (r6 : Int32) => (if r6 = (0 : Int32) then q_ci (pX12_finding σ (0 : Int32)) (fun (τ : SS) => τ) (fun (r12 : Int32) (σ11 : SS) => some (r12, σ11)) else q_rd (σ 8) 4 a1 (fun (v8 : Int32) => q_lt ((32 : Int32) - v8) (fun x4_9 => q_wr σ 10 160 (((40 : Int32) * a1) + a2) ((a3 <<< (x4_9 &&& (31 : Int32))) >>> (x4_9 &&& (31 : Int32))) (fun (σ10 : SS) => some ((1 : Int32), σ10)))))))))))
theorem fwX12_write_X12 : ∀ w ∈ wsX120, w ∈ wsX12_write := fun _ h => List.mem_cons_of_mem _ (List.mem_append_right _ h)
abbrev rmX12_write : Room := { frames := 2, cells := 0, slots := 0, locals := 42 }
set_option maxHeartbeats 4000000 in
set_option maxRecDepth 100000 in
theorem kX12_write (l : Launch) (D : va_G) (cI cZ cS : ClassId) (zz : ZT) (ad : Nat → Nat) (σ : SS) (a1 : Int32) (a2 : Int32) (a3 : Int32) (rr : Int32) (σr : SS) (hf : pX12_write σ a1 a2 a3 = some (rr, σr)) : CI l yX12_write wsX12_write rmX12_write D (K3 cI cZ cS) zz [.ref (ad 0), .int a1, .int a2, .int a3] (wX12 cI cZ cS ad σ) (wX12 cI cZ cS ad σr) rr := by
  refine q_ofI (cc := cX12_write) (maxL := 5) (ty := .int) (by decide) rfl (Nat.le_of_ble_eq_true rfl) ?_
  intro p e s m below meth c Q A ls hx hb hml hown hts hK hZ hA hP hD hS hl hret
  have hl : lv_has ls 5 [(0, .ref (ad 0)), (1, .int a1), (2, .int a2), (3, .int a3)] := hl
  unfold pX12_write at hf
  refine lv_iload_n hx hb dX12_write_0 rfl (lv_at hl 1 rfl) ?_
  refine q_cSr (wf := (wX12 cI cZ cS ad)) (rest := []) ⟨hx, hb, hml, hown, hts⟩ hK hZ hA hP hD hS hf (fun x ho => kX12_isSheet l D cI cZ cS zz a1 x ho) (va_cwS 1 hts gX12_write_X12_isSheet rfl rfl rfl ndX12_isSheet.2 ⟨Nat.le_of_ble_eq_true rfl, Nat.le_of_ble_eq_true rfl⟩) rfl (hl.1) rfl (Nat.le_of_ble_eq_true rfl) dX12_write_1 ⟨Nat.zero_le _, Nat.zero_le _⟩ (fun r1 H locs hf hP hD hS => ?_)
  refine lv_if_ne (tgt := 13) hx hb dX12_write_4 (by decide) (fun h2 => ?_) (fun h2 => ?_)
  · have hf := (if_neg h2).symm.trans hf
    refine lv_aload_n hx hb dX12_write_13 rfl (lv_at hl 0 rfl) ?_
    refine va_get (D := D) (ci := 12) (C := RX12) (T := TX12) (N := 19) hx hb hts fwX12_write_X12 hown hK hP 0 rfl rfl 15 (by decide) (hts _ (List.mem_of_getElem? (i := 1) rfl)) (fun _ h9 => h9) rfl dX12_write_14 ?_
    refine lv_iload_n hx hb dX12_write_17 rfl (lv_at hl 1 rfl) ?_
    refine w_iald (wf := (wX12 cI cZ cS ad)) hx hb hK hP 8 0 rfl rfl hf dX12_write_18 (fun v3 hf => ?_)
    refine lv_if_ne (tgt := 28) hx hb dX12_write_19 (by decide) (fun h4 => ?_) (fun h4 => ?_)
    · have hf := (if_neg h4).symm.trans hf
      refine lv_iload_n hx hb dX12_write_28 rfl (lv_at hl 2 rfl) ?_
      refine lv_iconst (v := 0) hx hb dX12_write_29 (by decide) ?_
      refine lv_aload_n hx hb dX12_write_30 rfl (lv_at hl 0 rfl) ?_
      refine va_get (D := D) (ci := 12) (C := RX12) (T := TX12) (N := 19) hx hb hts fwX12_write_X12 hown hK hP 0 rfl rfl 16 (by decide) (hts _ (List.mem_of_getElem? (i := 2) rfl)) (fun _ h9 => h9) rfl dX12_write_31 ?_
      refine lv_iload_n hx hb dX12_write_34 rfl (lv_at hl 1 rfl) ?_
      refine w_iald (wf := (wX12 cI cZ cS ad)) hx hb hK hP 9 0 rfl rfl hf dX12_write_35 (fun v5 hf => ?_)
      refine lv_iconst (v := 1) hx hb dX12_write_36 (by decide) ?_
      refine lv_isub hx hb dX12_write_37 ?_
      refine q_cSr (wf := (wX12 cI cZ cS ad)) (rest := []) ⟨hx, hb, hml, hown, hts⟩ hK hZ hA hP hD hS hf (fun x ho => kX12_in l D cI cZ cS zz a2 (0 : Int32) (v5 - (1 : Int32)) x ho) (va_cwS 3 hts gX12_write_X12_in rfl rfl rfl ndX12_in.2 ⟨Nat.le_of_ble_eq_true rfl, Nat.le_of_ble_eq_true rfl⟩) rfl (hl.1) rfl (Nat.le_of_ble_eq_true rfl) dX12_write_38 ⟨Nat.zero_le _, Nat.zero_le _⟩ (fun r6 H locs hf hP hD hS => ?_)
      refine lv_if_ne (tgt := 50) hx hb dX12_write_41 (by decide) (fun h7 => ?_) (fun h7 => ?_)
      · have hf := (if_neg h7).symm.trans hf
        refine lv_bipush (v := 32) hx hb dX12_write_50 (by decide) ?_
        refine lv_aload_n hx hb dX12_write_52 rfl (lv_at hl 0 rfl) ?_
        refine va_get (D := D) (ci := 12) (C := RX12) (T := TX12) (N := 19) hx hb hts fwX12_write_X12 hown hK hP 0 rfl rfl 15 (by decide) (hts _ (List.mem_of_getElem? (i := 1) rfl)) (fun _ h9 => h9) rfl dX12_write_53 ?_
        refine lv_iload_n hx hb dX12_write_56 rfl (lv_at hl 1 rfl) ?_
        refine w_iald (wf := (wX12 cI cZ cS ad)) hx hb hK hP 8 0 rfl rfl hf dX12_write_57 (fun v8 hf => ?_)
        refine lv_isub hx hb dX12_write_58 ?_
        refine lv_topi (fun x4_9 ex4_9 => ?_)
        have hf := q_lt_at ex4_9 hf
        refine lv_istore (lv' := [(4, .int x4_9), (0, .ref (ad 0)), (1, .int a1), (2, .int a2), (3, .int a3)]) hx hb dX12_write_59 hl (by decide) rfl (fun ls hl => ?_)
        refine lv_aload_n hx hb dX12_write_61 rfl (lv_at hl 1 rfl) ?_
        refine va_get (D := D) (ci := 12) (C := RX12) (T := TX12) (N := 19) hx hb hts fwX12_write_X12 hown hK hP 0 rfl rfl 17 (by decide) (hts _ (List.mem_of_getElem? (i := 3) rfl)) (fun _ h9 => h9) rfl dX12_write_62 ?_
        refine lv_bipush (v := 40) hx hb dX12_write_65 (by decide) ?_
        refine lv_iload_n hx hb dX12_write_67 rfl (lv_at hl 2 rfl) ?_
        refine lv_imul hx hb dX12_write_68 ?_
        refine lv_iload_n hx hb dX12_write_69 rfl (lv_at hl 3 rfl) ?_
        refine lv_iadd hx hb dX12_write_70 ?_
        refine lv_iload_n hx hb dX12_write_71 rfl (lv_at hl 4 rfl) ?_
        refine lv_iload hx hb dX12_write_72 (lv_at hl 0 rfl) ?_
        refine lv_ishl hx hb dX12_write_74 ?_
        refine lv_iload hx hb dX12_write_75 (lv_at hl 0 rfl) ?_
        refine lv_ishr hx hb dX12_write_77 ?_
        refine w_iast (wf := (wX12 cI cZ cS ad)) (cid := 10) hx hb hK hP hD hS 10 0 rfl rfl hf (fun _ => rfl) dX12_write_78 (fun σ10 H locs hf hP hD hS => ?_)
        refine lv_iconst (v := 1) hx hb dX12_write_79 (by decide) ?_
        obtain ⟨hi1, hi2⟩ := Prod.mk.inj (Option.some.inj hf)
        subst hi1
        subst hi2
        exact hret _ _ _ _ dX12_write_80 rfl hP hS
      · have hf := (if_pos h7).symm.trans hf
        refine lv_aload_n hx hb dX12_write_44 rfl (lv_at hl 0 rfl) ?_
        refine lv_iconst (v := 0) hx hb dX12_write_45 (by decide) ?_
        refine q_cVi (wf := (wX12 cI cZ cS ad)) (wc := wX12 cI cZ cS ad) (rest := []) ⟨hx, hb, hml, hown, hts⟩ hK hZ hA hP hD hS hf (fun x τ ho => kX12_finding l D cI cZ cS zz ad σ (0 : Int32) x τ ho) (cwV 1 hts gX12_write_X12_finding rfl rfl rfl ndX12_finding ⟨Nat.le_of_ble_eq_true rfl, Nat.le_of_ble_eq_true rfl⟩) [0, 1, 2, 3, 4, 5, 6, 7, 8, 9, 10, 11] rfl rfl [some 0, some 1, some 2, some 3, some 4, some 5, some 6, some 7, some 8, some 9, some 10, some 11] (by decide +kernel) (Nat.le_of_ble_eq_true rfl) (fun _ => rfl) (fun _ => rfl) (fun _ => rfl) rfl rfl rfl rfl (hl.1) rfl (Nat.le_of_ble_eq_true rfl) dX12_write_46 ⟨Nat.zero_le _, Nat.zero_le _⟩ (fun r12 σ11 H locs hf hP hD hS => ?_)
        obtain ⟨hi1, hi2⟩ := Prod.mk.inj (Option.some.inj hf)
        subst hi1
        subst hi2
        exact hret _ _ _ _ dX12_write_49 rfl hP hS
    · have hf := (if_pos h4).symm.trans hf
      refine lv_aload_n hx hb dX12_write_22 rfl (lv_at hl 0 rfl) ?_
      refine lv_iconst (v := 5) hx hb dX12_write_23 (by decide) ?_
      refine q_cVi (wf := (wX12 cI cZ cS ad)) (wc := wX12 cI cZ cS ad) (rest := []) ⟨hx, hb, hml, hown, hts⟩ hK hZ hA hP hD hS hf (fun x τ ho => kX12_finding l D cI cZ cS zz ad σ (5 : Int32) x τ ho) (cwV 1 hts gX12_write_X12_finding rfl rfl rfl ndX12_finding ⟨Nat.le_of_ble_eq_true rfl, Nat.le_of_ble_eq_true rfl⟩) [0, 1, 2, 3, 4, 5, 6, 7, 8, 9, 10, 11] rfl rfl [some 0, some 1, some 2, some 3, some 4, some 5, some 6, some 7, some 8, some 9, some 10, some 11] (by decide +kernel) (Nat.le_of_ble_eq_true rfl) (fun _ => rfl) (fun _ => rfl) (fun _ => rfl) rfl rfl rfl rfl (hl.1) rfl (Nat.le_of_ble_eq_true rfl) dX12_write_24 ⟨Nat.zero_le _, Nat.zero_le _⟩ (fun r14 σ13 H locs hf hP hD hS => ?_)
      obtain ⟨hi1, hi2⟩ := Prod.mk.inj (Option.some.inj hf)
      subst hi1
      subst hi2
      exact hret _ _ _ _ dX12_write_27 rfl hP hS
  · have hf := (if_pos h2).symm.trans hf
    refine lv_aload_n hx hb dX12_write_7 rfl (lv_at hl 0 rfl) ?_
    refine lv_iconst (v := 0) hx hb dX12_write_8 (by decide) ?_
    refine q_cVi (wf := (wX12 cI cZ cS ad)) (wc := wX12 cI cZ cS ad) (rest := []) ⟨hx, hb, hml, hown, hts⟩ hK hZ hA hP hD hS hf (fun x τ ho => kX12_finding l D cI cZ cS zz ad σ (0 : Int32) x τ ho) (cwV 1 hts gX12_write_X12_finding rfl rfl rfl ndX12_finding ⟨Nat.le_of_ble_eq_true rfl, Nat.le_of_ble_eq_true rfl⟩) [0, 1, 2, 3, 4, 5, 6, 7, 8, 9, 10, 11] rfl rfl [some 0, some 1, some 2, some 3, some 4, some 5, some 6, some 7, some 8, some 9, some 10, some 11] (by decide +kernel) (Nat.le_of_ble_eq_true rfl) (fun _ => rfl) (fun _ => rfl) (fun _ => rfl) rfl rfl rfl rfl (hl.1) rfl (Nat.le_of_ble_eq_true rfl) dX12_write_9 ⟨Nat.zero_le _, Nat.zero_le _⟩ (fun r16 σ15 H locs hf hP hD hS => ?_)
    obtain ⟨hi1, hi2⟩ := Prod.mk.inj (Option.some.inj hf)
    subst hi1
    subst hi2
    exact hret _ _ _ _ dX12_write_12 rfl hP hS
def pX12_copy (σ : SS) (a1 : Int32) (a2 : Int32) (a3 : Int32) (a4 : Int32) (a5 : Int32) : Option (Int32 × SS) := q_cr (pX12_isSheet a1) (fun (r1 : Int32) => q_lt (q_ci (pX12_finding σ (0 : Int32)) (fun (τ : SS) => τ) (fun (r4 : Int32) (σ3 : SS) => some (r4, σ3))) (fun j2 => (if r1 = (0 : Int32) then j2 else q_cr (pX12_isSheet a3) (fun (r6 : Int32) => (if r6 = (0 : Int32) then j2 else q_rd (σ 8) 4 a1 (fun (v8 : Int32) => q_lt (q_ci (pX12_finding σ (5 : Int32)) (fun (τ : SS) => τ) (fun (r11 : Int32) (σ10 : SS) => some (r11, σ10))) (fun j9 => (if v8 = (0 : Int32) then j9 else q_rd (σ 8) 4 a3 (fun (v13 : Int32) => (if v13 = (0 : Int32) then j9 else q_rd (σ 8) 4 a1 (fun (v15 : Int32) => q_rd (σ 8) 4 a3 (fun (v16 : Int32) => (if v15 = v16 then q_lt (q_ci (pX12_finding σ (0 : Int32)) (fun (τ : SS) => τ) (fun (r20 : Int32) (σ19 : SS) => some (r20, σ19))) (fun j18 => (if a2 < (0 : Int32) then j18 else (if a4 < (0 : Int32) then j18 else (if a5 < (0 : Int32) then j18 else q_rd (σ 9) 4 a1 (fun (v24 : Int32) => (if (v24 - a5) < a2 then j18 else q_rd (σ 9) 4 a3 (fun (v26 : Int32) => (if a4 ≤ (v26 - a5) then q_lp (fun _ _ => none) (fun (c30 : SS → Int32 → Option (Int32 × SS)) (σ29 : SS) (x6_28 : Int32) => (if a5 ≤ x6_28 then q_lp (fun _ _ => none) (fun (c36 : SS → Int32 → Option (Int32 × SS)) (σ35 : SS) (x6_34 : Int32) => (if a5 ≤ x6_34 then some (a5, σ35) else q_rd (σ35 11) 40 x6_34 (fun (v40 : Int32) => q_wr σ35 10 160 ((((40 : Int32) * a3) + a4) + x6_34) v40 (fun (σ41 : SS) => c36 σ41 (x6_34 + (1 : Int32)))))) q_fu σ29 (0 : Int32) else q_rd (σ29 10) 160 ((((40 : Int32) * a1) + a2) + x6_28) (fun (v42 : Int32) => q_wr σ29 11 40 x6_28 v42 (fun (σ43 : SS) => c30 σ43 (x6_28 + (1 : Int32)))))) q_fu σ (0 : Int32) else j18)))))))) else q_ci (pX12_finding σ (2 : Int32)) (fun (τ : SS) => τ) (fun (r45 : Int32) (σ44 : SS) => some (r45, σ44)))))))))))))))
theorem fwX12_copy_X12 : ∀ w ∈ wsX120, w ∈ wsX12_copy := fun _ h => List.mem_cons_of_mem _ (List.mem_append_right _ h)
abbrev rmX12_copy : Room := { frames := 2, cells := 0, slots := 0, locals := 42 }
set_option maxHeartbeats 4000000 in
set_option maxRecDepth 100000 in
theorem kX12_copy (l : Launch) (D : va_G) (cI cZ cS : ClassId) (zz : ZT) (ad : Nat → Nat) (σ : SS) (a1 : Int32) (a2 : Int32) (a3 : Int32) (a4 : Int32) (a5 : Int32) (rr : Int32) (σr : SS) (hf : pX12_copy σ a1 a2 a3 a4 a5 = some (rr, σr)) : CI l yX12_copy wsX12_copy rmX12_copy D (K3 cI cZ cS) zz [.ref (ad 0), .int a1, .int a2, .int a3, .int a4, .int a5] (wX12 cI cZ cS ad σ) (wX12 cI cZ cS ad σr) rr := by
  refine q_ofI (cc := cX12_copy) (maxL := 7) (ty := .int) (by decide) rfl (Nat.le_of_ble_eq_true rfl) ?_
  intro p e s m below meth c Q A ls hx hb hml hown hts hK hZ hA hP hD hS hl hret
  have hl : lv_has ls 7 [(0, .ref (ad 0)), (1, .int a1), (2, .int a2), (3, .int a3), (4, .int a4), (5, .int a5)] := hl
  unfold pX12_copy at hf
  refine lv_iload_n hx hb dX12_copy_0 rfl (lv_at hl 1 rfl) ?_
  refine q_cSr (wf := (wX12 cI cZ cS ad)) (rest := []) ⟨hx, hb, hml, hown, hts⟩ hK hZ hA hP hD hS hf (fun x ho => kX12_isSheet l D cI cZ cS zz a1 x ho) (va_cwS 1 hts gX12_copy_X12_isSheet rfl rfl rfl ndX12_isSheet.2 ⟨Nat.le_of_ble_eq_true rfl, Nat.le_of_ble_eq_true rfl⟩) rfl (hl.1) rfl (Nat.le_of_ble_eq_true rfl) dX12_copy_1 ⟨Nat.zero_le _, Nat.zero_le _⟩ (fun r1 H locs hf hP hD hS => ?_)
  refine q_lt_go hf (fun j2 ej2 hf => ?_)
  have Jj2 : ∀ (H : Heap) (locs : List Loc) (ls : Array Slot), va_P D vwCl ((wX12 cI cZ cS ad) σ) H → va_D A ((wX12 cI cZ cS ad) σ) → va_S A s.heap H locs → lv_has ls 7 [(0, .ref (ad 0))] → j2 = some (rr, σr) → W p l e rmX12_copy s m ([.ref (ad 0), .int a1, .int a2, .int a3, .int a4, .int a5] : List Value).toArray below meth c H locs 0 0 Q (F0 m 14 ls []) := by
    intro  H locs ls hP hD hS hl hf
    have hf := ej2.symm.trans hf
    refine lv_aload_n hx hb dX12_copy_14 rfl (lv_at hl 0 rfl) ?_
    refine lv_iconst (v := 0) hx hb dX12_copy_15 (by decide) ?_
    refine q_cVi (wf := (wX12 cI cZ cS ad)) (wc := wX12 cI cZ cS ad) (rest := []) ⟨hx, hb, hml, hown, hts⟩ hK hZ hA hP hD hS hf (fun x τ ho => kX12_finding l D cI cZ cS zz ad σ (0 : Int32) x τ ho) (cwV 1 hts gX12_copy_X12_finding rfl rfl rfl ndX12_finding ⟨Nat.le_of_ble_eq_true rfl, Nat.le_of_ble_eq_true rfl⟩) [0, 1, 2, 3, 4, 5, 6, 7, 8, 9, 10, 11] rfl rfl [some 0, some 1, some 2, some 3, some 4, some 5, some 6, some 7, some 8, some 9, some 10, some 11] (by decide +kernel) (Nat.le_of_ble_eq_true rfl) (fun _ => rfl) (fun _ => rfl) (fun _ => rfl) rfl rfl rfl rfl (hl.1) rfl (Nat.le_of_ble_eq_true rfl) dX12_copy_16 ⟨Nat.zero_le _, Nat.zero_le _⟩ (fun r4 σ3 H locs hf hP hD hS => ?_)
    obtain ⟨hi1, hi2⟩ := Prod.mk.inj (Option.some.inj hf)
    subst hi1
    subst hi2
    exact hret _ _ _ _ dX12_copy_19 rfl hP hS
  refine lv_if_eq (tgt := 14) hx hb dX12_copy_4 (by decide) (fun h5 => ?_) (fun h5 => ?_)
  · have hf := (if_pos h5).symm.trans hf
    exact Jj2  _ _ _ hP hD hS (lv_sub hl [0] rfl) hf
  · have hf := (if_neg h5).symm.trans hf
    refine lv_iload_n hx hb dX12_copy_7 rfl (lv_at hl 3 rfl) ?_
    refine q_cSr (wf := (wX12 cI cZ cS ad)) (rest := []) ⟨hx, hb, hml, hown, hts⟩ hK hZ hA hP hD hS hf (fun x ho => kX12_isSheet l D cI cZ cS zz a3 x ho) (va_cwS 1 hts gX12_copy_X12_isSheet rfl rfl rfl ndX12_isSheet.2 ⟨Nat.le_of_ble_eq_true rfl, Nat.le_of_ble_eq_true rfl⟩) rfl (hl.1) rfl (Nat.le_of_ble_eq_true rfl) dX12_copy_8 ⟨Nat.zero_le _, Nat.zero_le _⟩ (fun r6 H locs hf hP hD hS => ?_)
    refine lv_if_ne (tgt := 20) hx hb dX12_copy_11 (by decide) (fun h7 => ?_) (fun h7 => ?_)
    · have hf := (if_neg h7).symm.trans hf
      refine lv_aload_n hx hb dX12_copy_20 rfl (lv_at hl 0 rfl) ?_
      refine va_get (D := D) (ci := 12) (C := RX12) (T := TX12) (N := 19) hx hb hts fwX12_copy_X12 hown hK hP 0 rfl rfl 15 (by decide) (hts _ (List.mem_of_getElem? (i := 1) rfl)) (fun _ h9 => h9) rfl dX12_copy_21 ?_
      refine lv_iload_n hx hb dX12_copy_24 rfl (lv_at hl 1 rfl) ?_
      refine w_iald (wf := (wX12 cI cZ cS ad)) hx hb hK hP 8 0 rfl rfl hf dX12_copy_25 (fun v8 hf => ?_)
      refine q_lt_go hf (fun j9 ej9 hf => ?_)
      have Jj9 : ∀ (H : Heap) (locs : List Loc) (ls : Array Slot), va_P D vwCl ((wX12 cI cZ cS ad) σ) H → va_D A ((wX12 cI cZ cS ad) σ) → va_S A s.heap H locs → lv_has ls 7 [(0, .ref (ad 0))] → j9 = some (rr, σr) → W p l e rmX12_copy s m ([.ref (ad 0), .int a1, .int a2, .int a3, .int a4, .int a5] : List Value).toArray below meth c H locs 0 0 Q (F0 m 38 ls []) := by
        intro  H locs ls hP hD hS hl hf
        have hf := ej9.symm.trans hf
        refine lv_aload_n hx hb dX12_copy_38 rfl (lv_at hl 0 rfl) ?_
        refine lv_iconst (v := 5) hx hb dX12_copy_39 (by decide) ?_
        refine q_cVi (wf := (wX12 cI cZ cS ad)) (wc := wX12 cI cZ cS ad) (rest := []) ⟨hx, hb, hml, hown, hts⟩ hK hZ hA hP hD hS hf (fun x τ ho => kX12_finding l D cI cZ cS zz ad σ (5 : Int32) x τ ho) (cwV 1 hts gX12_copy_X12_finding rfl rfl rfl ndX12_finding ⟨Nat.le_of_ble_eq_true rfl, Nat.le_of_ble_eq_true rfl⟩) [0, 1, 2, 3, 4, 5, 6, 7, 8, 9, 10, 11] rfl rfl [some 0, some 1, some 2, some 3, some 4, some 5, some 6, some 7, some 8, some 9, some 10, some 11] (by decide +kernel) (Nat.le_of_ble_eq_true rfl) (fun _ => rfl) (fun _ => rfl) (fun _ => rfl) rfl rfl rfl rfl (hl.1) rfl (Nat.le_of_ble_eq_true rfl) dX12_copy_40 ⟨Nat.zero_le _, Nat.zero_le _⟩ (fun r11 σ10 H locs hf hP hD hS => ?_)
        obtain ⟨hi1, hi2⟩ := Prod.mk.inj (Option.some.inj hf)
        subst hi1
        subst hi2
        exact hret _ _ _ _ dX12_copy_43 rfl hP hS
      refine lv_if_eq (tgt := 38) hx hb dX12_copy_26 (by decide) (fun h12 => ?_) (fun h12 => ?_)
      · have hf := (if_pos h12).symm.trans hf
        exact Jj9  _ _ _ hP hD hS (lv_sub hl [0] rfl) hf
      · have hf := (if_neg h12).symm.trans hf
        refine lv_aload_n hx hb dX12_copy_29 rfl (lv_at hl 0 rfl) ?_
        refine va_get (D := D) (ci := 12) (C := RX12) (T := TX12) (N := 19) hx hb hts fwX12_copy_X12 hown hK hP 0 rfl rfl 15 (by decide) (hts _ (List.mem_of_getElem? (i := 1) rfl)) (fun _ h9 => h9) rfl dX12_copy_30 ?_
        refine lv_iload_n hx hb dX12_copy_33 rfl (lv_at hl 3 rfl) ?_
        refine w_iald (wf := (wX12 cI cZ cS ad)) hx hb hK hP 8 0 rfl rfl hf dX12_copy_34 (fun v13 hf => ?_)
        refine lv_if_ne (tgt := 44) hx hb dX12_copy_35 (by decide) (fun h14 => ?_) (fun h14 => ?_)
        · have hf := (if_neg h14).symm.trans hf
          refine lv_aload_n hx hb dX12_copy_44 rfl (lv_at hl 0 rfl) ?_
          refine va_get (D := D) (ci := 12) (C := RX12) (T := TX12) (N := 19) hx hb hts fwX12_copy_X12 hown hK hP 0 rfl rfl 15 (by decide) (hts _ (List.mem_of_getElem? (i := 1) rfl)) (fun _ h9 => h9) rfl dX12_copy_45 ?_
          refine lv_iload_n hx hb dX12_copy_48 rfl (lv_at hl 1 rfl) ?_
          refine w_iald (wf := (wX12 cI cZ cS ad)) hx hb hK hP 8 0 rfl rfl hf dX12_copy_49 (fun v15 hf => ?_)
          refine lv_aload_n hx hb dX12_copy_50 rfl (lv_at hl 0 rfl) ?_
          refine va_get (D := D) (ci := 12) (C := RX12) (T := TX12) (N := 19) hx hb hts fwX12_copy_X12 hown hK hP 0 rfl rfl 15 (by decide) (hts _ (List.mem_of_getElem? (i := 1) rfl)) (fun _ h9 => h9) rfl dX12_copy_51 ?_
          refine lv_iload_n hx hb dX12_copy_54 rfl (lv_at hl 3 rfl) ?_
          refine w_iald (wf := (wX12 cI cZ cS ad)) hx hb hK hP 8 0 rfl rfl hf dX12_copy_55 (fun v16 hf => ?_)
          refine lv_icmp_eq (tgt := 65) hx hb dX12_copy_56 (by decide) (fun h17 => ?_) (fun h17 => ?_)
          · have hf := (if_pos h17).symm.trans hf
            refine lv_iload_n hx hb dX12_copy_65 rfl (lv_at hl 2 rfl) ?_
            refine q_lt_go hf (fun j18 ej18 hf => ?_)
            have Jj18 : ∀ (H : Heap) (locs : List Loc) (ls : Array Slot), va_P D vwCl ((wX12 cI cZ cS ad) σ) H → va_D A ((wX12 cI cZ cS ad) σ) → va_S A s.heap H locs → lv_has ls 7 [(0, .ref (ad 0))] → j18 = some (rr, σr) → W p l e rmX12_copy s m ([.ref (ad 0), .int a1, .int a2, .int a3, .int a4, .int a5] : List Value).toArray below meth c H locs 0 0 Q (F0 m 106 ls []) := by
              intro  H locs ls hP hD hS hl hf
              have hf := ej18.symm.trans hf
              refine lv_aload_n hx hb dX12_copy_106 rfl (lv_at hl 0 rfl) ?_
              refine lv_iconst (v := 0) hx hb dX12_copy_107 (by decide) ?_
              refine q_cVi (wf := (wX12 cI cZ cS ad)) (wc := wX12 cI cZ cS ad) (rest := []) ⟨hx, hb, hml, hown, hts⟩ hK hZ hA hP hD hS hf (fun x τ ho => kX12_finding l D cI cZ cS zz ad σ (0 : Int32) x τ ho) (cwV 1 hts gX12_copy_X12_finding rfl rfl rfl ndX12_finding ⟨Nat.le_of_ble_eq_true rfl, Nat.le_of_ble_eq_true rfl⟩) [0, 1, 2, 3, 4, 5, 6, 7, 8, 9, 10, 11] rfl rfl [some 0, some 1, some 2, some 3, some 4, some 5, some 6, some 7, some 8, some 9, some 10, some 11] (by decide +kernel) (Nat.le_of_ble_eq_true rfl) (fun _ => rfl) (fun _ => rfl) (fun _ => rfl) rfl rfl rfl rfl (hl.1) rfl (Nat.le_of_ble_eq_true rfl) dX12_copy_108 ⟨Nat.zero_le _, Nat.zero_le _⟩ (fun r20 σ19 H locs hf hP hD hS => ?_)
              obtain ⟨hi1, hi2⟩ := Prod.mk.inj (Option.some.inj hf)
              subst hi1
              subst hi2
              exact hret _ _ _ _ dX12_copy_111 rfl hP hS
            refine lv_if_lt (tgt := 106) hx hb dX12_copy_66 (by decide) (fun h21 => ?_) (fun h21 => ?_)
            · have hf := (if_pos h21).symm.trans hf
              exact Jj18  _ _ _ hP hD hS (lv_sub hl [0] rfl) hf
            · have hf := (if_neg h21).symm.trans hf
              refine lv_iload hx hb dX12_copy_69 (lv_at hl 4 rfl) ?_
              refine lv_if_lt (tgt := 106) hx hb dX12_copy_71 (by decide) (fun h22 => ?_) (fun h22 => ?_)
              · have hf := (if_pos h22).symm.trans hf
                exact Jj18  _ _ _ hP hD hS (lv_sub hl [0] rfl) hf
              · have hf := (if_neg h22).symm.trans hf
                refine lv_iload hx hb dX12_copy_74 (lv_at hl 5 rfl) ?_
                refine lv_if_lt (tgt := 106) hx hb dX12_copy_76 (by decide) (fun h23 => ?_) (fun h23 => ?_)
                · have hf := (if_pos h23).symm.trans hf
                  exact Jj18  _ _ _ hP hD hS (lv_sub hl [0] rfl) hf
                · have hf := (if_neg h23).symm.trans hf
                  refine lv_iload_n hx hb dX12_copy_79 rfl (lv_at hl 2 rfl) ?_
                  refine lv_aload_n hx hb dX12_copy_80 rfl (lv_at hl 0 rfl) ?_
                  refine va_get (D := D) (ci := 12) (C := RX12) (T := TX12) (N := 19) hx hb hts fwX12_copy_X12 hown hK hP 0 rfl rfl 16 (by decide) (hts _ (List.mem_of_getElem? (i := 2) rfl)) (fun _ h9 => h9) rfl dX12_copy_81 ?_
                  refine lv_iload_n hx hb dX12_copy_84 rfl (lv_at hl 1 rfl) ?_
                  refine w_iald (wf := (wX12 cI cZ cS ad)) hx hb hK hP 9 0 rfl rfl hf dX12_copy_85 (fun v24 hf => ?_)
                  refine lv_iload hx hb dX12_copy_86 (lv_at hl 5 rfl) ?_
                  refine lv_isub hx hb dX12_copy_88 ?_
                  refine lv_icmp_gt (tgt := 106) hx hb dX12_copy_89 (by decide) (fun h25 => ?_) (fun h25 => ?_)
                  · have hf := (if_pos h25).symm.trans hf
                    exact Jj18  _ _ _ hP hD hS (lv_sub hl [0] rfl) hf
                  · have hf := (if_neg h25).symm.trans hf
                    refine lv_iload hx hb dX12_copy_92 (lv_at hl 4 rfl) ?_
                    refine lv_aload_n hx hb dX12_copy_94 rfl (lv_at hl 0 rfl) ?_
                    refine va_get (D := D) (ci := 12) (C := RX12) (T := TX12) (N := 19) hx hb hts fwX12_copy_X12 hown hK hP 0 rfl rfl 16 (by decide) (hts _ (List.mem_of_getElem? (i := 2) rfl)) (fun _ h9 => h9) rfl dX12_copy_95 ?_
                    refine lv_iload_n hx hb dX12_copy_98 rfl (lv_at hl 3 rfl) ?_
                    refine w_iald (wf := (wX12 cI cZ cS ad)) hx hb hK hP 9 0 rfl rfl hf dX12_copy_99 (fun v26 hf => ?_)
                    refine lv_iload hx hb dX12_copy_100 (lv_at hl 5 rfl) ?_
                    refine lv_isub hx hb dX12_copy_102 ?_
                    refine lv_icmp_le (tgt := 112) hx hb dX12_copy_103 (by decide) (fun h27 => ?_) (fun h27 => ?_)
                    · have hf := (if_pos h27).symm.trans hf
                      refine lv_iconst (v := 0) hx hb dX12_copy_112 (by decide) ?_
                      refine lv_istore (lv' := [(6, .int (0 : Int32)), (0, .ref (ad 0)), (1, .int a1), (2, .int a2), (3, .int a3), (4, .int a4), (5, .int a5)]) hx hb dX12_copy_113 hl (by decide) rfl (fun ls hl => ?_)
                      refine q_lp_go (f := fun (zf : SS → Int32 → Option (Int32 × SS)) => zf σ (0 : Int32)) hf (fun z31 ez31 hf => ?_)
                      have Lz31 : ∀ (n32 : Nat) (σ29 : SS) (x6_28 : Int32) (H : Heap) (locs : List Loc) (ls : Array Slot), va_P D vwCl ((wX12 cI cZ cS ad) σ29) H → va_D A ((wX12 cI cZ cS ad) σ29) → va_S A s.heap H locs → lv_has ls 7 [(0, .ref (ad 0)), (1, .int a1), (2, .int a2), (3, .int a3), (4, .int a4), (5, .int a5), (6, .int x6_28)] → q_lp (fun _ _ => none) z31 n32 σ29 x6_28 = some (rr, σr) → W p l e rmX12_copy s m ([.ref (ad 0), .int a1, .int a2, .int a3, .int a4, .int a5] : List Value).toArray below meth c H locs 0 0 Q (F0 m 115 ls []) := by
                        intro n32
                        induction n32 with
                        | zero => exact fun _ _ _ _ _ _ _ _ _ hf => q_no hf
                        | succ n32 ihz31 =>
                          intro σ29 x6_28 H locs ls hP hD hS hl hf
                          have hf := (congrFun (congrFun (congrFun ez31 (q_lp (fun _ _ => none) z31 n32)) σ29) x6_28).symm.trans hf
                          refine lv_iload hx hb dX12_copy_115 (lv_at hl 6 rfl) ?_
                          refine lv_iload hx hb dX12_copy_117 (lv_at hl 5 rfl) ?_
                          refine lv_icmp_ge (tgt := 149) hx hb dX12_copy_119 (by decide) (fun h33 => ?_) (fun h33 => ?_)
                          · have hf := (if_pos h33).symm.trans hf
                            refine lv_iconst (v := 0) hx hb dX12_copy_149 (by decide) ?_
                            refine lv_istore (lv' := [(6, .int (0 : Int32)), (0, .ref (ad 0)), (1, .int a1), (2, .int a2), (3, .int a3), (4, .int a4), (5, .int a5)]) hx hb dX12_copy_150 hl (by decide) rfl (fun ls hl => ?_)
                            refine q_lp_go (f := fun (zf : SS → Int32 → Option (Int32 × SS)) => zf σ29 (0 : Int32)) hf (fun z37 ez37 hf => ?_)
                            have Lz37 : ∀ (n38 : Nat) (σ35 : SS) (x6_34 : Int32) (H : Heap) (locs : List Loc) (ls : Array Slot), va_P D vwCl ((wX12 cI cZ cS ad) σ35) H → va_D A ((wX12 cI cZ cS ad) σ35) → va_S A s.heap H locs → lv_has ls 7 [(0, .ref (ad 0)), (3, .int a3), (4, .int a4), (5, .int a5), (6, .int x6_34)] → q_lp (fun _ _ => none) z37 n38 σ35 x6_34 = some (rr, σr) → W p l e rmX12_copy s m ([.ref (ad 0), .int a1, .int a2, .int a3, .int a4, .int a5] : List Value).toArray below meth c H locs 0 0 Q (F0 m 152 ls []) := by
                              intro n38
                              induction n38 with
                              | zero => exact fun _ _ _ _ _ _ _ _ _ hf => q_no hf
                              | succ n38 ihz37 =>
                                intro σ35 x6_34 H locs ls hP hD hS hl hf
                                have hf := (congrFun (congrFun (congrFun ez37 (q_lp (fun _ _ => none) z37 n38)) σ35) x6_34).symm.trans hf
                                refine lv_iload hx hb dX12_copy_152 (lv_at hl 4 rfl) ?_
                                refine lv_iload hx hb dX12_copy_154 (lv_at hl 3 rfl) ?_
                                refine lv_icmp_ge (tgt := 187) hx hb dX12_copy_156 (by decide) (fun h39 => ?_) (fun h39 => ?_)
                                · have hf := (if_pos h39).symm.trans hf
                                  refine lv_iload hx hb dX12_copy_187 (lv_at hl 3 rfl) ?_
                                  obtain ⟨hi1, hi2⟩ := Prod.mk.inj (Option.some.inj hf)
                                  subst hi1
                                  subst hi2
                                  exact hret _ _ _ _ dX12_copy_189 rfl hP hS
                                · have hf := (if_neg h39).symm.trans hf
                                  refine lv_aload_n hx hb dX12_copy_159 rfl (lv_at hl 0 rfl) ?_
                                  refine va_get (D := D) (ci := 12) (C := RX12) (T := TX12) (N := 19) hx hb hts fwX12_copy_X12 hown hK hP 0 rfl rfl 17 (by decide) (hts _ (List.mem_of_getElem? (i := 4) rfl)) (fun _ h9 => h9) rfl dX12_copy_160 ?_
                                  refine lv_bipush (v := 40) hx hb dX12_copy_163 (by decide) ?_
                                  refine lv_iload_n hx hb dX12_copy_165 rfl (lv_at hl 1 rfl) ?_
                                  refine lv_imul hx hb dX12_copy_166 ?_
                                  refine lv_iload hx hb dX12_copy_167 (lv_at hl 2 rfl) ?_
                                  refine lv_iadd hx hb dX12_copy_169 ?_
                                  refine lv_iload hx hb dX12_copy_170 (lv_at hl 4 rfl) ?_
                                  refine lv_iadd hx hb dX12_copy_172 ?_
                                  refine lv_aload_n hx hb dX12_copy_173 rfl (lv_at hl 0 rfl) ?_
                                  refine va_get (D := D) (ci := 12) (C := RX12) (T := TX12) (N := 19) hx hb hts fwX12_copy_X12 hown hK hP 0 rfl rfl 18 (by decide) (hts _ (List.mem_of_getElem? (i := 3) rfl)) (fun _ h9 => h9) rfl dX12_copy_174 ?_
                                  refine lv_iload hx hb dX12_copy_177 (lv_at hl 4 rfl) ?_
                                  refine w_iald (wf := (wX12 cI cZ cS ad)) hx hb hK hP 11 0 rfl rfl hf dX12_copy_179 (fun v40 hf => ?_)
                                  refine w_iast (wf := (wX12 cI cZ cS ad)) (cid := 10) hx hb hK hP hD hS 10 0 rfl rfl hf (fun _ => rfl) dX12_copy_180 (fun σ41 H locs hf hP hD hS => ?_)
                                  refine lv_iinc (v := (x6_34 + (1 : Int32))) (lv' := [(6, .int (x6_34 + (1 : Int32))), (0, .ref (ad 0)), (3, .int a3), (4, .int a4), (5, .int a5)]) hx hb dX12_copy_181 hl (k := 4) rfl rfl (by decide) rfl (fun ls hl => ?_)
                                  refine lv_goto (tgt := 152) hx hb dX12_copy_184 (by decide) ?_
                                  exact ihz37 σ41 (x6_34 + (1 : Int32)) _ _ _ hP hD hS (lv_sub hl [1, 2, 3, 4, 0] rfl) hf
                            exact Lz37 q_fu σ29 (0 : Int32) _ _ _ hP hD hS (lv_sub hl [1, 4, 5, 6, 0] rfl) hf
                          · have hf := (if_neg h33).symm.trans hf
                            refine lv_aload_n hx hb dX12_copy_122 rfl (lv_at hl 0 rfl) ?_
                            refine va_get (D := D) (ci := 12) (C := RX12) (T := TX12) (N := 19) hx hb hts fwX12_copy_X12 hown hK hP 0 rfl rfl 18 (by decide) (hts _ (List.mem_of_getElem? (i := 3) rfl)) (fun _ h9 => h9) rfl dX12_copy_123 ?_
                            refine lv_iload hx hb dX12_copy_126 (lv_at hl 6 rfl) ?_
                            refine lv_aload_n hx hb dX12_copy_128 rfl (lv_at hl 0 rfl) ?_
                            refine va_get (D := D) (ci := 12) (C := RX12) (T := TX12) (N := 19) hx hb hts fwX12_copy_X12 hown hK hP 0 rfl rfl 17 (by decide) (hts _ (List.mem_of_getElem? (i := 4) rfl)) (fun _ h9 => h9) rfl dX12_copy_129 ?_
                            refine lv_bipush (v := 40) hx hb dX12_copy_132 (by decide) ?_
                            refine lv_iload_n hx hb dX12_copy_134 rfl (lv_at hl 1 rfl) ?_
                            refine lv_imul hx hb dX12_copy_135 ?_
                            refine lv_iload_n hx hb dX12_copy_136 rfl (lv_at hl 2 rfl) ?_
                            refine lv_iadd hx hb dX12_copy_137 ?_
                            refine lv_iload hx hb dX12_copy_138 (lv_at hl 6 rfl) ?_
                            refine lv_iadd hx hb dX12_copy_140 ?_
                            refine w_iald (wf := (wX12 cI cZ cS ad)) hx hb hK hP 10 0 rfl rfl hf dX12_copy_141 (fun v42 hf => ?_)
                            refine w_iast (wf := (wX12 cI cZ cS ad)) (cid := 11) hx hb hK hP hD hS 11 0 rfl rfl hf (fun _ => rfl) dX12_copy_142 (fun σ43 H locs hf hP hD hS => ?_)
                            refine lv_iinc (v := (x6_28 + (1 : Int32))) (lv' := [(6, .int (x6_28 + (1 : Int32))), (0, .ref (ad 0)), (1, .int a1), (2, .int a2), (3, .int a3), (4, .int a4), (5, .int a5)]) hx hb dX12_copy_143 hl (k := 6) rfl rfl (by decide) rfl (fun ls hl => ?_)
                            refine lv_goto (tgt := 115) hx hb dX12_copy_146 (by decide) ?_
                            exact ihz31 σ43 (x6_28 + (1 : Int32)) _ _ _ hP hD hS (lv_sub hl [1, 2, 3, 4, 5, 6, 0] rfl) hf
                      exact Lz31 q_fu σ (0 : Int32) _ _ _ hP hD hS (lv_sub hl [1, 2, 3, 4, 5, 6, 0] rfl) hf
                    · have hf := (if_neg h27).symm.trans hf
                      exact Jj18  _ _ _ hP hD hS (lv_sub hl [0] rfl) hf
          · have hf := (if_neg h17).symm.trans hf
            refine lv_aload_n hx hb dX12_copy_59 rfl (lv_at hl 0 rfl) ?_
            refine lv_iconst (v := 2) hx hb dX12_copy_60 (by decide) ?_
            refine q_cVi (wf := (wX12 cI cZ cS ad)) (wc := wX12 cI cZ cS ad) (rest := []) ⟨hx, hb, hml, hown, hts⟩ hK hZ hA hP hD hS hf (fun x τ ho => kX12_finding l D cI cZ cS zz ad σ (2 : Int32) x τ ho) (cwV 1 hts gX12_copy_X12_finding rfl rfl rfl ndX12_finding ⟨Nat.le_of_ble_eq_true rfl, Nat.le_of_ble_eq_true rfl⟩) [0, 1, 2, 3, 4, 5, 6, 7, 8, 9, 10, 11] rfl rfl [some 0, some 1, some 2, some 3, some 4, some 5, some 6, some 7, some 8, some 9, some 10, some 11] (by decide +kernel) (Nat.le_of_ble_eq_true rfl) (fun _ => rfl) (fun _ => rfl) (fun _ => rfl) rfl rfl rfl rfl (hl.1) rfl (Nat.le_of_ble_eq_true rfl) dX12_copy_61 ⟨Nat.zero_le _, Nat.zero_le _⟩ (fun r45 σ44 H locs hf hP hD hS => ?_)
            obtain ⟨hi1, hi2⟩ := Prod.mk.inj (Option.some.inj hf)
            subst hi1
            subst hi2
            exact hret _ _ _ _ dX12_copy_64 rfl hP hS
        · have hf := (if_pos h14).symm.trans hf
          exact Jj9  _ _ _ hP hD hS (lv_sub hl [0] rfl) hf
    · have hf := (if_pos h7).symm.trans hf
      exact Jj2  _ _ _ hP hD hS (lv_sub hl [0] rfl) hf
def pX12_lacks (σ : SS) (a1 : Int32) : Option Int32 := q_cr (pX12_isSheet a1) (fun (r1 : Int32) => q_lt (fun (y2 : Int32) => some y2) (fun j3 => (if r1 = (0 : Int32) then j3 (0 : Int32) else q_rd (σ 8) 4 a1 (fun (v5 : Int32) => (if v5 = (0 : Int32) then j3 (5 : Int32) else j3 (-1 : Int32))))))
theorem fwX12_lacks_X12 : ∀ w ∈ wsX120, w ∈ wsX12_lacks := fun _ h => List.mem_cons_of_mem _ (List.mem_append_right _ h)
abbrev rmX12_lacks : Room := { frames := 2, cells := 0, slots := 0, locals := 42 }
set_option maxHeartbeats 4000000 in
set_option maxRecDepth 100000 in
theorem kX12_lacks (l : Launch) (D : va_G) (cI cZ cS : ClassId) (zz : ZT) (ad : Nat → Nat) (σ : SS) (a1 : Int32) (rr : Int32) (hf : pX12_lacks σ a1 = some rr) : CI l yX12_lacks wsX12_lacks rmX12_lacks D (K3 cI cZ cS) zz [.ref (ad 0), .int a1] (wX12 cI cZ cS ad σ) (wX12 cI cZ cS ad σ) rr := by
  refine q_ofI (cc := cX12_lacks) (maxL := 2) (ty := .int) (by decide) rfl (Nat.le_of_ble_eq_true rfl) ?_
  intro p e s m below meth c Q A ls hx hb hml hown hts hK hZ hA hP hD hS hl hret
  have hl : lv_has ls 2 [(0, .ref (ad 0)), (1, .int a1)] := hl
  unfold pX12_lacks at hf
  refine lv_iload_n hx hb dX12_lacks_0 rfl (lv_at hl 1 rfl) ?_
  refine q_cSr (wf := (wX12 cI cZ cS ad)) (rest := []) ⟨hx, hb, hml, hown, hts⟩ hK hZ hA hP hD hS hf (fun x ho => kX12_isSheet l D cI cZ cS zz a1 x ho) (va_cwS 1 hts gX12_lacks_X12_isSheet rfl rfl rfl ndX12_isSheet.2 ⟨Nat.le_of_ble_eq_true rfl, Nat.le_of_ble_eq_true rfl⟩) rfl (hl.1) rfl (Nat.le_of_ble_eq_true rfl) dX12_lacks_1 ⟨Nat.zero_le _, Nat.zero_le _⟩ (fun r1 H locs hf hP hD hS => ?_)
  refine q_lt_go hf (fun j3 ej3 hf => ?_)
  have Jj3 : ∀ (y2 : Int32) (H : Heap) (locs : List Loc) (ls : Array Slot), va_P D vwCl ((wX12 cI cZ cS ad) σ) H → va_D A ((wX12 cI cZ cS ad) σ) → va_S A s.heap H locs → lv_has ls 2 [] → j3 y2 = some rr → W p l e rmX12_lacks s m ([.ref (ad 0), .int a1] : List Value).toArray below meth c H locs 0 0 Q (F0 m 25 ls [.int y2]) := by
    intro y2 H locs ls hP hD hS hl hf
    have hf := (congrFun ej3 y2).symm.trans hf
    have hi1 := Option.some.inj hf
    subst hi1
    exact hret _ _ _ _ dX12_lacks_25 rfl hP hS
  refine lv_if_ne (tgt := 11) hx hb dX12_lacks_4 (by decide) (fun h4 => ?_) (fun h4 => ?_)
  · have hf := (if_neg h4).symm.trans hf
    refine lv_aload_n hx hb dX12_lacks_11 rfl (lv_at hl 0 rfl) ?_
    refine va_get (D := D) (ci := 12) (C := RX12) (T := TX12) (N := 19) hx hb hts fwX12_lacks_X12 hown hK hP 0 rfl rfl 15 (by decide) (hts _ (List.mem_of_getElem? (i := 1) rfl)) (fun _ h9 => h9) rfl dX12_lacks_12 ?_
    refine lv_iload_n hx hb dX12_lacks_15 rfl (lv_at hl 1 rfl) ?_
    refine w_iald (wf := (wX12 cI cZ cS ad)) hx hb hK hP 8 0 rfl rfl hf dX12_lacks_16 (fun v5 hf => ?_)
    refine lv_if_ne (tgt := 24) hx hb dX12_lacks_17 (by decide) (fun h6 => ?_) (fun h6 => ?_)
    · have hf := (if_neg h6).symm.trans hf
      refine lv_iconst (v := -1) hx hb dX12_lacks_24 (by decide) ?_
      exact Jj3 (-1 : Int32) _ _ _ hP hD hS (lv_sub hl [] rfl) hf
    · have hf := (if_pos h6).symm.trans hf
      refine lv_iconst (v := 5) hx hb dX12_lacks_20 (by decide) ?_
      refine lv_goto (tgt := 25) hx hb dX12_lacks_21 (by decide) ?_
      exact Jj3 (5 : Int32) _ _ _ hP hD hS (lv_sub hl [] rfl) hf
  · have hf := (if_pos h4).symm.trans hf
    refine lv_iconst (v := 0) hx hb dX12_lacks_7 (by decide) ?_
    refine lv_goto (tgt := 25) hx hb dX12_lacks_8 (by decide) ?_
    exact Jj3 (0 : Int32) _ _ _ hP hD hS (lv_sub hl [] rfl) hf
def pX12_load (σ : SS) (a1 : Int32) : Option (Int32 × SS) := q_cr (pX12_lacks σ a1) (fun (r1 : Int32) => (if r1 < (0 : Int32) then q_lp (fun _ _ => none) (fun (c5 : SS → Int32 → Option (Int32 × SS)) (σ4 : SS) (x3_3 : Int32) => q_rd (σ4 9) 4 a1 (fun (v8 : Int32) => q_lt (some (x3_3, σ4)) (fun j9 => (if v8 ≤ x3_3 then j9 else q_rd (σ4 10) 160 (((40 : Int32) * a1) + x3_3) (fun (v11 : Int32) => q_cr (pX12_in v11 (0 : Int32) (99 : Int32)) (fun (r12 : Int32) => (if r12 = (0 : Int32) then j9 else q_rd (σ4 10) 160 (((40 : Int32) * a1) + x3_3) (fun (v14 : Int32) => q_wr σ4 1 307 (0 : Int32) v14 (fun (σ15 : SS) => q_cs (pX12_goes σ15) (fun (τ : SS) => τ) (fun (σ16 : SS) => c5 σ16 (x3_3 + (1 : Int32)))))))))))) q_fu σ (0 : Int32) else q_ci (pX12_finding σ r1) (fun (τ : SS) => τ) (fun (r18 : Int32) (σ17 : SS) => some (r18, σ17))))
theorem fwX12_load_X12 : ∀ w ∈ wsX120, w ∈ wsX12_load := fun _ h => List.mem_cons_of_mem _ (List.mem_append_right _ h)
abbrev rmX12_load : Room := { frames := 5, cells := 0, slots := 0, locals := 112 }
set_option maxHeartbeats 4000000 in
set_option maxRecDepth 100000 in
theorem kX12_load (l : Launch) (D : va_G) (cI cZ cS : ClassId) (zz : ZT) (ad : Nat → Nat) (σ : SS) (a1 : Int32) (rr : Int32) (σr : SS) (hf : pX12_load σ a1 = some (rr, σr)) : CI l yX12_load wsX12_load rmX12_load D (K3 cI cZ cS) zz [.ref (ad 0), .int a1] (wX12 cI cZ cS ad σ) (wX12 cI cZ cS ad σr) rr := by
  refine q_ofI (cc := cX12_load) (maxL := 4) (ty := .int) (by decide) rfl (Nat.le_of_ble_eq_true rfl) ?_
  intro p e s m below meth c Q A ls hx hb hml hown hts hK hZ hA hP hD hS hl hret
  have hl : lv_has ls 4 [(0, .ref (ad 0)), (1, .int a1)] := hl
  unfold pX12_load at hf
  refine lv_aload_n hx hb dX12_load_0 rfl (lv_at hl 0 rfl) ?_
  refine lv_iload_n hx hb dX12_load_1 rfl (lv_at hl 1 rfl) ?_
  refine q_cVr (wf := (wX12 cI cZ cS ad)) (wc := wX12 cI cZ cS ad) (rest := []) ⟨hx, hb, hml, hown, hts⟩ hK hZ hA hP hD hS hf (fun x ho => kX12_lacks l D cI cZ cS zz ad σ a1 x ho) (cwV 1 hts gX12_load_X12_lacks rfl rfl rfl ndX12_lacks ⟨Nat.le_of_ble_eq_true rfl, Nat.le_of_ble_eq_true rfl⟩) [0, 1, 2, 3, 4, 5, 6, 7, 8, 9, 10, 11] rfl rfl rfl rfl rfl rfl (hl.1) rfl (Nat.le_of_ble_eq_true rfl) dX12_load_2 ⟨Nat.zero_le _, Nat.zero_le _⟩ (fun r1 H locs hf hP hD hS => ?_)
  refine lv_istore_n (lv' := [(2, .int r1), (0, .ref (ad 0)), (1, .int a1)]) hx hb dX12_load_5 rfl hl (by decide) rfl (fun ls hl => ?_)
  refine lv_iload_n hx hb dX12_load_6 rfl (lv_at hl 0 rfl) ?_
  refine lv_if_lt (tgt := 16) hx hb dX12_load_7 (by decide) (fun h2 => ?_) (fun h2 => ?_)
  · have hf := (if_pos h2).symm.trans hf
    refine lv_iconst (v := 0) hx hb dX12_load_16 (by decide) ?_
    refine lv_istore_n (lv' := [(3, .int (0 : Int32)), (2, .int r1), (0, .ref (ad 0)), (1, .int a1)]) hx hb dX12_load_17 rfl hl (by decide) rfl (fun ls hl => ?_)
    refine q_lp_go (f := fun (zf : SS → Int32 → Option (Int32 × SS)) => zf σ (0 : Int32)) hf (fun z6 ez6 hf => ?_)
    have Lz6 : ∀ (n7 : Nat) (σ4 : SS) (x3_3 : Int32) (H : Heap) (locs : List Loc) (ls : Array Slot), va_P D vwCl ((wX12 cI cZ cS ad) σ4) H → va_D A ((wX12 cI cZ cS ad) σ4) → va_S A s.heap H locs → lv_has ls 4 [(0, .ref (ad 0)), (1, .int a1), (3, .int x3_3)] → q_lp (fun _ _ => none) z6 n7 σ4 x3_3 = some (rr, σr) → W p l e rmX12_load s m ([.ref (ad 0), .int a1] : List Value).toArray below meth c H locs 0 0 Q (F0 m 18 ls []) := by
      intro n7
      induction n7 with
      | zero => exact fun _ _ _ _ _ _ _ _ _ hf => q_no hf
      | succ n7 ihz6 =>
        intro σ4 x3_3 H locs ls hP hD hS hl hf
        have hf := (congrFun (congrFun (congrFun ez6 (q_lp (fun _ _ => none) z6 n7)) σ4) x3_3).symm.trans hf
        refine lv_iload_n hx hb dX12_load_18 rfl (lv_at hl 2 rfl) ?_
        refine lv_aload_n hx hb dX12_load_19 rfl (lv_at hl 0 rfl) ?_
        refine va_get (D := D) (ci := 12) (C := RX12) (T := TX12) (N := 19) hx hb hts fwX12_load_X12 hown hK hP 0 rfl rfl 16 (by decide) (hts _ (List.mem_of_getElem? (i := 1) rfl)) (fun _ h9 => h9) rfl dX12_load_20 ?_
        refine lv_iload_n hx hb dX12_load_23 rfl (lv_at hl 1 rfl) ?_
        refine w_iald (wf := (wX12 cI cZ cS ad)) hx hb hK hP 9 0 rfl rfl hf dX12_load_24 (fun v8 hf => ?_)
        refine q_lt_go hf (fun j9 ej9 hf => ?_)
        have Jj9 : ∀ (H : Heap) (locs : List Loc) (ls : Array Slot), va_P D vwCl ((wX12 cI cZ cS ad) σ4) H → va_D A ((wX12 cI cZ cS ad) σ4) → va_S A s.heap H locs → lv_has ls 4 [(3, .int x3_3)] → j9 = some (rr, σr) → W p l e rmX12_load s m ([.ref (ad 0), .int a1] : List Value).toArray below meth c H locs 0 0 Q (F0 m 75 ls []) := by
          intro  H locs ls hP hD hS hl hf
          have hf := ej9.symm.trans hf
          refine lv_iload_n hx hb dX12_load_75 rfl (lv_at hl 0 rfl) ?_
          obtain ⟨hi1, hi2⟩ := Prod.mk.inj (Option.some.inj hf)
          subst hi1
          subst hi2
          exact hret _ _ _ _ dX12_load_76 rfl hP hS
        refine lv_icmp_ge (tgt := 75) hx hb dX12_load_25 (by decide) (fun h10 => ?_) (fun h10 => ?_)
        · have hf := (if_pos h10).symm.trans hf
          exact Jj9  _ _ _ hP hD hS (lv_sub hl [2] rfl) hf
        · have hf := (if_neg h10).symm.trans hf
          refine lv_aload_n hx hb dX12_load_28 rfl (lv_at hl 0 rfl) ?_
          refine va_get (D := D) (ci := 12) (C := RX12) (T := TX12) (N := 19) hx hb hts fwX12_load_X12 hown hK hP 0 rfl rfl 17 (by decide) (hts _ (List.mem_of_getElem? (i := 2) rfl)) (fun _ h9 => h9) rfl dX12_load_29 ?_
          refine lv_bipush (v := 40) hx hb dX12_load_32 (by decide) ?_
          refine lv_iload_n hx hb dX12_load_34 rfl (lv_at hl 1 rfl) ?_
          refine lv_imul hx hb dX12_load_35 ?_
          refine lv_iload_n hx hb dX12_load_36 rfl (lv_at hl 2 rfl) ?_
          refine lv_iadd hx hb dX12_load_37 ?_
          refine w_iald (wf := (wX12 cI cZ cS ad)) hx hb hK hP 10 0 rfl rfl hf dX12_load_38 (fun v11 hf => ?_)
          refine lv_iconst (v := 0) hx hb dX12_load_39 (by decide) ?_
          refine lv_bipush (v := 99) hx hb dX12_load_40 (by decide) ?_
          refine q_cSr (wf := (wX12 cI cZ cS ad)) (rest := []) ⟨hx, hb, hml, hown, hts⟩ hK hZ hA hP hD hS hf (fun x ho => kX12_in l D cI cZ cS zz v11 (0 : Int32) (99 : Int32) x ho) (va_cwS 3 hts gX12_load_X12_in rfl rfl rfl ndX12_in.2 ⟨Nat.le_of_ble_eq_true rfl, Nat.le_of_ble_eq_true rfl⟩) rfl (hl.1) rfl (Nat.le_of_ble_eq_true rfl) dX12_load_42 ⟨Nat.zero_le _, Nat.zero_le _⟩ (fun r12 H locs hf hP hD hS => ?_)
          refine lv_if_eq (tgt := 75) hx hb dX12_load_45 (by decide) (fun h13 => ?_) (fun h13 => ?_)
          · have hf := (if_pos h13).symm.trans hf
            exact Jj9  _ _ _ hP hD hS (lv_sub hl [2] rfl) hf
          · have hf := (if_neg h13).symm.trans hf
            refine lv_aload_n hx hb dX12_load_48 rfl (lv_at hl 0 rfl) ?_
            refine va_get (D := D) (ci := 12) (C := RX12) (T := TX12) (N := 19) hx hb hts fwX12_load_X12 hown hK hP 0 rfl rfl 0 (by decide) (hts _ (List.mem_of_getElem? (i := 3) rfl)) (fun _ h9 => h9) rfl dX12_load_49 ?_
            refine lv_iconst (v := 0) hx hb dX12_load_52 (by decide) ?_
            refine lv_aload_n hx hb dX12_load_53 rfl (lv_at hl 0 rfl) ?_
            refine va_get (D := D) (ci := 12) (C := RX12) (T := TX12) (N := 19) hx hb hts fwX12_load_X12 hown hK hP 0 rfl rfl 17 (by decide) (hts _ (List.mem_of_getElem? (i := 2) rfl)) (fun _ h9 => h9) rfl dX12_load_54 ?_
            refine lv_bipush (v := 40) hx hb dX12_load_57 (by decide) ?_
            refine lv_iload_n hx hb dX12_load_59 rfl (lv_at hl 1 rfl) ?_
            refine lv_imul hx hb dX12_load_60 ?_
            refine lv_iload_n hx hb dX12_load_61 rfl (lv_at hl 2 rfl) ?_
            refine lv_iadd hx hb dX12_load_62 ?_
            refine w_iald (wf := (wX12 cI cZ cS ad)) hx hb hK hP 10 0 rfl rfl hf dX12_load_63 (fun v14 hf => ?_)
            refine w_iast (wf := (wX12 cI cZ cS ad)) (cid := 1) hx hb hK hP hD hS 1 0 rfl rfl hf (fun _ => rfl) dX12_load_64 (fun σ15 H locs hf hP hD hS => ?_)
            refine lv_aload_n hx hb dX12_load_65 rfl (lv_at hl 0 rfl) ?_
            refine q_cVv (wf := (wX12 cI cZ cS ad)) (wc := wX12 cI cZ cS ad) (rest := []) ⟨hx, hb, hml, hown, hts⟩ hK hZ hA hP hD hS hf (fun x ho => kX12_goes l D cI cZ cS zz ad σ15 x ho) (cwV 0 hts gX12_load_X12_goes rfl rfl rfl ndX12_goes ⟨Nat.le_of_ble_eq_true rfl, Nat.le_of_ble_eq_true rfl⟩) [0, 1, 2, 3, 4, 5, 6, 7, 8, 9, 10, 11] rfl rfl [some 0, some 1, some 2, some 3, some 4, some 5, some 6, some 7, some 8, some 9, some 10, some 11] (by decide +kernel) (Nat.le_of_ble_eq_true rfl) (fun _ => rfl) (fun _ => rfl) (fun _ => rfl) rfl rfl rfl rfl (hl.1) rfl (Nat.le_of_ble_eq_true rfl) dX12_load_66 ⟨Nat.zero_le _, Nat.zero_le _⟩ (fun σ16 H locs hf hP hD hS => ?_)
            refine lv_iinc (v := (x3_3 + (1 : Int32))) (lv' := [(3, .int (x3_3 + (1 : Int32))), (0, .ref (ad 0)), (1, .int a1)]) hx hb dX12_load_69 hl (k := 2) rfl rfl (by decide) rfl (fun ls hl => ?_)
            refine lv_goto (tgt := 18) hx hb dX12_load_72 (by decide) ?_
            exact ihz6 σ16 (x3_3 + (1 : Int32)) _ _ _ hP hD hS (lv_sub hl [1, 2, 0] rfl) hf
    exact Lz6 q_fu σ (0 : Int32) _ _ _ hP hD hS (lv_sub hl [2, 3, 0] rfl) hf
  · have hf := (if_neg h2).symm.trans hf
    refine lv_aload_n hx hb dX12_load_10 rfl (lv_at hl 1 rfl) ?_
    refine lv_iload_n hx hb dX12_load_11 rfl (lv_at hl 0 rfl) ?_
    refine q_cVi (wf := (wX12 cI cZ cS ad)) (wc := wX12 cI cZ cS ad) (rest := []) ⟨hx, hb, hml, hown, hts⟩ hK hZ hA hP hD hS hf (fun x τ ho => kX12_finding l D cI cZ cS zz ad σ r1 x τ ho) (cwV 1 hts gX12_load_X12_finding rfl rfl rfl ndX12_finding ⟨Nat.le_of_ble_eq_true rfl, Nat.le_of_ble_eq_true rfl⟩) [0, 1, 2, 3, 4, 5, 6, 7, 8, 9, 10, 11] rfl rfl [some 0, some 1, some 2, some 3, some 4, some 5, some 6, some 7, some 8, some 9, some 10, some 11] (by decide +kernel) (Nat.le_of_ble_eq_true rfl) (fun _ => rfl) (fun _ => rfl) (fun _ => rfl) rfl rfl rfl rfl (hl.1) rfl (Nat.le_of_ble_eq_true rfl) dX12_load_12 ⟨Nat.zero_le _, Nat.zero_le _⟩ (fun r18 σ17 H locs hf hP hD hS => ?_)
    obtain ⟨hi1, hi2⟩ := Prod.mk.inj (Option.some.inj hf)
    subst hi1
    subst hi2
    exact hret _ _ _ _ dX12_load_15 rfl hP hS
def pX12_judge (σ : SS) (a1 : Int32) : Option (Int32 × SS) := q_cr (pX12_lacks σ a1) (fun (r1 : Int32) => (if r1 < (0 : Int32) then q_cs (pX12_begin σ) (fun (τ : SS) => τ) (fun (σ3 : SS) => q_lp (fun _ _ _ => none) (fun (c7 : SS → Int32 → Int32 → Option (Int32 × SS)) (σ6 : SS) (x3_4 : Int32) (x4_5 : Int32) => q_rd (σ6 9) 4 a1 (fun (v10 : Int32) => q_lt (q_cs (pX12_layBack σ6) (fun (τ : SS) => τ) (fun (σ12 : SS) => q_lt (fun (y13 : Int32) => some (y13, σ12)) (fun j14 => (if x4_5 = (0 : Int32) then j14 ((1 : Int32) + x3_4) else j14 (0 : Int32))))) (fun j11 => (if v10 ≤ x3_4 then j11 else (if x4_5 = (0 : Int32) then j11 else q_cs (pX12_goes σ6) (fun (τ : SS) => τ) (fun (σ18 : SS) => q_rd (σ18 1) 307 (2 : Int32) (fun (v19 : Int32) => q_rd (σ18 10) 160 (((40 : Int32) * a1) + x3_4) (fun (v20 : Int32) => q_lt (fun (y21 : Int32) => q_lt (fun (y23 : Int32) => q_lt (x3_4 + y23) (fun x3_25 => c7 σ18 x3_25 y21)) (fun j24 => (if y21 = (0 : Int32) then j24 (0 : Int32) else j24 (1 : Int32)))) (fun j22 => (if v19 = v20 then j22 (1 : Int32) else j22 (0 : Int32))))))))))) q_fu σ3 (0 : Int32) (1 : Int32)) else q_ci (pX12_finding σ r1) (fun (τ : SS) => τ) (fun (r29 : Int32) (σ28 : SS) => some (r29, σ28))))
theorem fwX12_judge_X12 : ∀ w ∈ wsX120, w ∈ wsX12_judge := fun _ h => List.mem_cons_of_mem _ (List.mem_append_right _ h)
abbrev rmX12_judge : Room := { frames := 5, cells := 0, slots := 0, locals := 112 }
set_option maxHeartbeats 4000000 in
set_option maxRecDepth 100000 in
theorem kX12_judge (l : Launch) (D : va_G) (cI cZ cS : ClassId) (zz : ZT) (ad : Nat → Nat) (σ : SS) (a1 : Int32) (rr : Int32) (σr : SS) (hf : pX12_judge σ a1 = some (rr, σr)) : CI l yX12_judge wsX12_judge rmX12_judge D (K3 cI cZ cS) zz [.ref (ad 0), .int a1] (wX12 cI cZ cS ad σ) (wX12 cI cZ cS ad σr) rr := by
  refine q_ofI (cc := cX12_judge) (maxL := 5) (ty := .int) (by decide) rfl (Nat.le_of_ble_eq_true rfl) ?_
  intro p e s m below meth c Q A ls hx hb hml hown hts hK hZ hA hP hD hS hl hret
  have hl : lv_has ls 5 [(0, .ref (ad 0)), (1, .int a1)] := hl
  unfold pX12_judge at hf
  refine lv_aload_n hx hb dX12_judge_0 rfl (lv_at hl 0 rfl) ?_
  refine lv_iload_n hx hb dX12_judge_1 rfl (lv_at hl 1 rfl) ?_
  refine q_cVr (wf := (wX12 cI cZ cS ad)) (wc := wX12 cI cZ cS ad) (rest := []) ⟨hx, hb, hml, hown, hts⟩ hK hZ hA hP hD hS hf (fun x ho => kX12_lacks l D cI cZ cS zz ad σ a1 x ho) (cwV 1 hts gX12_judge_X12_lacks rfl rfl rfl ndX12_lacks ⟨Nat.le_of_ble_eq_true rfl, Nat.le_of_ble_eq_true rfl⟩) [0, 1, 2, 3, 4, 5, 6, 7, 8, 9, 10, 11] rfl rfl rfl rfl rfl rfl (hl.1) rfl (Nat.le_of_ble_eq_true rfl) dX12_judge_2 ⟨Nat.zero_le _, Nat.zero_le _⟩ (fun r1 H locs hf hP hD hS => ?_)
  refine lv_istore_n (lv' := [(2, .int r1), (0, .ref (ad 0)), (1, .int a1)]) hx hb dX12_judge_5 rfl hl (by decide) rfl (fun ls hl => ?_)
  refine lv_iload_n hx hb dX12_judge_6 rfl (lv_at hl 0 rfl) ?_
  refine lv_if_lt (tgt := 16) hx hb dX12_judge_7 (by decide) (fun h2 => ?_) (fun h2 => ?_)
  · have hf := (if_pos h2).symm.trans hf
    refine lv_aload_n hx hb dX12_judge_16 rfl (lv_at hl 1 rfl) ?_
    refine q_cVv (wf := (wX12 cI cZ cS ad)) (wc := wX12 cI cZ cS ad) (rest := []) ⟨hx, hb, hml, hown, hts⟩ hK hZ hA hP hD hS hf (fun x ho => kX12_begin l D cI cZ cS zz ad σ x ho) (cwV 0 hts gX12_judge_X12_begin rfl rfl rfl ndX12_begin ⟨Nat.le_of_ble_eq_true rfl, Nat.le_of_ble_eq_true rfl⟩) [0, 1, 2, 3, 4, 5, 6, 7, 8, 9, 10, 11] rfl rfl [some 0, some 1, some 2, some 3, some 4, some 5, some 6, some 7, some 8, some 9, some 10, some 11] (by decide +kernel) (Nat.le_of_ble_eq_true rfl) (fun _ => rfl) (fun _ => rfl) (fun _ => rfl) rfl rfl rfl rfl (hl.1) rfl (Nat.le_of_ble_eq_true rfl) dX12_judge_17 ⟨Nat.zero_le _, Nat.zero_le _⟩ (fun σ3 H locs hf hP hD hS => ?_)
    refine lv_iconst (v := 0) hx hb dX12_judge_20 (by decide) ?_
    refine lv_istore_n (lv' := [(3, .int (0 : Int32)), (2, .int r1), (0, .ref (ad 0)), (1, .int a1)]) hx hb dX12_judge_21 rfl hl (by decide) rfl (fun ls hl => ?_)
    refine lv_iconst (v := 1) hx hb dX12_judge_22 (by decide) ?_
    refine lv_istore (lv' := [(4, .int (1 : Int32)), (3, .int (0 : Int32)), (2, .int r1), (0, .ref (ad 0)), (1, .int a1)]) hx hb dX12_judge_23 hl (by decide) rfl (fun ls hl => ?_)
    refine q_lp_go (f := fun (zf : SS → Int32 → Int32 → Option (Int32 × SS)) => zf σ3 (0 : Int32) (1 : Int32)) hf (fun z8 ez8 hf => ?_)
    have Lz8 : ∀ (n9 : Nat) (σ6 : SS) (x3_4 : Int32) (x4_5 : Int32) (H : Heap) (locs : List Loc) (ls : Array Slot), va_P D vwCl ((wX12 cI cZ cS ad) σ6) H → va_D A ((wX12 cI cZ cS ad) σ6) → va_S A s.heap H locs → lv_has ls 5 [(0, .ref (ad 0)), (1, .int a1), (3, .int x3_4), (4, .int x4_5)] → q_lp (fun _ _ _ => none) z8 n9 σ6 x3_4 x4_5 = some (rr, σr) → W p l e rmX12_judge s m ([.ref (ad 0), .int a1] : List Value).toArray below meth c H locs 0 0 Q (F0 m 25 ls []) := by
      intro n9
      induction n9 with
      | zero => exact fun _ _ _ _ _ _ _ _ _ _ hf => q_no hf
      | succ n9 ihz8 =>
        intro σ6 x3_4 x4_5 H locs ls hP hD hS hl hf
        have hf := (congrFun (congrFun (congrFun (congrFun ez8 (q_lp (fun _ _ _ => none) z8 n9)) σ6) x3_4) x4_5).symm.trans hf
        refine lv_iload_n hx hb dX12_judge_25 rfl (lv_at hl 2 rfl) ?_
        refine lv_aload_n hx hb dX12_judge_26 rfl (lv_at hl 0 rfl) ?_
        refine va_get (D := D) (ci := 12) (C := RX12) (T := TX12) (N := 19) hx hb hts fwX12_judge_X12 hown hK hP 0 rfl rfl 16 (by decide) (hts _ (List.mem_of_getElem? (i := 1) rfl)) (fun _ h9 => h9) rfl dX12_judge_27 ?_
        refine lv_iload_n hx hb dX12_judge_30 rfl (lv_at hl 1 rfl) ?_
        refine w_iald (wf := (wX12 cI cZ cS ad)) hx hb hK hP 9 0 rfl rfl hf dX12_judge_31 (fun v10 hf => ?_)
        refine q_lt_go hf (fun j11 ej11 hf => ?_)
        have Jj11 : ∀ (H : Heap) (locs : List Loc) (ls : Array Slot), va_P D vwCl ((wX12 cI cZ cS ad) σ6) H → va_D A ((wX12 cI cZ cS ad) σ6) → va_S A s.heap H locs → lv_has ls 5 [(0, .ref (ad 0)), (3, .int x3_4), (4, .int x4_5)] → j11 = some (rr, σr) → W p l e rmX12_judge s m ([.ref (ad 0), .int a1] : List Value).toArray below meth c H locs 0 0 Q (F0 m 87 ls []) := by
          intro  H locs ls hP hD hS hl hf
          have hf := ej11.symm.trans hf
          refine lv_aload_n hx hb dX12_judge_87 rfl (lv_at hl 0 rfl) ?_
          refine q_cVv (wf := (wX12 cI cZ cS ad)) (wc := wX12 cI cZ cS ad) (rest := []) ⟨hx, hb, hml, hown, hts⟩ hK hZ hA hP hD hS hf (fun x ho => kX12_layBack l D cI cZ cS zz ad σ6 x ho) (cwV 0 hts gX12_judge_X12_layBack rfl rfl rfl ndX12_layBack ⟨Nat.le_of_ble_eq_true rfl, Nat.le_of_ble_eq_true rfl⟩) [0, 1, 2, 3, 4, 5, 6, 7, 8, 9, 10, 11] rfl rfl [some 0, some 1, some 2, some 3, some 4, some 5, some 6, some 7, some 8, some 9, some 10, some 11] (by decide +kernel) (Nat.le_of_ble_eq_true rfl) (fun _ => rfl) (fun _ => rfl) (fun _ => rfl) rfl rfl rfl rfl (hl.1) rfl (Nat.le_of_ble_eq_true rfl) dX12_judge_88 ⟨Nat.zero_le _, Nat.zero_le _⟩ (fun σ12 H locs hf hP hD hS => ?_)
          refine lv_iload hx hb dX12_judge_91 (lv_at hl 2 rfl) ?_
          refine q_lt_go hf (fun j14 ej14 hf => ?_)
          have Jj14 : ∀ (y13 : Int32) (H : Heap) (locs : List Loc) (ls : Array Slot), va_P D vwCl ((wX12 cI cZ cS ad) σ12) H → va_D A ((wX12 cI cZ cS ad) σ12) → va_S A s.heap H locs → lv_has ls 5 [] → j14 y13 = some (rr, σr) → W p l e rmX12_judge s m ([.ref (ad 0), .int a1] : List Value).toArray below meth c H locs 0 0 Q (F0 m 103 ls [.int y13]) := by
            intro y13 H locs ls hP hD hS hl hf
            have hf := (congrFun ej14 y13).symm.trans hf
            obtain ⟨hi1, hi2⟩ := Prod.mk.inj (Option.some.inj hf)
            subst hi1
            subst hi2
            exact hret _ _ _ _ dX12_judge_103 rfl hP hS
          refine lv_if_eq (tgt := 100) hx hb dX12_judge_93 (by decide) (fun h15 => ?_) (fun h15 => ?_)
          · have hf := (if_pos h15).symm.trans hf
            refine lv_iconst (v := 1) hx hb dX12_judge_100 (by decide) ?_
            refine lv_iload_n hx hb dX12_judge_101 rfl (lv_at hl 1 rfl) ?_
            refine lv_iadd hx hb dX12_judge_102 ?_
            exact Jj14 ((1 : Int32) + x3_4) _ _ _ hP hD hS (lv_sub hl [] rfl) hf
          · have hf := (if_neg h15).symm.trans hf
            refine lv_iconst (v := 0) hx hb dX12_judge_96 (by decide) ?_
            refine lv_goto (tgt := 103) hx hb dX12_judge_97 (by decide) ?_
            exact Jj14 (0 : Int32) _ _ _ hP hD hS (lv_sub hl [] rfl) hf
        refine lv_icmp_ge (tgt := 87) hx hb dX12_judge_32 (by decide) (fun h16 => ?_) (fun h16 => ?_)
        · have hf := (if_pos h16).symm.trans hf
          exact Jj11  _ _ _ hP hD hS (lv_sub hl [0, 2, 3] rfl) hf
        · have hf := (if_neg h16).symm.trans hf
          refine lv_iload hx hb dX12_judge_35 (lv_at hl 3 rfl) ?_
          refine lv_if_eq (tgt := 87) hx hb dX12_judge_37 (by decide) (fun h17 => ?_) (fun h17 => ?_)
          · have hf := (if_pos h17).symm.trans hf
            exact Jj11  _ _ _ hP hD hS (lv_sub hl [0, 2, 3] rfl) hf
          · have hf := (if_neg h17).symm.trans hf
            refine lv_aload_n hx hb dX12_judge_40 rfl (lv_at hl 0 rfl) ?_
            refine q_cVv (wf := (wX12 cI cZ cS ad)) (wc := wX12 cI cZ cS ad) (rest := []) ⟨hx, hb, hml, hown, hts⟩ hK hZ hA hP hD hS hf (fun x ho => kX12_goes l D cI cZ cS zz ad σ6 x ho) (cwV 0 hts gX12_judge_X12_goes rfl rfl rfl ndX12_goes ⟨Nat.le_of_ble_eq_true rfl, Nat.le_of_ble_eq_true rfl⟩) [0, 1, 2, 3, 4, 5, 6, 7, 8, 9, 10, 11] rfl rfl [some 0, some 1, some 2, some 3, some 4, some 5, some 6, some 7, some 8, some 9, some 10, some 11] (by decide +kernel) (Nat.le_of_ble_eq_true rfl) (fun _ => rfl) (fun _ => rfl) (fun _ => rfl) rfl rfl rfl rfl (hl.1) rfl (Nat.le_of_ble_eq_true rfl) dX12_judge_41 ⟨Nat.zero_le _, Nat.zero_le _⟩ (fun σ18 H locs hf hP hD hS => ?_)
            refine lv_aload_n hx hb dX12_judge_44 rfl (lv_at hl 0 rfl) ?_
            refine va_get (D := D) (ci := 12) (C := RX12) (T := TX12) (N := 19) hx hb hts fwX12_judge_X12 hown hK hP 0 rfl rfl 0 (by decide) (hts _ (List.mem_of_getElem? (i := 2) rfl)) (fun _ h9 => h9) rfl dX12_judge_45 ?_
            refine lv_iconst (v := 2) hx hb dX12_judge_48 (by decide) ?_
            refine w_iald (wf := (wX12 cI cZ cS ad)) hx hb hK hP 1 0 rfl rfl hf dX12_judge_49 (fun v19 hf => ?_)
            refine lv_aload_n hx hb dX12_judge_50 rfl (lv_at hl 0 rfl) ?_
            refine va_get (D := D) (ci := 12) (C := RX12) (T := TX12) (N := 19) hx hb hts fwX12_judge_X12 hown hK hP 0 rfl rfl 17 (by decide) (hts _ (List.mem_of_getElem? (i := 3) rfl)) (fun _ h9 => h9) rfl dX12_judge_51 ?_
            refine lv_bipush (v := 40) hx hb dX12_judge_54 (by decide) ?_
            refine lv_iload_n hx hb dX12_judge_56 rfl (lv_at hl 1 rfl) ?_
            refine lv_imul hx hb dX12_judge_57 ?_
            refine lv_iload_n hx hb dX12_judge_58 rfl (lv_at hl 2 rfl) ?_
            refine lv_iadd hx hb dX12_judge_59 ?_
            refine w_iald (wf := (wX12 cI cZ cS ad)) hx hb hK hP 10 0 rfl rfl hf dX12_judge_60 (fun v20 hf => ?_)
            refine q_lt_go hf (fun j22 ej22 hf => ?_)
            have Jj22 : ∀ (y21 : Int32) (H : Heap) (locs : List Loc) (ls : Array Slot), va_P D vwCl ((wX12 cI cZ cS ad) σ18) H → va_D A ((wX12 cI cZ cS ad) σ18) → va_S A s.heap H locs → lv_has ls 5 [(0, .ref (ad 0)), (1, .int a1), (3, .int x3_4)] → j22 y21 = some (rr, σr) → W p l e rmX12_judge s m ([.ref (ad 0), .int a1] : List Value).toArray below meth c H locs 0 0 Q (F0 m 69 ls [.int y21]) := by
              intro y21 H locs ls hP hD hS hl hf
              have hf := (congrFun ej22 y21).symm.trans hf
              refine lv_istore (lv' := [(4, .int y21), (0, .ref (ad 0)), (1, .int a1), (3, .int x3_4)]) hx hb dX12_judge_69 hl (by decide) rfl (fun ls hl => ?_)
              refine lv_iload_n hx hb dX12_judge_71 rfl (lv_at hl 3 rfl) ?_
              refine lv_iload hx hb dX12_judge_72 (lv_at hl 0 rfl) ?_
              refine q_lt_go hf (fun j24 ej24 hf => ?_)
              have Jj24 : ∀ (y23 : Int32) (H : Heap) (locs : List Loc) (ls : Array Slot), va_P D vwCl ((wX12 cI cZ cS ad) σ18) H → va_D A ((wX12 cI cZ cS ad) σ18) → va_S A s.heap H locs → lv_has ls 5 [(0, .ref (ad 0)), (1, .int a1), (4, .int y21)] → j24 y23 = some (rr, σr) → W p l e rmX12_judge s m ([.ref (ad 0), .int a1] : List Value).toArray below meth c H locs 0 0 Q (F0 m 82 ls [.int y23, .int x3_4]) := by
                intro y23 H locs ls hP hD hS hl hf
                have hf := (congrFun ej24 y23).symm.trans hf
                refine lv_iadd hx hb dX12_judge_82 ?_
                refine lv_topi (fun x3_25 ex3_25 => ?_)
                have hf := q_lt_at ex3_25 hf
                refine lv_istore_n (lv' := [(3, .int x3_25), (0, .ref (ad 0)), (1, .int a1), (4, .int y21)]) hx hb dX12_judge_83 rfl hl (by decide) rfl (fun ls hl => ?_)
                refine lv_goto (tgt := 25) hx hb dX12_judge_84 (by decide) ?_
                exact ihz8 σ18 x3_25 y21 _ _ _ hP hD hS (lv_sub hl [1, 2, 0, 3] rfl) hf
              refine lv_if_eq (tgt := 81) hx hb dX12_judge_74 (by decide) (fun h26 => ?_) (fun h26 => ?_)
              · have hf := (if_pos h26).symm.trans hf
                refine lv_iconst (v := 0) hx hb dX12_judge_81 (by decide) ?_
                exact Jj24 (0 : Int32) _ _ _ hP hD hS (lv_sub hl [1, 2, 0] rfl) hf
              · have hf := (if_neg h26).symm.trans hf
                refine lv_iconst (v := 1) hx hb dX12_judge_77 (by decide) ?_
                refine lv_goto (tgt := 82) hx hb dX12_judge_78 (by decide) ?_
                exact Jj24 (1 : Int32) _ _ _ hP hD hS (lv_sub hl [1, 2, 0] rfl) hf
            refine lv_icmp_ne (tgt := 68) hx hb dX12_judge_61 (by decide) (fun h27 => ?_) (fun h27 => ?_)
            · have hf := (if_neg h27).symm.trans hf
              refine lv_iconst (v := 0) hx hb dX12_judge_68 (by decide) ?_
              exact Jj22 (0 : Int32) _ _ _ hP hD hS (lv_sub hl [0, 1, 2] rfl) hf
            · have hf := (if_pos h27).symm.trans hf
              refine lv_iconst (v := 1) hx hb dX12_judge_64 (by decide) ?_
              refine lv_goto (tgt := 69) hx hb dX12_judge_65 (by decide) ?_
              exact Jj22 (1 : Int32) _ _ _ hP hD hS (lv_sub hl [0, 1, 2] rfl) hf
    exact Lz8 q_fu σ3 (0 : Int32) (1 : Int32) _ _ _ hP hD hS (lv_sub hl [3, 4, 1, 0] rfl) hf
  · have hf := (if_neg h2).symm.trans hf
    refine lv_aload_n hx hb dX12_judge_10 rfl (lv_at hl 1 rfl) ?_
    refine lv_iload_n hx hb dX12_judge_11 rfl (lv_at hl 0 rfl) ?_
    refine q_cVi (wf := (wX12 cI cZ cS ad)) (wc := wX12 cI cZ cS ad) (rest := []) ⟨hx, hb, hml, hown, hts⟩ hK hZ hA hP hD hS hf (fun x τ ho => kX12_finding l D cI cZ cS zz ad σ r1 x τ ho) (cwV 1 hts gX12_judge_X12_finding rfl rfl rfl ndX12_finding ⟨Nat.le_of_ble_eq_true rfl, Nat.le_of_ble_eq_true rfl⟩) [0, 1, 2, 3, 4, 5, 6, 7, 8, 9, 10, 11] rfl rfl [some 0, some 1, some 2, some 3, some 4, some 5, some 6, some 7, some 8, some 9, some 10, some 11] (by decide +kernel) (Nat.le_of_ble_eq_true rfl) (fun _ => rfl) (fun _ => rfl) (fun _ => rfl) rfl rfl rfl rfl (hl.1) rfl (Nat.le_of_ble_eq_true rfl) dX12_judge_12 ⟨Nat.zero_le _, Nat.zero_le _⟩ (fun r29 σ28 H locs hf hP hD hS => ?_)
    obtain ⟨hi1, hi2⟩ := Prod.mk.inj (Option.some.inj hf)
    subst hi1
    subst hi2
    exact hret _ _ _ _ dX12_judge_15 rfl hP hS
def pX12_image (σ : SS) : Option (Int32 × SS) := q_cs (pX12_lay (q_sb σ 1)) (fun (τ : SS) => (q_em σ 1 0 2 τ)) (fun (σ1 : SS) => q_zz (1 : Int32) (q_lt (su σ1 0 3 (1 : Int32)) (fun (σ2 : SS) => some ((1 : Int32), σ2))))
theorem fwX12_image_X12 : ∀ w ∈ wsX120, w ∈ wsX12_image := fun _ h => List.mem_cons_of_mem _ (List.mem_append_right _ h)
abbrev rmX12_image : Room := { frames := 1, cells := 0, slots := 0, locals := 22 }
set_option maxHeartbeats 4000000 in
set_option maxRecDepth 100000 in
theorem kX12_image (l : Launch) (D : va_G) (cI cZ cS : ClassId) (zz : ZT) (ad : Nat → Nat) (σ : SS) (rr : Int32) (σr : SS) (hf : pX12_image σ = some (rr, σr)) : CI l yX12_image wsX12_image rmX12_image D (K3 cI cZ cS) zz [.ref (ad 0)] (wX12 cI cZ cS ad σ) (wX12 cI cZ cS ad σr) rr := by
  refine q_ofI (cc := cX12_image) (maxL := 1) (ty := .int) (by decide) rfl (Nat.le_of_ble_eq_true rfl) ?_
  intro p e s m below meth c Q A ls hx hb hml hown hts hK hZ hA hP hD hS hl hret
  have hl : lv_has ls 1 [(0, .ref (ad 0))] := hl
  unfold pX12_image at hf
  refine lv_aload_n hx hb dX12_image_0 rfl (lv_at hl 0 rfl) ?_
  refine va_get (D := D) (ci := 12) (C := RX12) (T := TX12) (N := 19) hx hb hts fwX12_image_X12 hown hK hP 0 rfl rfl 0 (by decide) (hts _ (List.mem_of_getElem? (i := 1) rfl)) (fun _ h9 => h9) rfl dX12_image_1 ?_
  refine lv_aload_n hx hb dX12_image_4 rfl (lv_at hl 0 rfl) ?_
  refine va_get (D := D) (ci := 12) (C := RX12) (T := TX12) (N := 19) hx hb hts fwX12_image_X12 hown hK hP 0 rfl rfl 1 (by decide) (hts _ (List.mem_of_getElem? (i := 2) rfl)) (fun _ h9 => h9) rfl dX12_image_5 ?_
  refine q_cSv (wf := (wX12 cI cZ cS ad)) (wc := wA307_A307 cI cZ cS (fun i => ad (1 + i))) (rest := []) ⟨hx, hb, hml, hown, hts⟩ hK hZ hA hP hD hS hf (fun x ho => kX12_lay l D cI cZ cS zz (fun i => ad (1 + i)) (q_sb σ 1) x ho) (va_cwS 2 hts gX12_image_X12_lay rfl rfl rfl ndX12_lay.2 ⟨Nat.le_of_ble_eq_true rfl, Nat.le_of_ble_eq_true rfl⟩) [1, 2] rfl rfl [none, some 0, some 1, none, none, none, none, none, none, none, none, none] (by decide +kernel) (Nat.le_of_ble_eq_true rfl) (fun _ => rfl) (fun _ => rfl) (fun _ => rfl) rfl (hl.1) rfl (Nat.le_of_ble_eq_true rfl) dX12_image_8 ⟨Nat.zero_le _, Nat.zero_le _⟩ (fun σ1 H locs hf hP hD hS => ?_)
  refine lv_aload_n hx hb dX12_image_11 rfl (lv_at hl 0 rfl) ?_
  refine lv_iconst (v := 1) hx hb dX12_image_12 (by decide) ?_
  refine w_putZ (D := D) (wf := (wX12 cI cZ cS ad)) (cid := 0) (ci := 12) (C := RX12) (T := TX12) (N := 19) hx hb hts fwX12_image_X12 tyX12 tyX12_ok nmX12 hown hK hP hD hS 0 rfl rfl 3 (by decide) (hts _ (List.mem_of_getElem? (i := 3) rfl)) (fun _ h9 => h9) rfl (tyX12_ok 3 (by decide)) (Nat.le_of_ble_eq_true rfl) hf rfl dX12_image_13 (fun σ2 H locs hf hP hD hS => ?_)
  refine lv_iconst (v := 1) hx hb dX12_image_16 (by decide) ?_
  obtain ⟨hi1, hi2⟩ := Prod.mk.inj (Option.some.inj hf)
  subst hi1
  subst hi2
  exact hret _ _ _ _ dX12_image_17 rfl hP hS
def pX12_undo (σ : SS) : Option (Int32 × SS) := (if (σ 0 3) = (0 : Int32) then q_ci (pX12_finding σ (3 : Int32)) (fun (τ : SS) => τ) (fun (r5 : Int32) (σ4 : SS) => some (r5, σ4)) else q_cs (pX12_lay (q_ap 1 (q_sb σ 2) (q_sb σ 1))) (fun (τ : SS) => (q_em (q_em σ 2 0 1 τ) 1 1 1 τ)) (fun (σ2 : SS) => q_rd (σ2 1) 307 (8 : Int32) (fun (v3 : Int32) => some (v3, σ2))))
theorem fwX12_undo_X12 : ∀ w ∈ wsX120, w ∈ wsX12_undo := fun _ h => List.mem_cons_of_mem _ (List.mem_append_right _ h)
abbrev rmX12_undo : Room := { frames := 1, cells := 0, slots := 0, locals := 22 }
set_option maxHeartbeats 4000000 in
set_option maxRecDepth 100000 in
theorem kX12_undo (l : Launch) (D : va_G) (cI cZ cS : ClassId) (zz : ZT) (ad : Nat → Nat) (σ : SS) (rr : Int32) (σr : SS) (hf : pX12_undo σ = some (rr, σr)) : CI l yX12_undo wsX12_undo rmX12_undo D (K3 cI cZ cS) zz [.ref (ad 0)] (wX12 cI cZ cS ad σ) (wX12 cI cZ cS ad σr) rr := by
  refine q_ofI (cc := cX12_undo) (maxL := 1) (ty := .int) (by decide) rfl (Nat.le_of_ble_eq_true rfl) ?_
  intro p e s m below meth c Q A ls hx hb hml hown hts hK hZ hA hP hD hS hl hret
  have hl : lv_has ls 1 [(0, .ref (ad 0))] := hl
  unfold pX12_undo at hf
  refine lv_aload_n hx hb dX12_undo_0 rfl (lv_at hl 0 rfl) ?_
  refine va_get (D := D) (ci := 12) (C := RX12) (T := TX12) (N := 19) hx hb hts fwX12_undo_X12 hown hK hP 0 rfl rfl 3 (by decide) (hts _ (List.mem_of_getElem? (i := 1) rfl)) (fun _ h9 => h9) rfl dX12_undo_1 ?_
  refine lv_if_ne (tgt := 13) hx hb dX12_undo_4 (by decide) (fun h1 => ?_) (fun h1 => ?_)
  · have hf := (if_neg h1).symm.trans hf
    refine lv_aload_n hx hb dX12_undo_13 rfl (lv_at hl 0 rfl) ?_
    refine va_get (D := D) (ci := 12) (C := RX12) (T := TX12) (N := 19) hx hb hts fwX12_undo_X12 hown hK hP 0 rfl rfl 1 (by decide) (hts _ (List.mem_of_getElem? (i := 2) rfl)) (fun _ h9 => h9) rfl dX12_undo_14 ?_
    refine lv_aload_n hx hb dX12_undo_17 rfl (lv_at hl 0 rfl) ?_
    refine va_get (D := D) (ci := 12) (C := RX12) (T := TX12) (N := 19) hx hb hts fwX12_undo_X12 hown hK hP 0 rfl rfl 0 (by decide) (hts _ (List.mem_of_getElem? (i := 3) rfl)) (fun _ h9 => h9) rfl dX12_undo_18 ?_
    refine q_cSv (wf := (wX12 cI cZ cS ad)) (wc := wA307_A307 cI cZ cS (fun i => ad (if i < 1 then 2 + i else 1 + (i - 1)))) (rest := []) ⟨hx, hb, hml, hown, hts⟩ hK hZ hA hP hD hS hf (fun x ho => kX12_lay l D cI cZ cS zz (fun i => ad (if i < 1 then 2 + i else 1 + (i - 1))) (q_ap 1 (q_sb σ 2) (q_sb σ 1)) x ho) (va_cwS 2 hts gX12_undo_X12_lay rfl rfl rfl ndX12_lay.2 ⟨Nat.le_of_ble_eq_true rfl, Nat.le_of_ble_eq_true rfl⟩) [2, 1] rfl rfl [none, some 1, some 0, none, none, none, none, none, none, none, none, none] (by decide +kernel) (Nat.le_of_ble_eq_true rfl) (fun _ => rfl) (fun _ => rfl) (fun _ => rfl) rfl (hl.1) rfl (Nat.le_of_ble_eq_true rfl) dX12_undo_21 ⟨Nat.zero_le _, Nat.zero_le _⟩ (fun σ2 H locs hf hP hD hS => ?_)
    refine lv_aload_n hx hb dX12_undo_24 rfl (lv_at hl 0 rfl) ?_
    refine va_get (D := D) (ci := 12) (C := RX12) (T := TX12) (N := 19) hx hb hts fwX12_undo_X12 hown hK hP 0 rfl rfl 0 (by decide) (hts _ (List.mem_of_getElem? (i := 3) rfl)) (fun _ h9 => h9) rfl dX12_undo_25 ?_
    refine lv_bipush (v := 8) hx hb dX12_undo_28 (by decide) ?_
    refine w_iald (wf := (wX12 cI cZ cS ad)) hx hb hK hP 1 0 rfl rfl hf dX12_undo_30 (fun v3 hf => ?_)
    obtain ⟨hi1, hi2⟩ := Prod.mk.inj (Option.some.inj hf)
    subst hi1
    subst hi2
    exact hret _ _ _ _ dX12_undo_31 rfl hP hS
  · have hf := (if_pos h1).symm.trans hf
    refine lv_aload_n hx hb dX12_undo_7 rfl (lv_at hl 0 rfl) ?_
    refine lv_iconst (v := 3) hx hb dX12_undo_8 (by decide) ?_
    refine q_cVi (wf := (wX12 cI cZ cS ad)) (wc := wX12 cI cZ cS ad) (rest := []) ⟨hx, hb, hml, hown, hts⟩ hK hZ hA hP hD hS hf (fun x τ ho => kX12_finding l D cI cZ cS zz ad σ (3 : Int32) x τ ho) (cwV 1 hts gX12_undo_X12_finding rfl rfl rfl ndX12_finding ⟨Nat.le_of_ble_eq_true rfl, Nat.le_of_ble_eq_true rfl⟩) [0, 1, 2, 3, 4, 5, 6, 7, 8, 9, 10, 11] rfl rfl [some 0, some 1, some 2, some 3, some 4, some 5, some 6, some 7, some 8, some 9, some 10, some 11] (by decide +kernel) (Nat.le_of_ble_eq_true rfl) (fun _ => rfl) (fun _ => rfl) (fun _ => rfl) rfl rfl rfl rfl (hl.1) rfl (Nat.le_of_ble_eq_true rfl) dX12_undo_9 ⟨Nat.zero_le _, Nat.zero_le _⟩ (fun r5 σ4 H locs hf hP hD hS => ?_)
    obtain ⟨hi1, hi2⟩ := Prod.mk.inj (Option.some.inj hf)
    subst hi1
    subst hi2
    exact hret _ _ _ _ dX12_undo_12 rfl hP hS
def pX12_tear (σ : SS) : Option (Int32 × SS) := q_lt (fun (y1 : Int32) => q_zz (0 : Int32) (q_lt (su σ 0 3 (0 : Int32)) (fun (σ3 : SS) => some (y1, σ3)))) (fun j2 => (if (σ 0 3) = (0 : Int32) then j2 (0 : Int32) else j2 (1 : Int32)))
theorem fwX12_tear_X12 : ∀ w ∈ wsX120, w ∈ wsX12_tear := fun _ h => List.mem_cons_of_mem _ (List.mem_append_right _ h)
abbrev rmX12_tear : Room := { frames := 0, cells := 0, slots := 0, locals := 0 }
set_option maxHeartbeats 4000000 in
set_option maxRecDepth 100000 in
theorem kX12_tear (l : Launch) (D : va_G) (cI cZ cS : ClassId) (zz : ZT) (ad : Nat → Nat) (σ : SS) (rr : Int32) (σr : SS) (hf : pX12_tear σ = some (rr, σr)) : CI l yX12_tear wsX12_tear rmX12_tear D (K3 cI cZ cS) zz [.ref (ad 0)] (wX12 cI cZ cS ad σ) (wX12 cI cZ cS ad σr) rr := by
  refine q_ofI (cc := cX12_tear) (maxL := 2) (ty := .int) (by decide) rfl (Nat.le_of_ble_eq_true rfl) ?_
  intro p e s m below meth c Q A ls hx hb hml hown hts hK hZ hA hP hD hS hl hret
  have hl : lv_has ls 2 [(0, .ref (ad 0))] := hl
  unfold pX12_tear at hf
  refine lv_aload_n hx hb dX12_tear_0 rfl (lv_at hl 0 rfl) ?_
  refine va_get (D := D) (ci := 12) (C := RX12) (T := TX12) (N := 19) hx hb hts fwX12_tear_X12 hown hK hP 0 rfl rfl 3 (by decide) (hts _ (List.mem_of_getElem? (i := 1) rfl)) (fun _ h9 => h9) rfl dX12_tear_1 ?_
  refine q_lt_go hf (fun j2 ej2 hf => ?_)
  have Jj2 : ∀ (y1 : Int32) (H : Heap) (locs : List Loc) (ls : Array Slot), va_P D vwCl ((wX12 cI cZ cS ad) σ) H → va_D A ((wX12 cI cZ cS ad) σ) → va_S A s.heap H locs → lv_has ls 2 [(0, .ref (ad 0))] → j2 y1 = some (rr, σr) → W p l e rmX12_tear s m ([.ref (ad 0)] : List Value).toArray below meth c H locs 0 0 Q (F0 m 12 ls [.int y1]) := by
    intro y1 H locs ls hP hD hS hl hf
    have hf := (congrFun ej2 y1).symm.trans hf
    refine lv_istore_n (lv' := [(1, .int y1), (0, .ref (ad 0))]) hx hb dX12_tear_12 rfl hl (by decide) rfl (fun ls hl => ?_)
    refine lv_aload_n hx hb dX12_tear_13 rfl (lv_at hl 1 rfl) ?_
    refine lv_iconst (v := 0) hx hb dX12_tear_14 (by decide) ?_
    refine w_putZ (D := D) (wf := (wX12 cI cZ cS ad)) (cid := 0) (ci := 12) (C := RX12) (T := TX12) (N := 19) hx hb hts fwX12_tear_X12 tyX12 tyX12_ok nmX12 hown hK hP hD hS 0 rfl rfl 3 (by decide) (hts _ (List.mem_of_getElem? (i := 1) rfl)) (fun _ h9 => h9) rfl (tyX12_ok 3 (by decide)) (Nat.le_of_ble_eq_true rfl) hf rfl dX12_tear_15 (fun σ3 H locs hf hP hD hS => ?_)
    refine lv_iload_n hx hb dX12_tear_18 rfl (lv_at hl 0 rfl) ?_
    obtain ⟨hi1, hi2⟩ := Prod.mk.inj (Option.some.inj hf)
    subst hi1
    subst hi2
    exact hret _ _ _ _ dX12_tear_19 rfl hP hS
  refine lv_if_eq (tgt := 11) hx hb dX12_tear_4 (by decide) (fun h4 => ?_) (fun h4 => ?_)
  · have hf := (if_pos h4).symm.trans hf
    refine lv_iconst (v := 0) hx hb dX12_tear_11 (by decide) ?_
    exact Jj2 (0 : Int32) _ _ _ hP hD hS (lv_sub hl [0] rfl) hf
  · have hf := (if_neg h4).symm.trans hf
    refine lv_iconst (v := 1) hx hb dX12_tear_7 (by decide) ?_
    refine lv_goto (tgt := 12) hx hb dX12_tear_8 (by decide) ?_
    exact Jj2 (1 : Int32) _ _ _ hP hD hS (lv_sub hl [0] rfl) hf
def pX12_count (σ : SS) (a1 : Int32) : Option (Int32 × SS) := (if a1 = (0 : Int32) then q_rd (σ 1) 307 (16 : Int32) (fun (v2 : Int32) => some (v2, σ)) else (if a1 = (1 : Int32) then q_rd (σ 1) 307 (17 : Int32) (fun (v4 : Int32) => some (v4, σ)) else (if a1 = (2 : Int32) then q_rd (σ 1) 307 (18 : Int32) (fun (v6 : Int32) => some (v6, σ)) else (if a1 = (3 : Int32) then q_cr (pX12_logged σ) (fun (r8 : Int32) => some (r8, σ)) else (if a1 = (4 : Int32) then q_rd (σ 1) 307 (19 : Int32) (fun (v10 : Int32) => some (v10, σ)) else (if a1 = (5 : Int32) then some ((σ 0 7), σ) else (if a1 = (6 : Int32) then q_rd (σ 1) 307 (20 : Int32) (fun (v13 : Int32) => some (v13, σ)) else (if a1 = (7 : Int32) then q_lp (fun _ _ => none) (fun (c17 : Int32 → Int32 → Option (Int32 × SS)) (x2_15 : Int32) (x3_16 : Int32) => q_rd (σ 1) 307 (17 : Int32) (fun (v20 : Int32) => (if v20 ≤ x3_16 then some (x2_15, σ) else q_cr (pX12_thingIts σ x3_16 (3 : Int32)) (fun (r22 : Int32) => q_lt (x2_15 + r22) (fun x2_23 => c17 x2_23 (x3_16 + (1 : Int32))))))) q_fu (0 : Int32) (0 : Int32) else q_ci (pX12_finding σ (0 : Int32)) (fun (τ : SS) => τ) (fun (r25 : Int32) (σ24 : SS) => some (r25, σ24))))))))))
theorem fwX12_count_X12 : ∀ w ∈ wsX120, w ∈ wsX12_count := fun _ h => List.mem_cons_of_mem _ (List.mem_append_right _ h)
abbrev rmX12_count : Room := { frames := 1, cells := 0, slots := 0, locals := 22 }
set_option maxHeartbeats 4000000 in
set_option maxRecDepth 100000 in
theorem kX12_count (l : Launch) (D : va_G) (cI cZ cS : ClassId) (zz : ZT) (ad : Nat → Nat) (σ : SS) (a1 : Int32) (rr : Int32) (σr : SS) (hf : pX12_count σ a1 = some (rr, σr)) : CI l yX12_count wsX12_count rmX12_count D (K3 cI cZ cS) zz [.ref (ad 0), .int a1] (wX12 cI cZ cS ad σ) (wX12 cI cZ cS ad σr) rr := by
  refine q_ofI (cc := cX12_count) (maxL := 4) (ty := .int) (by decide) rfl (Nat.le_of_ble_eq_true rfl) ?_
  intro p e s m below meth c Q A ls hx hb hml hown hts hK hZ hA hP hD hS hl hret
  have hl : lv_has ls 4 [(0, .ref (ad 0)), (1, .int a1)] := hl
  unfold pX12_count at hf
  refine lv_iload_n hx hb dX12_count_0 rfl (lv_at hl 1 rfl) ?_
  by_cases h1 : a1 = (0 : Int32)
  · have hf := (if_pos h1).symm.trans hf
    refine lv_tableIn (tgt := 48) hx hb dX12_count_1 (by rw [h1]; decide) (by rw [h1]; decide) (by rw [h1]; rfl) (by decide) ?_
    refine lv_aload_n hx hb dX12_count_48 rfl (lv_at hl 0 rfl) ?_
    refine va_get (D := D) (ci := 12) (C := RX12) (T := TX12) (N := 19) hx hb hts fwX12_count_X12 hown hK hP 0 rfl rfl 0 (by decide) (hts _ (List.mem_of_getElem? (i := 1) rfl)) (fun _ h9 => h9) rfl dX12_count_49 ?_
    refine lv_bipush (v := 16) hx hb dX12_count_52 (by decide) ?_
    refine w_iald (wf := (wX12 cI cZ cS ad)) hx hb hK hP 1 0 rfl rfl hf dX12_count_54 (fun v2 hf => ?_)
    obtain ⟨hi1, hi2⟩ := Prod.mk.inj (Option.some.inj hf)
    subst hi1
    subst hi2
    exact hret _ _ _ _ dX12_count_55 rfl hP hS
  have hf := (if_neg h1).symm.trans hf
  by_cases h3 : a1 = (1 : Int32)
  · have hf := (if_pos h3).symm.trans hf
    refine lv_tableIn (tgt := 56) hx hb dX12_count_1 (by rw [h3]; decide) (by rw [h3]; decide) (by rw [h3]; rfl) (by decide) ?_
    refine lv_aload_n hx hb dX12_count_56 rfl (lv_at hl 0 rfl) ?_
    refine va_get (D := D) (ci := 12) (C := RX12) (T := TX12) (N := 19) hx hb hts fwX12_count_X12 hown hK hP 0 rfl rfl 0 (by decide) (hts _ (List.mem_of_getElem? (i := 1) rfl)) (fun _ h9 => h9) rfl dX12_count_57 ?_
    refine lv_bipush (v := 17) hx hb dX12_count_60 (by decide) ?_
    refine w_iald (wf := (wX12 cI cZ cS ad)) hx hb hK hP 1 0 rfl rfl hf dX12_count_62 (fun v4 hf => ?_)
    obtain ⟨hi1, hi2⟩ := Prod.mk.inj (Option.some.inj hf)
    subst hi1
    subst hi2
    exact hret _ _ _ _ dX12_count_63 rfl hP hS
  have hf := (if_neg h3).symm.trans hf
  by_cases h5 : a1 = (2 : Int32)
  · have hf := (if_pos h5).symm.trans hf
    refine lv_tableIn (tgt := 64) hx hb dX12_count_1 (by rw [h5]; decide) (by rw [h5]; decide) (by rw [h5]; rfl) (by decide) ?_
    refine lv_aload_n hx hb dX12_count_64 rfl (lv_at hl 0 rfl) ?_
    refine va_get (D := D) (ci := 12) (C := RX12) (T := TX12) (N := 19) hx hb hts fwX12_count_X12 hown hK hP 0 rfl rfl 0 (by decide) (hts _ (List.mem_of_getElem? (i := 1) rfl)) (fun _ h9 => h9) rfl dX12_count_65 ?_
    refine lv_bipush (v := 18) hx hb dX12_count_68 (by decide) ?_
    refine w_iald (wf := (wX12 cI cZ cS ad)) hx hb hK hP 1 0 rfl rfl hf dX12_count_70 (fun v6 hf => ?_)
    obtain ⟨hi1, hi2⟩ := Prod.mk.inj (Option.some.inj hf)
    subst hi1
    subst hi2
    exact hret _ _ _ _ dX12_count_71 rfl hP hS
  have hf := (if_neg h5).symm.trans hf
  by_cases h7 : a1 = (3 : Int32)
  · have hf := (if_pos h7).symm.trans hf
    refine lv_tableIn (tgt := 72) hx hb dX12_count_1 (by rw [h7]; decide) (by rw [h7]; decide) (by rw [h7]; rfl) (by decide) ?_
    refine lv_aload_n hx hb dX12_count_72 rfl (lv_at hl 0 rfl) ?_
    refine q_cVr (wf := (wX12 cI cZ cS ad)) (wc := wX12 cI cZ cS ad) (rest := []) ⟨hx, hb, hml, hown, hts⟩ hK hZ hA hP hD hS hf (fun x ho => kX12_logged l D cI cZ cS zz ad σ x ho) (cwV 0 hts gX12_count_X12_logged rfl rfl rfl ndX12_logged ⟨Nat.le_of_ble_eq_true rfl, Nat.le_of_ble_eq_true rfl⟩) [0, 1, 2, 3, 4, 5, 6, 7, 8, 9, 10, 11] rfl rfl rfl rfl rfl rfl (hl.1) rfl (Nat.le_of_ble_eq_true rfl) dX12_count_73 ⟨Nat.zero_le _, Nat.zero_le _⟩ (fun r8 H locs hf hP hD hS => ?_)
    obtain ⟨hi1, hi2⟩ := Prod.mk.inj (Option.some.inj hf)
    subst hi1
    subst hi2
    exact hret _ _ _ _ dX12_count_76 rfl hP hS
  have hf := (if_neg h7).symm.trans hf
  by_cases h9 : a1 = (4 : Int32)
  · have hf := (if_pos h9).symm.trans hf
    refine lv_tableIn (tgt := 77) hx hb dX12_count_1 (by rw [h9]; decide) (by rw [h9]; decide) (by rw [h9]; rfl) (by decide) ?_
    refine lv_aload_n hx hb dX12_count_77 rfl (lv_at hl 0 rfl) ?_
    refine va_get (D := D) (ci := 12) (C := RX12) (T := TX12) (N := 19) hx hb hts fwX12_count_X12 hown hK hP 0 rfl rfl 0 (by decide) (hts _ (List.mem_of_getElem? (i := 1) rfl)) (fun _ h9 => h9) rfl dX12_count_78 ?_
    refine lv_bipush (v := 19) hx hb dX12_count_81 (by decide) ?_
    refine w_iald (wf := (wX12 cI cZ cS ad)) hx hb hK hP 1 0 rfl rfl hf dX12_count_83 (fun v10 hf => ?_)
    obtain ⟨hi1, hi2⟩ := Prod.mk.inj (Option.some.inj hf)
    subst hi1
    subst hi2
    exact hret _ _ _ _ dX12_count_84 rfl hP hS
  have hf := (if_neg h9).symm.trans hf
  by_cases h11 : a1 = (5 : Int32)
  · have hf := (if_pos h11).symm.trans hf
    refine lv_tableIn (tgt := 85) hx hb dX12_count_1 (by rw [h11]; decide) (by rw [h11]; decide) (by rw [h11]; rfl) (by decide) ?_
    refine lv_aload_n hx hb dX12_count_85 rfl (lv_at hl 0 rfl) ?_
    refine va_get (D := D) (ci := 12) (C := RX12) (T := TX12) (N := 19) hx hb hts fwX12_count_X12 hown hK hP 0 rfl rfl 7 (by decide) (hts _ (List.mem_of_getElem? (i := 2) rfl)) (fun _ h9 => h9) rfl dX12_count_86 ?_
    obtain ⟨hi1, hi2⟩ := Prod.mk.inj (Option.some.inj hf)
    subst hi1
    subst hi2
    exact hret _ _ _ _ dX12_count_89 rfl hP hS
  have hf := (if_neg h11).symm.trans hf
  by_cases h12 : a1 = (6 : Int32)
  · have hf := (if_pos h12).symm.trans hf
    refine lv_tableIn (tgt := 90) hx hb dX12_count_1 (by rw [h12]; decide) (by rw [h12]; decide) (by rw [h12]; rfl) (by decide) ?_
    refine lv_aload_n hx hb dX12_count_90 rfl (lv_at hl 0 rfl) ?_
    refine va_get (D := D) (ci := 12) (C := RX12) (T := TX12) (N := 19) hx hb hts fwX12_count_X12 hown hK hP 0 rfl rfl 0 (by decide) (hts _ (List.mem_of_getElem? (i := 1) rfl)) (fun _ h9 => h9) rfl dX12_count_91 ?_
    refine lv_bipush (v := 20) hx hb dX12_count_94 (by decide) ?_
    refine w_iald (wf := (wX12 cI cZ cS ad)) hx hb hK hP 1 0 rfl rfl hf dX12_count_96 (fun v13 hf => ?_)
    obtain ⟨hi1, hi2⟩ := Prod.mk.inj (Option.some.inj hf)
    subst hi1
    subst hi2
    exact hret _ _ _ _ dX12_count_97 rfl hP hS
  have hf := (if_neg h12).symm.trans hf
  by_cases h14 : a1 = (7 : Int32)
  · have hf := (if_pos h14).symm.trans hf
    refine lv_tableIn (tgt := 98) hx hb dX12_count_1 (by rw [h14]; decide) (by rw [h14]; decide) (by rw [h14]; rfl) (by decide) ?_
    refine lv_iconst (v := 0) hx hb dX12_count_98 (by decide) ?_
    refine lv_istore_n (lv' := [(2, .int (0 : Int32)), (0, .ref (ad 0)), (1, .int a1)]) hx hb dX12_count_99 rfl hl (by decide) rfl (fun ls hl => ?_)
    refine lv_iconst (v := 0) hx hb dX12_count_100 (by decide) ?_
    refine lv_istore_n (lv' := [(3, .int (0 : Int32)), (2, .int (0 : Int32)), (0, .ref (ad 0)), (1, .int a1)]) hx hb dX12_count_101 rfl hl (by decide) rfl (fun ls hl => ?_)
    refine q_lp_go (f := fun (zf : Int32 → Int32 → Option (Int32 × SS)) => zf (0 : Int32) (0 : Int32)) hf (fun z18 ez18 hf => ?_)
    have Lz18 : ∀ (n19 : Nat) (x2_15 : Int32) (x3_16 : Int32) (H : Heap) (locs : List Loc) (ls : Array Slot), va_P D vwCl ((wX12 cI cZ cS ad) σ) H → va_D A ((wX12 cI cZ cS ad) σ) → va_S A s.heap H locs → lv_has ls 4 [(0, .ref (ad 0)), (2, .int x2_15), (3, .int x3_16)] → q_lp (fun _ _ => none) z18 n19 x2_15 x3_16 = some (rr, σr) → W p l e rmX12_count s m ([.ref (ad 0), .int a1] : List Value).toArray below meth c H locs 0 0 Q (F0 m 102 ls []) := by
      intro n19
      induction n19 with
      | zero => exact fun _ _ _ _ _ _ _ _ _ hf => q_no hf
      | succ n19 ihz18 =>
        intro x2_15 x3_16 H locs ls hP hD hS hl hf
        have hf := (congrFun (congrFun (congrFun ez18 (q_lp (fun _ _ => none) z18 n19)) x2_15) x3_16).symm.trans hf
        refine lv_iload_n hx hb dX12_count_102 rfl (lv_at hl 2 rfl) ?_
        refine lv_aload_n hx hb dX12_count_103 rfl (lv_at hl 0 rfl) ?_
        refine va_get (D := D) (ci := 12) (C := RX12) (T := TX12) (N := 19) hx hb hts fwX12_count_X12 hown hK hP 0 rfl rfl 0 (by decide) (hts _ (List.mem_of_getElem? (i := 1) rfl)) (fun _ h9 => h9) rfl dX12_count_104 ?_
        refine lv_bipush (v := 17) hx hb dX12_count_107 (by decide) ?_
        refine w_iald (wf := (wX12 cI cZ cS ad)) hx hb hK hP 1 0 rfl rfl hf dX12_count_109 (fun v20 hf => ?_)
        refine lv_icmp_ge (tgt := 128) hx hb dX12_count_110 (by decide) (fun h21 => ?_) (fun h21 => ?_)
        · have hf := (if_pos h21).symm.trans hf
          refine lv_iload_n hx hb dX12_count_128 rfl (lv_at hl 1 rfl) ?_
          obtain ⟨hi1, hi2⟩ := Prod.mk.inj (Option.some.inj hf)
          subst hi1
          subst hi2
          exact hret _ _ _ _ dX12_count_129 rfl hP hS
        · have hf := (if_neg h21).symm.trans hf
          refine lv_iload_n hx hb dX12_count_113 rfl (lv_at hl 1 rfl) ?_
          refine lv_aload_n hx hb dX12_count_114 rfl (lv_at hl 0 rfl) ?_
          refine lv_iload_n hx hb dX12_count_115 rfl (lv_at hl 2 rfl) ?_
          refine lv_iconst (v := 3) hx hb dX12_count_116 (by decide) ?_
          refine q_cVr (wf := (wX12 cI cZ cS ad)) (wc := wX12 cI cZ cS ad) (rest := [.int x2_15]) ⟨hx, hb, hml, hown, hts⟩ hK hZ hA hP hD hS hf (fun x ho => kX12_thingIts l D cI cZ cS zz ad σ x3_16 (3 : Int32) x ho) (cwV 2 hts gX12_count_X12_thingIts rfl rfl rfl ndX12_thingIts ⟨Nat.le_of_ble_eq_true rfl, Nat.le_of_ble_eq_true rfl⟩) [0, 1, 2, 3, 4, 5, 6, 7, 8, 9, 10, 11] rfl rfl rfl rfl rfl rfl (hl.1) rfl (Nat.le_of_ble_eq_true rfl) dX12_count_117 ⟨Nat.zero_le _, Nat.zero_le _⟩ (fun r22 H locs hf hP hD hS => ?_)
          refine lv_iadd hx hb dX12_count_120 ?_
          refine lv_topi (fun x2_23 ex2_23 => ?_)
          have hf := q_lt_at ex2_23 hf
          refine lv_istore_n (lv' := [(2, .int x2_23), (0, .ref (ad 0)), (3, .int x3_16)]) hx hb dX12_count_121 rfl hl (by decide) rfl (fun ls hl => ?_)
          refine lv_iinc (v := (x3_16 + (1 : Int32))) (lv' := [(3, .int (x3_16 + (1 : Int32))), (2, .int x2_23), (0, .ref (ad 0))]) hx hb dX12_count_122 hl (k := 2) rfl rfl (by decide) rfl (fun ls hl => ?_)
          refine lv_goto (tgt := 102) hx hb dX12_count_125 (by decide) ?_
          exact ihz18 x2_23 (x3_16 + (1 : Int32)) _ _ _ hP hD hS (lv_sub hl [2, 1, 0] rfl) hf
    exact Lz18 q_fu (0 : Int32) (0 : Int32) _ _ _ hP hD hS (lv_sub hl [2, 1, 0] rfl) hf
  have hf := (if_neg h14).symm.trans hf
  refine lv_tableOut (tgt := 130) hx hb dX12_count_1 (by have := q_ne h1 (z := 0) rfl; have := q_ne h3 (z := 1) rfl; have := q_ne h5 (z := 2) rfl; have := q_ne h7 (z := 3) rfl; have := q_ne h9 (z := 4) rfl; have := q_ne h11 (z := 5) rfl; have := q_ne h12 (z := 6) rfl; have := q_ne h14 (z := 7) rfl; omega) (by decide) ?_
  refine lv_aload_n hx hb dX12_count_130 rfl (lv_at hl 0 rfl) ?_
  refine lv_iconst (v := 0) hx hb dX12_count_131 (by decide) ?_
  refine q_cVi (wf := (wX12 cI cZ cS ad)) (wc := wX12 cI cZ cS ad) (rest := []) ⟨hx, hb, hml, hown, hts⟩ hK hZ hA hP hD hS hf (fun x τ ho => kX12_finding l D cI cZ cS zz ad σ (0 : Int32) x τ ho) (cwV 1 hts gX12_count_X12_finding rfl rfl rfl ndX12_finding ⟨Nat.le_of_ble_eq_true rfl, Nat.le_of_ble_eq_true rfl⟩) [0, 1, 2, 3, 4, 5, 6, 7, 8, 9, 10, 11] rfl rfl [some 0, some 1, some 2, some 3, some 4, some 5, some 6, some 7, some 8, some 9, some 10, some 11] (by decide +kernel) (Nat.le_of_ble_eq_true rfl) (fun _ => rfl) (fun _ => rfl) (fun _ => rfl) rfl rfl rfl rfl (hl.1) rfl (Nat.le_of_ble_eq_true rfl) dX12_count_132 ⟨Nat.zero_le _, Nat.zero_le _⟩ (fun r25 σ24 H locs hf hP hD hS => ?_)
  obtain ⟨hi1, hi2⟩ := Prod.mk.inj (Option.some.inj hf)
  subst hi1
  subst hi2
  exact hret _ _ _ _ dX12_count_135 rfl hP hS
def pX12_status (σ : SS) (a1 : Int32) : Option (Int32 × SS) := q_cr (pX12_in a1 (-1 : Int32) (6 : Int32)) (fun (r1 : Int32) => (if r1 = (0 : Int32) then q_ci (pX12_finding σ (0 : Int32)) (fun (τ : SS) => τ) (fun (r17 : Int32) (σ16 : SS) => some (r17, σ16)) else q_lp (fun _ _ => none) (fun (c5 : Int32 → Int32 → Option (Int32 × SS)) (x2_3 : Int32) (x3_4 : Int32) => (if (7 : Int32) ≤ x3_4 then some (x2_3, σ) else q_lt (fun (y9 : Int32) => q_lt (x2_3 + y9) (fun x2_11 => c5 x2_11 (x3_4 + (1 : Int32)))) (fun j10 => q_lt (q_rd (σ 4) 7 x3_4 (fun (v13 : Int32) => j10 v13)) (fun j12 => (if a1 = (-1 : Int32) then j12 else (if a1 = x3_4 then j12 else j10 (0 : Int32))))))) q_fu (0 : Int32) (0 : Int32)))
theorem fwX12_status_X12 : ∀ w ∈ wsX120, w ∈ wsX12_status := fun _ h => List.mem_cons_of_mem _ (List.mem_append_right _ h)
abbrev rmX12_status : Room := { frames := 1, cells := 0, slots := 0, locals := 22 }
set_option maxHeartbeats 4000000 in
set_option maxRecDepth 100000 in
theorem kX12_status (l : Launch) (D : va_G) (cI cZ cS : ClassId) (zz : ZT) (ad : Nat → Nat) (σ : SS) (a1 : Int32) (rr : Int32) (σr : SS) (hf : pX12_status σ a1 = some (rr, σr)) : CI l yX12_status wsX12_status rmX12_status D (K3 cI cZ cS) zz [.ref (ad 0), .int a1] (wX12 cI cZ cS ad σ) (wX12 cI cZ cS ad σr) rr := by
  refine q_ofI (cc := cX12_status) (maxL := 4) (ty := .int) (by decide) rfl (Nat.le_of_ble_eq_true rfl) ?_
  intro p e s m below meth c Q A ls hx hb hml hown hts hK hZ hA hP hD hS hl hret
  have hl : lv_has ls 4 [(0, .ref (ad 0)), (1, .int a1)] := hl
  unfold pX12_status at hf
  refine lv_iload_n hx hb dX12_status_0 rfl (lv_at hl 1 rfl) ?_
  refine lv_iconst (v := -1) hx hb dX12_status_1 (by decide) ?_
  refine lv_bipush (v := 6) hx hb dX12_status_2 (by decide) ?_
  refine q_cSr (wf := (wX12 cI cZ cS ad)) (rest := []) ⟨hx, hb, hml, hown, hts⟩ hK hZ hA hP hD hS hf (fun x ho => kX12_in l D cI cZ cS zz a1 (-1 : Int32) (6 : Int32) x ho) (va_cwS 3 hts gX12_status_X12_in rfl rfl rfl ndX12_in.2 ⟨Nat.le_of_ble_eq_true rfl, Nat.le_of_ble_eq_true rfl⟩) rfl (hl.1) rfl (Nat.le_of_ble_eq_true rfl) dX12_status_4 ⟨Nat.zero_le _, Nat.zero_le _⟩ (fun r1 H locs hf hP hD hS => ?_)
  refine lv_if_ne (tgt := 16) hx hb dX12_status_7 (by decide) (fun h2 => ?_) (fun h2 => ?_)
  · have hf := (if_neg h2).symm.trans hf
    refine lv_iconst (v := 0) hx hb dX12_status_16 (by decide) ?_
    refine lv_istore_n (lv' := [(2, .int (0 : Int32)), (0, .ref (ad 0)), (1, .int a1)]) hx hb dX12_status_17 rfl hl (by decide) rfl (fun ls hl => ?_)
    refine lv_iconst (v := 0) hx hb dX12_status_18 (by decide) ?_
    refine lv_istore_n (lv' := [(3, .int (0 : Int32)), (2, .int (0 : Int32)), (0, .ref (ad 0)), (1, .int a1)]) hx hb dX12_status_19 rfl hl (by decide) rfl (fun ls hl => ?_)
    refine q_lp_go (f := fun (zf : Int32 → Int32 → Option (Int32 × SS)) => zf (0 : Int32) (0 : Int32)) hf (fun z6 ez6 hf => ?_)
    have Lz6 : ∀ (n7 : Nat) (x2_3 : Int32) (x3_4 : Int32) (H : Heap) (locs : List Loc) (ls : Array Slot), va_P D vwCl ((wX12 cI cZ cS ad) σ) H → va_D A ((wX12 cI cZ cS ad) σ) → va_S A s.heap H locs → lv_has ls 4 [(0, .ref (ad 0)), (1, .int a1), (2, .int x2_3), (3, .int x3_4)] → q_lp (fun _ _ => none) z6 n7 x2_3 x3_4 = some (rr, σr) → W p l e rmX12_status s m ([.ref (ad 0), .int a1] : List Value).toArray below meth c H locs 0 0 Q (F0 m 20 ls []) := by
      intro n7
      induction n7 with
      | zero => exact fun _ _ _ _ _ _ _ _ _ hf => q_no hf
      | succ n7 ihz6 =>
        intro x2_3 x3_4 H locs ls hP hD hS hl hf
        have hf := (congrFun (congrFun (congrFun ez6 (q_lp (fun _ _ => none) z6 n7)) x2_3) x3_4).symm.trans hf
        refine lv_iload_n hx hb dX12_status_20 rfl (lv_at hl 3 rfl) ?_
        refine lv_bipush (v := 7) hx hb dX12_status_21 (by decide) ?_
        refine lv_icmp_ge (tgt := 55) hx hb dX12_status_23 (by decide) (fun h8 => ?_) (fun h8 => ?_)
        · have hf := (if_pos h8).symm.trans hf
          refine lv_iload_n hx hb dX12_status_55 rfl (lv_at hl 2 rfl) ?_
          obtain ⟨hi1, hi2⟩ := Prod.mk.inj (Option.some.inj hf)
          subst hi1
          subst hi2
          exact hret _ _ _ _ dX12_status_56 rfl hP hS
        · have hf := (if_neg h8).symm.trans hf
          refine lv_iload_n hx hb dX12_status_26 rfl (lv_at hl 2 rfl) ?_
          refine lv_iload_n hx hb dX12_status_27 rfl (lv_at hl 1 rfl) ?_
          refine lv_iconst (v := -1) hx hb dX12_status_28 (by decide) ?_
          refine q_lt_go hf (fun j10 ej10 hf => ?_)
          have Jj10 : ∀ (y9 : Int32) (H : Heap) (locs : List Loc) (ls : Array Slot), va_P D vwCl ((wX12 cI cZ cS ad) σ) H → va_D A ((wX12 cI cZ cS ad) σ) → va_S A s.heap H locs → lv_has ls 4 [(0, .ref (ad 0)), (1, .int a1), (3, .int x3_4)] → j10 y9 = some (rr, σr) → W p l e rmX12_status s m ([.ref (ad 0), .int a1] : List Value).toArray below meth c H locs 0 0 Q (F0 m 47 ls [.int y9, .int x2_3]) := by
            intro y9 H locs ls hP hD hS hl hf
            have hf := (congrFun ej10 y9).symm.trans hf
            refine lv_iadd hx hb dX12_status_47 ?_
            refine lv_topi (fun x2_11 ex2_11 => ?_)
            have hf := q_lt_at ex2_11 hf
            refine lv_istore_n (lv' := [(2, .int x2_11), (0, .ref (ad 0)), (1, .int a1), (3, .int x3_4)]) hx hb dX12_status_48 rfl hl (by decide) rfl (fun ls hl => ?_)
            refine lv_iinc (v := (x3_4 + (1 : Int32))) (lv' := [(3, .int (x3_4 + (1 : Int32))), (2, .int x2_11), (0, .ref (ad 0)), (1, .int a1)]) hx hb dX12_status_49 hl (k := 3) rfl rfl (by decide) rfl (fun ls hl => ?_)
            refine lv_goto (tgt := 20) hx hb dX12_status_52 (by decide) ?_
            exact ihz6 x2_11 (x3_4 + (1 : Int32)) _ _ _ hP hD hS (lv_sub hl [2, 3, 1, 0] rfl) hf
          refine q_lt_go hf (fun j12 ej12 hf => ?_)
          have Jj12 : ∀ (H : Heap) (locs : List Loc) (ls : Array Slot), va_P D vwCl ((wX12 cI cZ cS ad) σ) H → va_D A ((wX12 cI cZ cS ad) σ) → va_S A s.heap H locs → lv_has ls 4 [(0, .ref (ad 0)), (1, .int a1), (3, .int x3_4)] → j12 = some (rr, σr) → W p l e rmX12_status s m ([.ref (ad 0), .int a1] : List Value).toArray below meth c H locs 0 0 Q (F0 m 37 ls [.int x2_3]) := by
            intro  H locs ls hP hD hS hl hf
            have hf := ej12.symm.trans hf
            refine lv_aload_n hx hb dX12_status_37 rfl (lv_at hl 0 rfl) ?_
            refine va_get (D := D) (ci := 12) (C := RX12) (T := TX12) (N := 19) hx hb hts fwX12_status_X12 hown hK hP 0 rfl rfl 4 (by decide) (hts _ (List.mem_of_getElem? (i := 1) rfl)) (fun _ h9 => h9) rfl dX12_status_38 ?_
            refine lv_iload_n hx hb dX12_status_41 rfl (lv_at hl 2 rfl) ?_
            refine w_iald (wf := (wX12 cI cZ cS ad)) hx hb hK hP 4 0 rfl rfl hf dX12_status_42 (fun v13 hf => ?_)
            refine lv_goto (tgt := 47) hx hb dX12_status_43 (by decide) ?_
            exact Jj10 v13 _ _ _ hP hD hS (lv_sub hl [0, 1, 2] rfl) hf
          refine lv_icmp_eq (tgt := 37) hx hb dX12_status_29 (by decide) (fun h14 => ?_) (fun h14 => ?_)
          · have hf := (if_pos h14).symm.trans hf
            exact Jj12  _ _ _ hP hD hS (lv_sub hl [0, 1, 3] rfl) hf
          · have hf := (if_neg h14).symm.trans hf
            refine lv_iload_n hx hb dX12_status_32 rfl (lv_at hl 1 rfl) ?_
            refine lv_iload_n hx hb dX12_status_33 rfl (lv_at hl 3 rfl) ?_
            refine lv_icmp_ne (tgt := 46) hx hb dX12_status_34 (by decide) (fun h15 => ?_) (fun h15 => ?_)
            · have hf := (if_neg h15).symm.trans hf
              refine lv_iconst (v := 0) hx hb dX12_status_46 (by decide) ?_
              exact Jj10 (0 : Int32) _ _ _ hP hD hS (lv_sub hl [0, 1, 3] rfl) hf
            · have hf := (if_pos h15).symm.trans hf
              exact Jj12  _ _ _ hP hD hS (lv_sub hl [0, 1, 3] rfl) hf
    exact Lz6 q_fu (0 : Int32) (0 : Int32) _ _ _ hP hD hS (lv_sub hl [2, 3, 1, 0] rfl) hf
  · have hf := (if_pos h2).symm.trans hf
    refine lv_aload_n hx hb dX12_status_10 rfl (lv_at hl 0 rfl) ?_
    refine lv_iconst (v := 0) hx hb dX12_status_11 (by decide) ?_
    refine q_cVi (wf := (wX12 cI cZ cS ad)) (wc := wX12 cI cZ cS ad) (rest := []) ⟨hx, hb, hml, hown, hts⟩ hK hZ hA hP hD hS hf (fun x τ ho => kX12_finding l D cI cZ cS zz ad σ (0 : Int32) x τ ho) (cwV 1 hts gX12_status_X12_finding rfl rfl rfl ndX12_finding ⟨Nat.le_of_ble_eq_true rfl, Nat.le_of_ble_eq_true rfl⟩) [0, 1, 2, 3, 4, 5, 6, 7, 8, 9, 10, 11] rfl rfl [some 0, some 1, some 2, some 3, some 4, some 5, some 6, some 7, some 8, some 9, some 10, some 11] (by decide +kernel) (Nat.le_of_ble_eq_true rfl) (fun _ => rfl) (fun _ => rfl) (fun _ => rfl) rfl rfl rfl rfl (hl.1) rfl (Nat.le_of_ble_eq_true rfl) dX12_status_12 ⟨Nat.zero_le _, Nat.zero_le _⟩ (fun r17 σ16 H locs hf hP hD hS => ?_)
    obtain ⟨hi1, hi2⟩ := Prod.mk.inj (Option.some.inj hf)
    subst hi1
    subst hi2
    exact hret _ _ _ _ dX12_status_15 rfl hP hS
