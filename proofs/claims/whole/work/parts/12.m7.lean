def pX5_isWord (σ : SS) (t1 : Nat) : Option Int32 := (if t1 < 10 then q_lt (q_zz (0 : Int32) (some (0 : Int32))) (fun j1 => (if (σ 0 1) = (1 : Int32) then (if ((σ 0 3) - (σ 0 2)) = (k_ln t1) then q_lp (fun _ => none) (fun (c5 : Int32 → Option Int32) (x2_4 : Int32) => (if (k_ln t1) ≤ x2_4 then q_zz (1 : Int32) (some (1 : Int32)) else q_rd (σ 2) 100 ((σ 0 2) + x2_4) (fun (v9 : Int32) => q_rd (k_ch t1) (k_len.getD t1 0) x2_4 (fun (v10 : Int32) => (if v9 = v10 then c5 (x2_4 + (1 : Int32)) else q_zz (0 : Int32) (some (0 : Int32))))))) q_fu (0 : Int32) else j1) else j1)) else none)
theorem fwX5_isWord_X5 : ∀ w ∈ wsX50, w ∈ wsX5_isWord := fun _ h => List.mem_cons_of_mem _ (List.mem_append_left _ (List.mem_append_right _ h))
theorem fwX5_isWord_X8 : ∀ w ∈ wsX80, w ∈ wsX5_isWord := fun _ h => List.mem_cons_of_mem _ (List.mem_append_right _ h)
abbrev rmX5_isWord : Room := { frames := 4, cells := 0, slots := 0, locals := 111 }
set_option maxHeartbeats 4000000 in
set_option maxRecDepth 100000 in
theorem kX5_isWord (l : Launch) (D : va_G) (cI cZ cS : ClassId) (zz : ZT) (ad : Nat → Nat) (σ : SS) (t1 : Nat) (rr : Int32) (hf : pX5_isWord σ t1 = some rr) : CI l yX5_isWord wsX5_isWord rmX5_isWord D (K3 cI cZ cS) zz [.ref (ad 0), .ref (zz.2.1 t1)] (wX5 cI cZ cS ad σ) (wX5 cI cZ cS ad σ) rr := by
  refine q_ofI (cc := cX5_isWord) (maxL := 3) (ty := .boolean) (by decide) rfl (Nat.le_of_ble_eq_true rfl) ?_
  intro p e s m below meth c Q A ls hx hb hml hown hts hK hZ hA hP hD hS hl hret
  have hl : lv_has ls 3 [(0, .ref (ad 0)), (1, .ref (zz.2.1 t1))] := hl
  unfold pX5_isWord at hf
  by_cases ht1 : t1 < 10
  rotate_left
  · exact q_no ((if_neg ht1).symm.trans hf)
  have hf := (if_pos ht1).symm.trans hf
  refine lv_aload_n hx hb dX5_isWord_0 rfl (lv_at hl 0 rfl) ?_
  refine va_get (D := D) (ci := 5) (C := RX5) (T := TX5) (N := 5) hx hb hts fwX5_isWord_X5 hown hK hP 0 rfl rfl 1 (by decide) (hts _ (List.mem_of_getElem? (i := 1) rfl)) (fun _ h9 => h9) rfl dX5_isWord_1 ?_
  refine lv_iconst (v := 1) hx hb dX5_isWord_4 (by decide) ?_
  refine q_lt_go hf (fun j1 ej1 hf => ?_)
  have Jj1 : ∀ (H : Heap) (locs : List Loc) (ls : Array Slot), va_P D vwCl ((wX5 cI cZ cS ad) σ) H → va_D A ((wX5 cI cZ cS ad) σ) → va_S A s.heap H locs → lv_has ls 3 [] → j1 = some rr → W p l e rmX5_isWord s m ([.ref (ad 0), .ref (zz.2.1 t1)] : List Value).toArray below meth c H locs 0 0 Q (F0 m 24 ls []) := by
    intro  H locs ls hP hD hS hl hf
    have hf := ej1.symm.trans hf
    refine lv_iconst (v := 0) hx hb dX5_isWord_24 (by decide) ?_
    obtain ⟨hz, hf⟩ := q_zz_o hf
    have hi1 := Option.some.inj hf
    subst hi1
    exact hret _ _ _ _ dX5_isWord_25 (q_zz_n hz).1 hP hS
  refine lv_icmp_ne (tgt := 24) hx hb dX5_isWord_5 (by decide) (fun h2 => ?_) (fun h2 => ?_)
  · have hf := (if_neg h2).symm.trans hf
    exact Jj1  _ _ _ hP hD hS (lv_sub hl [] rfl) hf
  · have hf := (if_pos h2).symm.trans hf
    refine lv_aload_n hx hb dX5_isWord_8 rfl (lv_at hl 0 rfl) ?_
    refine va_get (D := D) (ci := 5) (C := RX5) (T := TX5) (N := 5) hx hb hts fwX5_isWord_X5 hown hK hP 0 rfl rfl 3 (by decide) (hts _ (List.mem_of_getElem? (i := 2) rfl)) (fun _ h9 => h9) rfl dX5_isWord_9 ?_
    refine lv_aload_n hx hb dX5_isWord_12 rfl (lv_at hl 0 rfl) ?_
    refine va_get (D := D) (ci := 5) (C := RX5) (T := TX5) (N := 5) hx hb hts fwX5_isWord_X5 hown hK hP 0 rfl rfl 2 (by decide) (hts _ (List.mem_of_getElem? (i := 3) rfl)) (fun _ h9 => h9) rfl dX5_isWord_13 ?_
    refine lv_isub hx hb dX5_isWord_16 ?_
    refine lv_aload_n hx hb dX5_isWord_17 rfl (lv_at hl 1 rfl) ?_
    refine q_cT (wf := (wX5 cI cZ cS ad)) (rest := [.int ((σ 0 3) - (σ 0 2))]) ⟨hx, hb, hml, hown, hts⟩ hK hZ hA hP hD hS (kJ0_length l D cI cZ cS zz t1 ht1) (cwV 0 hts gX5_isWord_J0_length_8abf5 rfl rfl rfl (by decide +kernel) ⟨Nat.le_of_ble_eq_true rfl, Nat.le_of_ble_eq_true rfl⟩) (vk_recv hZ.2.2.2.2.2.2.1 ht1 hS) rfl (hl.1) rfl (Nat.le_of_ble_eq_true rfl) dX5_isWord_18 ⟨Nat.zero_le _, Nat.zero_le _⟩ (fun H locs hP hD hS => ?_)
    refine lv_icmp_eq (tgt := 26) hx hb dX5_isWord_21 (by decide) (fun h3 => ?_) (fun h3 => ?_)
    · have hf := (if_pos h3).symm.trans hf
      refine lv_iconst (v := 0) hx hb dX5_isWord_26 (by decide) ?_
      refine lv_istore_n (lv' := [(2, .int (0 : Int32)), (0, .ref (ad 0)), (1, .ref (zz.2.1 t1))]) hx hb dX5_isWord_27 rfl hl (by decide) rfl (fun ls hl => ?_)
      refine q_lp_go (f := fun (zf : Int32 → Option Int32) => zf (0 : Int32)) hf (fun z6 ez6 hf => ?_)
      have Lz6 : ∀ (n7 : Nat) (x2_4 : Int32) (H : Heap) (locs : List Loc) (ls : Array Slot), va_P D vwCl ((wX5 cI cZ cS ad) σ) H → va_D A ((wX5 cI cZ cS ad) σ) → va_S A s.heap H locs → lv_has ls 3 [(0, .ref (ad 0)), (1, .ref (zz.2.1 t1)), (2, .int x2_4)] → q_lp (fun _ => none) z6 n7 x2_4 = some rr → W p l e rmX5_isWord s m ([.ref (ad 0), .ref (zz.2.1 t1)] : List Value).toArray below meth c H locs 0 0 Q (F0 m 28 ls []) := by
        intro n7
        induction n7 with
        | zero => exact fun _ _ _ _ _ _ _ _ hf => q_no hf
        | succ n7 ihz6 =>
          intro x2_4 H locs ls hP hD hS hl hf
          have hf := (congrFun (congrFun ez6 (q_lp (fun _ => none) z6 n7)) x2_4).symm.trans hf
          refine lv_iload_n hx hb dX5_isWord_28 rfl (lv_at hl 2 rfl) ?_
          refine lv_aload_n hx hb dX5_isWord_29 rfl (lv_at hl 1 rfl) ?_
          refine q_cT (wf := (wX5 cI cZ cS ad)) (rest := [.int x2_4]) ⟨hx, hb, hml, hown, hts⟩ hK hZ hA hP hD hS (kJ0_length l D cI cZ cS zz t1 ht1) (cwV 0 hts gX5_isWord_J0_length_8abf5 rfl rfl rfl (by decide +kernel) ⟨Nat.le_of_ble_eq_true rfl, Nat.le_of_ble_eq_true rfl⟩) (vk_recv hZ.2.2.2.2.2.2.1 ht1 hS) rfl (hl.1) rfl (Nat.le_of_ble_eq_true rfl) dX5_isWord_30 ⟨Nat.zero_le _, Nat.zero_le _⟩ (fun H locs hP hD hS => ?_)
          refine lv_icmp_ge (tgt := 66) hx hb dX5_isWord_33 (by decide) (fun h8 => ?_) (fun h8 => ?_)
          · have hf := (if_pos h8).symm.trans hf
            refine lv_iconst (v := 1) hx hb dX5_isWord_66 (by decide) ?_
            obtain ⟨hz, hf⟩ := q_zz_o hf
            have hi1 := Option.some.inj hf
            subst hi1
            exact hret _ _ _ _ dX5_isWord_67 (q_zz_n hz).1 hP hS
          · have hf := (if_neg h8).symm.trans hf
            refine lv_aload_n hx hb dX5_isWord_36 rfl (lv_at hl 0 rfl) ?_
            refine va_get (D := D) (ci := 5) (C := RX5) (T := TX5) (N := 5) hx hb hts fwX5_isWord_X5 hown hK hP 0 rfl rfl 0 (by decide) (hts _ (List.mem_of_getElem? (i := 4) rfl)) (fun _ h9 => h9) rfl dX5_isWord_37 ?_
            refine va_get (D := D) (ci := 8) (C := RX8) (T := TX8) (N := 2) hx hb hts fwX5_isWord_X8 hown hK hP 1 rfl rfl 0 (by decide) (hts _ (List.mem_of_getElem? (i := 5) rfl)) (fun _ h9 => h9) rfl dX5_isWord_40 ?_
            refine lv_aload_n hx hb dX5_isWord_43 rfl (lv_at hl 0 rfl) ?_
            refine va_get (D := D) (ci := 5) (C := RX5) (T := TX5) (N := 5) hx hb hts fwX5_isWord_X5 hown hK hP 0 rfl rfl 2 (by decide) (hts _ (List.mem_of_getElem? (i := 3) rfl)) (fun _ h9 => h9) rfl dX5_isWord_44 ?_
            refine lv_iload_n hx hb dX5_isWord_47 rfl (lv_at hl 2 rfl) ?_
            refine lv_iadd hx hb dX5_isWord_48 ?_
            refine w_iald (wf := (wX5 cI cZ cS ad)) hx hb hK hP 2 0 rfl rfl hf dX5_isWord_49 (fun v9 hf => ?_)
            refine lv_aload_n hx hb dX5_isWord_50 rfl (lv_at hl 1 rfl) ?_
            refine lv_iload_n hx hb dX5_isWord_51 rfl (lv_at hl 2 rfl) ?_
            refine q_cTc (wf := (wX5 cI cZ cS ad)) (rest := [.int v9]) ⟨hx, hb, hml, hown, hts⟩ hK hZ hA hP hD hS hf (fun hi => kJ0_charAt l D cI cZ cS zz t1 ht1 x2_4 hi) (cwV 1 hts gX5_isWord_J0_charAt_5068e rfl rfl rfl (by decide +kernel) ⟨Nat.le_of_ble_eq_true rfl, Nat.le_of_ble_eq_true rfl⟩) (vk_recv hZ.2.2.2.2.2.2.1 ht1 hS) rfl (hl.1) rfl (Nat.le_of_ble_eq_true rfl) dX5_isWord_52 ⟨Nat.zero_le _, Nat.zero_le _⟩ (fun v10 H locs hf hP hD hS => ?_)
            refine lv_icmp_eq (tgt := 60) hx hb dX5_isWord_55 (by decide) (fun h11 => ?_) (fun h11 => ?_)
            · have hf := (if_pos h11).symm.trans hf
              refine lv_iinc (v := (x2_4 + (1 : Int32))) (lv' := [(2, .int (x2_4 + (1 : Int32))), (0, .ref (ad 0)), (1, .ref (zz.2.1 t1))]) hx hb dX5_isWord_60 hl (k := 2) rfl rfl (by decide) rfl (fun ls hl => ?_)
              refine lv_goto (tgt := 28) hx hb dX5_isWord_63 (by decide) ?_
              exact ihz6 (x2_4 + (1 : Int32)) _ _ _ hP hD hS (lv_sub hl [1, 2, 0] rfl) hf
            · have hf := (if_neg h11).symm.trans hf
              refine lv_iconst (v := 0) hx hb dX5_isWord_58 (by decide) ?_
              obtain ⟨hz, hf⟩ := q_zz_o hf
              have hi1 := Option.some.inj hf
              subst hi1
              exact hret _ _ _ _ dX5_isWord_59 (q_zz_n hz).1 hP hS
      exact Lz6 q_fu (0 : Int32) _ _ _ hP hD hS (lv_sub hl [1, 2, 0] rfl) hf
    · have hf := (if_neg h3).symm.trans hf
      exact Jj1  _ _ _ hP hD hS (lv_sub hl [] rfl) hf
def pX5_deedTold (σ : SS) : Option Int32 := q_lp (fun _ => none) (fun (c2 : Int32 → Option Int32) (x1_1 : Int32) => (if (6 : Int32) ≤ x1_1 then some (-1 : Int32) else q_cr (pX5_isWord σ (q_wd x1_1)) (fun (r6 : Int32) => (if r6 = (0 : Int32) then c2 (x1_1 + (1 : Int32)) else some x1_1)))) q_fu (0 : Int32)
abbrev rmX5_deedTold : Room := { frames := 5, cells := 0, slots := 0, locals := 133 }
set_option maxHeartbeats 4000000 in
set_option maxRecDepth 100000 in
theorem kX5_deedTold (l : Launch) (D : va_G) (cI cZ cS : ClassId) (zz : ZT) (ad : Nat → Nat) (σ : SS) (rr : Int32) (hf : pX5_deedTold σ = some rr) : CI l yX5_deedTold wsX5_deedTold rmX5_deedTold D (K3 cI cZ cS) zz [.ref (ad 0)] (wX5 cI cZ cS ad σ) (wX5 cI cZ cS ad σ) rr := by
  refine q_ofI (cc := cX5_deedTold) (maxL := 2) (ty := .int) (by decide) rfl (Nat.le_of_ble_eq_true rfl) ?_
  intro p e s m below meth c Q A ls hx hb hml hown hts hK hZ hA hP hD hS hl hret
  have hl : lv_has ls 2 [(0, .ref (ad 0))] := hl
  unfold pX5_deedTold at hf
  refine lv_iconst (v := 0) hx hb dX5_deedTold_0 (by decide) ?_
  refine lv_istore_n (lv' := [(1, .int (0 : Int32)), (0, .ref (ad 0))]) hx hb dX5_deedTold_1 rfl hl (by decide) rfl (fun ls hl => ?_)
  refine q_lp_go (f := fun (zf : Int32 → Option Int32) => zf (0 : Int32)) hf (fun z3 ez3 hf => ?_)
  have Lz3 : ∀ (n4 : Nat) (x1_1 : Int32) (H : Heap) (locs : List Loc) (ls : Array Slot), va_P D vwCl ((wX5 cI cZ cS ad) σ) H → va_D A ((wX5 cI cZ cS ad) σ) → va_S A s.heap H locs → lv_has ls 2 [(0, .ref (ad 0)), (1, .int x1_1)] → q_lp (fun _ => none) z3 n4 x1_1 = some rr → W p l e rmX5_deedTold s m ([.ref (ad 0)] : List Value).toArray below meth c H locs 0 0 Q (F0 m 2 ls []) := by
    intro n4
    induction n4 with
    | zero => exact fun _ _ _ _ _ _ _ _ hf => q_no hf
    | succ n4 ihz3 =>
      intro x1_1 H locs ls hP hD hS hl hf
      have hf := (congrFun (congrFun ez3 (q_lp (fun _ => none) z3 n4)) x1_1).symm.trans hf
      refine lv_iload_n hx hb dX5_deedTold_2 rfl (lv_at hl 1 rfl) ?_
      refine lv_bipush (v := 6) hx hb dX5_deedTold_3 (by decide) ?_
      refine lv_icmp_ge (tgt := 27) hx hb dX5_deedTold_5 (by decide) (fun h5 => ?_) (fun h5 => ?_)
      · have hf := (if_pos h5).symm.trans hf
        refine lv_iconst (v := -1) hx hb dX5_deedTold_27 (by decide) ?_
        have hi1 := Option.some.inj hf
        subst hi1
        exact hret _ _ _ _ dX5_deedTold_28 rfl hP hS
      · have hf := (if_neg h5).symm.trans hf
        refine lv_aload_n hx hb dX5_deedTold_8 rfl (lv_at hl 0 rfl) ?_
        refine lv_iload_n hx hb dX5_deedTold_9 rfl (lv_at hl 1 rfl) ?_
        refine q_cW (wf := (wX5 cI cZ cS ad)) (rest := [.ref (ad 0)]) ⟨hx, hb, hml, hown, hts⟩ hK hZ hA hP hD hS (kX5_wordOf l D cI cZ cS zz x1_1) (va_cwS 1 hts gX5_deedTold_X5_wordOf rfl rfl rfl (by decide +kernel) ⟨Nat.le_of_ble_eq_true rfl, Nat.le_of_ble_eq_true rfl⟩) rfl (hl.1) rfl (Nat.le_of_ble_eq_true rfl) dX5_deedTold_10 ⟨Nat.zero_le _, Nat.zero_le _⟩ (fun H locs hP hD hS => ?_)
        refine q_cVr (wf := (wX5 cI cZ cS ad)) (wc := wX5 cI cZ cS ad) (rest := []) ⟨hx, hb, hml, hown, hts⟩ hK hZ hA hP hD hS hf (fun x ho => kX5_isWord l D cI cZ cS zz ad σ (q_wd x1_1) x ho) (cwV 1 hts gX5_deedTold_X5_isWord rfl rfl rfl ndX5_isWord ⟨Nat.le_of_ble_eq_true rfl, Nat.le_of_ble_eq_true rfl⟩) [0, 1, 2] rfl rfl rfl rfl rfl rfl (hl.1) rfl (Nat.le_of_ble_eq_true rfl) dX5_deedTold_13 ⟨Nat.zero_le _, Nat.zero_le _⟩ (fun r6 H locs hf hP hD hS => ?_)
        refine lv_if_eq (tgt := 21) hx hb dX5_deedTold_16 (by decide) (fun h7 => ?_) (fun h7 => ?_)
        · have hf := (if_pos h7).symm.trans hf
          refine lv_iinc (v := (x1_1 + (1 : Int32))) (lv' := [(1, .int (x1_1 + (1 : Int32))), (0, .ref (ad 0))]) hx hb dX5_deedTold_21 hl (k := 1) rfl rfl (by decide) rfl (fun ls hl => ?_)
          refine lv_goto (tgt := 2) hx hb dX5_deedTold_24 (by decide) ?_
          exact ihz3 (x1_1 + (1 : Int32)) _ _ _ hP hD hS (lv_sub hl [1, 0] rfl) hf
        · have hf := (if_neg h7).symm.trans hf
          refine lv_iload_n hx hb dX5_deedTold_19 rfl (lv_at hl 1 rfl) ?_
          have hi1 := Option.some.inj hf
          subst hi1
          exact hret _ _ _ _ dX5_deedTold_20 rfl hP hS
  exact Lz3 q_fu (0 : Int32) _ _ _ hP hD hS (lv_sub hl [1, 0] rfl) hf
def pX5_oneOf (σ : SS) (t1 : Nat) (t2 : Nat) : Option Int32 := (if t1 < 10 then (if t2 < 10 then q_cr (pX5_isWord σ t1) (fun (r1 : Int32) => (if r1 = (0 : Int32) then q_cr (pX5_isWord σ t2) (fun (r3 : Int32) => q_lt (fun (y4 : Int32) => some y4) (fun j5 => (if r3 = (0 : Int32) then j5 (-1 : Int32) else j5 (0 : Int32)))) else some (1 : Int32))) else none) else none)
abbrev rmX5_oneOf : Room := { frames := 5, cells := 0, slots := 0, locals := 133 }
set_option maxHeartbeats 4000000 in
set_option maxRecDepth 100000 in
theorem kX5_oneOf (l : Launch) (D : va_G) (cI cZ cS : ClassId) (zz : ZT) (ad : Nat → Nat) (σ : SS) (t1 : Nat) (t2 : Nat) (rr : Int32) (hf : pX5_oneOf σ t1 t2 = some rr) : CI l yX5_oneOf wsX5_oneOf rmX5_oneOf D (K3 cI cZ cS) zz [.ref (ad 0), .ref (zz.2.1 t1), .ref (zz.2.1 t2)] (wX5 cI cZ cS ad σ) (wX5 cI cZ cS ad σ) rr := by
  refine q_ofI (cc := cX5_oneOf) (maxL := 3) (ty := .int) (by decide) rfl (Nat.le_of_ble_eq_true rfl) ?_
  intro p e s m below meth c Q A ls hx hb hml hown hts hK hZ hA hP hD hS hl hret
  have hl : lv_has ls 3 [(0, .ref (ad 0)), (1, .ref (zz.2.1 t1)), (2, .ref (zz.2.1 t2))] := hl
  unfold pX5_oneOf at hf
  by_cases ht1 : t1 < 10
  rotate_left
  · exact q_no ((if_neg ht1).symm.trans hf)
  have hf := (if_pos ht1).symm.trans hf
  by_cases ht2 : t2 < 10
  rotate_left
  · exact q_no ((if_neg ht2).symm.trans hf)
  have hf := (if_pos ht2).symm.trans hf
  refine lv_aload_n hx hb dX5_oneOf_0 rfl (lv_at hl 0 rfl) ?_
  refine lv_aload_n hx hb dX5_oneOf_1 rfl (lv_at hl 1 rfl) ?_
  refine q_cVr (wf := (wX5 cI cZ cS ad)) (wc := wX5 cI cZ cS ad) (rest := []) ⟨hx, hb, hml, hown, hts⟩ hK hZ hA hP hD hS hf (fun x ho => kX5_isWord l D cI cZ cS zz ad σ t1 x ho) (cwV 1 hts gX5_oneOf_X5_isWord rfl rfl rfl ndX5_isWord ⟨Nat.le_of_ble_eq_true rfl, Nat.le_of_ble_eq_true rfl⟩) [0, 1, 2] rfl rfl rfl rfl rfl rfl (hl.1) rfl (Nat.le_of_ble_eq_true rfl) dX5_oneOf_2 ⟨Nat.zero_le _, Nat.zero_le _⟩ (fun r1 H locs hf hP hD hS => ?_)
  refine lv_if_eq (tgt := 10) hx hb dX5_oneOf_5 (by decide) (fun h2 => ?_) (fun h2 => ?_)
  · have hf := (if_pos h2).symm.trans hf
    refine lv_aload_n hx hb dX5_oneOf_10 rfl (lv_at hl 0 rfl) ?_
    refine lv_aload_n hx hb dX5_oneOf_11 rfl (lv_at hl 2 rfl) ?_
    refine q_cVr (wf := (wX5 cI cZ cS ad)) (wc := wX5 cI cZ cS ad) (rest := []) ⟨hx, hb, hml, hown, hts⟩ hK hZ hA hP hD hS hf (fun x ho => kX5_isWord l D cI cZ cS zz ad σ t2 x ho) (cwV 1 hts gX5_oneOf_X5_isWord rfl rfl rfl ndX5_isWord ⟨Nat.le_of_ble_eq_true rfl, Nat.le_of_ble_eq_true rfl⟩) [0, 1, 2] rfl rfl rfl rfl rfl rfl (hl.1) rfl (Nat.le_of_ble_eq_true rfl) dX5_oneOf_12 ⟨Nat.zero_le _, Nat.zero_le _⟩ (fun r3 H locs hf hP hD hS => ?_)
    refine q_lt_go hf (fun j5 ej5 hf => ?_)
    have Jj5 : ∀ (y4 : Int32) (H : Heap) (locs : List Loc) (ls : Array Slot), va_P D vwCl ((wX5 cI cZ cS ad) σ) H → va_D A ((wX5 cI cZ cS ad) σ) → va_S A s.heap H locs → lv_has ls 3 [] → j5 y4 = some rr → W p l e rmX5_oneOf s m ([.ref (ad 0), .ref (zz.2.1 t1), .ref (zz.2.1 t2)] : List Value).toArray below meth c H locs 0 0 Q (F0 m 23 ls [.int y4]) := by
      intro y4 H locs ls hP hD hS hl hf
      have hf := (congrFun ej5 y4).symm.trans hf
      have hi1 := Option.some.inj hf
      subst hi1
      exact hret _ _ _ _ dX5_oneOf_23 rfl hP hS
    refine lv_if_eq (tgt := 22) hx hb dX5_oneOf_15 (by decide) (fun h6 => ?_) (fun h6 => ?_)
    · have hf := (if_pos h6).symm.trans hf
      refine lv_iconst (v := -1) hx hb dX5_oneOf_22 (by decide) ?_
      exact Jj5 (-1 : Int32) _ _ _ hP hD hS (lv_sub hl [] rfl) hf
    · have hf := (if_neg h6).symm.trans hf
      refine lv_iconst (v := 0) hx hb dX5_oneOf_18 (by decide) ?_
      refine lv_goto (tgt := 23) hx hb dX5_oneOf_19 (by decide) ?_
      exact Jj5 (0 : Int32) _ _ _ hP hD hS (lv_sub hl [] rfl) hf
  · have hf := (if_neg h2).symm.trans hf
    refine lv_iconst (v := 1) hx hb dX5_oneOf_8 (by decide) ?_
    have hi1 := Option.some.inj hf
    subst hi1
    exact hret _ _ _ _ dX5_oneOf_9 rfl hP hS
def pX5_valueTold (σ : SS) (a1 : Int32) : Option Int32 := (if a1 = (2 : Int32) then q_cr (pX5_oneOf σ 6 7) (fun (r2 : Int32) => some r2) else (if a1 = (3 : Int32) then q_cr (pX5_oneOf σ 8 9) (fun (r4 : Int32) => some r4) else q_lt (fun (y5 : Int32) => q_lt (fun (y7 : Int32) => some y7) (fun j8 => (if y5 = (0 : Int32) then j8 (-1 : Int32) else j8 (σ 0 4)))) (fun j6 => q_lt (j6 (0 : Int32)) (fun j10 => (if (σ 0 1) = (2 : Int32) then q_rd k_ldeed 6 a1 (fun (v12 : Int32) => q_rd k_mdeed 6 a1 (fun (v13 : Int32) => q_cr (pX11_within (σ 0 4) v12 v13) (fun (r14 : Int32) => (if r14 = (0 : Int32) then j10 else j6 (1 : Int32))))) else j10)))))
theorem fwX5_valueTold_X5 : ∀ w ∈ wsX50, w ∈ wsX5_valueTold := fun _ h => List.mem_cons_of_mem _ (List.mem_append_left _ (List.mem_append_right _ h))
abbrev rmX5_valueTold : Room := { frames := 6, cells := 0, slots := 0, locals := 155 }
set_option maxHeartbeats 4000000 in
set_option maxRecDepth 100000 in
theorem kX5_valueTold (l : Launch) (D : va_G) (cI cZ cS : ClassId) (zz : ZT) (ad : Nat → Nat) (σ : SS) (a1 : Int32) (rr : Int32) (hf : pX5_valueTold σ a1 = some rr) : CI l yX5_valueTold wsX5_valueTold rmX5_valueTold D (K3 cI cZ cS) zz [.ref (ad 0), .int a1] (wX5 cI cZ cS ad σ) (wX5 cI cZ cS ad σ) rr := by
  refine q_ofI (cc := cX5_valueTold) (maxL := 3) (ty := .int) (by decide) rfl (Nat.le_of_ble_eq_true rfl) ?_
  intro p e s m below meth c Q A ls hx hb hml hown hts hK hZ hA hP hD hS hl hret
  have hl : lv_has ls 3 [(0, .ref (ad 0)), (1, .int a1)] := hl
  unfold pX5_valueTold at hf
  refine lv_iload_n hx hb dX5_valueTold_0 rfl (lv_at hl 1 rfl) ?_
  by_cases h1 : a1 = (2 : Int32)
  · have hf := (if_pos h1).symm.trans hf
    refine lv_lookup (off := 27) (tgt := 28) hx hb dX5_valueTold_1 (by decide) (by rw [h1]; decide) (by decide) ?_
    refine lv_aload_n hx hb dX5_valueTold_28 rfl (lv_at hl 0 rfl) ?_
    refine va_ldcS hx hb hown hZ.2.2.2.2.2.2.2.1.2.2.2.2.2.2.1.1 dX5_valueTold_29 ?_
    refine va_ldcS hx hb hown hZ.2.2.2.2.2.2.2.1.2.2.2.2.2.2.2.1.1 dX5_valueTold_31 ?_
    refine q_cVr (wf := (wX5 cI cZ cS ad)) (wc := wX5 cI cZ cS ad) (rest := []) ⟨hx, hb, hml, hown, hts⟩ hK hZ hA hP hD hS hf (fun x ho => kX5_oneOf l D cI cZ cS zz ad σ 6 7 x ho) (cwV 2 hts gX5_valueTold_X5_oneOf rfl rfl rfl ndX5_oneOf ⟨Nat.le_of_ble_eq_true rfl, Nat.le_of_ble_eq_true rfl⟩) [0, 1, 2] rfl rfl rfl rfl rfl rfl (hl.1) rfl (Nat.le_of_ble_eq_true rfl) dX5_valueTold_33 ⟨Nat.zero_le _, Nat.zero_le _⟩ (fun r2 H locs hf hP hD hS => ?_)
    have hi1 := Option.some.inj hf
    subst hi1
    exact hret _ _ _ _ dX5_valueTold_36 rfl hP hS
  have hf := (if_neg h1).symm.trans hf
  by_cases h3 : a1 = (3 : Int32)
  · have hf := (if_pos h3).symm.trans hf
    refine lv_lookup (off := 36) (tgt := 37) hx hb dX5_valueTold_1 (by decide) (by rw [h3]; decide) (by decide) ?_
    refine lv_aload_n hx hb dX5_valueTold_37 rfl (lv_at hl 0 rfl) ?_
    refine va_ldcS hx hb hown hZ.2.2.2.2.2.2.2.1.2.2.2.2.2.2.2.2.1.1 dX5_valueTold_38 ?_
    refine va_ldcS hx hb hown hZ.2.2.2.2.2.2.2.1.2.2.2.2.2.2.2.2.2.1 dX5_valueTold_40 ?_
    refine q_cVr (wf := (wX5 cI cZ cS ad)) (wc := wX5 cI cZ cS ad) (rest := []) ⟨hx, hb, hml, hown, hts⟩ hK hZ hA hP hD hS hf (fun x ho => kX5_oneOf l D cI cZ cS zz ad σ 8 9 x ho) (cwV 2 hts gX5_valueTold_X5_oneOf rfl rfl rfl ndX5_oneOf ⟨Nat.le_of_ble_eq_true rfl, Nat.le_of_ble_eq_true rfl⟩) [0, 1, 2] rfl rfl rfl rfl rfl rfl (hl.1) rfl (Nat.le_of_ble_eq_true rfl) dX5_valueTold_42 ⟨Nat.zero_le _, Nat.zero_le _⟩ (fun r4 H locs hf hP hD hS => ?_)
    have hi1 := Option.some.inj hf
    subst hi1
    exact hret _ _ _ _ dX5_valueTold_45 rfl hP hS
  have hf := (if_neg h3).symm.trans hf
  refine lv_lookup (off := 45) (tgt := 46) hx hb dX5_valueTold_1 (by decide) (by simp [Op.lookupswitch.offset_cons, Op.lookupswitch.offset_nil, (q_ne h1 (z := 2) rfl).symm, (q_ne h3 (z := 3) rfl).symm]) (by decide) ?_
  refine lv_aload_n hx hb dX5_valueTold_46 rfl (lv_at hl 0 rfl) ?_
  refine va_get (D := D) (ci := 5) (C := RX5) (T := TX5) (N := 5) hx hb hts fwX5_valueTold_X5 hown hK hP 0 rfl rfl 1 (by decide) (hts _ (List.mem_of_getElem? (i := 1) rfl)) (fun _ h9 => h9) rfl dX5_valueTold_47 ?_
  refine lv_iconst (v := 2) hx hb dX5_valueTold_50 (by decide) ?_
  refine q_lt_go hf (fun j6 ej6 hf => ?_)
  have Jj6 : ∀ (y5 : Int32) (H : Heap) (locs : List Loc) (ls : Array Slot), va_P D vwCl ((wX5 cI cZ cS ad) σ) H → va_D A ((wX5 cI cZ cS ad) σ) → va_S A s.heap H locs → lv_has ls 3 [(0, .ref (ad 0))] → j6 y5 = some rr → W p l e rmX5_valueTold s m ([.ref (ad 0), .int a1] : List Value).toArray below meth c H locs 0 0 Q (F0 m 79 ls [.int y5]) := by
    intro y5 H locs ls hP hD hS hl hf
    have hf := (congrFun ej6 y5).symm.trans hf
    refine lv_istore_n (lv' := [(2, .int y5), (0, .ref (ad 0))]) hx hb dX5_valueTold_79 rfl hl (by decide) rfl (fun ls hl => ?_)
    refine lv_iload_n hx hb dX5_valueTold_80 rfl (lv_at hl 0 rfl) ?_
    refine q_lt_go hf (fun j8 ej8 hf => ?_)
    have Jj8 : ∀ (y7 : Int32) (H : Heap) (locs : List Loc) (ls : Array Slot), va_P D vwCl ((wX5 cI cZ cS ad) σ) H → va_D A ((wX5 cI cZ cS ad) σ) → va_S A s.heap H locs → lv_has ls 3 [] → j8 y7 = some rr → W p l e rmX5_valueTold s m ([.ref (ad 0), .int a1] : List Value).toArray below meth c H locs 0 0 Q (F0 m 92 ls [.int y7]) := by
      intro y7 H locs ls hP hD hS hl hf
      have hf := (congrFun ej8 y7).symm.trans hf
      have hi1 := Option.some.inj hf
      subst hi1
      exact hret _ _ _ _ dX5_valueTold_92 rfl hP hS
    refine lv_if_eq (tgt := 91) hx hb dX5_valueTold_81 (by decide) (fun h9 => ?_) (fun h9 => ?_)
    · have hf := (if_pos h9).symm.trans hf
      refine lv_iconst (v := -1) hx hb dX5_valueTold_91 (by decide) ?_
      exact Jj8 (-1 : Int32) _ _ _ hP hD hS (lv_sub hl [] rfl) hf
    · have hf := (if_neg h9).symm.trans hf
      refine lv_aload_n hx hb dX5_valueTold_84 rfl (lv_at hl 1 rfl) ?_
      refine va_get (D := D) (ci := 5) (C := RX5) (T := TX5) (N := 5) hx hb hts fwX5_valueTold_X5 hown hK hP 0 rfl rfl 4 (by decide) (hts _ (List.mem_of_getElem? (i := 2) rfl)) (fun _ h9 => h9) rfl dX5_valueTold_85 ?_
      refine lv_goto (tgt := 92) hx hb dX5_valueTold_88 (by decide) ?_
      exact Jj8 (σ 0 4) _ _ _ hP hD hS (lv_sub hl [] rfl) hf
  refine q_lt_go hf (fun j10 ej10 hf => ?_)
  have Jj10 : ∀ (H : Heap) (locs : List Loc) (ls : Array Slot), va_P D vwCl ((wX5 cI cZ cS ad) σ) H → va_D A ((wX5 cI cZ cS ad) σ) → va_S A s.heap H locs → lv_has ls 3 [(0, .ref (ad 0))] → j10 = some rr → W p l e rmX5_valueTold s m ([.ref (ad 0), .int a1] : List Value).toArray below meth c H locs 0 0 Q (F0 m 78 ls []) := by
    intro  H locs ls hP hD hS hl hf
    have hf := ej10.symm.trans hf
    refine lv_iconst (v := 0) hx hb dX5_valueTold_78 (by decide) ?_
    exact Jj6 (0 : Int32) _ _ _ hP hD hS (lv_sub hl [0] rfl) hf
  refine lv_icmp_ne (tgt := 78) hx hb dX5_valueTold_51 (by decide) (fun h11 => ?_) (fun h11 => ?_)
  · have hf := (if_neg h11).symm.trans hf
    exact Jj10  _ _ _ hP hD hS (lv_sub hl [0] rfl) hf
  · have hf := (if_pos h11).symm.trans hf
    refine lv_aload_n hx hb dX5_valueTold_54 rfl (lv_at hl 0 rfl) ?_
    refine va_get (D := D) (ci := 5) (C := RX5) (T := TX5) (N := 5) hx hb hts fwX5_valueTold_X5 hown hK hP 0 rfl rfl 4 (by decide) (hts _ (List.mem_of_getElem? (i := 2) rfl)) (fun _ h9 => h9) rfl dX5_valueTold_55 ?_
    refine va_getsN hx hb hZ.2.2.2.1.1 hS hown (va_Nw.use rfl hZ.2.2.2.2.2.1.2.1) (fun _ h9 => h9) dX5_valueTold_58 ?_
    refine lv_iload_n hx hb dX5_valueTold_61 rfl (lv_at hl 1 rfl) ?_
    refine w_tald hx hb hZ.2.2.2.1 hS hf dX5_valueTold_62 (fun v12 hf => ?_)
    refine va_getsN hx hb hZ.2.2.2.2.1.1 hS hown (va_Nw.use rfl hZ.2.2.2.2.2.1.2.2.1) (fun _ h9 => h9) dX5_valueTold_63 ?_
    refine lv_iload_n hx hb dX5_valueTold_66 rfl (lv_at hl 1 rfl) ?_
    refine w_tald hx hb hZ.2.2.2.2.1 hS hf dX5_valueTold_67 (fun v13 hf => ?_)
    refine q_cNr (wf := (wX5 cI cZ cS ad)) (rest := []) ⟨hx, hb, hml, hown, hts⟩ hK hZ hA hP hD hS hf (fun x ho => kX11_within l D cI cZ cS zz (σ 0 4) v12 v13 x ho) ⟨va_cnB 3 hts gX5_valueTold_X11_within_n92 rfl rfl rfl hZ.2.2.2.2.2.1.2.2.2.2.1 (hts _ (List.mem_of_getElem? (i := 66) rfl)) ndX11_within.2 ⟨Nat.le_of_ble_eq_true rfl, Nat.le_of_ble_eq_true rfl⟩, (hts _ (List.mem_of_getElem? (i := 65) rfl)), trivial⟩ rfl (hl.1) rfl (Nat.le_of_ble_eq_true rfl) dX5_valueTold_68 ⟨Nat.zero_le _, Nat.zero_le _⟩ (fun r14 H locs hf hP hD hS => ?_)
    refine lv_if_eq (tgt := 78) hx hb dX5_valueTold_71 (by decide) (fun h15 => ?_) (fun h15 => ?_)
    · have hf := (if_pos h15).symm.trans hf
      exact Jj10  _ _ _ hP hD hS (lv_sub hl [0] rfl) hf
    · have hf := (if_neg h15).symm.trans hf
      refine lv_iconst (v := 1) hx hb dX5_valueTold_74 (by decide) ?_
      refine lv_goto (tgt := 79) hx hb dX5_valueTold_75 (by decide) ?_
      exact Jj6 (1 : Int32) _ _ _ hP hD hS (lv_sub hl [0] rfl) hf
def pX5_readDeed (σ : SS) (a2 : Int32) : Option (Int32 × SS) := q_cs (pX5_readToken (q_sb σ 0)) (fun (τ : SS) => (q_em σ 0 0 3 τ)) (fun (σ1 : SS) => q_cr (pX5_deedTold (q_sb σ1 0)) (fun (r2 : Int32) => (if r2 = (-1 : Int32) then q_zz (0 : Int32) (some ((0 : Int32), σ1)) else q_cs (pX5_readToken (q_sb σ1 0)) (fun (τ : SS) => (q_em σ1 0 0 3 τ)) (fun (σ4 : SS) => q_cr (pX5_valueTold (q_sb σ4 0) r2) (fun (r5 : Int32) => (if r5 = (-1 : Int32) then q_zz (0 : Int32) (some ((0 : Int32), σ4)) else q_cs (pX7_putNext (q_sb σ4 3) a2 r2 r5) (fun (τ : SS) => (q_em σ4 3 0 4 τ)) (fun (σ7 : SS) => q_zz (1 : Int32) (some ((1 : Int32), σ7)))))))))
abbrev rmX5_readDeed : Room := { frames := 7, cells := 0, slots := 0, locals := 177 }
set_option maxHeartbeats 4000000 in
set_option maxRecDepth 100000 in
theorem kX5_readDeed (l : Launch) (D : va_G) (cI cZ cS : ClassId) (zz : ZT) (ad : Nat → Nat) (σ : SS) (a2 : Int32) (rr : Int32) (σr : SS) (hf : pX5_readDeed σ a2 = some (rr, σr)) : CI l yX5_readDeed wsX5_readDeed rmX5_readDeed D (K3 cI cZ cS) zz [.ref (ad 0), .ref (ad 3), .int a2] (wX5_X7 cI cZ cS ad σ) (wX5_X7 cI cZ cS ad σr) rr := by
  refine q_ofI (cc := cX5_readDeed) (maxL := 5) (ty := .boolean) (by decide) rfl (Nat.le_of_ble_eq_true rfl) ?_
  intro p e s m below meth c Q A ls hx hb hml hown hts hK hZ hA hP hD hS hl hret
  have hl : lv_has ls 5 [(0, .ref (ad 0)), (1, .ref (ad 3)), (2, .int a2)] := hl
  unfold pX5_readDeed at hf
  refine lv_aload_n hx hb dX5_readDeed_0 rfl (lv_at hl 0 rfl) ?_
  refine q_cVv (wf := (wX5_X7 cI cZ cS ad)) (wc := wX5 cI cZ cS (fun i => ad (0 + i))) (rest := []) ⟨hx, hb, hml, hown, hts⟩ hK hZ hA hP hD hS hf (fun x ho => kX5_readToken l D cI cZ cS zz (fun i => ad (0 + i)) (q_sb σ 0) x ho) (cwV 0 hts gX5_readDeed_X5_readToken rfl rfl rfl ndX5_readToken ⟨Nat.le_of_ble_eq_true rfl, Nat.le_of_ble_eq_true rfl⟩) [0, 1, 2] rfl rfl [some 0, some 1, some 2, none, none, none, none] (by decide +kernel) (Nat.le_of_ble_eq_true rfl) (fun _ => rfl) (fun _ => rfl) (fun _ => rfl) rfl rfl rfl rfl (hl.1) rfl (Nat.le_of_ble_eq_true rfl) dX5_readDeed_1 ⟨Nat.zero_le _, Nat.zero_le _⟩ (fun σ1 H locs hf hP hD hS => ?_)
  refine lv_aload_n hx hb dX5_readDeed_4 rfl (lv_at hl 0 rfl) ?_
  refine q_cVr (wf := (wX5_X7 cI cZ cS ad)) (wc := wX5 cI cZ cS (fun i => ad (0 + i))) (rest := []) ⟨hx, hb, hml, hown, hts⟩ hK hZ hA hP hD hS hf (fun x ho => kX5_deedTold l D cI cZ cS zz (fun i => ad (0 + i)) (q_sb σ1 0) x ho) (cwV 0 hts gX5_readDeed_X5_deedTold rfl rfl rfl ndX5_deedTold ⟨Nat.le_of_ble_eq_true rfl, Nat.le_of_ble_eq_true rfl⟩) [0, 1, 2] rfl rfl rfl rfl rfl rfl (hl.1) rfl (Nat.le_of_ble_eq_true rfl) dX5_readDeed_5 ⟨Nat.zero_le _, Nat.zero_le _⟩ (fun r2 H locs hf hP hD hS => ?_)
  refine lv_istore_n (lv' := [(3, .int r2), (0, .ref (ad 0)), (1, .ref (ad 3)), (2, .int a2)]) hx hb dX5_readDeed_8 rfl hl (by decide) rfl (fun ls hl => ?_)
  refine lv_iload_n hx hb dX5_readDeed_9 rfl (lv_at hl 0 rfl) ?_
  refine lv_iconst (v := -1) hx hb dX5_readDeed_10 (by decide) ?_
  refine lv_icmp_ne (tgt := 16) hx hb dX5_readDeed_11 (by decide) (fun h3 => ?_) (fun h3 => ?_)
  · have hf := (if_neg h3).symm.trans hf
    refine lv_aload_n hx hb dX5_readDeed_16 rfl (lv_at hl 1 rfl) ?_
    refine q_cVv (wf := (wX5_X7 cI cZ cS ad)) (wc := wX5 cI cZ cS (fun i => ad (0 + i))) (rest := []) ⟨hx, hb, hml, hown, hts⟩ hK hZ hA hP hD hS hf (fun x ho => kX5_readToken l D cI cZ cS zz (fun i => ad (0 + i)) (q_sb σ1 0) x ho) (cwV 0 hts gX5_readDeed_X5_readToken rfl rfl rfl ndX5_readToken ⟨Nat.le_of_ble_eq_true rfl, Nat.le_of_ble_eq_true rfl⟩) [0, 1, 2] rfl rfl [some 0, some 1, some 2, none, none, none, none] (by decide +kernel) (Nat.le_of_ble_eq_true rfl) (fun _ => rfl) (fun _ => rfl) (fun _ => rfl) rfl rfl rfl rfl (hl.1) rfl (Nat.le_of_ble_eq_true rfl) dX5_readDeed_17 ⟨Nat.zero_le _, Nat.zero_le _⟩ (fun σ4 H locs hf hP hD hS => ?_)
    refine lv_aload_n hx hb dX5_readDeed_20 rfl (lv_at hl 1 rfl) ?_
    refine lv_iload_n hx hb dX5_readDeed_21 rfl (lv_at hl 0 rfl) ?_
    refine q_cVr (wf := (wX5_X7 cI cZ cS ad)) (wc := wX5 cI cZ cS (fun i => ad (0 + i))) (rest := []) ⟨hx, hb, hml, hown, hts⟩ hK hZ hA hP hD hS hf (fun x ho => kX5_valueTold l D cI cZ cS zz (fun i => ad (0 + i)) (q_sb σ4 0) r2 x ho) (cwV 1 hts gX5_readDeed_X5_valueTold rfl rfl rfl ndX5_valueTold ⟨Nat.le_of_ble_eq_true rfl, Nat.le_of_ble_eq_true rfl⟩) [0, 1, 2] rfl rfl rfl rfl rfl rfl (hl.1) rfl (Nat.le_of_ble_eq_true rfl) dX5_readDeed_22 ⟨Nat.zero_le _, Nat.zero_le _⟩ (fun r5 H locs hf hP hD hS => ?_)
    refine lv_istore (lv' := [(4, .int r5), (3, .int r2), (0, .ref (ad 0)), (1, .ref (ad 3)), (2, .int a2)]) hx hb dX5_readDeed_25 hl (by decide) rfl (fun ls hl => ?_)
    refine lv_iload hx hb dX5_readDeed_27 (lv_at hl 0 rfl) ?_
    refine lv_iconst (v := -1) hx hb dX5_readDeed_29 (by decide) ?_
    refine lv_icmp_ne (tgt := 35) hx hb dX5_readDeed_30 (by decide) (fun h6 => ?_) (fun h6 => ?_)
    · have hf := (if_neg h6).symm.trans hf
      refine lv_aload_n hx hb dX5_readDeed_35 rfl (lv_at hl 3 rfl) ?_
      refine lv_iload_n hx hb dX5_readDeed_36 rfl (lv_at hl 4 rfl) ?_
      refine lv_iload_n hx hb dX5_readDeed_37 rfl (lv_at hl 1 rfl) ?_
      refine lv_iload hx hb dX5_readDeed_38 (lv_at hl 0 rfl) ?_
      refine q_cVv (wf := (wX5_X7 cI cZ cS ad)) (wc := wX7 cI cZ cS (fun i => ad (3 + i))) (rest := []) ⟨hx, hb, hml, hown, hts⟩ hK hZ hA hP hD hS hf (fun x ho => kX7_putNext l D cI cZ cS zz (fun i => ad (3 + i)) (q_sb σ4 3) a2 r2 r5 x ho) (cwV 3 hts gX5_readDeed_X7_putNext rfl rfl rfl ndX7_putNext ⟨Nat.le_of_ble_eq_true rfl, Nat.le_of_ble_eq_true rfl⟩) [3, 4, 5, 6] rfl rfl [none, none, none, some 0, some 1, some 2, some 3] (by decide +kernel) (Nat.le_of_ble_eq_true rfl) (fun _ => rfl) (fun _ => rfl) (fun _ => rfl) rfl rfl rfl rfl (hl.1) rfl (Nat.le_of_ble_eq_true rfl) dX5_readDeed_40 ⟨Nat.zero_le _, Nat.zero_le _⟩ (fun σ7 H locs hf hP hD hS => ?_)
      refine lv_iconst (v := 1) hx hb dX5_readDeed_43 (by decide) ?_
      obtain ⟨hz, hf⟩ := q_zz_o hf
      obtain ⟨hi1, hi2⟩ := Prod.mk.inj (Option.some.inj hf)
      subst hi1
      subst hi2
      exact hret _ _ _ _ dX5_readDeed_44 (q_zz_n hz).1 hP hS
    · have hf := (if_pos h6).symm.trans hf
      refine lv_iconst (v := 0) hx hb dX5_readDeed_33 (by decide) ?_
      obtain ⟨hz, hf⟩ := q_zz_o hf
      obtain ⟨hi1, hi2⟩ := Prod.mk.inj (Option.some.inj hf)
      subst hi1
      subst hi2
      exact hret _ _ _ _ dX5_readDeed_34 (q_zz_n hz).1 hP hS
  · have hf := (if_pos h3).symm.trans hf
    refine lv_iconst (v := 0) hx hb dX5_readDeed_14 (by decide) ?_
    obtain ⟨hz, hf⟩ := q_zz_o hf
    obtain ⟨hi1, hi2⟩ := Prod.mk.inj (Option.some.inj hf)
    subst hi1
    subst hi2
    exact hret _ _ _ _ dX5_readDeed_15 (q_zz_n hz).1 hP hS
def pX5_readSky (σ : SS) : Option (Int32 × SS) := q_lt (su σ 0 3 (0 : Int32)) (fun (σ1 : SS) => q_lp (fun _ _ => none) (fun (c4 : SS → Int32 → Option (Int32 × SS)) (σ3 : SS) (x2_2 : Int32) => (if (12 : Int32) ≤ x2_2 then q_cs (pX5_readToken (q_sb σ3 0)) (fun (τ : SS) => (q_em σ3 0 0 3 τ)) (fun (σ8 : SS) => some ((σ8 0 2), σ8)) else q_ci (pX5_readDeed σ3 x2_2) (fun (τ : SS) => τ) (fun (r10 : Int32) (σ9 : SS) => (if r10 = (0 : Int32) then some ((σ9 0 2), σ9) else q_cs (pX5_readToken (q_sb σ9 0)) (fun (τ : SS) => (q_em σ9 0 0 3 τ)) (fun (σ12 : SS) => (if (σ12 0 1) = (0 : Int32) then q_cs (pX7_addNext (q_sb σ12 3) (x2_2 + (1 : Int32))) (fun (τ : SS) => (q_em σ12 3 0 4 τ)) (fun (σ15 : SS) => some ((-1 : Int32), σ15)) else (if (σ12 0 1) = (3 : Int32) then c4 σ12 (x2_2 + (1 : Int32)) else some ((σ12 0 2), σ12)))))))) q_fu σ1 (0 : Int32))
theorem fwX5_readSky_X5 : ∀ w ∈ wsX50, w ∈ wsX5_readSky := fun _ h => List.mem_cons_of_mem _ (List.mem_append_left _ (List.mem_append_left _ (List.mem_append_right _ h)))
abbrev rmX5_readSky : Room := { frames := 8, cells := 0, slots := 0, locals := 201 }
set_option maxHeartbeats 4000000 in
set_option maxRecDepth 100000 in
theorem kX5_readSky (l : Launch) (D : va_G) (cI cZ cS : ClassId) (zz : ZT) (ad : Nat → Nat) (σ : SS) (rr : Int32) (σr : SS) (hf : pX5_readSky σ = some (rr, σr)) : CI l yX5_readSky wsX5_readSky rmX5_readSky D (K3 cI cZ cS) zz [.ref (ad 0), .ref (ad 3)] (wX5_X7 cI cZ cS ad σ) (wX5_X7 cI cZ cS ad σr) rr := by
  refine q_ofI (cc := cX5_readSky) (maxL := 3) (ty := .int) (by decide) rfl (Nat.le_of_ble_eq_true rfl) ?_
  intro p e s m below meth c Q A ls hx hb hml hown hts hK hZ hA hP hD hS hl hret
  have hl : lv_has ls 3 [(0, .ref (ad 0)), (1, .ref (ad 3))] := hl
  unfold pX5_readSky at hf
  refine lv_aload_n hx hb dX5_readSky_0 rfl (lv_at hl 0 rfl) ?_
  refine lv_iconst (v := 0) hx hb dX5_readSky_1 (by decide) ?_
  refine w_put (D := D) (wf := (wX5_X7 cI cZ cS ad)) (cid := 0) (ci := 5) (C := RX5) (T := TX5) (N := 5) hx hb hts fwX5_readSky_X5 tyX5 tyX5_ok nmX5 hown hK hP hD hS 0 rfl rfl 3 (by decide) (hts _ (List.mem_of_getElem? (i := 1) rfl)) (fun _ h9 => h9) rfl (tyX5_ok 3 (by decide)) (Nat.le_of_ble_eq_true rfl) hf rfl dX5_readSky_2 (fun σ1 H locs hf hP hD hS => ?_)
  refine lv_iconst (v := 0) hx hb dX5_readSky_5 (by decide) ?_
  refine lv_istore_n (lv' := [(2, .int (0 : Int32)), (0, .ref (ad 0)), (1, .ref (ad 3))]) hx hb dX5_readSky_6 rfl hl (by decide) rfl (fun ls hl => ?_)
  refine q_lp_go (f := fun (zf : SS → Int32 → Option (Int32 × SS)) => zf σ1 (0 : Int32)) hf (fun z5 ez5 hf => ?_)
  have Lz5 : ∀ (n6 : Nat) (σ3 : SS) (x2_2 : Int32) (H : Heap) (locs : List Loc) (ls : Array Slot), va_P D vwCl ((wX5_X7 cI cZ cS ad) σ3) H → va_D A ((wX5_X7 cI cZ cS ad) σ3) → va_S A s.heap H locs → lv_has ls 3 [(0, .ref (ad 0)), (1, .ref (ad 3)), (2, .int x2_2)] → q_lp (fun _ _ => none) z5 n6 σ3 x2_2 = some (rr, σr) → W p l e rmX5_readSky s m ([.ref (ad 0), .ref (ad 3)] : List Value).toArray below meth c H locs 0 0 Q (F0 m 7 ls []) := by
    intro n6
    induction n6 with
    | zero => exact fun _ _ _ _ _ _ _ _ _ hf => q_no hf
    | succ n6 ihz5 =>
      intro σ3 x2_2 H locs ls hP hD hS hl hf
      have hf := (congrFun (congrFun (congrFun ez5 (q_lp (fun _ _ => none) z5 n6)) σ3) x2_2).symm.trans hf
      refine lv_iload_n hx hb dX5_readSky_7 rfl (lv_at hl 2 rfl) ?_
      refine lv_bipush (v := 12) hx hb dX5_readSky_8 (by decide) ?_
      refine lv_icmp_ge (tgt := 66) hx hb dX5_readSky_10 (by decide) (fun h7 => ?_) (fun h7 => ?_)
      · have hf := (if_pos h7).symm.trans hf
        refine lv_aload_n hx hb dX5_readSky_66 rfl (lv_at hl 0 rfl) ?_
        refine q_cVv (wf := (wX5_X7 cI cZ cS ad)) (wc := wX5 cI cZ cS (fun i => ad (0 + i))) (rest := []) ⟨hx, hb, hml, hown, hts⟩ hK hZ hA hP hD hS hf (fun x ho => kX5_readToken l D cI cZ cS zz (fun i => ad (0 + i)) (q_sb σ3 0) x ho) (cwV 0 hts gX5_readSky_X5_readToken rfl rfl rfl ndX5_readToken ⟨Nat.le_of_ble_eq_true rfl, Nat.le_of_ble_eq_true rfl⟩) [0, 1, 2] rfl rfl [some 0, some 1, some 2, none, none, none, none] (by decide +kernel) (Nat.le_of_ble_eq_true rfl) (fun _ => rfl) (fun _ => rfl) (fun _ => rfl) rfl rfl rfl rfl (hl.1) rfl (Nat.le_of_ble_eq_true rfl) dX5_readSky_67 ⟨Nat.zero_le _, Nat.zero_le _⟩ (fun σ8 H locs hf hP hD hS => ?_)
        refine lv_aload_n hx hb dX5_readSky_70 rfl (lv_at hl 0 rfl) ?_
        refine va_get (D := D) (ci := 5) (C := RX5) (T := TX5) (N := 5) hx hb hts fwX5_readSky_X5 hown hK hP 0 rfl rfl 2 (by decide) (hts _ (List.mem_of_getElem? (i := 2) rfl)) (fun _ h9 => h9) rfl dX5_readSky_71 ?_
        obtain ⟨hi1, hi2⟩ := Prod.mk.inj (Option.some.inj hf)
        subst hi1
        subst hi2
        exact hret _ _ _ _ dX5_readSky_74 rfl hP hS
      · have hf := (if_neg h7).symm.trans hf
        refine lv_aload_n hx hb dX5_readSky_13 rfl (lv_at hl 0 rfl) ?_
        refine lv_aload_n hx hb dX5_readSky_14 rfl (lv_at hl 1 rfl) ?_
        refine lv_iload_n hx hb dX5_readSky_15 rfl (lv_at hl 2 rfl) ?_
        refine q_cVi (wf := (wX5_X7 cI cZ cS ad)) (wc := wX5_X7 cI cZ cS ad) (rest := []) ⟨hx, hb, hml, hown, hts⟩ hK hZ hA hP hD hS hf (fun x τ ho => kX5_readDeed l D cI cZ cS zz ad σ3 x2_2 x τ ho) (cwV 2 hts gX5_readSky_X5_readDeed rfl rfl rfl ndX5_readDeed ⟨Nat.le_of_ble_eq_true rfl, Nat.le_of_ble_eq_true rfl⟩) [0, 1, 2, 3, 4, 5, 6] rfl rfl [some 0, some 1, some 2, some 3, some 4, some 5, some 6] (by decide +kernel) (Nat.le_of_ble_eq_true rfl) (fun _ => rfl) (fun _ => rfl) (fun _ => rfl) rfl rfl rfl rfl (hl.1) rfl (Nat.le_of_ble_eq_true rfl) dX5_readSky_16 ⟨Nat.zero_le _, Nat.zero_le _⟩ (fun r10 σ9 H locs hf hP hD hS => ?_)
        refine lv_if_ne (tgt := 27) hx hb dX5_readSky_19 (by decide) (fun h11 => ?_) (fun h11 => ?_)
        · have hf := (if_neg h11).symm.trans hf
          refine lv_aload_n hx hb dX5_readSky_27 rfl (lv_at hl 0 rfl) ?_
          refine q_cVv (wf := (wX5_X7 cI cZ cS ad)) (wc := wX5 cI cZ cS (fun i => ad (0 + i))) (rest := []) ⟨hx, hb, hml, hown, hts⟩ hK hZ hA hP hD hS hf (fun x ho => kX5_readToken l D cI cZ cS zz (fun i => ad (0 + i)) (q_sb σ9 0) x ho) (cwV 0 hts gX5_readSky_X5_readToken rfl rfl rfl ndX5_readToken ⟨Nat.le_of_ble_eq_true rfl, Nat.le_of_ble_eq_true rfl⟩) [0, 1, 2] rfl rfl [some 0, some 1, some 2, none, none, none, none] (by decide +kernel) (Nat.le_of_ble_eq_true rfl) (fun _ => rfl) (fun _ => rfl) (fun _ => rfl) rfl rfl rfl rfl (hl.1) rfl (Nat.le_of_ble_eq_true rfl) dX5_readSky_28 ⟨Nat.zero_le _, Nat.zero_le _⟩ (fun σ12 H locs hf hP hD hS => ?_)
          refine lv_aload_n hx hb dX5_readSky_31 rfl (lv_at hl 0 rfl) ?_
          refine va_get (D := D) (ci := 5) (C := RX5) (T := TX5) (N := 5) hx hb hts fwX5_readSky_X5 hown hK hP 0 rfl rfl 1 (by decide) (hts _ (List.mem_of_getElem? (i := 3) rfl)) (fun _ h9 => h9) rfl dX5_readSky_32 ?_
          refine lv_if_ne (tgt := 47) hx hb dX5_readSky_35 (by decide) (fun h13 => ?_) (fun h13 => ?_)
          · have hf := (if_neg h13).symm.trans hf
            refine lv_aload_n hx hb dX5_readSky_47 rfl (lv_at hl 0 rfl) ?_
            refine va_get (D := D) (ci := 5) (C := RX5) (T := TX5) (N := 5) hx hb hts fwX5_readSky_X5 hown hK hP 0 rfl rfl 1 (by decide) (hts _ (List.mem_of_getElem? (i := 3) rfl)) (fun _ h9 => h9) rfl dX5_readSky_48 ?_
            refine lv_iconst (v := 3) hx hb dX5_readSky_51 (by decide) ?_
            refine lv_icmp_eq (tgt := 60) hx hb dX5_readSky_52 (by decide) (fun h14 => ?_) (fun h14 => ?_)
            · have hf := (if_pos h14).symm.trans hf
              refine lv_iinc (v := (x2_2 + (1 : Int32))) (lv' := [(2, .int (x2_2 + (1 : Int32))), (0, .ref (ad 0)), (1, .ref (ad 3))]) hx hb dX5_readSky_60 hl (k := 2) rfl rfl (by decide) rfl (fun ls hl => ?_)
              refine lv_goto (tgt := 7) hx hb dX5_readSky_63 (by decide) ?_
              exact ihz5 σ12 (x2_2 + (1 : Int32)) _ _ _ hP hD hS (lv_sub hl [1, 2, 0] rfl) hf
            · have hf := (if_neg h14).symm.trans hf
              refine lv_aload_n hx hb dX5_readSky_55 rfl (lv_at hl 0 rfl) ?_
              refine va_get (D := D) (ci := 5) (C := RX5) (T := TX5) (N := 5) hx hb hts fwX5_readSky_X5 hown hK hP 0 rfl rfl 2 (by decide) (hts _ (List.mem_of_getElem? (i := 2) rfl)) (fun _ h9 => h9) rfl dX5_readSky_56 ?_
              obtain ⟨hi1, hi2⟩ := Prod.mk.inj (Option.some.inj hf)
              subst hi1
              subst hi2
              exact hret _ _ _ _ dX5_readSky_59 rfl hP hS
          · have hf := (if_pos h13).symm.trans hf
            refine lv_aload_n hx hb dX5_readSky_38 rfl (lv_at hl 1 rfl) ?_
            refine lv_iload_n hx hb dX5_readSky_39 rfl (lv_at hl 2 rfl) ?_
            refine lv_iconst (v := 1) hx hb dX5_readSky_40 (by decide) ?_
            refine lv_iadd hx hb dX5_readSky_41 ?_
            refine q_cVv (wf := (wX5_X7 cI cZ cS ad)) (wc := wX7 cI cZ cS (fun i => ad (3 + i))) (rest := []) ⟨hx, hb, hml, hown, hts⟩ hK hZ hA hP hD hS hf (fun x ho => kX7_addNext l D cI cZ cS zz (fun i => ad (3 + i)) (q_sb σ12 3) (x2_2 + (1 : Int32)) x ho) (cwV 1 hts gX5_readSky_X7_addNext rfl rfl rfl ndX7_addNext ⟨Nat.le_of_ble_eq_true rfl, Nat.le_of_ble_eq_true rfl⟩) [3, 4, 5, 6] rfl rfl [none, none, none, some 0, some 1, some 2, some 3] (by decide +kernel) (Nat.le_of_ble_eq_true rfl) (fun _ => rfl) (fun _ => rfl) (fun _ => rfl) rfl rfl rfl rfl (hl.1) rfl (Nat.le_of_ble_eq_true rfl) dX5_readSky_42 ⟨Nat.zero_le _, Nat.zero_le _⟩ (fun σ15 H locs hf hP hD hS => ?_)
            refine lv_iconst (v := -1) hx hb dX5_readSky_45 (by decide) ?_
            obtain ⟨hi1, hi2⟩ := Prod.mk.inj (Option.some.inj hf)
            subst hi1
            subst hi2
            exact hret _ _ _ _ dX5_readSky_46 rfl hP hS
        · have hf := (if_pos h11).symm.trans hf
          refine lv_aload_n hx hb dX5_readSky_22 rfl (lv_at hl 0 rfl) ?_
          refine va_get (D := D) (ci := 5) (C := RX5) (T := TX5) (N := 5) hx hb hts fwX5_readSky_X5 hown hK hP 0 rfl rfl 2 (by decide) (hts _ (List.mem_of_getElem? (i := 2) rfl)) (fun _ h9 => h9) rfl dX5_readSky_23 ?_
          obtain ⟨hi1, hi2⟩ := Prod.mk.inj (Option.some.inj hf)
          subst hi1
          subst hi2
          exact hret _ _ _ _ dX5_readSky_26 rfl hP hS
  exact Lz5 q_fu σ1 (0 : Int32) _ _ _ hP hD hS (lv_sub hl [1, 2, 0] rfl) hf
def pX11_sky (σ : SS) : Option (Int32 × SS) := (if (σ 16 0) < (6 : Int32) then q_ci (pX5_readSky (q_ap 1 (q_sb σ 42) (q_ap 2 (q_sb σ 40) (q_sb σ 16)))) (fun (τ : SS) => (q_em (q_em (q_em σ 42 0 1 τ) 40 1 2 τ) 16 3 4 τ)) (fun (r3 : Int32) (σ2 : SS) => q_lt (su σ2 40 1 (0 : Int32)) (fun (σ4 : SS) => q_lt (fun (y5 : Int32) => some (y5, σ4)) (fun j6 => (if r3 = (-1 : Int32) then j6 ((σ4 16 0) - (1 : Int32)) else j6 ((-1 : Int32) - r3))))) else q_ci (pX11_tell σ (-1000002 : Int32)) (fun (τ : SS) => τ) (fun (r9 : Int32) (σ8 : SS) => some (r9, σ8)))
theorem fwX11_sky_X11 : ∀ w ∈ wsX110, w ∈ wsX11_sky := fun _ h => List.mem_cons_of_mem _ (List.mem_append_left _ (List.mem_append_left _ (List.mem_append_left _ (List.mem_append_left _ (List.mem_append_right _ h)))))
theorem fwX11_sky_X2 : ∀ w ∈ wsX20, w ∈ wsX11_sky := fun _ h => List.mem_cons_of_mem _ (List.mem_append_left _ (List.mem_append_left _ (List.mem_append_left _ (List.mem_append_right _ h))))
theorem fwX11_sky_X7 : ∀ w ∈ wsX70, w ∈ wsX11_sky := fun _ h => List.mem_cons_of_mem _ (List.mem_append_left _ (List.mem_append_left _ (List.mem_append_right _ h)))
theorem fwX11_sky_X8 : ∀ w ∈ wsX80, w ∈ wsX11_sky := fun _ h => List.mem_cons_of_mem _ (List.mem_append_left _ (List.mem_append_right _ h))
abbrev rmX11_sky : Room := { frames := 9, cells := 0, slots := 0, locals := 223 }
set_option maxHeartbeats 4000000 in
set_option maxRecDepth 100000 in
theorem kX11_sky (l : Launch) (D : va_G) (cI cZ cS : ClassId) (zz : ZT) (ad : Nat → Nat) (σ : SS) (rr : Int32) (σr : SS) (hf : pX11_sky σ = some (rr, σr)) : CI l yX11_sky wsX11_sky rmX11_sky D (K3 cI cZ cS) zz [.ref (ad 0)] (wX11 cI cZ cS ad σ) (wX11 cI cZ cS ad σr) rr := by
  refine q_ofI (cc := cX11_sky) (maxL := 2) (ty := .int) (by decide) rfl (Nat.le_of_ble_eq_true rfl) ?_
  intro p e s m below meth c Q A ls hx hb hml hown hts hK hZ hA hP hD hS hl hret
  have hl : lv_has ls 2 [(0, .ref (ad 0))] := hl
  unfold pX11_sky at hf
  refine lv_aload_n hx hb dX11_sky_0 rfl (lv_at hl 0 rfl) ?_
  refine va_get (D := D) (ci := 11) (C := RX11) (T := TX11) (N := 9) hx hb hts fwX11_sky_X11 hown hK hP 0 rfl rfl 1 (by decide) (hts _ (List.mem_of_getElem? (i := 1) rfl)) (fun _ h9 => h9) rfl dX11_sky_1 ?_
  refine va_get (D := D) (ci := 2) (C := RX2) (T := TX2) (N := 4) hx hb hts fwX11_sky_X2 hown hK hP 2 rfl rfl 1 (by decide) (hts _ (List.mem_of_getElem? (i := 2) rfl)) (fun _ h9 => h9) rfl dX11_sky_4 ?_
  refine va_get (D := D) (ci := 7) (C := RX7) (T := TX7) (N := 4) hx hb hts fwX11_sky_X7 hown hK hP 16 rfl rfl 0 (by decide) (hts _ (List.mem_of_getElem? (i := 3) rfl)) (fun _ h9 => h9) rfl dX11_sky_7 ?_
  refine lv_bipush (v := 6) hx hb dX11_sky_10 (by decide) ?_
  refine lv_icmp_lt (tgt := 22) hx hb dX11_sky_12 (by decide) (fun h1 => ?_) (fun h1 => ?_)
  · have hf := (if_pos h1).symm.trans hf
    refine lv_aload_n hx hb dX11_sky_22 rfl (lv_at hl 0 rfl) ?_
    refine va_get (D := D) (ci := 11) (C := RX11) (T := TX11) (N := 9) hx hb hts fwX11_sky_X11 hown hK hP 0 rfl rfl 5 (by decide) (hts _ (List.mem_of_getElem? (i := 5) rfl)) (fun _ h9 => h9) rfl dX11_sky_23 ?_
    refine lv_aload_n hx hb dX11_sky_26 rfl (lv_at hl 0 rfl) ?_
    refine va_get (D := D) (ci := 11) (C := RX11) (T := TX11) (N := 9) hx hb hts fwX11_sky_X11 hown hK hP 0 rfl rfl 1 (by decide) (hts _ (List.mem_of_getElem? (i := 1) rfl)) (fun _ h9 => h9) rfl dX11_sky_27 ?_
    refine va_get (D := D) (ci := 2) (C := RX2) (T := TX2) (N := 4) hx hb hts fwX11_sky_X2 hown hK hP 2 rfl rfl 1 (by decide) (hts _ (List.mem_of_getElem? (i := 2) rfl)) (fun _ h9 => h9) rfl dX11_sky_30 ?_
    refine q_cVi (wf := (wX11 cI cZ cS ad)) (wc := wX5_X7 cI cZ cS (fun i => ad (if i < 1 then 42 + i else if i < 3 then 40 + (i - 1) else 16 + (i - 3)))) (rest := []) ⟨hx, hb, hml, hown, hts⟩ hK hZ hA hP hD hS hf (fun x τ ho => kX5_readSky l D cI cZ cS zz (fun i => ad (if i < 1 then 42 + i else if i < 3 then 40 + (i - 1) else 16 + (i - 3))) (q_ap 1 (q_sb σ 42) (q_ap 2 (q_sb σ 40) (q_sb σ 16))) x τ ho) (cwV 1 hts gX11_sky_X5_readSky rfl rfl rfl ndX5_readSky ⟨Nat.le_of_ble_eq_true rfl, Nat.le_of_ble_eq_true rfl⟩) [42, 40, 41, 16, 17, 18, 19] rfl rfl [none, none, none, none, none, none, none, none, none, none, none, none, none, none, none, none, some 3, some 4, some 5, some 6, none, none, none, none, none, none, none, none, none, none, none, none, none, none, none, none, none, none, none, none, some 1, some 2, some 0, none, none, none, none, none, none, none, none, none, none, none, none, none, none, none, none, none, none, none, none, none, none, none, none, none, none, none, none, none] (by decide +kernel) (Nat.le_of_ble_eq_true rfl) (fun _ => rfl) (fun _ => rfl) (fun _ => rfl) rfl rfl rfl rfl (hl.1) rfl (Nat.le_of_ble_eq_true rfl) dX11_sky_33 ⟨Nat.zero_le _, Nat.zero_le _⟩ (fun r3 σ2 H locs hf hP hD hS => ?_)
    refine lv_istore_n (lv' := [(1, .int r3), (0, .ref (ad 0))]) hx hb dX11_sky_36 rfl hl (by decide) rfl (fun ls hl => ?_)
    refine lv_aload_n hx hb dX11_sky_37 rfl (lv_at hl 1 rfl) ?_
    refine va_get (D := D) (ci := 11) (C := RX11) (T := TX11) (N := 9) hx hb hts fwX11_sky_X11 hown hK hP 0 rfl rfl 4 (by decide) (hts _ (List.mem_of_getElem? (i := 6) rfl)) (fun _ h9 => h9) rfl dX11_sky_38 ?_
    refine lv_iconst (v := 0) hx hb dX11_sky_41 (by decide) ?_
    refine w_put (D := D) (wf := (wX11 cI cZ cS ad)) (cid := 40) (ci := 8) (C := RX8) (T := TX8) (N := 2) hx hb hts fwX11_sky_X8 tyX8 tyX8_ok nmX8 hown hK hP hD hS 40 rfl rfl 1 (by decide) (hts _ (List.mem_of_getElem? (i := 7) rfl)) (fun _ h9 => h9) rfl (tyX8_ok 1 (by decide)) (Nat.le_of_ble_eq_true rfl) hf rfl dX11_sky_42 (fun σ4 H locs hf hP hD hS => ?_)
    refine lv_iload_n hx hb dX11_sky_45 rfl (lv_at hl 0 rfl) ?_
    refine lv_iconst (v := -1) hx hb dX11_sky_46 (by decide) ?_
    refine q_lt_go hf (fun j6 ej6 hf => ?_)
    have Jj6 : ∀ (y5 : Int32) (H : Heap) (locs : List Loc) (ls : Array Slot), va_P D vwCl ((wX11 cI cZ cS ad) σ4) H → va_D A ((wX11 cI cZ cS ad) σ4) → va_S A s.heap H locs → lv_has ls 2 [] → j6 y5 = some (rr, σr) → W p l e rmX11_sky s m ([.ref (ad 0)] : List Value).toArray below meth c H locs 0 0 Q (F0 m 68 ls [.int y5]) := by
      intro y5 H locs ls hP hD hS hl hf
      have hf := (congrFun ej6 y5).symm.trans hf
      obtain ⟨hi1, hi2⟩ := Prod.mk.inj (Option.some.inj hf)
      subst hi1
      subst hi2
      exact hret _ _ _ _ dX11_sky_68 rfl hP hS
    refine lv_icmp_ne (tgt := 65) hx hb dX11_sky_47 (by decide) (fun h7 => ?_) (fun h7 => ?_)
    · have hf := (if_neg h7).symm.trans hf
      refine lv_iconst (v := -1) hx hb dX11_sky_65 (by decide) ?_
      refine lv_iload_n hx hb dX11_sky_66 rfl (lv_at hl 0 rfl) ?_
      refine lv_isub hx hb dX11_sky_67 ?_
      exact Jj6 ((-1 : Int32) - r3) _ _ _ hP hD hS (lv_sub hl [] rfl) hf
    · have hf := (if_pos h7).symm.trans hf
      refine lv_aload_n hx hb dX11_sky_50 rfl (lv_at hl 1 rfl) ?_
      refine va_get (D := D) (ci := 11) (C := RX11) (T := TX11) (N := 9) hx hb hts fwX11_sky_X11 hown hK hP 0 rfl rfl 1 (by decide) (hts _ (List.mem_of_getElem? (i := 1) rfl)) (fun _ h9 => h9) rfl dX11_sky_51 ?_
      refine va_get (D := D) (ci := 2) (C := RX2) (T := TX2) (N := 4) hx hb hts fwX11_sky_X2 hown hK hP 2 rfl rfl 1 (by decide) (hts _ (List.mem_of_getElem? (i := 2) rfl)) (fun _ h9 => h9) rfl dX11_sky_54 ?_
      refine va_get (D := D) (ci := 7) (C := RX7) (T := TX7) (N := 4) hx hb hts fwX11_sky_X7 hown hK hP 16 rfl rfl 0 (by decide) (hts _ (List.mem_of_getElem? (i := 3) rfl)) (fun _ h9 => h9) rfl dX11_sky_57 ?_
      refine lv_iconst (v := 1) hx hb dX11_sky_60 (by decide) ?_
      refine lv_isub hx hb dX11_sky_61 ?_
      refine lv_goto (tgt := 68) hx hb dX11_sky_62 (by decide) ?_
      exact Jj6 ((σ4 16 0) - (1 : Int32)) _ _ _ hP hD hS (lv_sub hl [] rfl) hf
  · have hf := (if_neg h1).symm.trans hf
    refine lv_aload_n hx hb dX11_sky_15 rfl (lv_at hl 0 rfl) ?_
    refine lv_ldc (v := -1000002) hx hb hown (hts _ (List.mem_of_getElem? (i := 4) rfl)) dX11_sky_16 ?_
    refine q_cVi (wf := (wX11 cI cZ cS ad)) (wc := wX11 cI cZ cS ad) (rest := []) ⟨hx, hb, hml, hown, hts⟩ hK hZ hA hP hD hS hf (fun x τ ho => kX11_tell l D cI cZ cS zz ad σ (-1000002 : Int32) x τ ho) (cwV 1 hts gX11_sky_X11_tell rfl rfl rfl ndX11_tell ⟨Nat.le_of_ble_eq_true rfl, Nat.le_of_ble_eq_true rfl⟩) [0, 1, 2, 3, 4, 5, 6, 7, 8, 9, 10, 11, 12, 13, 14, 15, 16, 17, 18, 19, 20, 21, 22, 23, 24, 25, 26, 27, 28, 29, 30, 31, 32, 33, 34, 35, 36, 37, 38, 39, 40, 41, 42, 43, 44, 45, 46, 47, 48, 49, 50, 51, 52, 53, 54, 55, 56, 57, 58, 59, 60, 61, 62, 63, 64, 65, 66, 67, 68, 69, 70, 71] rfl rfl [some 0, some 1, some 2, some 3, some 4, some 5, some 6, some 7, some 8, some 9, some 10, some 11, some 12, some 13, some 14, some 15, some 16, some 17, some 18, some 19, some 20, some 21, some 22, some 23, some 24, some 25, some 26, some 27, some 28, some 29, some 30, some 31, some 32, some 33, some 34, some 35, some 36, some 37, some 38, some 39, some 40, some 41, some 42, some 43, some 44, some 45, some 46, some 47, some 48, some 49, some 50, some 51, some 52, some 53, some 54, some 55, some 56, some 57, some 58, some 59, some 60, some 61, some 62, some 63, some 64, some 65, some 66, some 67, some 68, some 69, some 70, some 71] (by decide +kernel) (Nat.le_of_ble_eq_true rfl) (fun _ => rfl) (fun _ => rfl) (fun _ => rfl) rfl rfl rfl rfl (hl.1) rfl (Nat.le_of_ble_eq_true rfl) dX11_sky_18 ⟨Nat.zero_le _, Nat.zero_le _⟩ (fun r9 σ8 H locs hf hP hD hS => ?_)
    obtain ⟨hi1, hi2⟩ := Prod.mk.inj (Option.some.inj hf)
    subst hi1
    subst hi2
    exact hret _ _ _ _ dX11_sky_21 rfl hP hS
def pX12_isWord (σ : SS) (t1 : Nat) : Option Int32 := (if t1 < 10 then q_lt (fun (y1 : Int32) => q_lp (fun _ _ => none) (fun (c5 : Int32 → Int32 → Option Int32) (x2_3 : Int32) (x3_4 : Int32) => q_lt (q_zz x2_3 (some x2_3)) (fun j8 => (if (k_ln t1) ≤ x3_4 then j8 else (if x2_3 = (0 : Int32) then j8 else q_rd (σ 5) 100 ((σ 0 10) + x3_4) (fun (v11 : Int32) => q_rd (k_ch t1) (k_len.getD t1 0) x3_4 (fun (v12 : Int32) => q_lt (fun (y13 : Int32) => c5 y13 (x3_4 + (1 : Int32))) (fun j14 => (if v11 = v12 then j14 (1 : Int32) else j14 (0 : Int32))))))))) q_fu y1 (0 : Int32)) (fun j2 => q_lt (j2 (0 : Int32)) (fun j16 => (if (σ 0 9) = (1 : Int32) then (if ((σ 0 8) - (σ 0 10)) = (k_ln t1) then j2 (1 : Int32) else j16) else j16))) else none)
theorem fwX12_isWord_X12 : ∀ w ∈ wsX120, w ∈ wsX12_isWord := fun _ h => List.mem_cons_of_mem _ (List.mem_append_right _ h)
abbrev rmX12_isWord : Room := { frames := 4, cells := 0, slots := 0, locals := 111 }
set_option maxHeartbeats 4000000 in
set_option maxRecDepth 100000 in
theorem kX12_isWord (l : Launch) (D : va_G) (cI cZ cS : ClassId) (zz : ZT) (ad : Nat → Nat) (σ : SS) (t1 : Nat) (rr : Int32) (hf : pX12_isWord σ t1 = some rr) : CI l yX12_isWord wsX12_isWord rmX12_isWord D (K3 cI cZ cS) zz [.ref (ad 0), .ref (zz.2.1 t1)] (wX12 cI cZ cS ad σ) (wX12 cI cZ cS ad σ) rr := by
  refine q_ofI (cc := cX12_isWord) (maxL := 4) (ty := .boolean) (by decide) rfl (Nat.le_of_ble_eq_true rfl) ?_
  intro p e s m below meth c Q A ls hx hb hml hown hts hK hZ hA hP hD hS hl hret
  have hl : lv_has ls 4 [(0, .ref (ad 0)), (1, .ref (zz.2.1 t1))] := hl
  unfold pX12_isWord at hf
  by_cases ht1 : t1 < 10
  rotate_left
  · exact q_no ((if_neg ht1).symm.trans hf)
  have hf := (if_pos ht1).symm.trans hf
  refine lv_aload_n hx hb dX12_isWord_0 rfl (lv_at hl 0 rfl) ?_
  refine va_get (D := D) (ci := 12) (C := RX12) (T := TX12) (N := 19) hx hb hts fwX12_isWord_X12 hown hK hP 0 rfl rfl 9 (by decide) (hts _ (List.mem_of_getElem? (i := 1) rfl)) (fun _ h9 => h9) rfl dX12_isWord_1 ?_
  refine lv_iconst (v := 1) hx hb dX12_isWord_4 (by decide) ?_
  refine q_lt_go hf (fun j2 ej2 hf => ?_)
  have Jj2 : ∀ (y1 : Int32) (H : Heap) (locs : List Loc) (ls : Array Slot), va_P D vwCl ((wX12 cI cZ cS ad) σ) H → va_D A ((wX12 cI cZ cS ad) σ) → va_S A s.heap H locs → lv_has ls 4 [(0, .ref (ad 0)), (1, .ref (zz.2.1 t1))] → j2 y1 = some rr → W p l e rmX12_isWord s m ([.ref (ad 0), .ref (zz.2.1 t1)] : List Value).toArray below meth c H locs 0 0 Q (F0 m 29 ls [.int y1]) := by
    intro y1 H locs ls hP hD hS hl hf
    have hf := (congrFun ej2 y1).symm.trans hf
    refine lv_istore_n (lv' := [(2, .int y1), (0, .ref (ad 0)), (1, .ref (zz.2.1 t1))]) hx hb dX12_isWord_29 rfl hl (by decide) rfl (fun ls hl => ?_)
    refine lv_iconst (v := 0) hx hb dX12_isWord_30 (by decide) ?_
    refine lv_istore_n (lv' := [(3, .int (0 : Int32)), (2, .int y1), (0, .ref (ad 0)), (1, .ref (zz.2.1 t1))]) hx hb dX12_isWord_31 rfl hl (by decide) rfl (fun ls hl => ?_)
    refine q_lp_go (f := fun (zf : Int32 → Int32 → Option Int32) => zf y1 (0 : Int32)) hf (fun z6 ez6 hf => ?_)
    have Lz6 : ∀ (n7 : Nat) (x2_3 : Int32) (x3_4 : Int32) (H : Heap) (locs : List Loc) (ls : Array Slot), va_P D vwCl ((wX12 cI cZ cS ad) σ) H → va_D A ((wX12 cI cZ cS ad) σ) → va_S A s.heap H locs → lv_has ls 4 [(0, .ref (ad 0)), (1, .ref (zz.2.1 t1)), (2, .int x2_3), (3, .int x3_4)] → q_lp (fun _ _ => none) z6 n7 x2_3 x3_4 = some rr → W p l e rmX12_isWord s m ([.ref (ad 0), .ref (zz.2.1 t1)] : List Value).toArray below meth c H locs 0 0 Q (F0 m 32 ls []) := by
      intro n7
      induction n7 with
      | zero => exact fun _ _ _ _ _ _ _ _ _ hf => q_no hf
      | succ n7 ihz6 =>
        intro x2_3 x3_4 H locs ls hP hD hS hl hf
        have hf := (congrFun (congrFun (congrFun ez6 (q_lp (fun _ _ => none) z6 n7)) x2_3) x3_4).symm.trans hf
        refine lv_iload_n hx hb dX12_isWord_32 rfl (lv_at hl 3 rfl) ?_
        refine lv_aload_n hx hb dX12_isWord_33 rfl (lv_at hl 1 rfl) ?_
        refine q_cT (wf := (wX12 cI cZ cS ad)) (rest := [.int x3_4]) ⟨hx, hb, hml, hown, hts⟩ hK hZ hA hP hD hS (kJ0_length l D cI cZ cS zz t1 ht1) (cwV 0 hts gX12_isWord_J0_length_8abf5 rfl rfl rfl (by decide +kernel) ⟨Nat.le_of_ble_eq_true rfl, Nat.le_of_ble_eq_true rfl⟩) (vk_recv hZ.2.2.2.2.2.2.1 ht1 hS) rfl (hl.1) rfl (Nat.le_of_ble_eq_true rfl) dX12_isWord_34 ⟨Nat.zero_le _, Nat.zero_le _⟩ (fun H locs hP hD hS => ?_)
        refine q_lt_go hf (fun j8 ej8 hf => ?_)
        have Jj8 : ∀ (H : Heap) (locs : List Loc) (ls : Array Slot), va_P D vwCl ((wX12 cI cZ cS ad) σ) H → va_D A ((wX12 cI cZ cS ad) σ) → va_S A s.heap H locs → lv_has ls 4 [(2, .int x2_3)] → j8 = some rr → W p l e rmX12_isWord s m ([.ref (ad 0), .ref (zz.2.1 t1)] : List Value).toArray below meth c H locs 0 0 Q (F0 m 75 ls []) := by
          intro  H locs ls hP hD hS hl hf
          have hf := ej8.symm.trans hf
          refine lv_iload_n hx hb dX12_isWord_75 rfl (lv_at hl 0 rfl) ?_
          obtain ⟨hz, hf⟩ := q_zz_o hf
          have hi1 := Option.some.inj hf
          subst hi1
          exact hret _ _ _ _ dX12_isWord_76 (q_zz_n hz).1 hP hS
        refine lv_icmp_ge (tgt := 75) hx hb dX12_isWord_37 (by decide) (fun h9 => ?_) (fun h9 => ?_)
        · have hf := (if_pos h9).symm.trans hf
          exact Jj8  _ _ _ hP hD hS (lv_sub hl [2] rfl) hf
        · have hf := (if_neg h9).symm.trans hf
          refine lv_iload_n hx hb dX12_isWord_40 rfl (lv_at hl 2 rfl) ?_
          refine lv_if_eq (tgt := 75) hx hb dX12_isWord_41 (by decide) (fun h10 => ?_) (fun h10 => ?_)
          · have hf := (if_pos h10).symm.trans hf
            exact Jj8  _ _ _ hP hD hS (lv_sub hl [2] rfl) hf
          · have hf := (if_neg h10).symm.trans hf
            refine lv_aload_n hx hb dX12_isWord_44 rfl (lv_at hl 0 rfl) ?_
            refine va_get (D := D) (ci := 12) (C := RX12) (T := TX12) (N := 19) hx hb hts fwX12_isWord_X12 hown hK hP 0 rfl rfl 6 (by decide) (hts _ (List.mem_of_getElem? (i := 4) rfl)) (fun _ h9 => h9) rfl dX12_isWord_45 ?_
            refine lv_aload_n hx hb dX12_isWord_48 rfl (lv_at hl 0 rfl) ?_
            refine va_get (D := D) (ci := 12) (C := RX12) (T := TX12) (N := 19) hx hb hts fwX12_isWord_X12 hown hK hP 0 rfl rfl 10 (by decide) (hts _ (List.mem_of_getElem? (i := 3) rfl)) (fun _ h9 => h9) rfl dX12_isWord_49 ?_
            refine lv_iload_n hx hb dX12_isWord_52 rfl (lv_at hl 3 rfl) ?_
            refine lv_iadd hx hb dX12_isWord_53 ?_
            refine w_iald (wf := (wX12 cI cZ cS ad)) hx hb hK hP 5 0 rfl rfl hf dX12_isWord_54 (fun v11 hf => ?_)
            refine lv_aload_n hx hb dX12_isWord_55 rfl (lv_at hl 1 rfl) ?_
            refine lv_iload_n hx hb dX12_isWord_56 rfl (lv_at hl 3 rfl) ?_
            refine q_cTc (wf := (wX12 cI cZ cS ad)) (rest := [.int v11]) ⟨hx, hb, hml, hown, hts⟩ hK hZ hA hP hD hS hf (fun hi => kJ0_charAt l D cI cZ cS zz t1 ht1 x3_4 hi) (cwV 1 hts gX12_isWord_J0_charAt_5068e rfl rfl rfl (by decide +kernel) ⟨Nat.le_of_ble_eq_true rfl, Nat.le_of_ble_eq_true rfl⟩) (vk_recv hZ.2.2.2.2.2.2.1 ht1 hS) rfl (hl.1) rfl (Nat.le_of_ble_eq_true rfl) dX12_isWord_57 ⟨Nat.zero_le _, Nat.zero_le _⟩ (fun v12 H locs hf hP hD hS => ?_)
            refine q_lt_go hf (fun j14 ej14 hf => ?_)
            have Jj14 : ∀ (y13 : Int32) (H : Heap) (locs : List Loc) (ls : Array Slot), va_P D vwCl ((wX12 cI cZ cS ad) σ) H → va_D A ((wX12 cI cZ cS ad) σ) → va_S A s.heap H locs → lv_has ls 4 [(0, .ref (ad 0)), (1, .ref (zz.2.1 t1)), (3, .int x3_4)] → j14 y13 = some rr → W p l e rmX12_isWord s m ([.ref (ad 0), .ref (zz.2.1 t1)] : List Value).toArray below meth c H locs 0 0 Q (F0 m 68 ls [.int y13]) := by
              intro y13 H locs ls hP hD hS hl hf
              have hf := (congrFun ej14 y13).symm.trans hf
              refine lv_istore_n (lv' := [(2, .int y13), (0, .ref (ad 0)), (1, .ref (zz.2.1 t1)), (3, .int x3_4)]) hx hb dX12_isWord_68 rfl hl (by decide) rfl (fun ls hl => ?_)
              refine lv_iinc (v := (x3_4 + (1 : Int32))) (lv' := [(3, .int (x3_4 + (1 : Int32))), (2, .int y13), (0, .ref (ad 0)), (1, .ref (zz.2.1 t1))]) hx hb dX12_isWord_69 hl (k := 3) rfl rfl (by decide) rfl (fun ls hl => ?_)
              refine lv_goto (tgt := 32) hx hb dX12_isWord_72 (by decide) ?_
              exact ihz6 y13 (x3_4 + (1 : Int32)) _ _ _ hP hD hS (lv_sub hl [2, 3, 1, 0] rfl) hf
            refine lv_icmp_ne (tgt := 67) hx hb dX12_isWord_60 (by decide) (fun h15 => ?_) (fun h15 => ?_)
            · have hf := (if_neg h15).symm.trans hf
              refine lv_iconst (v := 0) hx hb dX12_isWord_67 (by decide) ?_
              exact Jj14 (0 : Int32) _ _ _ hP hD hS (lv_sub hl [0, 1, 3] rfl) hf
            · have hf := (if_pos h15).symm.trans hf
              refine lv_iconst (v := 1) hx hb dX12_isWord_63 (by decide) ?_
              refine lv_goto (tgt := 68) hx hb dX12_isWord_64 (by decide) ?_
              exact Jj14 (1 : Int32) _ _ _ hP hD hS (lv_sub hl [0, 1, 3] rfl) hf
    exact Lz6 q_fu y1 (0 : Int32) _ _ _ hP hD hS (lv_sub hl [2, 3, 1, 0] rfl) hf
  refine q_lt_go hf (fun j16 ej16 hf => ?_)
  have Jj16 : ∀ (H : Heap) (locs : List Loc) (ls : Array Slot), va_P D vwCl ((wX12 cI cZ cS ad) σ) H → va_D A ((wX12 cI cZ cS ad) σ) → va_S A s.heap H locs → lv_has ls 4 [(0, .ref (ad 0)), (1, .ref (zz.2.1 t1))] → j16 = some rr → W p l e rmX12_isWord s m ([.ref (ad 0), .ref (zz.2.1 t1)] : List Value).toArray below meth c H locs 0 0 Q (F0 m 28 ls []) := by
    intro  H locs ls hP hD hS hl hf
    have hf := ej16.symm.trans hf
    refine lv_iconst (v := 0) hx hb dX12_isWord_28 (by decide) ?_
    exact Jj2 (0 : Int32) _ _ _ hP hD hS (lv_sub hl [0, 1] rfl) hf
  refine lv_icmp_ne (tgt := 28) hx hb dX12_isWord_5 (by decide) (fun h17 => ?_) (fun h17 => ?_)
  · have hf := (if_neg h17).symm.trans hf
    exact Jj16  _ _ _ hP hD hS (lv_sub hl [0, 1] rfl) hf
  · have hf := (if_pos h17).symm.trans hf
    refine lv_aload_n hx hb dX12_isWord_8 rfl (lv_at hl 0 rfl) ?_
    refine va_get (D := D) (ci := 12) (C := RX12) (T := TX12) (N := 19) hx hb hts fwX12_isWord_X12 hown hK hP 0 rfl rfl 8 (by decide) (hts _ (List.mem_of_getElem? (i := 2) rfl)) (fun _ h9 => h9) rfl dX12_isWord_9 ?_
    refine lv_aload_n hx hb dX12_isWord_12 rfl (lv_at hl 0 rfl) ?_
    refine va_get (D := D) (ci := 12) (C := RX12) (T := TX12) (N := 19) hx hb hts fwX12_isWord_X12 hown hK hP 0 rfl rfl 10 (by decide) (hts _ (List.mem_of_getElem? (i := 3) rfl)) (fun _ h9 => h9) rfl dX12_isWord_13 ?_
    refine lv_isub hx hb dX12_isWord_16 ?_
    refine lv_aload_n hx hb dX12_isWord_17 rfl (lv_at hl 1 rfl) ?_
    refine q_cT (wf := (wX12 cI cZ cS ad)) (rest := [.int ((σ 0 8) - (σ 0 10))]) ⟨hx, hb, hml, hown, hts⟩ hK hZ hA hP hD hS (kJ0_length l D cI cZ cS zz t1 ht1) (cwV 0 hts gX12_isWord_J0_length_8abf5 rfl rfl rfl (by decide +kernel) ⟨Nat.le_of_ble_eq_true rfl, Nat.le_of_ble_eq_true rfl⟩) (vk_recv hZ.2.2.2.2.2.2.1 ht1 hS) rfl (hl.1) rfl (Nat.le_of_ble_eq_true rfl) dX12_isWord_18 ⟨Nat.zero_le _, Nat.zero_le _⟩ (fun H locs hP hD hS => ?_)
    refine lv_icmp_ne (tgt := 28) hx hb dX12_isWord_21 (by decide) (fun h18 => ?_) (fun h18 => ?_)
    · have hf := (if_neg h18).symm.trans hf
      exact Jj16  _ _ _ hP hD hS (lv_sub hl [0, 1] rfl) hf
    · have hf := (if_pos h18).symm.trans hf
      refine lv_iconst (v := 1) hx hb dX12_isWord_24 (by decide) ?_
      refine lv_goto (tgt := 29) hx hb dX12_isWord_25 (by decide) ?_
      exact Jj2 (1 : Int32) _ _ _ hP hD hS (lv_sub hl [0, 1] rfl) hf
def pX12_takes (σ : SS) (t1 : Nat) : Option (Int32 × SS) := (if t1 < 10 then q_cr (pX12_isWord σ t1) (fun (r1 : Int32) => (if r1 = (0 : Int32) then q_zz (0 : Int32) (some ((0 : Int32), σ)) else q_cs (pX12_next σ) (fun (τ : SS) => τ) (fun (σ3 : SS) => q_zz (1 : Int32) (some ((1 : Int32), σ3))))) else none)
abbrev rmX12_takes : Room := { frames := 5, cells := 0, slots := 0, locals := 134 }
set_option maxHeartbeats 4000000 in
set_option maxRecDepth 100000 in
theorem kX12_takes (l : Launch) (D : va_G) (cI cZ cS : ClassId) (zz : ZT) (ad : Nat → Nat) (σ : SS) (t1 : Nat) (rr : Int32) (σr : SS) (hf : pX12_takes σ t1 = some (rr, σr)) : CI l yX12_takes wsX12_takes rmX12_takes D (K3 cI cZ cS) zz [.ref (ad 0), .ref (zz.2.1 t1)] (wX12 cI cZ cS ad σ) (wX12 cI cZ cS ad σr) rr := by
  refine q_ofI (cc := cX12_takes) (maxL := 2) (ty := .boolean) (by decide) rfl (Nat.le_of_ble_eq_true rfl) ?_
  intro p e s m below meth c Q A ls hx hb hml hown hts hK hZ hA hP hD hS hl hret
  have hl : lv_has ls 2 [(0, .ref (ad 0)), (1, .ref (zz.2.1 t1))] := hl
  unfold pX12_takes at hf
  by_cases ht1 : t1 < 10
  rotate_left
  · exact q_no ((if_neg ht1).symm.trans hf)
  have hf := (if_pos ht1).symm.trans hf
  refine lv_aload_n hx hb dX12_takes_0 rfl (lv_at hl 0 rfl) ?_
  refine lv_aload_n hx hb dX12_takes_1 rfl (lv_at hl 1 rfl) ?_
  refine q_cVr (wf := (wX12 cI cZ cS ad)) (wc := wX12 cI cZ cS ad) (rest := []) ⟨hx, hb, hml, hown, hts⟩ hK hZ hA hP hD hS hf (fun x ho => kX12_isWord l D cI cZ cS zz ad σ t1 x ho) (cwV 1 hts gX12_takes_X12_isWord rfl rfl rfl ndX12_isWord ⟨Nat.le_of_ble_eq_true rfl, Nat.le_of_ble_eq_true rfl⟩) [0, 1, 2, 3, 4, 5, 6, 7, 8, 9, 10, 11] rfl rfl rfl rfl rfl rfl (hl.1) rfl (Nat.le_of_ble_eq_true rfl) dX12_takes_2 ⟨Nat.zero_le _, Nat.zero_le _⟩ (fun r1 H locs hf hP hD hS => ?_)
  refine lv_if_ne (tgt := 10) hx hb dX12_takes_5 (by decide) (fun h2 => ?_) (fun h2 => ?_)
  · have hf := (if_neg h2).symm.trans hf
    refine lv_aload_n hx hb dX12_takes_10 rfl (lv_at hl 0 rfl) ?_
    refine q_cVv (wf := (wX12 cI cZ cS ad)) (wc := wX12 cI cZ cS ad) (rest := []) ⟨hx, hb, hml, hown, hts⟩ hK hZ hA hP hD hS hf (fun x ho => kX12_next l D cI cZ cS zz ad σ x ho) (cwV 0 hts gX12_takes_X12_next rfl rfl rfl ndX12_next ⟨Nat.le_of_ble_eq_true rfl, Nat.le_of_ble_eq_true rfl⟩) [0, 1, 2, 3, 4, 5, 6, 7, 8, 9, 10, 11] rfl rfl [some 0, some 1, some 2, some 3, some 4, some 5, some 6, some 7, some 8, some 9, some 10, some 11] (by decide +kernel) (Nat.le_of_ble_eq_true rfl) (fun _ => rfl) (fun _ => rfl) (fun _ => rfl) rfl rfl rfl rfl (hl.1) rfl (Nat.le_of_ble_eq_true rfl) dX12_takes_11 ⟨Nat.zero_le _, Nat.zero_le _⟩ (fun σ3 H locs hf hP hD hS => ?_)
    refine lv_iconst (v := 1) hx hb dX12_takes_14 (by decide) ?_
    obtain ⟨hz, hf⟩ := q_zz_o hf
    obtain ⟨hi1, hi2⟩ := Prod.mk.inj (Option.some.inj hf)
    subst hi1
    subst hi2
    exact hret _ _ _ _ dX12_takes_15 (q_zz_n hz).1 hP hS
  · have hf := (if_pos h2).symm.trans hf
    refine lv_iconst (v := 0) hx hb dX12_takes_8 (by decide) ?_
    obtain ⟨hz, hf⟩ := q_zz_o hf
    obtain ⟨hi1, hi2⟩ := Prod.mk.inj (Option.some.inj hf)
    subst hi1
    subst hi2
    exact hret _ _ _ _ dX12_takes_9 (q_zz_n hz).1 hP hS
def pX12_takesEither (σ : SS) (a1 : Int32) (t2 : Nat) (t3 : Nat) : Option (Int32 × SS) := (if t2 < 10 then (if t3 < 10 then q_cr (pX12_isWord σ t2) (fun (r1 : Int32) => q_lt (q_lt (fun (y3 : Int32) => q_cs (pX12_lays σ a1 y3) (fun (τ : SS) => τ) (fun (σ5 : SS) => q_cs (pX12_next σ5) (fun (τ : SS) => τ) (fun (σ6 : SS) => q_zz (1 : Int32) (some ((1 : Int32), σ6))))) (fun j4 => (if r1 = (0 : Int32) then j4 (0 : Int32) else j4 (1 : Int32)))) (fun j2 => (if r1 = (0 : Int32) then q_cr (pX12_isWord σ t3) (fun (r9 : Int32) => (if r9 = (0 : Int32) then q_zz (0 : Int32) (some ((0 : Int32), σ)) else j2)) else j2))) else none) else none)
abbrev rmX12_takesEither : Room := { frames := 5, cells := 0, slots := 0, locals := 134 }
set_option maxHeartbeats 4000000 in
set_option maxRecDepth 100000 in
theorem kX12_takesEither (l : Launch) (D : va_G) (cI cZ cS : ClassId) (zz : ZT) (ad : Nat → Nat) (σ : SS) (a1 : Int32) (t2 : Nat) (t3 : Nat) (rr : Int32) (σr : SS) (hf : pX12_takesEither σ a1 t2 t3 = some (rr, σr)) : CI l yX12_takesEither wsX12_takesEither rmX12_takesEither D (K3 cI cZ cS) zz [.ref (ad 0), .int a1, .ref (zz.2.1 t2), .ref (zz.2.1 t3)] (wX12 cI cZ cS ad σ) (wX12 cI cZ cS ad σr) rr := by
  refine q_ofI (cc := cX12_takesEither) (maxL := 5) (ty := .boolean) (by decide) rfl (Nat.le_of_ble_eq_true rfl) ?_
  intro p e s m below meth c Q A ls hx hb hml hown hts hK hZ hA hP hD hS hl hret
  have hl : lv_has ls 5 [(0, .ref (ad 0)), (1, .int a1), (2, .ref (zz.2.1 t2)), (3, .ref (zz.2.1 t3))] := hl
  unfold pX12_takesEither at hf
  by_cases ht2 : t2 < 10
  rotate_left
  · exact q_no ((if_neg ht2).symm.trans hf)
  have hf := (if_pos ht2).symm.trans hf
  by_cases ht3 : t3 < 10
  rotate_left
  · exact q_no ((if_neg ht3).symm.trans hf)
  have hf := (if_pos ht3).symm.trans hf
  refine lv_aload_n hx hb dX12_takesEither_0 rfl (lv_at hl 0 rfl) ?_
  refine lv_aload_n hx hb dX12_takesEither_1 rfl (lv_at hl 2 rfl) ?_
  refine q_cVr (wf := (wX12 cI cZ cS ad)) (wc := wX12 cI cZ cS ad) (rest := []) ⟨hx, hb, hml, hown, hts⟩ hK hZ hA hP hD hS hf (fun x ho => kX12_isWord l D cI cZ cS zz ad σ t2 x ho) (cwV 1 hts gX12_takesEither_X12_isWord rfl rfl rfl ndX12_isWord ⟨Nat.le_of_ble_eq_true rfl, Nat.le_of_ble_eq_true rfl⟩) [0, 1, 2, 3, 4, 5, 6, 7, 8, 9, 10, 11] rfl rfl rfl rfl rfl rfl (hl.1) rfl (Nat.le_of_ble_eq_true rfl) dX12_takesEither_2 ⟨Nat.zero_le _, Nat.zero_le _⟩ (fun r1 H locs hf hP hD hS => ?_)
  refine lv_istore (lv' := [(4, .int r1), (0, .ref (ad 0)), (1, .int a1), (2, .ref (zz.2.1 t2)), (3, .ref (zz.2.1 t3))]) hx hb dX12_takesEither_5 hl (by decide) rfl (fun ls hl => ?_)
  refine lv_iload hx hb dX12_takesEither_7 (lv_at hl 0 rfl) ?_
  refine q_lt_go hf (fun j2 ej2 hf => ?_)
  have Jj2 : ∀ (H : Heap) (locs : List Loc) (ls : Array Slot), va_P D vwCl ((wX12 cI cZ cS ad) σ) H → va_D A ((wX12 cI cZ cS ad) σ) → va_S A s.heap H locs → lv_has ls 5 [(0, .ref (ad 0)), (1, .int a1), (4, .int r1)] → j2 = some (rr, σr) → W p l e rmX12_takesEither s m ([.ref (ad 0), .int a1, .ref (zz.2.1 t2), .ref (zz.2.1 t3)] : List Value).toArray below meth c H locs 0 0 Q (F0 m 22 ls []) := by
    intro  H locs ls hP hD hS hl hf
    have hf := ej2.symm.trans hf
    refine lv_aload_n hx hb dX12_takesEither_22 rfl (lv_at hl 0 rfl) ?_
    refine lv_iload_n hx hb dX12_takesEither_23 rfl (lv_at hl 1 rfl) ?_
    refine lv_iload hx hb dX12_takesEither_24 (lv_at hl 2 rfl) ?_
    refine q_lt_go hf (fun j4 ej4 hf => ?_)
    have Jj4 : ∀ (y3 : Int32) (H : Heap) (locs : List Loc) (ls : Array Slot), va_P D vwCl ((wX12 cI cZ cS ad) σ) H → va_D A ((wX12 cI cZ cS ad) σ) → va_S A s.heap H locs → lv_has ls 5 [(0, .ref (ad 0))] → j4 y3 = some (rr, σr) → W p l e rmX12_takesEither s m ([.ref (ad 0), .int a1, .ref (zz.2.1 t2), .ref (zz.2.1 t3)] : List Value).toArray below meth c H locs 0 0 Q (F0 m 34 ls [.int y3, .int a1, .ref (ad 0)]) := by
      intro y3 H locs ls hP hD hS hl hf
      have hf := (congrFun ej4 y3).symm.trans hf
      refine q_cVv (wf := (wX12 cI cZ cS ad)) (wc := wX12 cI cZ cS ad) (rest := []) ⟨hx, hb, hml, hown, hts⟩ hK hZ hA hP hD hS hf (fun x ho => kX12_lays l D cI cZ cS zz ad σ a1 y3 x ho) (cwV 2 hts gX12_takesEither_X12_lays rfl rfl rfl ndX12_lays ⟨Nat.le_of_ble_eq_true rfl, Nat.le_of_ble_eq_true rfl⟩) [0, 1, 2, 3, 4, 5, 6, 7, 8, 9, 10, 11] rfl rfl [some 0, some 1, some 2, some 3, some 4, some 5, some 6, some 7, some 8, some 9, some 10, some 11] (by decide +kernel) (Nat.le_of_ble_eq_true rfl) (fun _ => rfl) (fun _ => rfl) (fun _ => rfl) rfl rfl rfl rfl (hl.1) rfl (Nat.le_of_ble_eq_true rfl) dX12_takesEither_34 ⟨Nat.zero_le _, Nat.zero_le _⟩ (fun σ5 H locs hf hP hD hS => ?_)
      refine lv_aload_n hx hb dX12_takesEither_37 rfl (lv_at hl 0 rfl) ?_
      refine q_cVv (wf := (wX12 cI cZ cS ad)) (wc := wX12 cI cZ cS ad) (rest := []) ⟨hx, hb, hml, hown, hts⟩ hK hZ hA hP hD hS hf (fun x ho => kX12_next l D cI cZ cS zz ad σ5 x ho) (cwV 0 hts gX12_takesEither_X12_next rfl rfl rfl ndX12_next ⟨Nat.le_of_ble_eq_true rfl, Nat.le_of_ble_eq_true rfl⟩) [0, 1, 2, 3, 4, 5, 6, 7, 8, 9, 10, 11] rfl rfl [some 0, some 1, some 2, some 3, some 4, some 5, some 6, some 7, some 8, some 9, some 10, some 11] (by decide +kernel) (Nat.le_of_ble_eq_true rfl) (fun _ => rfl) (fun _ => rfl) (fun _ => rfl) rfl rfl rfl rfl (hl.1) rfl (Nat.le_of_ble_eq_true rfl) dX12_takesEither_38 ⟨Nat.zero_le _, Nat.zero_le _⟩ (fun σ6 H locs hf hP hD hS => ?_)
      refine lv_iconst (v := 1) hx hb dX12_takesEither_41 (by decide) ?_
      obtain ⟨hz, hf⟩ := q_zz_o hf
      obtain ⟨hi1, hi2⟩ := Prod.mk.inj (Option.some.inj hf)
      subst hi1
      subst hi2
      exact hret _ _ _ _ dX12_takesEither_42 (q_zz_n hz).1 hP hS
    refine lv_if_eq (tgt := 33) hx hb dX12_takesEither_26 (by decide) (fun h7 => ?_) (fun h7 => ?_)
    · have hf := (if_pos h7).symm.trans hf
      refine lv_iconst (v := 0) hx hb dX12_takesEither_33 (by decide) ?_
      exact Jj4 (0 : Int32) _ _ _ hP hD hS (lv_sub hl [0] rfl) hf
    · have hf := (if_neg h7).symm.trans hf
      refine lv_iconst (v := 1) hx hb dX12_takesEither_29 (by decide) ?_
      refine lv_goto (tgt := 34) hx hb dX12_takesEither_30 (by decide) ?_
      exact Jj4 (1 : Int32) _ _ _ hP hD hS (lv_sub hl [0] rfl) hf
  refine lv_if_ne (tgt := 22) hx hb dX12_takesEither_9 (by decide) (fun h8 => ?_) (fun h8 => ?_)
  · have hf := (if_neg h8).symm.trans hf
    exact Jj2  _ _ _ hP hD hS (lv_sub hl [1, 2, 0] rfl) hf
  · have hf := (if_pos h8).symm.trans hf
    refine lv_aload_n hx hb dX12_takesEither_12 rfl (lv_at hl 1 rfl) ?_
    refine lv_aload_n hx hb dX12_takesEither_13 rfl (lv_at hl 4 rfl) ?_
    refine q_cVr (wf := (wX12 cI cZ cS ad)) (wc := wX12 cI cZ cS ad) (rest := []) ⟨hx, hb, hml, hown, hts⟩ hK hZ hA hP hD hS hf (fun x ho => kX12_isWord l D cI cZ cS zz ad σ t3 x ho) (cwV 1 hts gX12_takesEither_X12_isWord rfl rfl rfl ndX12_isWord ⟨Nat.le_of_ble_eq_true rfl, Nat.le_of_ble_eq_true rfl⟩) [0, 1, 2, 3, 4, 5, 6, 7, 8, 9, 10, 11] rfl rfl rfl rfl rfl rfl (hl.1) rfl (Nat.le_of_ble_eq_true rfl) dX12_takesEither_14 ⟨Nat.zero_le _, Nat.zero_le _⟩ (fun r9 H locs hf hP hD hS => ?_)
    refine lv_if_ne (tgt := 22) hx hb dX12_takesEither_17 (by decide) (fun h10 => ?_) (fun h10 => ?_)
    · have hf := (if_neg h10).symm.trans hf
      exact Jj2  _ _ _ hP hD hS (lv_sub hl [1, 2, 0] rfl) hf
    · have hf := (if_pos h10).symm.trans hf
      refine lv_iconst (v := 0) hx hb dX12_takesEither_20 (by decide) ?_
      obtain ⟨hz, hf⟩ := q_zz_o hf
      obtain ⟨hi1, hi2⟩ := Prod.mk.inj (Option.some.inj hf)
      subst hi1
      subst hi2
      exact hret _ _ _ _ dX12_takesEither_21 (q_zz_n hz).1 hP hS
def pX12_takesDeed (σ : SS) : Option (Int32 × SS) := (if (σ 0 13) = (12 : Int32) then q_zz (0 : Int32) (some ((0 : Int32), σ)) else q_ci (pX12_takes σ 0) (fun (τ : SS) => τ) (fun (r3 : Int32) (σ2 : SS) => (if r3 = (0 : Int32) then q_ci (pX12_takes σ2 1) (fun (τ : SS) => τ) (fun (r6 : Int32) (σ5 : SS) => (if r6 = (0 : Int32) then q_ci (pX12_takes σ5 2) (fun (τ : SS) => τ) (fun (r9 : Int32) (σ8 : SS) => (if r9 = (0 : Int32) then q_ci (pX12_takes σ8 3) (fun (τ : SS) => τ) (fun (r12 : Int32) (σ11 : SS) => (if r12 = (0 : Int32) then q_ci (pX12_takes σ11 4) (fun (τ : SS) => τ) (fun (r15 : Int32) (σ14 : SS) => (if r15 = (0 : Int32) then q_ci (pX12_takes σ14 5) (fun (τ : SS) => τ) (fun (r18 : Int32) (σ17 : SS) => q_lt (fun (σ20 : SS) (y19 : Int32) => q_zz y19 (some (y19, σ20))) (fun j21 => q_lt (fun (σ22 : SS) => j21 σ22 (0 : Int32)) (fun j23 => (if r18 = (0 : Int32) then j23 σ17 else q_ci (pX12_takesNumber σ17 (5 : Int32) (0 : Int32) (999 : Int32)) (fun (τ : SS) => τ) (fun (r26 : Int32) (σ25 : SS) => (if r26 = (0 : Int32) then j23 σ25 else j21 σ25 (1 : Int32))))))) else q_ci (pX12_takesNumber σ14 (4 : Int32) (0 : Int32) (999 : Int32)) (fun (τ : SS) => τ) (fun (r29 : Int32) (σ28 : SS) => q_zz r29 (some (r29, σ28))))) else q_ci (pX12_takesEither σ11 (3 : Int32) 8 9) (fun (τ : SS) => τ) (fun (r31 : Int32) (σ30 : SS) => q_zz r31 (some (r31, σ30))))) else q_ci (pX12_takesEither σ8 (2 : Int32) 6 7) (fun (τ : SS) => τ) (fun (r33 : Int32) (σ32 : SS) => q_zz r33 (some (r33, σ32))))) else q_ci (pX12_takesNumber σ5 (1 : Int32) (1 : Int32) (60 : Int32)) (fun (τ : SS) => τ) (fun (r35 : Int32) (σ34 : SS) => q_zz r35 (some (r35, σ34))))) else q_ci (pX12_takesNumber σ2 (0 : Int32) (0 : Int32) (99 : Int32)) (fun (τ : SS) => τ) (fun (r37 : Int32) (σ36 : SS) => q_zz r37 (some (r37, σ36))))))
theorem fwX12_takesDeed_X12 : ∀ w ∈ wsX120, w ∈ wsX12_takesDeed := fun _ h => List.mem_cons_of_mem _ (List.mem_append_right _ h)
abbrev rmX12_takesDeed : Room := { frames := 6, cells := 0, slots := 0, locals := 158 }
set_option maxHeartbeats 4000000 in
set_option maxRecDepth 100000 in
theorem kX12_takesDeed (l : Launch) (D : va_G) (cI cZ cS : ClassId) (zz : ZT) (ad : Nat → Nat) (σ : SS) (rr : Int32) (σr : SS) (hf : pX12_takesDeed σ = some (rr, σr)) : CI l yX12_takesDeed wsX12_takesDeed rmX12_takesDeed D (K3 cI cZ cS) zz [.ref (ad 0)] (wX12 cI cZ cS ad σ) (wX12 cI cZ cS ad σr) rr := by
  refine q_ofI (cc := cX12_takesDeed) (maxL := 1) (ty := .boolean) (by decide) rfl (Nat.le_of_ble_eq_true rfl) ?_
  intro p e s m below meth c Q A ls hx hb hml hown hts hK hZ hA hP hD hS hl hret
  have hl : lv_has ls 1 [(0, .ref (ad 0))] := hl
  unfold pX12_takesDeed at hf
  refine lv_aload_n hx hb dX12_takesDeed_0 rfl (lv_at hl 0 rfl) ?_
  refine va_get (D := D) (ci := 12) (C := RX12) (T := TX12) (N := 19) hx hb hts fwX12_takesDeed_X12 hown hK hP 0 rfl rfl 13 (by decide) (hts _ (List.mem_of_getElem? (i := 1) rfl)) (fun _ h9 => h9) rfl dX12_takesDeed_1 ?_
  refine lv_bipush (v := 12) hx hb dX12_takesDeed_4 (by decide) ?_
  refine lv_icmp_ne (tgt := 11) hx hb dX12_takesDeed_6 (by decide) (fun h1 => ?_) (fun h1 => ?_)
  · have hf := (if_neg h1).symm.trans hf
    refine lv_aload_n hx hb dX12_takesDeed_11 rfl (lv_at hl 0 rfl) ?_
    refine va_ldcS hx hb hown hZ.2.2.2.2.2.2.2.1.1.2 dX12_takesDeed_12 ?_
    refine q_cVi (wf := (wX12 cI cZ cS ad)) (wc := wX12 cI cZ cS ad) (rest := []) ⟨hx, hb, hml, hown, hts⟩ hK hZ hA hP hD hS hf (fun x τ ho => kX12_takes l D cI cZ cS zz ad σ 0 x τ ho) (cwV 1 hts gX12_takesDeed_X12_takes rfl rfl rfl ndX12_takes ⟨Nat.le_of_ble_eq_true rfl, Nat.le_of_ble_eq_true rfl⟩) [0, 1, 2, 3, 4, 5, 6, 7, 8, 9, 10, 11] rfl rfl [some 0, some 1, some 2, some 3, some 4, some 5, some 6, some 7, some 8, some 9, some 10, some 11] (by decide +kernel) (Nat.le_of_ble_eq_true rfl) (fun _ => rfl) (fun _ => rfl) (fun _ => rfl) rfl rfl rfl rfl (hl.1) rfl (Nat.le_of_ble_eq_true rfl) dX12_takesDeed_14 ⟨Nat.zero_le _, Nat.zero_le _⟩ (fun r3 σ2 H locs hf hP hD hS => ?_)
    refine lv_if_eq (tgt := 29) hx hb dX12_takesDeed_17 (by decide) (fun h4 => ?_) (fun h4 => ?_)
    · have hf := (if_pos h4).symm.trans hf
      refine lv_aload_n hx hb dX12_takesDeed_29 rfl (lv_at hl 0 rfl) ?_
      refine va_ldcS hx hb hown hZ.2.2.2.2.2.2.2.1.2.1.2 dX12_takesDeed_30 ?_
      refine q_cVi (wf := (wX12 cI cZ cS ad)) (wc := wX12 cI cZ cS ad) (rest := []) ⟨hx, hb, hml, hown, hts⟩ hK hZ hA hP hD hS hf (fun x τ ho => kX12_takes l D cI cZ cS zz ad σ2 1 x τ ho) (cwV 1 hts gX12_takesDeed_X12_takes rfl rfl rfl ndX12_takes ⟨Nat.le_of_ble_eq_true rfl, Nat.le_of_ble_eq_true rfl⟩) [0, 1, 2, 3, 4, 5, 6, 7, 8, 9, 10, 11] rfl rfl [some 0, some 1, some 2, some 3, some 4, some 5, some 6, some 7, some 8, some 9, some 10, some 11] (by decide +kernel) (Nat.le_of_ble_eq_true rfl) (fun _ => rfl) (fun _ => rfl) (fun _ => rfl) rfl rfl rfl rfl (hl.1) rfl (Nat.le_of_ble_eq_true rfl) dX12_takesDeed_32 ⟨Nat.zero_le _, Nat.zero_le _⟩ (fun r6 σ5 H locs hf hP hD hS => ?_)
      refine lv_if_eq (tgt := 47) hx hb dX12_takesDeed_35 (by decide) (fun h7 => ?_) (fun h7 => ?_)
      · have hf := (if_pos h7).symm.trans hf
        refine lv_aload_n hx hb dX12_takesDeed_47 rfl (lv_at hl 0 rfl) ?_
        refine va_ldcS hx hb hown hZ.2.2.2.2.2.2.2.1.2.2.1.2 dX12_takesDeed_48 ?_
        refine q_cVi (wf := (wX12 cI cZ cS ad)) (wc := wX12 cI cZ cS ad) (rest := []) ⟨hx, hb, hml, hown, hts⟩ hK hZ hA hP hD hS hf (fun x τ ho => kX12_takes l D cI cZ cS zz ad σ5 2 x τ ho) (cwV 1 hts gX12_takesDeed_X12_takes rfl rfl rfl ndX12_takes ⟨Nat.le_of_ble_eq_true rfl, Nat.le_of_ble_eq_true rfl⟩) [0, 1, 2, 3, 4, 5, 6, 7, 8, 9, 10, 11] rfl rfl [some 0, some 1, some 2, some 3, some 4, some 5, some 6, some 7, some 8, some 9, some 10, some 11] (by decide +kernel) (Nat.le_of_ble_eq_true rfl) (fun _ => rfl) (fun _ => rfl) (fun _ => rfl) rfl rfl rfl rfl (hl.1) rfl (Nat.le_of_ble_eq_true rfl) dX12_takesDeed_50 ⟨Nat.zero_le _, Nat.zero_le _⟩ (fun r9 σ8 H locs hf hP hD hS => ?_)
        refine lv_if_eq (tgt := 66) hx hb dX12_takesDeed_53 (by decide) (fun h10 => ?_) (fun h10 => ?_)
        · have hf := (if_pos h10).symm.trans hf
          refine lv_aload_n hx hb dX12_takesDeed_66 rfl (lv_at hl 0 rfl) ?_
          refine va_ldcS hx hb hown hZ.2.2.2.2.2.2.2.1.2.2.2.1.2 dX12_takesDeed_67 ?_
          refine q_cVi (wf := (wX12 cI cZ cS ad)) (wc := wX12 cI cZ cS ad) (rest := []) ⟨hx, hb, hml, hown, hts⟩ hK hZ hA hP hD hS hf (fun x τ ho => kX12_takes l D cI cZ cS zz ad σ8 3 x τ ho) (cwV 1 hts gX12_takesDeed_X12_takes rfl rfl rfl ndX12_takes ⟨Nat.le_of_ble_eq_true rfl, Nat.le_of_ble_eq_true rfl⟩) [0, 1, 2, 3, 4, 5, 6, 7, 8, 9, 10, 11] rfl rfl [some 0, some 1, some 2, some 3, some 4, some 5, some 6, some 7, some 8, some 9, some 10, some 11] (by decide +kernel) (Nat.le_of_ble_eq_true rfl) (fun _ => rfl) (fun _ => rfl) (fun _ => rfl) rfl rfl rfl rfl (hl.1) rfl (Nat.le_of_ble_eq_true rfl) dX12_takesDeed_69 ⟨Nat.zero_le _, Nat.zero_le _⟩ (fun r12 σ11 H locs hf hP hD hS => ?_)
          refine lv_if_eq (tgt := 85) hx hb dX12_takesDeed_72 (by decide) (fun h13 => ?_) (fun h13 => ?_)
          · have hf := (if_pos h13).symm.trans hf
            refine lv_aload_n hx hb dX12_takesDeed_85 rfl (lv_at hl 0 rfl) ?_
            refine va_ldcS hx hb hown hZ.2.2.2.2.2.2.2.1.2.2.2.2.1.2 dX12_takesDeed_86 ?_
            refine q_cVi (wf := (wX12 cI cZ cS ad)) (wc := wX12 cI cZ cS ad) (rest := []) ⟨hx, hb, hml, hown, hts⟩ hK hZ hA hP hD hS hf (fun x τ ho => kX12_takes l D cI cZ cS zz ad σ11 4 x τ ho) (cwV 1 hts gX12_takesDeed_X12_takes rfl rfl rfl ndX12_takes ⟨Nat.le_of_ble_eq_true rfl, Nat.le_of_ble_eq_true rfl⟩) [0, 1, 2, 3, 4, 5, 6, 7, 8, 9, 10, 11] rfl rfl [some 0, some 1, some 2, some 3, some 4, some 5, some 6, some 7, some 8, some 9, some 10, some 11] (by decide +kernel) (Nat.le_of_ble_eq_true rfl) (fun _ => rfl) (fun _ => rfl) (fun _ => rfl) rfl rfl rfl rfl (hl.1) rfl (Nat.le_of_ble_eq_true rfl) dX12_takesDeed_88 ⟨Nat.zero_le _, Nat.zero_le _⟩ (fun r15 σ14 H locs hf hP hD hS => ?_)
            refine lv_if_eq (tgt := 104) hx hb dX12_takesDeed_91 (by decide) (fun h16 => ?_) (fun h16 => ?_)
            · have hf := (if_pos h16).symm.trans hf
              refine lv_aload_n hx hb dX12_takesDeed_104 rfl (lv_at hl 0 rfl) ?_
              refine va_ldcS hx hb hown hZ.2.2.2.2.2.2.2.1.2.2.2.2.2.1.2 dX12_takesDeed_105 ?_
              refine q_cVi (wf := (wX12 cI cZ cS ad)) (wc := wX12 cI cZ cS ad) (rest := []) ⟨hx, hb, hml, hown, hts⟩ hK hZ hA hP hD hS hf (fun x τ ho => kX12_takes l D cI cZ cS zz ad σ14 5 x τ ho) (cwV 1 hts gX12_takesDeed_X12_takes rfl rfl rfl ndX12_takes ⟨Nat.le_of_ble_eq_true rfl, Nat.le_of_ble_eq_true rfl⟩) [0, 1, 2, 3, 4, 5, 6, 7, 8, 9, 10, 11] rfl rfl [some 0, some 1, some 2, some 3, some 4, some 5, some 6, some 7, some 8, some 9, some 10, some 11] (by decide +kernel) (Nat.le_of_ble_eq_true rfl) (fun _ => rfl) (fun _ => rfl) (fun _ => rfl) rfl rfl rfl rfl (hl.1) rfl (Nat.le_of_ble_eq_true rfl) dX12_takesDeed_107 ⟨Nat.zero_le _, Nat.zero_le _⟩ (fun r18 σ17 H locs hf hP hD hS => ?_)
              refine q_lt_go hf (fun j21 ej21 hf => ?_)
              have Jj21 : ∀ (σ20 : SS) (y19 : Int32) (H : Heap) (locs : List Loc) (ls : Array Slot), va_P D vwCl ((wX12 cI cZ cS ad) σ20) H → va_D A ((wX12 cI cZ cS ad) σ20) → va_S A s.heap H locs → lv_has ls 1 [] → j21 σ20 y19 = some (rr, σr) → W p l e rmX12_takesDeed s m ([.ref (ad 0)] : List Value).toArray below meth c H locs 0 0 Q (F0 m 130 ls [.int y19]) := by
                intro σ20 y19 H locs ls hP hD hS hl hf
                have hf := (congrFun (congrFun ej21 σ20) y19).symm.trans hf
                obtain ⟨hz, hf⟩ := q_zz_o hf
                obtain ⟨hi1, hi2⟩ := Prod.mk.inj (Option.some.inj hf)
                subst hi1
                subst hi2
                exact hret _ _ _ _ dX12_takesDeed_130 (q_zz_n hz).1 hP hS
              refine q_lt_go hf (fun j23 ej23 hf => ?_)
              have Jj23 : ∀ (σ22 : SS) (H : Heap) (locs : List Loc) (ls : Array Slot), va_P D vwCl ((wX12 cI cZ cS ad) σ22) H → va_D A ((wX12 cI cZ cS ad) σ22) → va_S A s.heap H locs → lv_has ls 1 [] → j23 σ22 = some (rr, σr) → W p l e rmX12_takesDeed s m ([.ref (ad 0)] : List Value).toArray below meth c H locs 0 0 Q (F0 m 129 ls []) := by
                intro σ22 H locs ls hP hD hS hl hf
                have hf := (congrFun ej23 σ22).symm.trans hf
                refine lv_iconst (v := 0) hx hb dX12_takesDeed_129 (by decide) ?_
                exact Jj21 σ22 (0 : Int32) _ _ _ hP hD hS (lv_sub hl [] rfl) hf
              refine lv_if_eq (tgt := 129) hx hb dX12_takesDeed_110 (by decide) (fun h24 => ?_) (fun h24 => ?_)
              · have hf := (if_pos h24).symm.trans hf
                exact Jj23 σ17 _ _ _ hP hD hS (lv_sub hl [] rfl) hf
              · have hf := (if_neg h24).symm.trans hf
                refine lv_aload_n hx hb dX12_takesDeed_113 rfl (lv_at hl 0 rfl) ?_
                refine lv_iconst (v := 5) hx hb dX12_takesDeed_114 (by decide) ?_
                refine lv_iconst (v := 0) hx hb dX12_takesDeed_115 (by decide) ?_
                refine lv_sipush (v := 999) hx hb dX12_takesDeed_116 (by decide) ?_
                refine q_cVi (wf := (wX12 cI cZ cS ad)) (wc := wX12 cI cZ cS ad) (rest := []) ⟨hx, hb, hml, hown, hts⟩ hK hZ hA hP hD hS hf (fun x τ ho => kX12_takesNumber l D cI cZ cS zz ad σ17 (5 : Int32) (0 : Int32) (999 : Int32) x τ ho) (cwV 3 hts gX12_takesDeed_X12_takesNumber rfl rfl rfl ndX12_takesNumber ⟨Nat.le_of_ble_eq_true rfl, Nat.le_of_ble_eq_true rfl⟩) [0, 1, 2, 3, 4, 5, 6, 7, 8, 9, 10, 11] rfl rfl [some 0, some 1, some 2, some 3, some 4, some 5, some 6, some 7, some 8, some 9, some 10, some 11] (by decide +kernel) (Nat.le_of_ble_eq_true rfl) (fun _ => rfl) (fun _ => rfl) (fun _ => rfl) rfl rfl rfl rfl (hl.1) rfl (Nat.le_of_ble_eq_true rfl) dX12_takesDeed_119 ⟨Nat.zero_le _, Nat.zero_le _⟩ (fun r26 σ25 H locs hf hP hD hS => ?_)
                refine lv_if_eq (tgt := 129) hx hb dX12_takesDeed_122 (by decide) (fun h27 => ?_) (fun h27 => ?_)
                · have hf := (if_pos h27).symm.trans hf
                  exact Jj23 σ25 _ _ _ hP hD hS (lv_sub hl [] rfl) hf
                · have hf := (if_neg h27).symm.trans hf
                  refine lv_iconst (v := 1) hx hb dX12_takesDeed_125 (by decide) ?_
                  refine lv_goto (tgt := 130) hx hb dX12_takesDeed_126 (by decide) ?_
                  exact Jj21 σ25 (1 : Int32) _ _ _ hP hD hS (lv_sub hl [] rfl) hf
            · have hf := (if_neg h16).symm.trans hf
              refine lv_aload_n hx hb dX12_takesDeed_94 rfl (lv_at hl 0 rfl) ?_
              refine lv_iconst (v := 4) hx hb dX12_takesDeed_95 (by decide) ?_
              refine lv_iconst (v := 0) hx hb dX12_takesDeed_96 (by decide) ?_
              refine lv_sipush (v := 999) hx hb dX12_takesDeed_97 (by decide) ?_
              refine q_cVi (wf := (wX12 cI cZ cS ad)) (wc := wX12 cI cZ cS ad) (rest := []) ⟨hx, hb, hml, hown, hts⟩ hK hZ hA hP hD hS hf (fun x τ ho => kX12_takesNumber l D cI cZ cS zz ad σ14 (4 : Int32) (0 : Int32) (999 : Int32) x τ ho) (cwV 3 hts gX12_takesDeed_X12_takesNumber rfl rfl rfl ndX12_takesNumber ⟨Nat.le_of_ble_eq_true rfl, Nat.le_of_ble_eq_true rfl⟩) [0, 1, 2, 3, 4, 5, 6, 7, 8, 9, 10, 11] rfl rfl [some 0, some 1, some 2, some 3, some 4, some 5, some 6, some 7, some 8, some 9, some 10, some 11] (by decide +kernel) (Nat.le_of_ble_eq_true rfl) (fun _ => rfl) (fun _ => rfl) (fun _ => rfl) rfl rfl rfl rfl (hl.1) rfl (Nat.le_of_ble_eq_true rfl) dX12_takesDeed_100 ⟨Nat.zero_le _, Nat.zero_le _⟩ (fun r29 σ28 H locs hf hP hD hS => ?_)
              obtain ⟨hz, hf⟩ := q_zz_o hf
              obtain ⟨hi1, hi2⟩ := Prod.mk.inj (Option.some.inj hf)
              subst hi1
              subst hi2
              exact hret _ _ _ _ dX12_takesDeed_103 (q_zz_n hz).1 hP hS
          · have hf := (if_neg h13).symm.trans hf
            refine lv_aload_n hx hb dX12_takesDeed_75 rfl (lv_at hl 0 rfl) ?_
            refine lv_iconst (v := 3) hx hb dX12_takesDeed_76 (by decide) ?_
            refine va_ldcS hx hb hown hZ.2.2.2.2.2.2.2.1.2.2.2.2.2.2.2.2.1.2 dX12_takesDeed_77 ?_
            refine va_ldcS hx hb hown hZ.2.2.2.2.2.2.2.1.2.2.2.2.2.2.2.2.2.2 dX12_takesDeed_79 ?_
            refine q_cVi (wf := (wX12 cI cZ cS ad)) (wc := wX12 cI cZ cS ad) (rest := []) ⟨hx, hb, hml, hown, hts⟩ hK hZ hA hP hD hS hf (fun x τ ho => kX12_takesEither l D cI cZ cS zz ad σ11 (3 : Int32) 8 9 x τ ho) (cwV 3 hts gX12_takesDeed_X12_takesEither rfl rfl rfl ndX12_takesEither ⟨Nat.le_of_ble_eq_true rfl, Nat.le_of_ble_eq_true rfl⟩) [0, 1, 2, 3, 4, 5, 6, 7, 8, 9, 10, 11] rfl rfl [some 0, some 1, some 2, some 3, some 4, some 5, some 6, some 7, some 8, some 9, some 10, some 11] (by decide +kernel) (Nat.le_of_ble_eq_true rfl) (fun _ => rfl) (fun _ => rfl) (fun _ => rfl) rfl rfl rfl rfl (hl.1) rfl (Nat.le_of_ble_eq_true rfl) dX12_takesDeed_81 ⟨Nat.zero_le _, Nat.zero_le _⟩ (fun r31 σ30 H locs hf hP hD hS => ?_)
            obtain ⟨hz, hf⟩ := q_zz_o hf
            obtain ⟨hi1, hi2⟩ := Prod.mk.inj (Option.some.inj hf)
            subst hi1
            subst hi2
            exact hret _ _ _ _ dX12_takesDeed_84 (q_zz_n hz).1 hP hS
        · have hf := (if_neg h10).symm.trans hf
          refine lv_aload_n hx hb dX12_takesDeed_56 rfl (lv_at hl 0 rfl) ?_
          refine lv_iconst (v := 2) hx hb dX12_takesDeed_57 (by decide) ?_
          refine va_ldcS hx hb hown hZ.2.2.2.2.2.2.2.1.2.2.2.2.2.2.1.2 dX12_takesDeed_58 ?_
          refine va_ldcS hx hb hown hZ.2.2.2.2.2.2.2.1.2.2.2.2.2.2.2.1.2 dX12_takesDeed_60 ?_
          refine q_cVi (wf := (wX12 cI cZ cS ad)) (wc := wX12 cI cZ cS ad) (rest := []) ⟨hx, hb, hml, hown, hts⟩ hK hZ hA hP hD hS hf (fun x τ ho => kX12_takesEither l D cI cZ cS zz ad σ8 (2 : Int32) 6 7 x τ ho) (cwV 3 hts gX12_takesDeed_X12_takesEither rfl rfl rfl ndX12_takesEither ⟨Nat.le_of_ble_eq_true rfl, Nat.le_of_ble_eq_true rfl⟩) [0, 1, 2, 3, 4, 5, 6, 7, 8, 9, 10, 11] rfl rfl [some 0, some 1, some 2, some 3, some 4, some 5, some 6, some 7, some 8, some 9, some 10, some 11] (by decide +kernel) (Nat.le_of_ble_eq_true rfl) (fun _ => rfl) (fun _ => rfl) (fun _ => rfl) rfl rfl rfl rfl (hl.1) rfl (Nat.le_of_ble_eq_true rfl) dX12_takesDeed_62 ⟨Nat.zero_le _, Nat.zero_le _⟩ (fun r33 σ32 H locs hf hP hD hS => ?_)
          obtain ⟨hz, hf⟩ := q_zz_o hf
          obtain ⟨hi1, hi2⟩ := Prod.mk.inj (Option.some.inj hf)
          subst hi1
          subst hi2
          exact hret _ _ _ _ dX12_takesDeed_65 (q_zz_n hz).1 hP hS
      · have hf := (if_neg h7).symm.trans hf
        refine lv_aload_n hx hb dX12_takesDeed_38 rfl (lv_at hl 0 rfl) ?_
        refine lv_iconst (v := 1) hx hb dX12_takesDeed_39 (by decide) ?_
        refine lv_iconst (v := 1) hx hb dX12_takesDeed_40 (by decide) ?_
        refine lv_bipush (v := 60) hx hb dX12_takesDeed_41 (by decide) ?_
        refine q_cVi (wf := (wX12 cI cZ cS ad)) (wc := wX12 cI cZ cS ad) (rest := []) ⟨hx, hb, hml, hown, hts⟩ hK hZ hA hP hD hS hf (fun x τ ho => kX12_takesNumber l D cI cZ cS zz ad σ5 (1 : Int32) (1 : Int32) (60 : Int32) x τ ho) (cwV 3 hts gX12_takesDeed_X12_takesNumber rfl rfl rfl ndX12_takesNumber ⟨Nat.le_of_ble_eq_true rfl, Nat.le_of_ble_eq_true rfl⟩) [0, 1, 2, 3, 4, 5, 6, 7, 8, 9, 10, 11] rfl rfl [some 0, some 1, some 2, some 3, some 4, some 5, some 6, some 7, some 8, some 9, some 10, some 11] (by decide +kernel) (Nat.le_of_ble_eq_true rfl) (fun _ => rfl) (fun _ => rfl) (fun _ => rfl) rfl rfl rfl rfl (hl.1) rfl (Nat.le_of_ble_eq_true rfl) dX12_takesDeed_43 ⟨Nat.zero_le _, Nat.zero_le _⟩ (fun r35 σ34 H locs hf hP hD hS => ?_)
        obtain ⟨hz, hf⟩ := q_zz_o hf
        obtain ⟨hi1, hi2⟩ := Prod.mk.inj (Option.some.inj hf)
        subst hi1
        subst hi2
        exact hret _ _ _ _ dX12_takesDeed_46 (q_zz_n hz).1 hP hS
    · have hf := (if_neg h4).symm.trans hf
      refine lv_aload_n hx hb dX12_takesDeed_20 rfl (lv_at hl 0 rfl) ?_
      refine lv_iconst (v := 0) hx hb dX12_takesDeed_21 (by decide) ?_
      refine lv_iconst (v := 0) hx hb dX12_takesDeed_22 (by decide) ?_
      refine lv_bipush (v := 99) hx hb dX12_takesDeed_23 (by decide) ?_
      refine q_cVi (wf := (wX12 cI cZ cS ad)) (wc := wX12 cI cZ cS ad) (rest := []) ⟨hx, hb, hml, hown, hts⟩ hK hZ hA hP hD hS hf (fun x τ ho => kX12_takesNumber l D cI cZ cS zz ad σ2 (0 : Int32) (0 : Int32) (99 : Int32) x τ ho) (cwV 3 hts gX12_takesDeed_X12_takesNumber rfl rfl rfl ndX12_takesNumber ⟨Nat.le_of_ble_eq_true rfl, Nat.le_of_ble_eq_true rfl⟩) [0, 1, 2, 3, 4, 5, 6, 7, 8, 9, 10, 11] rfl rfl [some 0, some 1, some 2, some 3, some 4, some 5, some 6, some 7, some 8, some 9, some 10, some 11] (by decide +kernel) (Nat.le_of_ble_eq_true rfl) (fun _ => rfl) (fun _ => rfl) (fun _ => rfl) rfl rfl rfl rfl (hl.1) rfl (Nat.le_of_ble_eq_true rfl) dX12_takesDeed_25 ⟨Nat.zero_le _, Nat.zero_le _⟩ (fun r37 σ36 H locs hf hP hD hS => ?_)
      obtain ⟨hz, hf⟩ := q_zz_o hf
      obtain ⟨hi1, hi2⟩ := Prod.mk.inj (Option.some.inj hf)
      subst hi1
      subst hi2
      exact hret _ _ _ _ dX12_takesDeed_28 (q_zz_n hz).1 hP hS
  · have hf := (if_pos h1).symm.trans hf
    refine lv_iconst (v := 0) hx hb dX12_takesDeed_9 (by decide) ?_
    obtain ⟨hz, hf⟩ := q_zz_o hf
    obtain ⟨hi1, hi2⟩ := Prod.mk.inj (Option.some.inj hf)
    subst hi1
    subst hi2
    exact hret _ _ _ _ dX12_takesDeed_10 (q_zz_n hz).1 hP hS
def pX12_takesAll (σ : SS) : Option (Int32 × SS) := q_lt (su σ 0 8 (0 : Int32)) (fun (σ1 : SS) => q_lt (su σ1 0 13 (0 : Int32)) (fun (σ2 : SS) => q_cs (pX12_next σ2) (fun (τ : SS) => τ) (fun (σ3 : SS) => q_ci (pX12_takesDeed σ3) (fun (τ : SS) => τ) (fun (r5 : Int32) (σ4 : SS) => (if r5 = (0 : Int32) then q_zz (0 : Int32) (some ((0 : Int32), σ4)) else q_lp (fun _ => none) (fun (c8 : SS → Option (Int32 × SS)) (σ7 : SS) => (if (σ7 0 9) = (3 : Int32) then q_cs (pX12_next σ7) (fun (τ : SS) => τ) (fun (σ15 : SS) => q_ci (pX12_takesDeed σ15) (fun (τ : SS) => τ) (fun (r17 : Int32) (σ16 : SS) => (if r17 = (0 : Int32) then q_zz (0 : Int32) (some ((0 : Int32), σ16)) else c8 σ16))) else q_lt (fun (y12 : Int32) => q_zz y12 (some (y12, σ7))) (fun j13 => (if (σ7 0 9) = (0 : Int32) then j13 (1 : Int32) else j13 (0 : Int32))))) q_fu σ4)))))
theorem fwX12_takesAll_X12 : ∀ w ∈ wsX120, w ∈ wsX12_takesAll := fun _ h => List.mem_cons_of_mem _ (List.mem_append_right _ h)
abbrev rmX12_takesAll : Room := { frames := 7, cells := 0, slots := 0, locals := 178 }
set_option maxHeartbeats 4000000 in
set_option maxRecDepth 100000 in
theorem kX12_takesAll (l : Launch) (D : va_G) (cI cZ cS : ClassId) (zz : ZT) (ad : Nat → Nat) (σ : SS) (rr : Int32) (σr : SS) (hf : pX12_takesAll σ = some (rr, σr)) : CI l yX12_takesAll wsX12_takesAll rmX12_takesAll D (K3 cI cZ cS) zz [.ref (ad 0)] (wX12 cI cZ cS ad σ) (wX12 cI cZ cS ad σr) rr := by
  refine q_ofI (cc := cX12_takesAll) (maxL := 1) (ty := .boolean) (by decide) rfl (Nat.le_of_ble_eq_true rfl) ?_
  intro p e s m below meth c Q A ls hx hb hml hown hts hK hZ hA hP hD hS hl hret
  have hl : lv_has ls 1 [(0, .ref (ad 0))] := hl
  unfold pX12_takesAll at hf
  refine lv_aload_n hx hb dX12_takesAll_0 rfl (lv_at hl 0 rfl) ?_
  refine lv_iconst (v := 0) hx hb dX12_takesAll_1 (by decide) ?_
  refine w_put (D := D) (wf := (wX12 cI cZ cS ad)) (cid := 0) (ci := 12) (C := RX12) (T := TX12) (N := 19) hx hb hts fwX12_takesAll_X12 tyX12 tyX12_ok nmX12 hown hK hP hD hS 0 rfl rfl 8 (by decide) (hts _ (List.mem_of_getElem? (i := 1) rfl)) (fun _ h9 => h9) rfl (tyX12_ok 8 (by decide)) (Nat.le_of_ble_eq_true rfl) hf rfl dX12_takesAll_2 (fun σ1 H locs hf hP hD hS => ?_)
  refine lv_aload_n hx hb dX12_takesAll_5 rfl (lv_at hl 0 rfl) ?_
  refine lv_iconst (v := 0) hx hb dX12_takesAll_6 (by decide) ?_
  refine w_put (D := D) (wf := (wX12 cI cZ cS ad)) (cid := 0) (ci := 12) (C := RX12) (T := TX12) (N := 19) hx hb hts fwX12_takesAll_X12 tyX12 tyX12_ok nmX12 hown hK hP hD hS 0 rfl rfl 13 (by decide) (hts _ (List.mem_of_getElem? (i := 2) rfl)) (fun _ h9 => h9) rfl (tyX12_ok 13 (by decide)) (Nat.le_of_ble_eq_true rfl) hf rfl dX12_takesAll_7 (fun σ2 H locs hf hP hD hS => ?_)
  refine lv_aload_n hx hb dX12_takesAll_10 rfl (lv_at hl 0 rfl) ?_
  refine q_cVv (wf := (wX12 cI cZ cS ad)) (wc := wX12 cI cZ cS ad) (rest := []) ⟨hx, hb, hml, hown, hts⟩ hK hZ hA hP hD hS hf (fun x ho => kX12_next l D cI cZ cS zz ad σ2 x ho) (cwV 0 hts gX12_takesAll_X12_next rfl rfl rfl ndX12_next ⟨Nat.le_of_ble_eq_true rfl, Nat.le_of_ble_eq_true rfl⟩) [0, 1, 2, 3, 4, 5, 6, 7, 8, 9, 10, 11] rfl rfl [some 0, some 1, some 2, some 3, some 4, some 5, some 6, some 7, some 8, some 9, some 10, some 11] (by decide +kernel) (Nat.le_of_ble_eq_true rfl) (fun _ => rfl) (fun _ => rfl) (fun _ => rfl) rfl rfl rfl rfl (hl.1) rfl (Nat.le_of_ble_eq_true rfl) dX12_takesAll_11 ⟨Nat.zero_le _, Nat.zero_le _⟩ (fun σ3 H locs hf hP hD hS => ?_)
  refine lv_aload_n hx hb dX12_takesAll_14 rfl (lv_at hl 0 rfl) ?_
  refine q_cVi (wf := (wX12 cI cZ cS ad)) (wc := wX12 cI cZ cS ad) (rest := []) ⟨hx, hb, hml, hown, hts⟩ hK hZ hA hP hD hS hf (fun x τ ho => kX12_takesDeed l D cI cZ cS zz ad σ3 x τ ho) (cwV 0 hts gX12_takesAll_X12_takesDeed rfl rfl rfl ndX12_takesDeed ⟨Nat.le_of_ble_eq_true rfl, Nat.le_of_ble_eq_true rfl⟩) [0, 1, 2, 3, 4, 5, 6, 7, 8, 9, 10, 11] rfl rfl [some 0, some 1, some 2, some 3, some 4, some 5, some 6, some 7, some 8, some 9, some 10, some 11] (by decide +kernel) (Nat.le_of_ble_eq_true rfl) (fun _ => rfl) (fun _ => rfl) (fun _ => rfl) rfl rfl rfl rfl (hl.1) rfl (Nat.le_of_ble_eq_true rfl) dX12_takesAll_15 ⟨Nat.zero_le _, Nat.zero_le _⟩ (fun r5 σ4 H locs hf hP hD hS => ?_)
  refine lv_if_ne (tgt := 23) hx hb dX12_takesAll_18 (by decide) (fun h6 => ?_) (fun h6 => ?_)
  · have hf := (if_neg h6).symm.trans hf
    refine q_lp_go (f := fun (zf : SS → Option (Int32 × SS)) => zf σ4) hf (fun z9 ez9 hf => ?_)
    have Lz9 : ∀ (n10 : Nat) (σ7 : SS) (H : Heap) (locs : List Loc) (ls : Array Slot), va_P D vwCl ((wX12 cI cZ cS ad) σ7) H → va_D A ((wX12 cI cZ cS ad) σ7) → va_S A s.heap H locs → lv_has ls 1 [(0, .ref (ad 0))] → q_lp (fun _ => none) z9 n10 σ7 = some (rr, σr) → W p l e rmX12_takesAll s m ([.ref (ad 0)] : List Value).toArray below meth c H locs 0 0 Q (F0 m 23 ls []) := by
      intro n10
      induction n10 with
      | zero => exact fun _ _ _ _ _ _ _ _ hf => q_no hf
      | succ n10 ihz9 =>
        intro σ7 H locs ls hP hD hS hl hf
        have hf := (congrFun (congrFun ez9 (q_lp (fun _ => none) z9 n10)) σ7).symm.trans hf
        refine lv_aload_n hx hb dX12_takesAll_23 rfl (lv_at hl 0 rfl) ?_
        refine va_get (D := D) (ci := 12) (C := RX12) (T := TX12) (N := 19) hx hb hts fwX12_takesAll_X12 hown hK hP 0 rfl rfl 9 (by decide) (hts _ (List.mem_of_getElem? (i := 3) rfl)) (fun _ h9 => h9) rfl dX12_takesAll_24 ?_
        refine lv_iconst (v := 3) hx hb dX12_takesAll_27 (by decide) ?_
        refine lv_icmp_ne (tgt := 44) hx hb dX12_takesAll_28 (by decide) (fun h11 => ?_) (fun h11 => ?_)
        · have hf := (if_neg h11).symm.trans hf
          refine lv_aload_n hx hb dX12_takesAll_44 rfl (lv_at hl 0 rfl) ?_
          refine va_get (D := D) (ci := 12) (C := RX12) (T := TX12) (N := 19) hx hb hts fwX12_takesAll_X12 hown hK hP 0 rfl rfl 9 (by decide) (hts _ (List.mem_of_getElem? (i := 3) rfl)) (fun _ h9 => h9) rfl dX12_takesAll_45 ?_
          refine q_lt_go hf (fun j13 ej13 hf => ?_)
          have Jj13 : ∀ (y12 : Int32) (H : Heap) (locs : List Loc) (ls : Array Slot), va_P D vwCl ((wX12 cI cZ cS ad) σ7) H → va_D A ((wX12 cI cZ cS ad) σ7) → va_S A s.heap H locs → lv_has ls 1 [] → j13 y12 = some (rr, σr) → W p l e rmX12_takesAll s m ([.ref (ad 0)] : List Value).toArray below meth c H locs 0 0 Q (F0 m 56 ls [.int y12]) := by
            intro y12 H locs ls hP hD hS hl hf
            have hf := (congrFun ej13 y12).symm.trans hf
            obtain ⟨hz, hf⟩ := q_zz_o hf
            obtain ⟨hi1, hi2⟩ := Prod.mk.inj (Option.some.inj hf)
            subst hi1
            subst hi2
            exact hret _ _ _ _ dX12_takesAll_56 (q_zz_n hz).1 hP hS
          refine lv_if_ne (tgt := 55) hx hb dX12_takesAll_48 (by decide) (fun h14 => ?_) (fun h14 => ?_)
          · have hf := (if_neg h14).symm.trans hf
            refine lv_iconst (v := 0) hx hb dX12_takesAll_55 (by decide) ?_
            exact Jj13 (0 : Int32) _ _ _ hP hD hS (lv_sub hl [] rfl) hf
          · have hf := (if_pos h14).symm.trans hf
            refine lv_iconst (v := 1) hx hb dX12_takesAll_51 (by decide) ?_
            refine lv_goto (tgt := 56) hx hb dX12_takesAll_52 (by decide) ?_
            exact Jj13 (1 : Int32) _ _ _ hP hD hS (lv_sub hl [] rfl) hf
        · have hf := (if_pos h11).symm.trans hf
          refine lv_aload_n hx hb dX12_takesAll_31 rfl (lv_at hl 0 rfl) ?_
          refine q_cVv (wf := (wX12 cI cZ cS ad)) (wc := wX12 cI cZ cS ad) (rest := []) ⟨hx, hb, hml, hown, hts⟩ hK hZ hA hP hD hS hf (fun x ho => kX12_next l D cI cZ cS zz ad σ7 x ho) (cwV 0 hts gX12_takesAll_X12_next rfl rfl rfl ndX12_next ⟨Nat.le_of_ble_eq_true rfl, Nat.le_of_ble_eq_true rfl⟩) [0, 1, 2, 3, 4, 5, 6, 7, 8, 9, 10, 11] rfl rfl [some 0, some 1, some 2, some 3, some 4, some 5, some 6, some 7, some 8, some 9, some 10, some 11] (by decide +kernel) (Nat.le_of_ble_eq_true rfl) (fun _ => rfl) (fun _ => rfl) (fun _ => rfl) rfl rfl rfl rfl (hl.1) rfl (Nat.le_of_ble_eq_true rfl) dX12_takesAll_32 ⟨Nat.zero_le _, Nat.zero_le _⟩ (fun σ15 H locs hf hP hD hS => ?_)
          refine lv_aload_n hx hb dX12_takesAll_35 rfl (lv_at hl 0 rfl) ?_
          refine q_cVi (wf := (wX12 cI cZ cS ad)) (wc := wX12 cI cZ cS ad) (rest := []) ⟨hx, hb, hml, hown, hts⟩ hK hZ hA hP hD hS hf (fun x τ ho => kX12_takesDeed l D cI cZ cS zz ad σ15 x τ ho) (cwV 0 hts gX12_takesAll_X12_takesDeed rfl rfl rfl ndX12_takesDeed ⟨Nat.le_of_ble_eq_true rfl, Nat.le_of_ble_eq_true rfl⟩) [0, 1, 2, 3, 4, 5, 6, 7, 8, 9, 10, 11] rfl rfl [some 0, some 1, some 2, some 3, some 4, some 5, some 6, some 7, some 8, some 9, some 10, some 11] (by decide +kernel) (Nat.le_of_ble_eq_true rfl) (fun _ => rfl) (fun _ => rfl) (fun _ => rfl) rfl rfl rfl rfl (hl.1) rfl (Nat.le_of_ble_eq_true rfl) dX12_takesAll_36 ⟨Nat.zero_le _, Nat.zero_le _⟩ (fun r17 σ16 H locs hf hP hD hS => ?_)
          refine lv_if_ne (tgt := 23) hx hb dX12_takesAll_39 (by decide) (fun h18 => ?_) (fun h18 => ?_)
          · have hf := (if_neg h18).symm.trans hf
            exact ihz9 σ16 _ _ _ hP hD hS (lv_sub hl [0] rfl) hf
          · have hf := (if_pos h18).symm.trans hf
            refine lv_iconst (v := 0) hx hb dX12_takesAll_42 (by decide) ?_
            obtain ⟨hz, hf⟩ := q_zz_o hf
            obtain ⟨hi1, hi2⟩ := Prod.mk.inj (Option.some.inj hf)
            subst hi1
            subst hi2
            exact hret _ _ _ _ dX12_takesAll_43 (q_zz_n hz).1 hP hS
    exact Lz9 q_fu σ4 _ _ _ hP hD hS (lv_sub hl [0] rfl) hf
  · have hf := (if_pos h6).symm.trans hf
    refine lv_iconst (v := 0) hx hb dX12_takesAll_21 (by decide) ?_
    obtain ⟨hz, hf⟩ := q_zz_o hf
    obtain ⟨hi1, hi2⟩ := Prod.mk.inj (Option.some.inj hf)
    subst hi1
    subst hi2
    exact hret _ _ _ _ dX12_takesAll_22 (q_zz_n hz).1 hP hS
def pX12_sky (σ : SS) : Option (Int32 × SS) := q_rd (σ 1) 307 (18 : Int32) (fun (v1 : Int32) => (if v1 = (6 : Int32) then q_ci (pX12_finding σ (1 : Int32)) (fun (τ : SS) => τ) (fun (r22 : Int32) (σ21 : SS) => some (r22, σ21)) else q_ci (pX12_takesAll σ) (fun (τ : SS) => τ) (fun (r4 : Int32) (σ3 : SS) => q_lt (su σ3 0 7 (0 : Int32)) (fun (σ5 : SS) => (if r4 = (0 : Int32) then some (((-1 : Int32) - (σ5 0 10)), σ5) else q_rd (σ5 1) 307 (18 : Int32) (fun (v7 : Int32) => q_lt ((147 : Int32) + ((25 : Int32) * v7)) (fun x2_8 => q_wr σ5 1 307 x2_8 (σ5 0 13) (fun (σ9 : SS) => q_lp (fun _ _ => none) (fun (c12 : SS → Int32 → Option (Int32 × SS)) (σ11 : SS) (x3_10 : Int32) => (if ((2 : Int32) * (σ11 0 13)) ≤ x3_10 then q_rd (σ11 1) 307 (18 : Int32) (fun (v16 : Int32) => q_wr σ11 1 307 (18 : Int32) (v16 + (1 : Int32)) (fun (σ17 : SS) => q_rd (σ17 1) 307 (18 : Int32) (fun (v18 : Int32) => some ((v18 - (1 : Int32)), σ17)))) else q_rd (σ11 6) 26 x3_10 (fun (v19 : Int32) => q_wr σ11 1 307 ((x2_8 + (1 : Int32)) + x3_10) v19 (fun (σ20 : SS) => c12 σ20 (x3_10 + (1 : Int32)))))) q_fu σ9 (0 : Int32)))))))))
theorem fwX12_sky_X12 : ∀ w ∈ wsX120, w ∈ wsX12_sky := fun _ h => List.mem_cons_of_mem _ (List.mem_append_right _ h)
abbrev rmX12_sky : Room := { frames := 8, cells := 0, slots := 0, locals := 198 }
set_option maxHeartbeats 4000000 in
set_option maxRecDepth 100000 in
theorem kX12_sky (l : Launch) (D : va_G) (cI cZ cS : ClassId) (zz : ZT) (ad : Nat → Nat) (σ : SS) (rr : Int32) (σr : SS) (hf : pX12_sky σ = some (rr, σr)) : CI l yX12_sky wsX12_sky rmX12_sky D (K3 cI cZ cS) zz [.ref (ad 0)] (wX12 cI cZ cS ad σ) (wX12 cI cZ cS ad σr) rr := by
  refine q_ofI (cc := cX12_sky) (maxL := 4) (ty := .int) (by decide) rfl (Nat.le_of_ble_eq_true rfl) ?_
  intro p e s m below meth c Q A ls hx hb hml hown hts hK hZ hA hP hD hS hl hret
  have hl : lv_has ls 4 [(0, .ref (ad 0))] := hl
  unfold pX12_sky at hf
  refine lv_aload_n hx hb dX12_sky_0 rfl (lv_at hl 0 rfl) ?_
  refine va_get (D := D) (ci := 12) (C := RX12) (T := TX12) (N := 19) hx hb hts fwX12_sky_X12 hown hK hP 0 rfl rfl 0 (by decide) (hts _ (List.mem_of_getElem? (i := 1) rfl)) (fun _ h9 => h9) rfl dX12_sky_1 ?_
  refine lv_bipush (v := 18) hx hb dX12_sky_4 (by decide) ?_
  refine w_iald (wf := (wX12 cI cZ cS ad)) hx hb hK hP 1 0 rfl rfl hf dX12_sky_6 (fun v1 hf => ?_)
  refine lv_bipush (v := 6) hx hb dX12_sky_7 (by decide) ?_
  refine lv_icmp_ne (tgt := 18) hx hb dX12_sky_9 (by decide) (fun h2 => ?_) (fun h2 => ?_)
  · have hf := (if_neg h2).symm.trans hf
    refine lv_aload_n hx hb dX12_sky_18 rfl (lv_at hl 0 rfl) ?_
    refine q_cVi (wf := (wX12 cI cZ cS ad)) (wc := wX12 cI cZ cS ad) (rest := []) ⟨hx, hb, hml, hown, hts⟩ hK hZ hA hP hD hS hf (fun x τ ho => kX12_takesAll l D cI cZ cS zz ad σ x τ ho) (cwV 0 hts gX12_sky_X12_takesAll rfl rfl rfl ndX12_takesAll ⟨Nat.le_of_ble_eq_true rfl, Nat.le_of_ble_eq_true rfl⟩) [0, 1, 2, 3, 4, 5, 6, 7, 8, 9, 10, 11] rfl rfl [some 0, some 1, some 2, some 3, some 4, some 5, some 6, some 7, some 8, some 9, some 10, some 11] (by decide +kernel) (Nat.le_of_ble_eq_true rfl) (fun _ => rfl) (fun _ => rfl) (fun _ => rfl) rfl rfl rfl rfl (hl.1) rfl (Nat.le_of_ble_eq_true rfl) dX12_sky_19 ⟨Nat.zero_le _, Nat.zero_le _⟩ (fun r4 σ3 H locs hf hP hD hS => ?_)
    refine lv_istore_n (lv' := [(1, .int r4), (0, .ref (ad 0))]) hx hb dX12_sky_22 rfl hl (by decide) rfl (fun ls hl => ?_)
    refine lv_aload_n hx hb dX12_sky_23 rfl (lv_at hl 1 rfl) ?_
    refine lv_iconst (v := 0) hx hb dX12_sky_24 (by decide) ?_
    refine w_put (D := D) (wf := (wX12 cI cZ cS ad)) (cid := 0) (ci := 12) (C := RX12) (T := TX12) (N := 19) hx hb hts fwX12_sky_X12 tyX12 tyX12_ok nmX12 hown hK hP hD hS 0 rfl rfl 7 (by decide) (hts _ (List.mem_of_getElem? (i := 2) rfl)) (fun _ h9 => h9) rfl (tyX12_ok 7 (by decide)) (Nat.le_of_ble_eq_true rfl) hf rfl dX12_sky_25 (fun σ5 H locs hf hP hD hS => ?_)
    refine lv_iload_n hx hb dX12_sky_28 rfl (lv_at hl 0 rfl) ?_
    refine lv_if_ne (tgt := 39) hx hb dX12_sky_29 (by decide) (fun h6 => ?_) (fun h6 => ?_)
    · have hf := (if_neg h6).symm.trans hf
      refine lv_sipush (v := 147) hx hb dX12_sky_39 (by decide) ?_
      refine lv_bipush (v := 25) hx hb dX12_sky_42 (by decide) ?_
      refine lv_aload_n hx hb dX12_sky_44 rfl (lv_at hl 1 rfl) ?_
      refine va_get (D := D) (ci := 12) (C := RX12) (T := TX12) (N := 19) hx hb hts fwX12_sky_X12 hown hK hP 0 rfl rfl 0 (by decide) (hts _ (List.mem_of_getElem? (i := 1) rfl)) (fun _ h9 => h9) rfl dX12_sky_45 ?_
      refine lv_bipush (v := 18) hx hb dX12_sky_48 (by decide) ?_
      refine w_iald (wf := (wX12 cI cZ cS ad)) hx hb hK hP 1 0 rfl rfl hf dX12_sky_50 (fun v7 hf => ?_)
      refine lv_imul hx hb dX12_sky_51 ?_
      refine lv_iadd hx hb dX12_sky_52 ?_
      refine lv_topi (fun x2_8 ex2_8 => ?_)
      have hf := q_lt_at ex2_8 hf
      refine lv_istore_n (lv' := [(2, .int x2_8), (1, .int r4), (0, .ref (ad 0))]) hx hb dX12_sky_53 rfl hl (by decide) rfl (fun ls hl => ?_)
      refine lv_aload_n hx hb dX12_sky_54 rfl (lv_at hl 2 rfl) ?_
      refine va_get (D := D) (ci := 12) (C := RX12) (T := TX12) (N := 19) hx hb hts fwX12_sky_X12 hown hK hP 0 rfl rfl 0 (by decide) (hts _ (List.mem_of_getElem? (i := 1) rfl)) (fun _ h9 => h9) rfl dX12_sky_55 ?_
      refine lv_iload_n hx hb dX12_sky_58 rfl (lv_at hl 0 rfl) ?_
      refine lv_aload_n hx hb dX12_sky_59 rfl (lv_at hl 2 rfl) ?_
      refine va_get (D := D) (ci := 12) (C := RX12) (T := TX12) (N := 19) hx hb hts fwX12_sky_X12 hown hK hP 0 rfl rfl 13 (by decide) (hts _ (List.mem_of_getElem? (i := 4) rfl)) (fun _ h9 => h9) rfl dX12_sky_60 ?_
      refine w_iast (wf := (wX12 cI cZ cS ad)) (cid := 1) hx hb hK hP hD hS 1 0 rfl rfl hf (fun _ => rfl) dX12_sky_63 (fun σ9 H locs hf hP hD hS => ?_)
      refine lv_iconst (v := 0) hx hb dX12_sky_64 (by decide) ?_
      refine lv_istore_n (lv' := [(3, .int (0 : Int32)), (2, .int x2_8), (1, .int r4), (0, .ref (ad 0))]) hx hb dX12_sky_65 rfl hl (by decide) rfl (fun ls hl => ?_)
      refine q_lp_go (f := fun (zf : SS → Int32 → Option (Int32 × SS)) => zf σ9 (0 : Int32)) hf (fun z13 ez13 hf => ?_)
      have Lz13 : ∀ (n14 : Nat) (σ11 : SS) (x3_10 : Int32) (H : Heap) (locs : List Loc) (ls : Array Slot), va_P D vwCl ((wX12 cI cZ cS ad) σ11) H → va_D A ((wX12 cI cZ cS ad) σ11) → va_S A s.heap H locs → lv_has ls 4 [(0, .ref (ad 0)), (2, .int x2_8), (3, .int x3_10)] → q_lp (fun _ _ => none) z13 n14 σ11 x3_10 = some (rr, σr) → W p l e rmX12_sky s m ([.ref (ad 0)] : List Value).toArray below meth c H locs 0 0 Q (F0 m 66 ls []) := by
        intro n14
        induction n14 with
        | zero => exact fun _ _ _ _ _ _ _ _ _ hf => q_no hf
        | succ n14 ihz13 =>
          intro σ11 x3_10 H locs ls hP hD hS hl hf
          have hf := (congrFun (congrFun (congrFun ez13 (q_lp (fun _ _ => none) z13 n14)) σ11) x3_10).symm.trans hf
          refine lv_iload_n hx hb dX12_sky_66 rfl (lv_at hl 2 rfl) ?_
          refine lv_iconst (v := 2) hx hb dX12_sky_67 (by decide) ?_
          refine lv_aload_n hx hb dX12_sky_68 rfl (lv_at hl 0 rfl) ?_
          refine va_get (D := D) (ci := 12) (C := RX12) (T := TX12) (N := 19) hx hb hts fwX12_sky_X12 hown hK hP 0 rfl rfl 13 (by decide) (hts _ (List.mem_of_getElem? (i := 4) rfl)) (fun _ h9 => h9) rfl dX12_sky_69 ?_
          refine lv_imul hx hb dX12_sky_72 ?_
          refine lv_icmp_ge (tgt := 98) hx hb dX12_sky_73 (by decide) (fun h15 => ?_) (fun h15 => ?_)
          · have hf := (if_pos h15).symm.trans hf
            refine lv_aload_n hx hb dX12_sky_98 rfl (lv_at hl 0 rfl) ?_
            refine va_get (D := D) (ci := 12) (C := RX12) (T := TX12) (N := 19) hx hb hts fwX12_sky_X12 hown hK hP 0 rfl rfl 0 (by decide) (hts _ (List.mem_of_getElem? (i := 1) rfl)) (fun _ h9 => h9) rfl dX12_sky_99 ?_
            refine lv_bipush (v := 18) hx hb dX12_sky_102 (by decide) ?_
            refine lv_dup2_11 hx hb dX12_sky_104 rfl rfl ?_
            refine w_iald (wf := (wX12 cI cZ cS ad)) hx hb hK hP 1 0 rfl rfl hf dX12_sky_105 (fun v16 hf => ?_)
            refine lv_iconst (v := 1) hx hb dX12_sky_106 (by decide) ?_
            refine lv_iadd hx hb dX12_sky_107 ?_
            refine w_iast (wf := (wX12 cI cZ cS ad)) (cid := 1) hx hb hK hP hD hS 1 0 rfl rfl hf (fun _ => rfl) dX12_sky_108 (fun σ17 H locs hf hP hD hS => ?_)
            refine lv_aload_n hx hb dX12_sky_109 rfl (lv_at hl 0 rfl) ?_
            refine va_get (D := D) (ci := 12) (C := RX12) (T := TX12) (N := 19) hx hb hts fwX12_sky_X12 hown hK hP 0 rfl rfl 0 (by decide) (hts _ (List.mem_of_getElem? (i := 1) rfl)) (fun _ h9 => h9) rfl dX12_sky_110 ?_
            refine lv_bipush (v := 18) hx hb dX12_sky_113 (by decide) ?_
            refine w_iald (wf := (wX12 cI cZ cS ad)) hx hb hK hP 1 0 rfl rfl hf dX12_sky_115 (fun v18 hf => ?_)
            refine lv_iconst (v := 1) hx hb dX12_sky_116 (by decide) ?_
            refine lv_isub hx hb dX12_sky_117 ?_
            obtain ⟨hi1, hi2⟩ := Prod.mk.inj (Option.some.inj hf)
            subst hi1
            subst hi2
            exact hret _ _ _ _ dX12_sky_118 rfl hP hS
          · have hf := (if_neg h15).symm.trans hf
            refine lv_aload_n hx hb dX12_sky_76 rfl (lv_at hl 0 rfl) ?_
            refine va_get (D := D) (ci := 12) (C := RX12) (T := TX12) (N := 19) hx hb hts fwX12_sky_X12 hown hK hP 0 rfl rfl 0 (by decide) (hts _ (List.mem_of_getElem? (i := 1) rfl)) (fun _ h9 => h9) rfl dX12_sky_77 ?_
            refine lv_iload_n hx hb dX12_sky_80 rfl (lv_at hl 1 rfl) ?_
            refine lv_iconst (v := 1) hx hb dX12_sky_81 (by decide) ?_
            refine lv_iadd hx hb dX12_sky_82 ?_
            refine lv_iload_n hx hb dX12_sky_83 rfl (lv_at hl 2 rfl) ?_
            refine lv_iadd hx hb dX12_sky_84 ?_
            refine lv_aload_n hx hb dX12_sky_85 rfl (lv_at hl 0 rfl) ?_
            refine va_get (D := D) (ci := 12) (C := RX12) (T := TX12) (N := 19) hx hb hts fwX12_sky_X12 hown hK hP 0 rfl rfl 12 (by decide) (hts _ (List.mem_of_getElem? (i := 5) rfl)) (fun _ h9 => h9) rfl dX12_sky_86 ?_
            refine lv_iload_n hx hb dX12_sky_89 rfl (lv_at hl 2 rfl) ?_
            refine w_iald (wf := (wX12 cI cZ cS ad)) hx hb hK hP 6 0 rfl rfl hf dX12_sky_90 (fun v19 hf => ?_)
            refine w_iast (wf := (wX12 cI cZ cS ad)) (cid := 1) hx hb hK hP hD hS 1 0 rfl rfl hf (fun _ => rfl) dX12_sky_91 (fun σ20 H locs hf hP hD hS => ?_)
            refine lv_iinc (v := (x3_10 + (1 : Int32))) (lv' := [(3, .int (x3_10 + (1 : Int32))), (0, .ref (ad 0)), (2, .int x2_8)]) hx hb dX12_sky_92 hl (k := 2) rfl rfl (by decide) rfl (fun ls hl => ?_)
            refine lv_goto (tgt := 66) hx hb dX12_sky_95 (by decide) ?_
            exact ihz13 σ20 (x3_10 + (1 : Int32)) _ _ _ hP hD hS (lv_sub hl [1, 2, 0] rfl) hf
      exact Lz13 q_fu σ9 (0 : Int32) _ _ _ hP hD hS (lv_sub hl [3, 1, 0] rfl) hf
    · have hf := (if_pos h6).symm.trans hf
      refine lv_iconst (v := -1) hx hb dX12_sky_32 (by decide) ?_
      refine lv_aload_n hx hb dX12_sky_33 rfl (lv_at hl 1 rfl) ?_
      refine va_get (D := D) (ci := 12) (C := RX12) (T := TX12) (N := 19) hx hb hts fwX12_sky_X12 hown hK hP 0 rfl rfl 10 (by decide) (hts _ (List.mem_of_getElem? (i := 3) rfl)) (fun _ h9 => h9) rfl dX12_sky_34 ?_
      refine lv_isub hx hb dX12_sky_37 ?_
      obtain ⟨hi1, hi2⟩ := Prod.mk.inj (Option.some.inj hf)
      subst hi1
      subst hi2
      exact hret _ _ _ _ dX12_sky_38 rfl hP hS
  · have hf := (if_pos h2).symm.trans hf
    refine lv_aload_n hx hb dX12_sky_12 rfl (lv_at hl 0 rfl) ?_
    refine lv_iconst (v := 1) hx hb dX12_sky_13 (by decide) ?_
    refine q_cVi (wf := (wX12 cI cZ cS ad)) (wc := wX12 cI cZ cS ad) (rest := []) ⟨hx, hb, hml, hown, hts⟩ hK hZ hA hP hD hS hf (fun x τ ho => kX12_finding l D cI cZ cS zz ad σ (1 : Int32) x τ ho) (cwV 1 hts gX12_sky_X12_finding rfl rfl rfl ndX12_finding ⟨Nat.le_of_ble_eq_true rfl, Nat.le_of_ble_eq_true rfl⟩) [0, 1, 2, 3, 4, 5, 6, 7, 8, 9, 10, 11] rfl rfl [some 0, some 1, some 2, some 3, some 4, some 5, some 6, some 7, some 8, some 9, some 10, some 11] (by decide +kernel) (Nat.le_of_ble_eq_true rfl) (fun _ => rfl) (fun _ => rfl) (fun _ => rfl) rfl rfl rfl rfl (hl.1) rfl (Nat.le_of_ble_eq_true rfl) dX12_sky_14 ⟨Nat.zero_le _, Nat.zero_le _⟩ (fun r22 σ21 H locs hf hP hD hS => ?_)
    obtain ⟨hi1, hi2⟩ := Prod.mk.inj (Option.some.inj hf)
    subst hi1
    subst hi2
    exact hret _ _ _ _ dX12_sky_17 rfl hP hS
