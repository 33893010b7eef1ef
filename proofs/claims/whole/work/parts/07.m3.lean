def pX11_tell (σ : SS) (a1 : Int32) : Option (Int32 × SS) := q_rd (σ 1) 7 ((-1000001 : Int32) - a1) (fun (v1 : Int32) => q_wr σ 1 7 ((-1000001 : Int32) - a1) (v1 + (1 : Int32)) (fun (σ2 : SS) => some (a1, σ2)))
theorem fwX11_tell_X11 : ∀ w ∈ wsX110, w ∈ wsX11_tell := fun _ h => List.mem_cons_of_mem _ (List.mem_append_right _ h)
abbrev rmX11_tell : Room := { frames := 0, cells := 0, slots := 0, locals := 0 }
set_option maxHeartbeats 4000000 in
set_option maxRecDepth 100000 in
theorem kX11_tell (l : Launch) (D : va_G) (cI cZ cS : ClassId) (zz : ZT) (ad : Nat → Nat) (σ : SS) (a1 : Int32) (rr : Int32) (σr : SS) (hf : pX11_tell σ a1 = some (rr, σr)) : CI l yX11_tell wsX11_tell rmX11_tell D (K3 cI cZ cS) zz [.ref (ad 0), .int a1] (wX11 cI cZ cS ad σ) (wX11 cI cZ cS ad σr) rr := by
  refine q_ofI (cc := cX11_tell) (maxL := 2) (ty := .int) (by decide) rfl (Nat.le_of_ble_eq_true rfl) ?_
  intro p e s m below meth c Q A ls hx hb hml hown hts hK hZ hA hP hD hS hl hret
  have hl : lv_has ls 2 [(0, .ref (ad 0)), (1, .int a1)] := hl
  unfold pX11_tell at hf
  refine lv_aload_n hx hb dX11_tell_0 rfl (lv_at hl 0 rfl) ?_
  refine va_get (D := D) (ci := 11) (C := RX11) (T := TX11) (N := 9) hx hb hts fwX11_tell_X11 hown hK hP 0 rfl rfl 0 (by decide) (hts _ (List.mem_of_getElem? (i := 1) rfl)) (fun _ h9 => h9) rfl dX11_tell_1 ?_
  refine lv_ldc (v := -1000001) hx hb hown (hts _ (List.mem_of_getElem? (i := 2) rfl)) dX11_tell_4 ?_
  refine lv_iload_n hx hb dX11_tell_6 rfl (lv_at hl 1 rfl) ?_
  refine lv_isub hx hb dX11_tell_7 ?_
  refine lv_dup2_11 hx hb dX11_tell_8 rfl rfl ?_
  refine w_iald (wf := (wX11 cI cZ cS ad)) hx hb hK hP 1 0 rfl rfl hf dX11_tell_9 (fun v1 hf => ?_)
  refine lv_iconst (v := 1) hx hb dX11_tell_10 (by decide) ?_
  refine lv_iadd hx hb dX11_tell_11 ?_
  refine w_iast (wf := (wX11 cI cZ cS ad)) (cid := 1) hx hb hK hP hD hS 1 0 rfl rfl hf (fun _ => rfl) dX11_tell_12 (fun σ2 H locs hf hP hD hS => ?_)
  refine lv_iload_n hx hb dX11_tell_13 rfl (lv_at hl 1 rfl) ?_
  obtain ⟨hi1, hi2⟩ := Prod.mk.inj (Option.some.inj hf)
  subst hi1
  subst hi2
  exact hret _ _ _ _ dX11_tell_14 rfl hP hS
def pX11_water (σ : SS) (a1 : Int32) (a2 : Int32) (a3 : Int32) : Option (Int32 × SS) := q_cr (pX11_within a1 (0 : Int32) (6 : Int32)) (fun (r1 : Int32) => q_lt (q_ci (pX11_tell σ (-1000001 : Int32)) (fun (τ : SS) => τ) (fun (r4 : Int32) (σ3 : SS) => some (r4, σ3))) (fun j2 => (if r1 = (0 : Int32) then j2 else q_cr (pX11_within a2 (1 : Int32) (99 : Int32)) (fun (r6 : Int32) => (if r6 = (0 : Int32) then j2 else q_cr (pX11_within a3 (0 : Int32) (999 : Int32)) (fun (r8 : Int32) => (if r8 = (0 : Int32) then j2 else (if (σ 4 0) < (8 : Int32) then q_ci (pX10_add (q_sb σ 4) a1 a2 a3) (fun (τ : SS) => (q_em σ 4 0 5 τ)) (fun (r12 : Int32) (σ11 : SS) => some (r12, σ11)) else q_ci (pX11_tell σ (-1000002 : Int32)) (fun (τ : SS) => τ) (fun (r14 : Int32) (σ13 : SS) => some (r14, σ13))))))))))
theorem fwX11_water_X0 : ∀ w ∈ wsX00, w ∈ wsX11_water := fun _ h => List.mem_cons_of_mem _ (List.mem_append_left _ (List.mem_append_right _ h))
theorem fwX11_water_X10 : ∀ w ∈ wsX100, w ∈ wsX11_water := fun _ h => List.mem_cons_of_mem _ (List.mem_append_right _ h)
theorem fwX11_water_X11 : ∀ w ∈ wsX110, w ∈ wsX11_water := fun _ h => List.mem_cons_of_mem _ (List.mem_append_left _ (List.mem_append_left _ (List.mem_append_left _ (List.mem_append_right _ h))))
theorem fwX11_water_X2 : ∀ w ∈ wsX20, w ∈ wsX11_water := fun _ h => List.mem_cons_of_mem _ (List.mem_append_left _ (List.mem_append_left _ (List.mem_append_right _ h)))
abbrev rmX11_water : Room := { frames := 1, cells := 0, slots := 0, locals := 23 }
set_option maxHeartbeats 4000000 in
set_option maxRecDepth 100000 in
theorem kX11_water (l : Launch) (D : va_G) (cI cZ cS : ClassId) (zz : ZT) (ad : Nat → Nat) (σ : SS) (a1 : Int32) (a2 : Int32) (a3 : Int32) (rr : Int32) (σr : SS) (hf : pX11_water σ a1 a2 a3 = some (rr, σr)) : CI l yX11_water wsX11_water rmX11_water D (K3 cI cZ cS) zz [.ref (ad 0), .int a1, .int a2, .int a3] (wX11 cI cZ cS ad σ) (wX11 cI cZ cS ad σr) rr := by
  refine q_ofI (cc := cX11_water) (maxL := 4) (ty := .int) (by decide) rfl (Nat.le_of_ble_eq_true rfl) ?_
  intro p e s m below meth c Q A ls hx hb hml hown hts hK hZ hA hP hD hS hl hret
  have hl : lv_has ls 4 [(0, .ref (ad 0)), (1, .int a1), (2, .int a2), (3, .int a3)] := hl
  unfold pX11_water at hf
  refine lv_iload_n hx hb dX11_water_0 rfl (lv_at hl 1 rfl) ?_
  refine lv_iconst (v := 0) hx hb dX11_water_1 (by decide) ?_
  refine lv_bipush (v := 6) hx hb dX11_water_2 (by decide) ?_
  refine q_cSr (wf := (wX11 cI cZ cS ad)) (rest := []) ⟨hx, hb, hml, hown, hts⟩ hK hZ hA hP hD hS hf (fun x ho => kX11_within l D cI cZ cS zz a1 (0 : Int32) (6 : Int32) x ho) (va_cwS 3 hts gX11_water_X11_within rfl rfl rfl ndX11_within.2 ⟨Nat.le_of_ble_eq_true rfl, Nat.le_of_ble_eq_true rfl⟩) rfl (hl.1) rfl (Nat.le_of_ble_eq_true rfl) dX11_water_4 ⟨Nat.zero_le _, Nat.zero_le _⟩ (fun r1 H locs hf hP hD hS => ?_)
  refine q_lt_go hf (fun j2 ej2 hf => ?_)
  have Jj2 : ∀ (H : Heap) (locs : List Loc) (ls : Array Slot), va_P D vwCl ((wX11 cI cZ cS ad) σ) H → va_D A ((wX11 cI cZ cS ad) σ) → va_S A s.heap H locs → lv_has ls 4 [(0, .ref (ad 0))] → j2 = some (rr, σr) → W p l e rmX11_water s m ([.ref (ad 0), .int a1, .int a2, .int a3] : List Value).toArray below meth c H locs 0 0 Q (F0 m 31 ls []) := by
    intro  H locs ls hP hD hS hl hf
    have hf := ej2.symm.trans hf
    refine lv_aload_n hx hb dX11_water_31 rfl (lv_at hl 0 rfl) ?_
    refine lv_ldc (v := -1000001) hx hb hown (hts _ (List.mem_of_getElem? (i := 1) rfl)) dX11_water_32 ?_
    refine q_cVi (wf := (wX11 cI cZ cS ad)) (wc := wX11 cI cZ cS ad) (rest := []) ⟨hx, hb, hml, hown, hts⟩ hK hZ hA hP hD hS hf (fun x τ ho => kX11_tell l D cI cZ cS zz ad σ (-1000001 : Int32) x τ ho) (cwV 1 hts gX11_water_X11_tell rfl rfl rfl ndX11_tell ⟨Nat.le_of_ble_eq_true rfl, Nat.le_of_ble_eq_true rfl⟩) [0, 1, 2, 3, 4, 5, 6, 7, 8, 9, 10, 11, 12, 13, 14, 15, 16, 17, 18, 19, 20, 21, 22, 23, 24, 25, 26, 27, 28, 29, 30, 31, 32, 33, 34, 35, 36, 37, 38, 39, 40, 41, 42, 43, 44, 45, 46, 47, 48, 49, 50, 51, 52, 53, 54, 55, 56, 57, 58, 59, 60, 61, 62, 63, 64, 65, 66, 67, 68, 69, 70, 71] rfl rfl [some 0, some 1, some 2, some 3, some 4, some 5, some 6, some 7, some 8, some 9, some 10, some 11, some 12, some 13, some 14, some 15, some 16, some 17, some 18, some 19, some 20, some 21, some 22, some 23, some 24, some 25, some 26, some 27, some 28, some 29, some 30, some 31, some 32, some 33, some 34, some 35, some 36, some 37, some 38, some 39, some 40, some 41, some 42, some 43, some 44, some 45, some 46, some 47, some 48, some 49, some 50, some 51, some 52, some 53, some 54, some 55, some 56, some 57, some 58, some 59, some 60, some 61, some 62, some 63, some 64, some 65, some 66, some 67, some 68, some 69, some 70, some 71] (by decide +kernel) (Nat.le_of_ble_eq_true rfl) (fun _ => rfl) (fun _ => rfl) (fun _ => rfl) rfl rfl rfl rfl (hl.1) rfl (Nat.le_of_ble_eq_true rfl) dX11_water_34 ⟨Nat.zero_le _, Nat.zero_le _⟩ (fun r4 σ3 H locs hf hP hD hS => ?_)
    obtain ⟨hi1, hi2⟩ := Prod.mk.inj (Option.some.inj hf)
    subst hi1
    subst hi2
    exact hret _ _ _ _ dX11_water_37 rfl hP hS
  refine lv_if_eq (tgt := 31) hx hb dX11_water_7 (by decide) (fun h5 => ?_) (fun h5 => ?_)
  · have hf := (if_pos h5).symm.trans hf
    exact Jj2  _ _ _ hP hD hS (lv_sub hl [0] rfl) hf
  · have hf := (if_neg h5).symm.trans hf
    refine lv_iload_n hx hb dX11_water_10 rfl (lv_at hl 2 rfl) ?_
    refine lv_iconst (v := 1) hx hb dX11_water_11 (by decide) ?_
    refine lv_bipush (v := 99) hx hb dX11_water_12 (by decide) ?_
    refine q_cSr (wf := (wX11 cI cZ cS ad)) (rest := []) ⟨hx, hb, hml, hown, hts⟩ hK hZ hA hP hD hS hf (fun x ho => kX11_within l D cI cZ cS zz a2 (1 : Int32) (99 : Int32) x ho) (va_cwS 3 hts gX11_water_X11_within rfl rfl rfl ndX11_within.2 ⟨Nat.le_of_ble_eq_true rfl, Nat.le_of_ble_eq_true rfl⟩) rfl (hl.1) rfl (Nat.le_of_ble_eq_true rfl) dX11_water_14 ⟨Nat.zero_le _, Nat.zero_le _⟩ (fun r6 H locs hf hP hD hS => ?_)
    refine lv_if_eq (tgt := 31) hx hb dX11_water_17 (by decide) (fun h7 => ?_) (fun h7 => ?_)
    · have hf := (if_pos h7).symm.trans hf
      exact Jj2  _ _ _ hP hD hS (lv_sub hl [0] rfl) hf
    · have hf := (if_neg h7).symm.trans hf
      refine lv_iload_n hx hb dX11_water_20 rfl (lv_at hl 3 rfl) ?_
      refine lv_iconst (v := 0) hx hb dX11_water_21 (by decide) ?_
      refine lv_sipush (v := 999) hx hb dX11_water_22 (by decide) ?_
      refine q_cSr (wf := (wX11 cI cZ cS ad)) (rest := []) ⟨hx, hb, hml, hown, hts⟩ hK hZ hA hP hD hS hf (fun x ho => kX11_within l D cI cZ cS zz a3 (0 : Int32) (999 : Int32) x ho) (va_cwS 3 hts gX11_water_X11_within rfl rfl rfl ndX11_within.2 ⟨Nat.le_of_ble_eq_true rfl, Nat.le_of_ble_eq_true rfl⟩) rfl (hl.1) rfl (Nat.le_of_ble_eq_true rfl) dX11_water_25 ⟨Nat.zero_le _, Nat.zero_le _⟩ (fun r8 H locs hf hP hD hS => ?_)
      refine lv_if_ne (tgt := 38) hx hb dX11_water_28 (by decide) (fun h9 => ?_) (fun h9 => ?_)
      · have hf := (if_neg h9).symm.trans hf
        refine lv_aload_n hx hb dX11_water_38 rfl (lv_at hl 0 rfl) ?_
        refine va_get (D := D) (ci := 11) (C := RX11) (T := TX11) (N := 9) hx hb hts fwX11_water_X11 hown hK hP 0 rfl rfl 1 (by decide) (hts _ (List.mem_of_getElem? (i := 2) rfl)) (fun _ h9 => h9) rfl dX11_water_39 ?_
        refine va_get (D := D) (ci := 2) (C := RX2) (T := TX2) (N := 4) hx hb hts fwX11_water_X2 hown hK hP 2 rfl rfl 0 (by decide) (hts _ (List.mem_of_getElem? (i := 3) rfl)) (fun _ h9 => h9) rfl dX11_water_42 ?_
        refine va_get (D := D) (ci := 0) (C := RX0) (T := TX0) (N := 13) hx hb hts fwX11_water_X0 hown hK hP 3 rfl rfl 0 (by decide) (hts _ (List.mem_of_getElem? (i := 4) rfl)) (fun _ h9 => h9) rfl dX11_water_45 ?_
        refine va_get (D := D) (ci := 10) (C := RX10) (T := TX10) (N := 5) hx hb hts fwX11_water_X10 hown hK hP 4 rfl rfl 0 (by decide) (hts _ (List.mem_of_getElem? (i := 5) rfl)) (fun _ h9 => h9) rfl dX11_water_48 ?_
        refine lv_bipush (v := 8) hx hb dX11_water_51 (by decide) ?_
        refine lv_icmp_lt (tgt := 63) hx hb dX11_water_53 (by decide) (fun h10 => ?_) (fun h10 => ?_)
        · have hf := (if_pos h10).symm.trans hf
          refine lv_aload_n hx hb dX11_water_63 rfl (lv_at hl 0 rfl) ?_
          refine va_get (D := D) (ci := 11) (C := RX11) (T := TX11) (N := 9) hx hb hts fwX11_water_X11 hown hK hP 0 rfl rfl 1 (by decide) (hts _ (List.mem_of_getElem? (i := 2) rfl)) (fun _ h9 => h9) rfl dX11_water_64 ?_
          refine va_get (D := D) (ci := 2) (C := RX2) (T := TX2) (N := 4) hx hb hts fwX11_water_X2 hown hK hP 2 rfl rfl 0 (by decide) (hts _ (List.mem_of_getElem? (i := 3) rfl)) (fun _ h9 => h9) rfl dX11_water_67 ?_
          refine va_get (D := D) (ci := 0) (C := RX0) (T := TX0) (N := 13) hx hb hts fwX11_water_X0 hown hK hP 3 rfl rfl 0 (by decide) (hts _ (List.mem_of_getElem? (i := 4) rfl)) (fun _ h9 => h9) rfl dX11_water_70 ?_
          refine lv_iload_n hx hb dX11_water_73 rfl (lv_at hl 1 rfl) ?_
          refine lv_iload_n hx hb dX11_water_74 rfl (lv_at hl 2 rfl) ?_
          refine lv_iload_n hx hb dX11_water_75 rfl (lv_at hl 3 rfl) ?_
          refine q_cVi (wf := (wX11 cI cZ cS ad)) (wc := wX10 cI cZ cS (fun i => ad (4 + i))) (rest := []) ⟨hx, hb, hml, hown, hts⟩ hK hZ hA hP hD hS hf (fun x τ ho => kX10_add l D cI cZ cS zz (fun i => ad (4 + i)) (q_sb σ 4) a1 a2 a3 x τ ho) (cwV 3 hts gX11_water_X10_add rfl rfl rfl ndX10_add ⟨Nat.le_of_ble_eq_true rfl, Nat.le_of_ble_eq_true rfl⟩) [4, 5, 6, 7, 8] rfl rfl [none, none, none, none, some 0, some 1, some 2, some 3, some 4, none, none, none, none, none, none, none, none, none, none, none, none, none, none, none, none, none, none, none, none, none, none, none, none, none, none, none, none, none, none, none, none, none, none, none, none, none, none, none, none, none, none, none, none, none, none, none, none, none, none, none, none, none, none, none, none, none, none, none, none, none, none, none] (by decide +kernel) (Nat.le_of_ble_eq_true rfl) (fun _ => rfl) (fun _ => rfl) (fun _ => rfl) rfl rfl rfl rfl (hl.1) rfl (Nat.le_of_ble_eq_true rfl) dX11_water_76 ⟨Nat.zero_le _, Nat.zero_le _⟩ (fun r12 σ11 H locs hf hP hD hS => ?_)
          obtain ⟨hi1, hi2⟩ := Prod.mk.inj (Option.some.inj hf)
          subst hi1
          subst hi2
          exact hret _ _ _ _ dX11_water_79 rfl hP hS
        · have hf := (if_neg h10).symm.trans hf
          refine lv_aload_n hx hb dX11_water_56 rfl (lv_at hl 0 rfl) ?_
          refine lv_ldc (v := -1000002) hx hb hown (hts _ (List.mem_of_getElem? (i := 6) rfl)) dX11_water_57 ?_
          refine q_cVi (wf := (wX11 cI cZ cS ad)) (wc := wX11 cI cZ cS ad) (rest := []) ⟨hx, hb, hml, hown, hts⟩ hK hZ hA hP hD hS hf (fun x τ ho => kX11_tell l D cI cZ cS zz ad σ (-1000002 : Int32) x τ ho) (cwV 1 hts gX11_water_X11_tell rfl rfl rfl ndX11_tell ⟨Nat.le_of_ble_eq_true rfl, Nat.le_of_ble_eq_true rfl⟩) [0, 1, 2, 3, 4, 5, 6, 7, 8, 9, 10, 11, 12, 13, 14, 15, 16, 17, 18, 19, 20, 21, 22, 23, 24, 25, 26, 27, 28, 29, 30, 31, 32, 33, 34, 35, 36, 37, 38, 39, 40, 41, 42, 43, 44, 45, 46, 47, 48, 49, 50, 51, 52, 53, 54, 55, 56, 57, 58, 59, 60, 61, 62, 63, 64, 65, 66, 67, 68, 69, 70, 71] rfl rfl [some 0, some 1, some 2, some 3, some 4, some 5, some 6, some 7, some 8, some 9, some 10, some 11, some 12, some 13, some 14, some 15, some 16, some 17, some 18, some 19, some 20, some 21, some 22, some 23, some 24, some 25, some 26, some 27, some 28, some 29, some 30, some 31, some 32, some 33, some 34, some 35, some 36, some 37, some 38, some 39, some 40, some 41, some 42, some 43, some 44, some 45, some 46, some 47, some 48, some 49, some 50, some 51, some 52, some 53, some 54, some 55, some 56, some 57, some 58, some 59, some 60, some 61, some 62, some 63, some 64, some 65, some 66, some 67, some 68, some 69, some 70, some 71] (by decide +kernel) (Nat.le_of_ble_eq_true rfl) (fun _ => rfl) (fun _ => rfl) (fun _ => rfl) rfl rfl rfl rfl (hl.1) rfl (Nat.le_of_ble_eq_true rfl) dX11_water_59 ⟨Nat.zero_le _, Nat.zero_le _⟩ (fun r14 σ13 H locs hf hP hD hS => ?_)
          obtain ⟨hi1, hi2⟩ := Prod.mk.inj (Option.some.inj hf)
          subst hi1
          subst hi2
          exact hret _ _ _ _ dX11_water_62 rfl hP hS
      · have hf := (if_pos h9).symm.trans hf
        exact Jj2  _ _ _ hP hD hS (lv_sub hl [0] rfl) hf
def pX11_isWater (σ : SS) (a1 : Int32) : Option Int32 := q_cr (pX11_within a1 (0 : Int32) ((σ 4 0) - (1 : Int32))) (fun (r1 : Int32) => q_zz r1 (some r1))
theorem fwX11_isWater_X0 : ∀ w ∈ wsX00, w ∈ wsX11_isWater := fun _ h => List.mem_cons_of_mem _ (List.mem_append_left _ (List.mem_append_right _ h))
theorem fwX11_isWater_X10 : ∀ w ∈ wsX100, w ∈ wsX11_isWater := fun _ h => List.mem_cons_of_mem _ (List.mem_append_right _ h)
theorem fwX11_isWater_X11 : ∀ w ∈ wsX110, w ∈ wsX11_isWater := fun _ h => List.mem_cons_of_mem _ (List.mem_append_left _ (List.mem_append_left _ (List.mem_append_left _ (List.mem_append_right _ h))))
theorem fwX11_isWater_X2 : ∀ w ∈ wsX20, w ∈ wsX11_isWater := fun _ h => List.mem_cons_of_mem _ (List.mem_append_left _ (List.mem_append_left _ (List.mem_append_right _ h)))
abbrev rmX11_isWater : Room := { frames := 1, cells := 0, slots := 0, locals := 22 }
set_option maxHeartbeats 4000000 in
set_option maxRecDepth 100000 in
theorem kX11_isWater (l : Launch) (D : va_G) (cI cZ cS : ClassId) (zz : ZT) (ad : Nat → Nat) (σ : SS) (a1 : Int32) (rr : Int32) (hf : pX11_isWater σ a1 = some rr) : CI l yX11_isWater wsX11_isWater rmX11_isWater D (K3 cI cZ cS) zz [.ref (ad 0), .int a1] (wX11 cI cZ cS ad σ) (wX11 cI cZ cS ad σ) rr := by
  refine q_ofI (cc := cX11_isWater) (maxL := 2) (ty := .boolean) (by decide) rfl (Nat.le_of_ble_eq_true rfl) ?_
  intro p e s m below meth c Q A ls hx hb hml hown hts hK hZ hA hP hD hS hl hret
  have hl : lv_has ls 2 [(0, .ref (ad 0)), (1, .int a1)] := hl
  unfold pX11_isWater at hf
  refine lv_iload_n hx hb dX11_isWater_0 rfl (lv_at hl 1 rfl) ?_
  refine lv_iconst (v := 0) hx hb dX11_isWater_1 (by decide) ?_
  refine lv_aload_n hx hb dX11_isWater_2 rfl (lv_at hl 0 rfl) ?_
  refine va_get (D := D) (ci := 11) (C := RX11) (T := TX11) (N := 9) hx hb hts fwX11_isWater_X11 hown hK hP 0 rfl rfl 1 (by decide) (hts _ (List.mem_of_getElem? (i := 1) rfl)) (fun _ h9 => h9) rfl dX11_isWater_3 ?_
  refine va_get (D := D) (ci := 2) (C := RX2) (T := TX2) (N := 4) hx hb hts fwX11_isWater_X2 hown hK hP 2 rfl rfl 0 (by decide) (hts _ (List.mem_of_getElem? (i := 2) rfl)) (fun _ h9 => h9) rfl dX11_isWater_6 ?_
  refine va_get (D := D) (ci := 0) (C := RX0) (T := TX0) (N := 13) hx hb hts fwX11_isWater_X0 hown hK hP 3 rfl rfl 0 (by decide) (hts _ (List.mem_of_getElem? (i := 3) rfl)) (fun _ h9 => h9) rfl dX11_isWater_9 ?_
  refine va_get (D := D) (ci := 10) (C := RX10) (T := TX10) (N := 5) hx hb hts fwX11_isWater_X10 hown hK hP 4 rfl rfl 0 (by decide) (hts _ (List.mem_of_getElem? (i := 4) rfl)) (fun _ h9 => h9) rfl dX11_isWater_12 ?_
  refine lv_iconst (v := 1) hx hb dX11_isWater_15 (by decide) ?_
  refine lv_isub hx hb dX11_isWater_16 ?_
  refine q_cSr (wf := (wX11 cI cZ cS ad)) (rest := []) ⟨hx, hb, hml, hown, hts⟩ hK hZ hA hP hD hS hf (fun x ho => kX11_within l D cI cZ cS zz a1 (0 : Int32) ((σ 4 0) - (1 : Int32)) x ho) (va_cwS 3 hts gX11_isWater_X11_within rfl rfl rfl ndX11_within.2 ⟨Nat.le_of_ble_eq_true rfl, Nat.le_of_ble_eq_true rfl⟩) rfl (hl.1) rfl (Nat.le_of_ble_eq_true rfl) dX11_isWater_17 ⟨Nat.zero_le _, Nat.zero_le _⟩ (fun r1 H locs hf hP hD hS => ?_)
  obtain ⟨hz, hf⟩ := q_zz_o hf
  have hi1 := Option.some.inj hf
  subst hi1
  exact hret _ _ _ _ dX11_isWater_20 (q_zz_n hz).1 hP hS
def pX11_waterOf (σ : SS) (a1 : Int32) (a2 : Int32) : Option (Int32 × SS) := q_cr (pX11_isWater σ a1) (fun (r1 : Int32) => q_lt (q_ci (pX11_tell σ (-1000001 : Int32)) (fun (τ : SS) => τ) (fun (r4 : Int32) (σ3 : SS) => some (r4, σ3))) (fun j2 => (if r1 = (0 : Int32) then j2 else q_cr (pX11_within a2 (0 : Int32) (4 : Int32)) (fun (r6 : Int32) => (if r6 = (0 : Int32) then j2 else (if a2 = (0 : Int32) then q_rd (σ 5) 8 a1 (fun (v9 : Int32) => some (v9, σ)) else (if a2 = (1 : Int32) then q_rd (σ 6) 8 a1 (fun (v11 : Int32) => some (v11, σ)) else (if a2 = (2 : Int32) then q_rd (σ 7) 8 a1 (fun (v13 : Int32) => some (v13, σ)) else (if a2 = (3 : Int32) then q_cr (pX0_comesOf (q_sb σ 3) a1) (fun (r15 : Int32) => some (r15, σ)) else q_rd (σ 8) 8 a1 (fun (v16 : Int32) => some (v16, σ)))))))))))
theorem fwX11_waterOf_X0 : ∀ w ∈ wsX00, w ∈ wsX11_waterOf := fun _ h => List.mem_cons_of_mem _ (List.mem_append_left _ (List.mem_append_right _ h))
theorem fwX11_waterOf_X10 : ∀ w ∈ wsX100, w ∈ wsX11_waterOf := fun _ h => List.mem_cons_of_mem _ (List.mem_append_right _ h)
theorem fwX11_waterOf_X11 : ∀ w ∈ wsX110, w ∈ wsX11_waterOf := fun _ h => List.mem_cons_of_mem _ (List.mem_append_left _ (List.mem_append_left _ (List.mem_append_left _ (List.mem_append_right _ h))))
theorem fwX11_waterOf_X2 : ∀ w ∈ wsX20, w ∈ wsX11_waterOf := fun _ h => List.mem_cons_of_mem _ (List.mem_append_left _ (List.mem_append_left _ (List.mem_append_right _ h)))
abbrev rmX11_waterOf : Room := { frames := 2, cells := 0, slots := 0, locals := 49 }
set_option maxHeartbeats 4000000 in
set_option maxRecDepth 100000 in
theorem kX11_waterOf (l : Launch) (D : va_G) (cI cZ cS : ClassId) (zz : ZT) (ad : Nat → Nat) (σ : SS) (a1 : Int32) (a2 : Int32) (rr : Int32) (σr : SS) (hf : pX11_waterOf σ a1 a2 = some (rr, σr)) : CI l yX11_waterOf wsX11_waterOf rmX11_waterOf D (K3 cI cZ cS) zz [.ref (ad 0), .int a1, .int a2] (wX11 cI cZ cS ad σ) (wX11 cI cZ cS ad σr) rr := by
  refine q_ofI (cc := cX11_waterOf) (maxL := 4) (ty := .int) (by decide) rfl (Nat.le_of_ble_eq_true rfl) ?_
  intro p e s m below meth c Q A ls hx hb hml hown hts hK hZ hA hP hD hS hl hret
  have hl : lv_has ls 4 [(0, .ref (ad 0)), (1, .int a1), (2, .int a2)] := hl
  unfold pX11_waterOf at hf
  refine lv_aload_n hx hb dX11_waterOf_0 rfl (lv_at hl 0 rfl) ?_
  refine lv_iload_n hx hb dX11_waterOf_1 rfl (lv_at hl 1 rfl) ?_
  refine q_cVr (wf := (wX11 cI cZ cS ad)) (wc := wX11 cI cZ cS ad) (rest := []) ⟨hx, hb, hml, hown, hts⟩ hK hZ hA hP hD hS hf (fun x ho => kX11_isWater l D cI cZ cS zz ad σ a1 x ho) (cwV 1 hts gX11_waterOf_X11_isWater rfl rfl rfl ndX11_isWater ⟨Nat.le_of_ble_eq_true rfl, Nat.le_of_ble_eq_true rfl⟩) [0, 1, 2, 3, 4, 5, 6, 7, 8, 9, 10, 11, 12, 13, 14, 15, 16, 17, 18, 19, 20, 21, 22, 23, 24, 25, 26, 27, 28, 29, 30, 31, 32, 33, 34, 35, 36, 37, 38, 39, 40, 41, 42, 43, 44, 45, 46, 47, 48, 49, 50, 51, 52, 53, 54, 55, 56, 57, 58, 59, 60, 61, 62, 63, 64, 65, 66, 67, 68, 69, 70, 71] rfl rfl rfl rfl rfl rfl (hl.1) rfl (Nat.le_of_ble_eq_true rfl) dX11_waterOf_2 ⟨Nat.zero_le _, Nat.zero_le _⟩ (fun r1 H locs hf hP hD hS => ?_)
  refine q_lt_go hf (fun j2 ej2 hf => ?_)
  have Jj2 : ∀ (H : Heap) (locs : List Loc) (ls : Array Slot), va_P D vwCl ((wX11 cI cZ cS ad) σ) H → va_D A ((wX11 cI cZ cS ad) σ) → va_S A s.heap H locs → lv_has ls 4 [(0, .ref (ad 0))] → j2 = some (rr, σr) → W p l e rmX11_waterOf s m ([.ref (ad 0), .int a1, .int a2] : List Value).toArray below meth c H locs 0 0 Q (F0 m 17 ls []) := by
    intro  H locs ls hP hD hS hl hf
    have hf := ej2.symm.trans hf
    refine lv_aload_n hx hb dX11_waterOf_17 rfl (lv_at hl 0 rfl) ?_
    refine lv_ldc (v := -1000001) hx hb hown (hts _ (List.mem_of_getElem? (i := 1) rfl)) dX11_waterOf_18 ?_
    refine q_cVi (wf := (wX11 cI cZ cS ad)) (wc := wX11 cI cZ cS ad) (rest := []) ⟨hx, hb, hml, hown, hts⟩ hK hZ hA hP hD hS hf (fun x τ ho => kX11_tell l D cI cZ cS zz ad σ (-1000001 : Int32) x τ ho) (cwV 1 hts gX11_waterOf_X11_tell rfl rfl rfl ndX11_tell ⟨Nat.le_of_ble_eq_true rfl, Nat.le_of_ble_eq_true rfl⟩) [0, 1, 2, 3, 4, 5, 6, 7, 8, 9, 10, 11, 12, 13, 14, 15, 16, 17, 18, 19, 20, 21, 22, 23, 24, 25, 26, 27, 28, 29, 30, 31, 32, 33, 34, 35, 36, 37, 38, 39, 40, 41, 42, 43, 44, 45, 46, 47, 48, 49, 50, 51, 52, 53, 54, 55, 56, 57, 58, 59, 60, 61, 62, 63, 64, 65, 66, 67, 68, 69, 70, 71] rfl rfl [some 0, some 1, some 2, some 3, some 4, some 5, some 6, some 7, some 8, some 9, some 10, some 11, some 12, some 13, some 14, some 15, some 16, some 17, some 18, some 19, some 20, some 21, some 22, some 23, some 24, some 25, some 26, some 27, some 28, some 29, some 30, some 31, some 32, some 33, some 34, some 35, some 36, some 37, some 38, some 39, some 40, some 41, some 42, some 43, some 44, some 45, some 46, some 47, some 48, some 49, some 50, some 51, some 52, some 53, some 54, some 55, some 56, some 57, some 58, some 59, some 60, some 61, some 62, some 63, some 64, some 65, some 66, some 67, some 68, some 69, some 70, some 71] (by decide +kernel) (Nat.le_of_ble_eq_true rfl) (fun _ => rfl) (fun _ => rfl) (fun _ => rfl) rfl rfl rfl rfl (hl.1) rfl (Nat.le_of_ble_eq_true rfl) dX11_waterOf_20 ⟨Nat.zero_le _, Nat.zero_le _⟩ (fun r4 σ3 H locs hf hP hD hS => ?_)
    obtain ⟨hi1, hi2⟩ := Prod.mk.inj (Option.some.inj hf)
    subst hi1
    subst hi2
    exact hret _ _ _ _ dX11_waterOf_23 rfl hP hS
  refine lv_if_eq (tgt := 17) hx hb dX11_waterOf_5 (by decide) (fun h5 => ?_) (fun h5 => ?_)
  · have hf := (if_pos h5).symm.trans hf
    exact Jj2  _ _ _ hP hD hS (lv_sub hl [0] rfl) hf
  · have hf := (if_neg h5).symm.trans hf
    refine lv_iload_n hx hb dX11_waterOf_8 rfl (lv_at hl 2 rfl) ?_
    refine lv_iconst (v := 0) hx hb dX11_waterOf_9 (by decide) ?_
    refine lv_iconst (v := 4) hx hb dX11_waterOf_10 (by decide) ?_
    refine q_cSr (wf := (wX11 cI cZ cS ad)) (rest := []) ⟨hx, hb, hml, hown, hts⟩ hK hZ hA hP hD hS hf (fun x ho => kX11_within l D cI cZ cS zz a2 (0 : Int32) (4 : Int32) x ho) (va_cwS 3 hts gX11_waterOf_X11_within rfl rfl rfl ndX11_within.2 ⟨Nat.le_of_ble_eq_true rfl, Nat.le_of_ble_eq_true rfl⟩) rfl (hl.1) rfl (Nat.le_of_ble_eq_true rfl) dX11_waterOf_11 ⟨Nat.zero_le _, Nat.zero_le _⟩ (fun r6 H locs hf hP hD hS => ?_)
    refine lv_if_ne (tgt := 24) hx hb dX11_waterOf_14 (by decide) (fun h7 => ?_) (fun h7 => ?_)
    · have hf := (if_neg h7).symm.trans hf
      refine lv_aload_n hx hb dX11_waterOf_24 rfl (lv_at hl 0 rfl) ?_
      refine va_get (D := D) (ci := 11) (C := RX11) (T := TX11) (N := 9) hx hb hts fwX11_waterOf_X11 hown hK hP 0 rfl rfl 1 (by decide) (hts _ (List.mem_of_getElem? (i := 2) rfl)) (fun _ h9 => h9) rfl dX11_waterOf_25 ?_
      refine va_get (D := D) (ci := 2) (C := RX2) (T := TX2) (N := 4) hx hb hts fwX11_waterOf_X2 hown hK hP 2 rfl rfl 0 (by decide) (hts _ (List.mem_of_getElem? (i := 3) rfl)) (fun _ h9 => h9) rfl dX11_waterOf_28 ?_
      refine va_get (D := D) (ci := 0) (C := RX0) (T := TX0) (N := 13) hx hb hts fwX11_waterOf_X0 hown hK hP 3 rfl rfl 0 (by decide) (hts _ (List.mem_of_getElem? (i := 4) rfl)) (fun _ h9 => h9) rfl dX11_waterOf_31 ?_
      refine lv_astore_n (lv' := [(3, .ref (ad 4)), (0, .ref (ad 0)), (1, .int a1), (2, .int a2)]) hx hb dX11_waterOf_34 rfl hl (by decide) rfl (fun ls hl => ?_)
      refine lv_iload_n hx hb dX11_waterOf_35 rfl (lv_at hl 3 rfl) ?_
      by_cases h8 : a2 = (0 : Int32)
      · have hf := (if_pos h8).symm.trans hf
        refine lv_tableIn (tgt := 68) hx hb dX11_waterOf_36 (by rw [h8]; decide) (by rw [h8]; decide) (by rw [h8]; rfl) (by decide) ?_
        refine lv_aload_n hx hb dX11_waterOf_68 rfl (lv_at hl 0 rfl) ?_
        refine va_get (D := D) (ci := 10) (C := RX10) (T := TX10) (N := 5) hx hb hts fwX11_waterOf_X10 hown hK hP 4 rfl rfl 1 (by decide) (hts _ (List.mem_of_getElem? (i := 5) rfl)) (fun _ h9 => h9) rfl dX11_waterOf_69 ?_
        refine lv_iload_n hx hb dX11_waterOf_72 rfl (lv_at hl 2 rfl) ?_
        refine w_iald (wf := (wX11 cI cZ cS ad)) hx hb hK hP 5 0 rfl rfl hf dX11_waterOf_73 (fun v9 hf => ?_)
        obtain ⟨hi1, hi2⟩ := Prod.mk.inj (Option.some.inj hf)
        subst hi1
        subst hi2
        exact hret _ _ _ _ dX11_waterOf_74 rfl hP hS
      have hf := (if_neg h8).symm.trans hf
      by_cases h10 : a2 = (1 : Int32)
      · have hf := (if_pos h10).symm.trans hf
        refine lv_tableIn (tgt := 75) hx hb dX11_waterOf_36 (by rw [h10]; decide) (by rw [h10]; decide) (by rw [h10]; rfl) (by decide) ?_
        refine lv_aload_n hx hb dX11_waterOf_75 rfl (lv_at hl 0 rfl) ?_
        refine va_get (D := D) (ci := 10) (C := RX10) (T := TX10) (N := 5) hx hb hts fwX11_waterOf_X10 hown hK hP 4 rfl rfl 2 (by decide) (hts _ (List.mem_of_getElem? (i := 6) rfl)) (fun _ h9 => h9) rfl dX11_waterOf_76 ?_
        refine lv_iload_n hx hb dX11_waterOf_79 rfl (lv_at hl 2 rfl) ?_
        refine w_iald (wf := (wX11 cI cZ cS ad)) hx hb hK hP 6 0 rfl rfl hf dX11_waterOf_80 (fun v11 hf => ?_)
        obtain ⟨hi1, hi2⟩ := Prod.mk.inj (Option.some.inj hf)
        subst hi1
        subst hi2
        exact hret _ _ _ _ dX11_waterOf_81 rfl hP hS
      have hf := (if_neg h10).symm.trans hf
      by_cases h12 : a2 = (2 : Int32)
      · have hf := (if_pos h12).symm.trans hf
        refine lv_tableIn (tgt := 82) hx hb dX11_waterOf_36 (by rw [h12]; decide) (by rw [h12]; decide) (by rw [h12]; rfl) (by decide) ?_
        refine lv_aload_n hx hb dX11_waterOf_82 rfl (lv_at hl 0 rfl) ?_
        refine va_get (D := D) (ci := 10) (C := RX10) (T := TX10) (N := 5) hx hb hts fwX11_waterOf_X10 hown hK hP 4 rfl rfl 3 (by decide) (hts _ (List.mem_of_getElem? (i := 7) rfl)) (fun _ h9 => h9) rfl dX11_waterOf_83 ?_
        refine lv_iload_n hx hb dX11_waterOf_86 rfl (lv_at hl 2 rfl) ?_
        refine w_iald (wf := (wX11 cI cZ cS ad)) hx hb hK hP 7 0 rfl rfl hf dX11_waterOf_87 (fun v13 hf => ?_)
        obtain ⟨hi1, hi2⟩ := Prod.mk.inj (Option.some.inj hf)
        subst hi1
        subst hi2
        exact hret _ _ _ _ dX11_waterOf_88 rfl hP hS
      have hf := (if_neg h12).symm.trans hf
      by_cases h14 : a2 = (3 : Int32)
      · have hf := (if_pos h14).symm.trans hf
        refine lv_tableIn (tgt := 89) hx hb dX11_waterOf_36 (by rw [h14]; decide) (by rw [h14]; decide) (by rw [h14]; rfl) (by decide) ?_
        refine lv_aload_n hx hb dX11_waterOf_89 rfl (lv_at hl 1 rfl) ?_
        refine va_get (D := D) (ci := 11) (C := RX11) (T := TX11) (N := 9) hx hb hts fwX11_waterOf_X11 hown hK hP 0 rfl rfl 1 (by decide) (hts _ (List.mem_of_getElem? (i := 2) rfl)) (fun _ h9 => h9) rfl dX11_waterOf_90 ?_
        refine va_get (D := D) (ci := 2) (C := RX2) (T := TX2) (N := 4) hx hb hts fwX11_waterOf_X2 hown hK hP 2 rfl rfl 0 (by decide) (hts _ (List.mem_of_getElem? (i := 3) rfl)) (fun _ h9 => h9) rfl dX11_waterOf_93 ?_
        refine lv_iload_n hx hb dX11_waterOf_96 rfl (lv_at hl 2 rfl) ?_
        refine q_cVr (wf := (wX11 cI cZ cS ad)) (wc := wX0 cI cZ cS (fun i => ad (3 + i))) (rest := []) ⟨hx, hb, hml, hown, hts⟩ hK hZ hA hP hD hS hf (fun x ho => kX0_comesOf l D cI cZ cS zz (fun i => ad (3 + i)) (q_sb σ 3) a1 x ho) (cwV 1 hts gX11_waterOf_X0_comesOf rfl rfl rfl ndX0_comesOf ⟨Nat.le_of_ble_eq_true rfl, Nat.le_of_ble_eq_true rfl⟩) [3, 4, 5, 6, 7, 8, 9, 10, 11, 12, 13, 14, 15] rfl rfl rfl rfl rfl rfl (hl.1) rfl (Nat.le_of_ble_eq_true rfl) dX11_waterOf_97 ⟨Nat.zero_le _, Nat.zero_le _⟩ (fun r15 H locs hf hP hD hS => ?_)
        obtain ⟨hi1, hi2⟩ := Prod.mk.inj (Option.some.inj hf)
        subst hi1
        subst hi2
        exact hret _ _ _ _ dX11_waterOf_100 rfl hP hS
      have hf := (if_neg h14).symm.trans hf
      refine lv_tableOut (tgt := 101) hx hb dX11_waterOf_36 (by have := q_ne h8 (z := 0) rfl; have := q_ne h10 (z := 1) rfl; have := q_ne h12 (z := 2) rfl; have := q_ne h14 (z := 3) rfl; omega) (by decide) ?_
      refine lv_aload_n hx hb dX11_waterOf_101 rfl (lv_at hl 0 rfl) ?_
      refine va_get (D := D) (ci := 10) (C := RX10) (T := TX10) (N := 5) hx hb hts fwX11_waterOf_X10 hown hK hP 4 rfl rfl 4 (by decide) (hts _ (List.mem_of_getElem? (i := 8) rfl)) (fun _ h9 => h9) rfl dX11_waterOf_102 ?_
      refine lv_iload_n hx hb dX11_waterOf_105 rfl (lv_at hl 2 rfl) ?_
      refine w_iald (wf := (wX11 cI cZ cS ad)) hx hb hK hP 8 0 rfl rfl hf dX11_waterOf_106 (fun v16 hf => ?_)
      obtain ⟨hi1, hi2⟩ := Prod.mk.inj (Option.some.inj hf)
      subst hi1
      subst hi2
      exact hret _ _ _ _ dX11_waterOf_107 rfl hP hS
    · have hf := (if_pos h7).symm.trans hf
      exact Jj2  _ _ _ hP hD hS (lv_sub hl [0] rfl) hf
def pX11_change (σ : SS) (a1 : Int32) (a2 : Int32) (a3 : Int32) : Option (Int32 × SS) := q_cr (pX11_isWater σ a1) (fun (r1 : Int32) => q_lt (q_ci (pX11_tell σ (-1000001 : Int32)) (fun (τ : SS) => τ) (fun (r4 : Int32) (σ3 : SS) => some (r4, σ3))) (fun j2 => (if r1 = (0 : Int32) then j2 else q_cr (pX11_within a2 (1 : Int32) (2 : Int32)) (fun (r6 : Int32) => (if r6 = (0 : Int32) then j2 else q_lt (fun (y8 : Int32) => q_lt (fun (y10 : Int32) => q_lt (fun (y12 : Int32) => q_cr (pX11_within a3 y10 y12) (fun (r14 : Int32) => (if r14 = (0 : Int32) then q_ci (pX11_tell σ (-1000001 : Int32)) (fun (τ : SS) => τ) (fun (r22 : Int32) (σ21 : SS) => some (r22, σ21)) else (if y8 = (0 : Int32) then q_rd (σ 7) 8 a1 (fun (v17 : Int32) => q_wr σ 7 8 a1 a3 (fun (σ18 : SS) => some (v17, σ18))) else q_rd (σ 6) 8 a1 (fun (v19 : Int32) => q_wr σ 6 8 a1 a3 (fun (σ20 : SS) => some (v19, σ20))))))) (fun j13 => (if y8 = (0 : Int32) then j13 (999 : Int32) else j13 (99 : Int32)))) (fun j11 => (if y8 = (0 : Int32) then j11 (0 : Int32) else j11 (1 : Int32)))) (fun j9 => (if a2 = (1 : Int32) then j9 (1 : Int32) else j9 (0 : Int32))))))))
theorem fwX11_change_X0 : ∀ w ∈ wsX00, w ∈ wsX11_change := fun _ h => List.mem_cons_of_mem _ (List.mem_append_left _ (List.mem_append_right _ h))
theorem fwX11_change_X10 : ∀ w ∈ wsX100, w ∈ wsX11_change := fun _ h => List.mem_cons_of_mem _ (List.mem_append_right _ h)
theorem fwX11_change_X11 : ∀ w ∈ wsX110, w ∈ wsX11_change := fun _ h => List.mem_cons_of_mem _ (List.mem_append_left _ (List.mem_append_left _ (List.mem_append_left _ (List.mem_append_right _ h))))
theorem fwX11_change_X2 : ∀ w ∈ wsX20, w ∈ wsX11_change := fun _ h => List.mem_cons_of_mem _ (List.mem_append_left _ (List.mem_append_left _ (List.mem_append_right _ h)))
abbrev rmX11_change : Room := { frames := 2, cells := 0, slots := 0, locals := 43 }
set_option maxHeartbeats 4000000 in
set_option maxRecDepth 100000 in
theorem kX11_change (l : Launch) (D : va_G) (cI cZ cS : ClassId) (zz : ZT) (ad : Nat → Nat) (σ : SS) (a1 : Int32) (a2 : Int32) (a3 : Int32) (rr : Int32) (σr : SS) (hf : pX11_change σ a1 a2 a3 = some (rr, σr)) : CI l yX11_change wsX11_change rmX11_change D (K3 cI cZ cS) zz [.ref (ad 0), .int a1, .int a2, .int a3] (wX11 cI cZ cS ad σ) (wX11 cI cZ cS ad σr) rr := by
  refine q_ofI (cc := cX11_change) (maxL := 7) (ty := .int) (by decide) rfl (Nat.le_of_ble_eq_true rfl) ?_
  intro p e s m below meth c Q A ls hx hb hml hown hts hK hZ hA hP hD hS hl hret
  have hl : lv_has ls 7 [(0, .ref (ad 0)), (1, .int a1), (2, .int a2), (3, .int a3)] := hl
  unfold pX11_change at hf
  refine lv_aload_n hx hb dX11_change_0 rfl (lv_at hl 0 rfl) ?_
  refine lv_iload_n hx hb dX11_change_1 rfl (lv_at hl 1 rfl) ?_
  refine q_cVr (wf := (wX11 cI cZ cS ad)) (wc := wX11 cI cZ cS ad) (rest := []) ⟨hx, hb, hml, hown, hts⟩ hK hZ hA hP hD hS hf (fun x ho => kX11_isWater l D cI cZ cS zz ad σ a1 x ho) (cwV 1 hts gX11_change_X11_isWater rfl rfl rfl ndX11_isWater ⟨Nat.le_of_ble_eq_true rfl, Nat.le_of_ble_eq_true rfl⟩) [0, 1, 2, 3, 4, 5, 6, 7, 8, 9, 10, 11, 12, 13, 14, 15, 16, 17, 18, 19, 20, 21, 22, 23, 24, 25, 26, 27, 28, 29, 30, 31, 32, 33, 34, 35, 36, 37, 38, 39, 40, 41, 42, 43, 44, 45, 46, 47, 48, 49, 50, 51, 52, 53, 54, 55, 56, 57, 58, 59, 60, 61, 62, 63, 64, 65, 66, 67, 68, 69, 70, 71] rfl rfl rfl rfl rfl rfl (hl.1) rfl (Nat.le_of_ble_eq_true rfl) dX11_change_2 ⟨Nat.zero_le _, Nat.zero_le _⟩ (fun r1 H locs hf hP hD hS => ?_)
  refine q_lt_go hf (fun j2 ej2 hf => ?_)
  have Jj2 : ∀ (H : Heap) (locs : List Loc) (ls : Array Slot), va_P D vwCl ((wX11 cI cZ cS ad) σ) H → va_D A ((wX11 cI cZ cS ad) σ) → va_S A s.heap H locs → lv_has ls 7 [(0, .ref (ad 0))] → j2 = some (rr, σr) → W p l e rmX11_change s m ([.ref (ad 0), .int a1, .int a2, .int a3] : List Value).toArray below meth c H locs 0 0 Q (F0 m 17 ls []) := by
    intro  H locs ls hP hD hS hl hf
    have hf := ej2.symm.trans hf
    refine lv_aload_n hx hb dX11_change_17 rfl (lv_at hl 0 rfl) ?_
    refine lv_ldc (v := -1000001) hx hb hown (hts _ (List.mem_of_getElem? (i := 1) rfl)) dX11_change_18 ?_
    refine q_cVi (wf := (wX11 cI cZ cS ad)) (wc := wX11 cI cZ cS ad) (rest := []) ⟨hx, hb, hml, hown, hts⟩ hK hZ hA hP hD hS hf (fun x τ ho => kX11_tell l D cI cZ cS zz ad σ (-1000001 : Int32) x τ ho) (cwV 1 hts gX11_change_X11_tell rfl rfl rfl ndX11_tell ⟨Nat.le_of_ble_eq_true rfl, Nat.le_of_ble_eq_true rfl⟩) [0, 1, 2, 3, 4, 5, 6, 7, 8, 9, 10, 11, 12, 13, 14, 15, 16, 17, 18, 19, 20, 21, 22, 23, 24, 25, 26, 27, 28, 29, 30, 31, 32, 33, 34, 35, 36, 37, 38, 39, 40, 41, 42, 43, 44, 45, 46, 47, 48, 49, 50, 51, 52, 53, 54, 55, 56, 57, 58, 59, 60, 61, 62, 63, 64, 65, 66, 67, 68, 69, 70, 71] rfl rfl [some 0, some 1, some 2, some 3, some 4, some 5, some 6, some 7, some 8, some 9, some 10, some 11, some 12, some 13, some 14, some 15, some 16, some 17, some 18, some 19, some 20, some 21, some 22, some 23, some 24, some 25, some 26, some 27, some 28, some 29, some 30, some 31, some 32, some 33, some 34, some 35, some 36, some 37, some 38, some 39, some 40, some 41, some 42, some 43, some 44, some 45, some 46, some 47, some 48, some 49, some 50, some 51, some 52, some 53, some 54, some 55, some 56, some 57, some 58, some 59, some 60, some 61, some 62, some 63, some 64, some 65, some 66, some 67, some 68, some 69, some 70, some 71] (by decide +kernel) (Nat.le_of_ble_eq_true rfl) (fun _ => rfl) (fun _ => rfl) (fun _ => rfl) rfl rfl rfl rfl (hl.1) rfl (Nat.le_of_ble_eq_true rfl) dX11_change_20 ⟨Nat.zero_le _, Nat.zero_le _⟩ (fun r4 σ3 H locs hf hP hD hS => ?_)
    obtain ⟨hi1, hi2⟩ := Prod.mk.inj (Option.some.inj hf)
    subst hi1
    subst hi2
    exact hret _ _ _ _ dX11_change_23 rfl hP hS
  refine lv_if_eq (tgt := 17) hx hb dX11_change_5 (by decide) (fun h5 => ?_) (fun h5 => ?_)
  · have hf := (if_pos h5).symm.trans hf
    exact Jj2  _ _ _ hP hD hS (lv_sub hl [0] rfl) hf
  · have hf := (if_neg h5).symm.trans hf
    refine lv_iload_n hx hb dX11_change_8 rfl (lv_at hl 2 rfl) ?_
    refine lv_iconst (v := 1) hx hb dX11_change_9 (by decide) ?_
    refine lv_iconst (v := 2) hx hb dX11_change_10 (by decide) ?_
    refine q_cSr (wf := (wX11 cI cZ cS ad)) (rest := []) ⟨hx, hb, hml, hown, hts⟩ hK hZ hA hP hD hS hf (fun x ho => kX11_within l D cI cZ cS zz a2 (1 : Int32) (2 : Int32) x ho) (va_cwS 3 hts gX11_change_X11_within rfl rfl rfl ndX11_within.2 ⟨Nat.le_of_ble_eq_true rfl, Nat.le_of_ble_eq_true rfl⟩) rfl (hl.1) rfl (Nat.le_of_ble_eq_true rfl) dX11_change_11 ⟨Nat.zero_le _, Nat.zero_le _⟩ (fun r6 H locs hf hP hD hS => ?_)
    refine lv_if_ne (tgt := 24) hx hb dX11_change_14 (by decide) (fun h7 => ?_) (fun h7 => ?_)
    · have hf := (if_neg h7).symm.trans hf
      refine lv_iload_n hx hb dX11_change_24 rfl (lv_at hl 2 rfl) ?_
      refine lv_iconst (v := 1) hx hb dX11_change_25 (by decide) ?_
      refine q_lt_go hf (fun j9 ej9 hf => ?_)
      have Jj9 : ∀ (y8 : Int32) (H : Heap) (locs : List Loc) (ls : Array Slot), va_P D vwCl ((wX11 cI cZ cS ad) σ) H → va_D A ((wX11 cI cZ cS ad) σ) → va_S A s.heap H locs → lv_has ls 7 [(0, .ref (ad 0)), (1, .int a1), (3, .int a3)] → j9 y8 = some (rr, σr) → W p l e rmX11_change s m ([.ref (ad 0), .int a1, .int a2, .int a3] : List Value).toArray below meth c H locs 0 0 Q (F0 m 34 ls [.int y8]) := by
        intro y8 H locs ls hP hD hS hl hf
        have hf := (congrFun ej9 y8).symm.trans hf
        refine lv_istore (lv' := [(4, .int y8), (0, .ref (ad 0)), (1, .int a1), (3, .int a3)]) hx hb dX11_change_34 hl (by decide) rfl (fun ls hl => ?_)
        refine lv_iload_n hx hb dX11_change_36 rfl (lv_at hl 3 rfl) ?_
        refine lv_iload hx hb dX11_change_37 (lv_at hl 0 rfl) ?_
        refine q_lt_go hf (fun j11 ej11 hf => ?_)
        have Jj11 : ∀ (y10 : Int32) (H : Heap) (locs : List Loc) (ls : Array Slot), va_P D vwCl ((wX11 cI cZ cS ad) σ) H → va_D A ((wX11 cI cZ cS ad) σ) → va_S A s.heap H locs → lv_has ls 7 [(0, .ref (ad 0)), (1, .int a1), (3, .int a3), (4, .int y8)] → j11 y10 = some (rr, σr) → W p l e rmX11_change s m ([.ref (ad 0), .int a1, .int a2, .int a3] : List Value).toArray below meth c H locs 0 0 Q (F0 m 47 ls [.int y10, .int a3]) := by
          intro y10 H locs ls hP hD hS hl hf
          have hf := (congrFun ej11 y10).symm.trans hf
          refine lv_iload hx hb dX11_change_47 (lv_at hl 3 rfl) ?_
          refine q_lt_go hf (fun j13 ej13 hf => ?_)
          have Jj13 : ∀ (y12 : Int32) (H : Heap) (locs : List Loc) (ls : Array Slot), va_P D vwCl ((wX11 cI cZ cS ad) σ) H → va_D A ((wX11 cI cZ cS ad) σ) → va_S A s.heap H locs → lv_has ls 7 [(0, .ref (ad 0)), (1, .int a1), (3, .int a3), (4, .int y8)] → j13 y12 = some (rr, σr) → W p l e rmX11_change s m ([.ref (ad 0), .int a1, .int a2, .int a3] : List Value).toArray below meth c H locs 0 0 Q (F0 m 60 ls [.int y12, .int y10, .int a3]) := by
            intro y12 H locs ls hP hD hS hl hf
            have hf := (congrFun ej13 y12).symm.trans hf
            refine q_cSr (wf := (wX11 cI cZ cS ad)) (rest := []) ⟨hx, hb, hml, hown, hts⟩ hK hZ hA hP hD hS hf (fun x ho => kX11_within l D cI cZ cS zz a3 y10 y12 x ho) (va_cwS 3 hts gX11_change_X11_within rfl rfl rfl ndX11_within.2 ⟨Nat.le_of_ble_eq_true rfl, Nat.le_of_ble_eq_true rfl⟩) rfl (hl.1) rfl (Nat.le_of_ble_eq_true rfl) dX11_change_60 ⟨Nat.zero_le _, Nat.zero_le _⟩ (fun r14 H locs hf hP hD hS => ?_)
            refine lv_if_ne (tgt := 73) hx hb dX11_change_63 (by decide) (fun h15 => ?_) (fun h15 => ?_)
            · have hf := (if_neg h15).symm.trans hf
              refine lv_iload hx hb dX11_change_73 (lv_at hl 3 rfl) ?_
              refine lv_if_eq (tgt := 94) hx hb dX11_change_75 (by decide) (fun h16 => ?_) (fun h16 => ?_)
              · have hf := (if_pos h16).symm.trans hf
                refine lv_aload_n hx hb dX11_change_94 rfl (lv_at hl 0 rfl) ?_
                refine va_get (D := D) (ci := 11) (C := RX11) (T := TX11) (N := 9) hx hb hts fwX11_change_X11 hown hK hP 0 rfl rfl 1 (by decide) (hts _ (List.mem_of_getElem? (i := 2) rfl)) (fun _ h9 => h9) rfl dX11_change_95 ?_
                refine va_get (D := D) (ci := 2) (C := RX2) (T := TX2) (N := 4) hx hb hts fwX11_change_X2 hown hK hP 2 rfl rfl 0 (by decide) (hts _ (List.mem_of_getElem? (i := 3) rfl)) (fun _ h9 => h9) rfl dX11_change_98 ?_
                refine va_get (D := D) (ci := 0) (C := RX0) (T := TX0) (N := 13) hx hb hts fwX11_change_X0 hown hK hP 3 rfl rfl 0 (by decide) (hts _ (List.mem_of_getElem? (i := 4) rfl)) (fun _ h9 => h9) rfl dX11_change_101 ?_
                refine va_get (D := D) (ci := 10) (C := RX10) (T := TX10) (N := 5) hx hb hts fwX11_change_X10 hown hK hP 4 rfl rfl 3 (by decide) (hts _ (List.mem_of_getElem? (i := 6) rfl)) (fun _ h9 => h9) rfl dX11_change_104 ?_
                refine lv_astore (lv' := [(5, .ref (ad 7)), (0, .ref (ad 0)), (1, .int a1), (3, .int a3), (4, .int y8)]) hx hb dX11_change_107 hl (by decide) rfl (fun ls hl => ?_)
                refine lv_aload hx hb dX11_change_109 (lv_at hl 0 rfl) ?_
                refine lv_iload_n hx hb dX11_change_111 rfl (lv_at hl 2 rfl) ?_
                refine w_iald (wf := (wX11 cI cZ cS ad)) hx hb hK hP 7 0 rfl rfl hf dX11_change_112 (fun v17 hf => ?_)
                refine lv_istore (lv' := [(6, .int v17), (5, .ref (ad 7)), (0, .ref (ad 0)), (1, .int a1), (3, .int a3), (4, .int y8)]) hx hb dX11_change_113 hl (by decide) rfl (fun ls hl => ?_)
                refine lv_aload hx hb dX11_change_115 (lv_at hl 1 rfl) ?_
                refine lv_iload_n hx hb dX11_change_117 rfl (lv_at hl 3 rfl) ?_
                refine lv_iload_n hx hb dX11_change_118 rfl (lv_at hl 4 rfl) ?_
                refine w_iast (wf := (wX11 cI cZ cS ad)) (cid := 7) hx hb hK hP hD hS 7 0 rfl rfl hf (fun _ => rfl) dX11_change_119 (fun σ18 H locs hf hP hD hS => ?_)
                refine lv_iload hx hb dX11_change_120 (lv_at hl 0 rfl) ?_
                obtain ⟨hi1, hi2⟩ := Prod.mk.inj (Option.some.inj hf)
                subst hi1
                subst hi2
                exact hret _ _ _ _ dX11_change_122 rfl hP hS
              · have hf := (if_neg h16).symm.trans hf
                refine lv_aload_n hx hb dX11_change_78 rfl (lv_at hl 0 rfl) ?_
                refine va_get (D := D) (ci := 11) (C := RX11) (T := TX11) (N := 9) hx hb hts fwX11_change_X11 hown hK hP 0 rfl rfl 1 (by decide) (hts _ (List.mem_of_getElem? (i := 2) rfl)) (fun _ h9 => h9) rfl dX11_change_79 ?_
                refine va_get (D := D) (ci := 2) (C := RX2) (T := TX2) (N := 4) hx hb hts fwX11_change_X2 hown hK hP 2 rfl rfl 0 (by decide) (hts _ (List.mem_of_getElem? (i := 3) rfl)) (fun _ h9 => h9) rfl dX11_change_82 ?_
                refine va_get (D := D) (ci := 0) (C := RX0) (T := TX0) (N := 13) hx hb hts fwX11_change_X0 hown hK hP 3 rfl rfl 0 (by decide) (hts _ (List.mem_of_getElem? (i := 4) rfl)) (fun _ h9 => h9) rfl dX11_change_85 ?_
                refine va_get (D := D) (ci := 10) (C := RX10) (T := TX10) (N := 5) hx hb hts fwX11_change_X10 hown hK hP 4 rfl rfl 2 (by decide) (hts _ (List.mem_of_getElem? (i := 5) rfl)) (fun _ h9 => h9) rfl dX11_change_88 ?_
                refine lv_goto (tgt := 107) hx hb dX11_change_91 (by decide) ?_
                refine lv_astore (lv' := [(5, .ref (ad 6)), (0, .ref (ad 0)), (1, .int a1), (3, .int a3), (4, .int y8)]) hx hb dX11_change_107 hl (by decide) rfl (fun ls hl => ?_)
                refine lv_aload hx hb dX11_change_109 (lv_at hl 0 rfl) ?_
                refine lv_iload_n hx hb dX11_change_111 rfl (lv_at hl 2 rfl) ?_
                refine w_iald (wf := (wX11 cI cZ cS ad)) hx hb hK hP 6 0 rfl rfl hf dX11_change_112 (fun v19 hf => ?_)
                refine lv_istore (lv' := [(6, .int v19), (5, .ref (ad 6)), (0, .ref (ad 0)), (1, .int a1), (3, .int a3), (4, .int y8)]) hx hb dX11_change_113 hl (by decide) rfl (fun ls hl => ?_)
                refine lv_aload hx hb dX11_change_115 (lv_at hl 1 rfl) ?_
                refine lv_iload_n hx hb dX11_change_117 rfl (lv_at hl 3 rfl) ?_
                refine lv_iload_n hx hb dX11_change_118 rfl (lv_at hl 4 rfl) ?_
                refine w_iast (wf := (wX11 cI cZ cS ad)) (cid := 6) hx hb hK hP hD hS 6 0 rfl rfl hf (fun _ => rfl) dX11_change_119 (fun σ20 H locs hf hP hD hS => ?_)
                refine lv_iload hx hb dX11_change_120 (lv_at hl 0 rfl) ?_
                obtain ⟨hi1, hi2⟩ := Prod.mk.inj (Option.some.inj hf)
                subst hi1
                subst hi2
                exact hret _ _ _ _ dX11_change_122 rfl hP hS
            · have hf := (if_pos h15).symm.trans hf
              refine lv_aload_n hx hb dX11_change_66 rfl (lv_at hl 0 rfl) ?_
              refine lv_ldc (v := -1000001) hx hb hown (hts _ (List.mem_of_getElem? (i := 1) rfl)) dX11_change_67 ?_
              refine q_cVi (wf := (wX11 cI cZ cS ad)) (wc := wX11 cI cZ cS ad) (rest := []) ⟨hx, hb, hml, hown, hts⟩ hK hZ hA hP hD hS hf (fun x τ ho => kX11_tell l D cI cZ cS zz ad σ (-1000001 : Int32) x τ ho) (cwV 1 hts gX11_change_X11_tell rfl rfl rfl ndX11_tell ⟨Nat.le_of_ble_eq_true rfl, Nat.le_of_ble_eq_true rfl⟩) [0, 1, 2, 3, 4, 5, 6, 7, 8, 9, 10, 11, 12, 13, 14, 15, 16, 17, 18, 19, 20, 21, 22, 23, 24, 25, 26, 27, 28, 29, 30, 31, 32, 33, 34, 35, 36, 37, 38, 39, 40, 41, 42, 43, 44, 45, 46, 47, 48, 49, 50, 51, 52, 53, 54, 55, 56, 57, 58, 59, 60, 61, 62, 63, 64, 65, 66, 67, 68, 69, 70, 71] rfl rfl [some 0, some 1, some 2, some 3, some 4, some 5, some 6, some 7, some 8, some 9, some 10, some 11, some 12, some 13, some 14, some 15, some 16, some 17, some 18, some 19, some 20, some 21, some 22, some 23, some 24, some 25, some 26, some 27, some 28, some 29, some 30, some 31, some 32, some 33, some 34, some 35, some 36, some 37, some 38, some 39, some 40, some 41, some 42, some 43, some 44, some 45, some 46, some 47, some 48, some 49, some 50, some 51, some 52, some 53, some 54, some 55, some 56, some 57, some 58, some 59, some 60, some 61, some 62, some 63, some 64, some 65, some 66, some 67, some 68, some 69, some 70, some 71] (by decide +kernel) (Nat.le_of_ble_eq_true rfl) (fun _ => rfl) (fun _ => rfl) (fun _ => rfl) rfl rfl rfl rfl (hl.1) rfl (Nat.le_of_ble_eq_true rfl) dX11_change_69 ⟨Nat.zero_le _, Nat.zero_le _⟩ (fun r22 σ21 H locs hf hP hD hS => ?_)
              obtain ⟨hi1, hi2⟩ := Prod.mk.inj (Option.some.inj hf)
              subst hi1
              subst hi2
              exact hret _ _ _ _ dX11_change_72 rfl hP hS
          refine lv_if_eq (tgt := 57) hx hb dX11_change_49 (by decide) (fun h23 => ?_) (fun h23 => ?_)
          · have hf := (if_pos h23).symm.trans hf
            refine lv_sipush (v := 999) hx hb dX11_change_57 (by decide) ?_
            exact Jj13 (999 : Int32) _ _ _ hP hD hS (lv_sub hl [0, 1, 2, 3] rfl) hf
          · have hf := (if_neg h23).symm.trans hf
            refine lv_bipush (v := 99) hx hb dX11_change_52 (by decide) ?_
            refine lv_goto (tgt := 60) hx hb dX11_change_54 (by decide) ?_
            exact Jj13 (99 : Int32) _ _ _ hP hD hS (lv_sub hl [0, 1, 2, 3] rfl) hf
        refine lv_if_eq (tgt := 46) hx hb dX11_change_39 (by decide) (fun h24 => ?_) (fun h24 => ?_)
        · have hf := (if_pos h24).symm.trans hf
          refine lv_iconst (v := 0) hx hb dX11_change_46 (by decide) ?_
          exact Jj11 (0 : Int32) _ _ _ hP hD hS (lv_sub hl [1, 2, 3, 0] rfl) hf
        · have hf := (if_neg h24).symm.trans hf
          refine lv_iconst (v := 1) hx hb dX11_change_42 (by decide) ?_
          refine lv_goto (tgt := 47) hx hb dX11_change_43 (by decide) ?_
          exact Jj11 (1 : Int32) _ _ _ hP hD hS (lv_sub hl [1, 2, 3, 0] rfl) hf
      refine lv_icmp_ne (tgt := 33) hx hb dX11_change_26 (by decide) (fun h25 => ?_) (fun h25 => ?_)
      · have hf := (if_neg h25).symm.trans hf
        refine lv_iconst (v := 0) hx hb dX11_change_33 (by decide) ?_
        exact Jj9 (0 : Int32) _ _ _ hP hD hS (lv_sub hl [0, 1, 3] rfl) hf
      · have hf := (if_pos h25).symm.trans hf
        refine lv_iconst (v := 1) hx hb dX11_change_29 (by decide) ?_
        refine lv_goto (tgt := 34) hx hb dX11_change_30 (by decide) ?_
        exact Jj9 (1 : Int32) _ _ _ hP hD hS (lv_sub hl [0, 1, 3] rfl) hf
    · have hf := (if_pos h7).symm.trans hf
      exact Jj2  _ _ _ hP hD hS (lv_sub hl [0] rfl) hf
def pX11_set (σ : SS) (a1 : Int32) (a2 : Int32) : Option (Int32 × SS) := q_cr (pX11_within a1 (0 : Int32) (7 : Int32)) (fun (r1 : Int32) => q_lt (q_ci (pX11_tell σ (-1000001 : Int32)) (fun (τ : SS) => τ) (fun (r4 : Int32) (σ3 : SS) => some (r4, σ3))) (fun j2 => (if r1 = (0 : Int32) then j2 else q_rd k_least 8 a1 (fun (v6 : Int32) => q_rd k_most 8 a1 (fun (v7 : Int32) => q_cr (pX11_within a2 v6 v7) (fun (r8 : Int32) => (if r8 = (0 : Int32) then j2 else q_cr (pX4_marksFit (q_sb σ 9) a1 a2) (fun (r10 : Int32) => (if r10 = (0 : Int32) then j2 else q_cr (pX0_measure (q_sb σ 3) a1) (fun (r12 : Int32) => q_cs (pX0_putMeasure (q_sb σ 3) a1 a2) (fun (τ : SS) => (q_em σ 3 0 13 τ)) (fun (σ13 : SS) => some (r12, σ13))))))))))))
theorem fwX11_set_X0 : ∀ w ∈ wsX00, w ∈ wsX11_set := fun _ h => List.mem_cons_of_mem _ (List.mem_append_left _ (List.mem_append_right _ h))
theorem fwX11_set_X11 : ∀ w ∈ wsX110, w ∈ wsX11_set := fun _ h => List.mem_cons_of_mem _ (List.mem_append_left _ (List.mem_append_left _ (List.mem_append_left _ (List.mem_append_right _ h))))
theorem fwX11_set_X2 : ∀ w ∈ wsX20, w ∈ wsX11_set := fun _ h => List.mem_cons_of_mem _ (List.mem_append_left _ (List.mem_append_left _ (List.mem_append_right _ h)))
abbrev rmX11_set : Room := { frames := 1, cells := 0, slots := 0, locals := 22 }
set_option maxHeartbeats 4000000 in
set_option maxRecDepth 100000 in
theorem kX11_set (l : Launch) (D : va_G) (cI cZ cS : ClassId) (zz : ZT) (ad : Nat → Nat) (σ : SS) (a1 : Int32) (a2 : Int32) (rr : Int32) (σr : SS) (hf : pX11_set σ a1 a2 = some (rr, σr)) : CI l yX11_set wsX11_set rmX11_set D (K3 cI cZ cS) zz [.ref (ad 0), .int a1, .int a2] (wX11 cI cZ cS ad σ) (wX11 cI cZ cS ad σr) rr := by
  refine q_ofI (cc := cX11_set) (maxL := 4) (ty := .int) (by decide) rfl (Nat.le_of_ble_eq_true rfl) ?_
  intro p e s m below meth c Q A ls hx hb hml hown hts hK hZ hA hP hD hS hl hret
  have hl : lv_has ls 4 [(0, .ref (ad 0)), (1, .int a1), (2, .int a2)] := hl
  unfold pX11_set at hf
  refine lv_iload_n hx hb dX11_set_0 rfl (lv_at hl 1 rfl) ?_
  refine lv_iconst (v := 0) hx hb dX11_set_1 (by decide) ?_
  refine lv_bipush (v := 7) hx hb dX11_set_2 (by decide) ?_
  refine q_cSr (wf := (wX11 cI cZ cS ad)) (rest := []) ⟨hx, hb, hml, hown, hts⟩ hK hZ hA hP hD hS hf (fun x ho => kX11_within l D cI cZ cS zz a1 (0 : Int32) (7 : Int32) x ho) (va_cwS 3 hts gX11_set_X11_within rfl rfl rfl ndX11_within.2 ⟨Nat.le_of_ble_eq_true rfl, Nat.le_of_ble_eq_true rfl⟩) rfl (hl.1) rfl (Nat.le_of_ble_eq_true rfl) dX11_set_4 ⟨Nat.zero_le _, Nat.zero_le _⟩ (fun r1 H locs hf hP hD hS => ?_)
  refine q_lt_go hf (fun j2 ej2 hf => ?_)
  have Jj2 : ∀ (H : Heap) (locs : List Loc) (ls : Array Slot), va_P D vwCl ((wX11 cI cZ cS ad) σ) H → va_D A ((wX11 cI cZ cS ad) σ) → va_S A s.heap H locs → lv_has ls 4 [(0, .ref (ad 0))] → j2 = some (rr, σr) → W p l e rmX11_set s m ([.ref (ad 0), .int a1, .int a2] : List Value).toArray below meth c H locs 0 0 Q (F0 m 45 ls []) := by
    intro  H locs ls hP hD hS hl hf
    have hf := ej2.symm.trans hf
    refine lv_aload_n hx hb dX11_set_45 rfl (lv_at hl 0 rfl) ?_
    refine lv_ldc (v := -1000001) hx hb hown (hts _ (List.mem_of_getElem? (i := 6) rfl)) dX11_set_46 ?_
    refine q_cVi (wf := (wX11 cI cZ cS ad)) (wc := wX11 cI cZ cS ad) (rest := []) ⟨hx, hb, hml, hown, hts⟩ hK hZ hA hP hD hS hf (fun x τ ho => kX11_tell l D cI cZ cS zz ad σ (-1000001 : Int32) x τ ho) (cwV 1 hts gX11_set_X11_tell rfl rfl rfl ndX11_tell ⟨Nat.le_of_ble_eq_true rfl, Nat.le_of_ble_eq_true rfl⟩) [0, 1, 2, 3, 4, 5, 6, 7, 8, 9, 10, 11, 12, 13, 14, 15, 16, 17, 18, 19, 20, 21, 22, 23, 24, 25, 26, 27, 28, 29, 30, 31, 32, 33, 34, 35, 36, 37, 38, 39, 40, 41, 42, 43, 44, 45, 46, 47, 48, 49, 50, 51, 52, 53, 54, 55, 56, 57, 58, 59, 60, 61, 62, 63, 64, 65, 66, 67, 68, 69, 70, 71] rfl rfl [some 0, some 1, some 2, some 3, some 4, some 5, some 6, some 7, some 8, some 9, some 10, some 11, some 12, some 13, some 14, some 15, some 16, some 17, some 18, some 19, some 20, some 21, some 22, some 23, some 24, some 25, some 26, some 27, some 28, some 29, some 30, some 31, some 32, some 33, some 34, some 35, some 36, some 37, some 38, some 39, some 40, some 41, some 42, some 43, some 44, some 45, some 46, some 47, some 48, some 49, some 50, some 51, some 52, some 53, some 54, some 55, some 56, some 57, some 58, some 59, some 60, some 61, some 62, some 63, some 64, some 65, some 66, some 67, some 68, some 69, some 70, some 71] (by decide +kernel) (Nat.le_of_ble_eq_true rfl) (fun _ => rfl) (fun _ => rfl) (fun _ => rfl) rfl rfl rfl rfl (hl.1) rfl (Nat.le_of_ble_eq_true rfl) dX11_set_48 ⟨Nat.zero_le _, Nat.zero_le _⟩ (fun r4 σ3 H locs hf hP hD hS => ?_)
    obtain ⟨hi1, hi2⟩ := Prod.mk.inj (Option.some.inj hf)
    subst hi1
    subst hi2
    exact hret _ _ _ _ dX11_set_51 rfl hP hS
  refine lv_if_eq (tgt := 45) hx hb dX11_set_7 (by decide) (fun h5 => ?_) (fun h5 => ?_)
  · have hf := (if_pos h5).symm.trans hf
    exact Jj2  _ _ _ hP hD hS (lv_sub hl [0] rfl) hf
  · have hf := (if_neg h5).symm.trans hf
    refine lv_iload_n hx hb dX11_set_10 rfl (lv_at hl 2 rfl) ?_
    refine va_gets hx hb hZ.2.1.1 hS hown (hts _ (List.mem_of_getElem? (i := 1) rfl)) (fun _ h9 => h9) dX11_set_11 ?_
    refine lv_iload_n hx hb dX11_set_14 rfl (lv_at hl 1 rfl) ?_
    refine w_tald hx hb hZ.2.1 hS hf dX11_set_15 (fun v6 hf => ?_)
    refine va_gets hx hb hZ.2.2.1.1 hS hown (hts _ (List.mem_of_getElem? (i := 2) rfl)) (fun _ h9 => h9) dX11_set_16 ?_
    refine lv_iload_n hx hb dX11_set_19 rfl (lv_at hl 1 rfl) ?_
    refine w_tald hx hb hZ.2.2.1 hS hf dX11_set_20 (fun v7 hf => ?_)
    refine q_cSr (wf := (wX11 cI cZ cS ad)) (rest := []) ⟨hx, hb, hml, hown, hts⟩ hK hZ hA hP hD hS hf (fun x ho => kX11_within l D cI cZ cS zz a2 v6 v7 x ho) (va_cwS 3 hts gX11_set_X11_within rfl rfl rfl ndX11_within.2 ⟨Nat.le_of_ble_eq_true rfl, Nat.le_of_ble_eq_true rfl⟩) rfl (hl.1) rfl (Nat.le_of_ble_eq_true rfl) dX11_set_21 ⟨Nat.zero_le _, Nat.zero_le _⟩ (fun r8 H locs hf hP hD hS => ?_)
    refine lv_if_eq (tgt := 45) hx hb dX11_set_24 (by decide) (fun h9 => ?_) (fun h9 => ?_)
    · have hf := (if_pos h9).symm.trans hf
      exact Jj2  _ _ _ hP hD hS (lv_sub hl [0] rfl) hf
    · have hf := (if_neg h9).symm.trans hf
      refine lv_aload_n hx hb dX11_set_27 rfl (lv_at hl 0 rfl) ?_
      refine va_get (D := D) (ci := 11) (C := RX11) (T := TX11) (N := 9) hx hb hts fwX11_set_X11 hown hK hP 0 rfl rfl 1 (by decide) (hts _ (List.mem_of_getElem? (i := 3) rfl)) (fun _ h9 => h9) rfl dX11_set_28 ?_
      refine va_get (D := D) (ci := 2) (C := RX2) (T := TX2) (N := 4) hx hb hts fwX11_set_X2 hown hK hP 2 rfl rfl 0 (by decide) (hts _ (List.mem_of_getElem? (i := 4) rfl)) (fun _ h9 => h9) rfl dX11_set_31 ?_
      refine va_get (D := D) (ci := 0) (C := RX0) (T := TX0) (N := 13) hx hb hts fwX11_set_X0 hown hK hP 3 rfl rfl 1 (by decide) (hts _ (List.mem_of_getElem? (i := 5) rfl)) (fun _ h9 => h9) rfl dX11_set_34 ?_
      refine lv_iload_n hx hb dX11_set_37 rfl (lv_at hl 1 rfl) ?_
      refine lv_iload_n hx hb dX11_set_38 rfl (lv_at hl 2 rfl) ?_
      refine q_cVr (wf := (wX11 cI cZ cS ad)) (wc := wX4 cI cZ cS (fun i => ad (9 + i))) (rest := []) ⟨hx, hb, hml, hown, hts⟩ hK hZ hA hP hD hS hf (fun x ho => kX4_marksFit l D cI cZ cS zz (fun i => ad (9 + i)) (q_sb σ 9) a1 a2 x ho) (cwV 2 hts gX11_set_X4_marksFit rfl rfl rfl ndX4_marksFit ⟨Nat.le_of_ble_eq_true rfl, Nat.le_of_ble_eq_true rfl⟩) [9, 10] rfl rfl rfl rfl rfl rfl (hl.1) rfl (Nat.le_of_ble_eq_true rfl) dX11_set_39 ⟨Nat.zero_le _, Nat.zero_le _⟩ (fun r10 H locs hf hP hD hS => ?_)
      refine lv_if_ne (tgt := 52) hx hb dX11_set_42 (by decide) (fun h11 => ?_) (fun h11 => ?_)
      · have hf := (if_neg h11).symm.trans hf
        refine lv_aload_n hx hb dX11_set_52 rfl (lv_at hl 0 rfl) ?_
        refine va_get (D := D) (ci := 11) (C := RX11) (T := TX11) (N := 9) hx hb hts fwX11_set_X11 hown hK hP 0 rfl rfl 1 (by decide) (hts _ (List.mem_of_getElem? (i := 3) rfl)) (fun _ h9 => h9) rfl dX11_set_53 ?_
        refine va_get (D := D) (ci := 2) (C := RX2) (T := TX2) (N := 4) hx hb hts fwX11_set_X2 hown hK hP 2 rfl rfl 0 (by decide) (hts _ (List.mem_of_getElem? (i := 4) rfl)) (fun _ h9 => h9) rfl dX11_set_56 ?_
        refine lv_iload_n hx hb dX11_set_59 rfl (lv_at hl 1 rfl) ?_
        refine q_cVr (wf := (wX11 cI cZ cS ad)) (wc := wX0 cI cZ cS (fun i => ad (3 + i))) (rest := []) ⟨hx, hb, hml, hown, hts⟩ hK hZ hA hP hD hS hf (fun x ho => kX0_measure l D cI cZ cS zz (fun i => ad (3 + i)) (q_sb σ 3) a1 x ho) (cwV 1 hts gX11_set_X0_measure rfl rfl rfl ndX0_measure ⟨Nat.le_of_ble_eq_true rfl, Nat.le_of_ble_eq_true rfl⟩) [3, 4, 5, 6, 7, 8, 9, 10, 11, 12, 13, 14, 15] rfl rfl rfl rfl rfl rfl (hl.1) rfl (Nat.le_of_ble_eq_true rfl) dX11_set_60 ⟨Nat.zero_le _, Nat.zero_le _⟩ (fun r12 H locs hf hP hD hS => ?_)
        refine lv_istore_n (lv' := [(3, .int r12), (0, .ref (ad 0)), (1, .int a1), (2, .int a2)]) hx hb dX11_set_63 rfl hl (by decide) rfl (fun ls hl => ?_)
        refine lv_aload_n hx hb dX11_set_64 rfl (lv_at hl 1 rfl) ?_
        refine va_get (D := D) (ci := 11) (C := RX11) (T := TX11) (N := 9) hx hb hts fwX11_set_X11 hown hK hP 0 rfl rfl 1 (by decide) (hts _ (List.mem_of_getElem? (i := 3) rfl)) (fun _ h9 => h9) rfl dX11_set_65 ?_
        refine va_get (D := D) (ci := 2) (C := RX2) (T := TX2) (N := 4) hx hb hts fwX11_set_X2 hown hK hP 2 rfl rfl 0 (by decide) (hts _ (List.mem_of_getElem? (i := 4) rfl)) (fun _ h9 => h9) rfl dX11_set_68 ?_
        refine lv_iload_n hx hb dX11_set_71 rfl (lv_at hl 2 rfl) ?_
        refine lv_iload_n hx hb dX11_set_72 rfl (lv_at hl 3 rfl) ?_
        refine q_cVv (wf := (wX11 cI cZ cS ad)) (wc := wX0 cI cZ cS (fun i => ad (3 + i))) (rest := []) ⟨hx, hb, hml, hown, hts⟩ hK hZ hA hP hD hS hf (fun x ho => kX0_putMeasure l D cI cZ cS zz (fun i => ad (3 + i)) (q_sb σ 3) a1 a2 x ho) (cwV 2 hts gX11_set_X0_putMeasure rfl rfl rfl ndX0_putMeasure ⟨Nat.le_of_ble_eq_true rfl, Nat.le_of_ble_eq_true rfl⟩) [3, 4, 5, 6, 7, 8, 9, 10, 11, 12, 13, 14, 15] rfl rfl [none, none, none, some 0, some 1, some 2, some 3, some 4, some 5, some 6, some 7, some 8, some 9, some 10, some 11, some 12, none, none, none, none, none, none, none, none, none, none, none, none, none, none, none, none, none, none, none, none, none, none, none, none, none, none, none, none, none, none, none, none, none, none, none, none, none, none, none, none, none, none, none, none, none, none, none, none, none, none, none, none, none, none, none, none] (by decide +kernel) (Nat.le_of_ble_eq_true rfl) (fun _ => rfl) (fun _ => rfl) (fun _ => rfl) rfl rfl rfl rfl (hl.1) rfl (Nat.le_of_ble_eq_true rfl) dX11_set_73 ⟨Nat.zero_le _, Nat.zero_le _⟩ (fun σ13 H locs hf hP hD hS => ?_)
        refine lv_iload_n hx hb dX11_set_76 rfl (lv_at hl 0 rfl) ?_
        obtain ⟨hi1, hi2⟩ := Prod.mk.inj (Option.some.inj hf)
        subst hi1
        subst hi2
        exact hret _ _ _ _ dX11_set_77 rfl hP hS
      · have hf := (if_pos h11).symm.trans hf
        exact Jj2  _ _ _ hP hD hS (lv_sub hl [0] rfl) hf
def pX11_bit (a1 : Int32) : Option Int32 := q_lt (fun (y1 : Int32) => some y1) (fun j2 => (if a1 = (0 : Int32) then j2 (0 : Int32) else j2 (1 : Int32)))
abbrev rmX11_bit : Room := { frames := 0, cells := 0, slots := 0, locals := 0 }
set_option maxHeartbeats 4000000 in
set_option maxRecDepth 100000 in
theorem kX11_bit (l : Launch) (D : va_G) (cI cZ cS : ClassId) (zz : ZT) (a1 : Int32) (rr : Int32) (hf : pX11_bit a1 = some rr) : CI l yX11_bit wsX11_bit rmX11_bit D (K3 cI cZ cS) zz [.int a1] [] [] rr := by
  refine q_ofI (cc := cX11_bit) (maxL := 1) (ty := .int) (by decide) rfl (Nat.le_of_ble_eq_true rfl) ?_
  intro p e s m below meth c Q A ls hx hb hml hown hts hK hZ hA hP hD hS hl hret
  have hl : lv_has ls 1 [(0, .int a1)] := hl
  unfold pX11_bit at hf
  refine lv_iload_n hx hb dX11_bit_0 rfl (lv_at hl 0 rfl) ?_
  refine q_lt_go hf (fun j2 ej2 hf => ?_)
  have Jj2 : ∀ (y1 : Int32) (H : Heap) (locs : List Loc) (ls : Array Slot), va_P D vwCl ([] : va_W) H → va_D A ([] : va_W) → va_S A s.heap H locs → lv_has ls 1 [] → j2 y1 = some rr → W p l e rmX11_bit s m ([.int a1] : List Value).toArray below meth c H locs 0 0 Q (F0 m 9 ls [.int y1]) := by
    intro y1 H locs ls hP hD hS hl hf
    have hf := (congrFun ej2 y1).symm.trans hf
    have hi1 := Option.some.inj hf
    subst hi1
    exact hret _ _ _ _ dX11_bit_9 rfl hP hS
  refine lv_if_eq (tgt := 8) hx hb dX11_bit_1 (by decide) (fun h3 => ?_) (fun h3 => ?_)
  · have hf := (if_pos h3).symm.trans hf
    refine lv_iconst (v := 0) hx hb dX11_bit_8 (by decide) ?_
    exact Jj2 (0 : Int32) _ _ _ hP hD hS (lv_sub hl [] rfl) hf
  · have hf := (if_neg h3).symm.trans hf
    refine lv_iconst (v := 1) hx hb dX11_bit_4 (by decide) ?_
    refine lv_goto (tgt := 9) hx hb dX11_bit_5 (by decide) ?_
    exact Jj2 (1 : Int32) _ _ _ hP hD hS (lv_sub hl [] rfl) hf
def pX11_current (σ : SS) (a1 : Int32) : Option (Int32 × SS) := q_cr (pX11_bit (σ 9 5)) (fun (r1 : Int32) => q_zz a1 (q_lt (su σ 9 5 a1) (fun (σ2 : SS) => some (r1, σ2))))
theorem fwX11_current_X0 : ∀ w ∈ wsX00, w ∈ wsX11_current := fun _ h => List.mem_cons_of_mem _ (List.mem_append_left _ (List.mem_append_right _ h))
theorem fwX11_current_X11 : ∀ w ∈ wsX110, w ∈ wsX11_current := fun _ h => List.mem_cons_of_mem _ (List.mem_append_left _ (List.mem_append_left _ (List.mem_append_left _ (List.mem_append_right _ h))))
theorem fwX11_current_X2 : ∀ w ∈ wsX20, w ∈ wsX11_current := fun _ h => List.mem_cons_of_mem _ (List.mem_append_left _ (List.mem_append_left _ (List.mem_append_right _ h)))
theorem fwX11_current_X4 : ∀ w ∈ wsX40, w ∈ wsX11_current := fun _ h => List.mem_cons_of_mem _ (List.mem_append_right _ h)
abbrev rmX11_current : Room := { frames := 1, cells := 0, slots := 0, locals := 20 }
set_option maxHeartbeats 4000000 in
set_option maxRecDepth 100000 in
theorem kX11_current (l : Launch) (D : va_G) (cI cZ cS : ClassId) (zz : ZT) (ad : Nat → Nat) (σ : SS) (a1 : Int32) (rr : Int32) (σr : SS) (hf : pX11_current σ a1 = some (rr, σr)) : CI l yX11_current wsX11_current rmX11_current D (K3 cI cZ cS) zz [.ref (ad 0), .int a1] (wX11 cI cZ cS ad σ) (wX11 cI cZ cS ad σr) rr := by
  refine q_ofI (cc := cX11_current) (maxL := 4) (ty := .int) (by decide) rfl (Nat.le_of_ble_eq_true rfl) ?_
  intro p e s m below meth c Q A ls hx hb hml hown hts hK hZ hA hP hD hS hl hret
  have hl : lv_has ls 4 [(0, .ref (ad 0)), (1, .int a1)] := hl
  unfold pX11_current at hf
  refine lv_aload_n hx hb dX11_current_0 rfl (lv_at hl 0 rfl) ?_
  refine va_get (D := D) (ci := 11) (C := RX11) (T := TX11) (N := 9) hx hb hts fwX11_current_X11 hown hK hP 0 rfl rfl 1 (by decide) (hts _ (List.mem_of_getElem? (i := 1) rfl)) (fun _ h9 => h9) rfl dX11_current_1 ?_
  refine va_get (D := D) (ci := 2) (C := RX2) (T := TX2) (N := 4) hx hb hts fwX11_current_X2 hown hK hP 2 rfl rfl 0 (by decide) (hts _ (List.mem_of_getElem? (i := 2) rfl)) (fun _ h9 => h9) rfl dX11_current_4 ?_
  refine va_get (D := D) (ci := 0) (C := RX0) (T := TX0) (N := 13) hx hb hts fwX11_current_X0 hown hK hP 3 rfl rfl 1 (by decide) (hts _ (List.mem_of_getElem? (i := 3) rfl)) (fun _ h9 => h9) rfl dX11_current_7 ?_
  refine lv_astore_n (lv' := [(2, .ref (ad 9)), (0, .ref (ad 0)), (1, .int a1)]) hx hb dX11_current_10 rfl hl (by decide) rfl (fun ls hl => ?_)
  refine lv_aload_n hx hb dX11_current_11 rfl (lv_at hl 0 rfl) ?_
  refine va_get (D := D) (ci := 4) (C := RX4) (T := TX4) (N := 11) hx hb hts fwX11_current_X4 hown hK hP 9 rfl rfl 5 (by decide) (hts _ (List.mem_of_getElem? (i := 4) rfl)) (fun _ h9 => h9) rfl dX11_current_12 ?_
  refine q_cSr (wf := (wX11 cI cZ cS ad)) (rest := []) ⟨hx, hb, hml, hown, hts⟩ hK hZ hA hP hD hS hf (fun x ho => kX11_bit l D cI cZ cS zz (σ 9 5) x ho) (va_cwS 1 hts gX11_current_X11_bit rfl rfl rfl ndX11_bit.2 ⟨Nat.le_of_ble_eq_true rfl, Nat.le_of_ble_eq_true rfl⟩) rfl (hl.1) rfl (Nat.le_of_ble_eq_true rfl) dX11_current_15 ⟨Nat.zero_le _, Nat.zero_le _⟩ (fun r1 H locs hf hP hD hS => ?_)
  refine lv_istore_n (lv' := [(3, .int r1), (2, .ref (ad 9)), (0, .ref (ad 0)), (1, .int a1)]) hx hb dX11_current_18 rfl hl (by decide) rfl (fun ls hl => ?_)
  refine lv_aload_n hx hb dX11_current_19 rfl (lv_at hl 1 rfl) ?_
  refine lv_iload_n hx hb dX11_current_20 rfl (lv_at hl 3 rfl) ?_
  refine w_putZ (D := D) (wf := (wX11 cI cZ cS ad)) (cid := 9) (ci := 4) (C := RX4) (T := TX4) (N := 11) hx hb hts fwX11_current_X4 tyX4 tyX4_ok nmX4 hown hK hP hD hS 9 rfl rfl 5 (by decide) (hts _ (List.mem_of_getElem? (i := 4) rfl)) (fun _ h9 => h9) rfl (tyX4_ok 5 (by decide)) (Nat.le_of_ble_eq_true rfl) hf rfl dX11_current_21 (fun σ2 H locs hf hP hD hS => ?_)
  refine lv_iload_n hx hb dX11_current_24 rfl (lv_at hl 0 rfl) ?_
  obtain ⟨hi1, hi2⟩ := Prod.mk.inj (Option.some.inj hf)
  subst hi1
  subst hi2
  exact hret _ _ _ _ dX11_current_25 rfl hP hS
def pX11_flap (σ : SS) (a1 : Int32) : Option (Int32 × SS) := q_lt (q_cr (pX11_bit (σ 3 5)) (fun (r2 : Int32) => q_zz a1 (q_lt (su σ 3 5 a1) (fun (σ3 : SS) => some (r2, σ3))))) (fun j1 => (if a1 = (0 : Int32) then j1 else q_cr (pX0_has (q_sb σ 3) (1 : Int32)) (fun (r5 : Int32) => (if r5 = (0 : Int32) then j1 else q_ci (pX11_tell σ (-1000005 : Int32)) (fun (τ : SS) => τ) (fun (r8 : Int32) (σ7 : SS) => some (r8, σ7))))))
theorem fwX11_flap_X0 : ∀ w ∈ wsX00, w ∈ wsX11_flap := fun _ h => List.mem_cons_of_mem _ (List.mem_append_right _ h)
theorem fwX11_flap_X11 : ∀ w ∈ wsX110, w ∈ wsX11_flap := fun _ h => List.mem_cons_of_mem _ (List.mem_append_left _ (List.mem_append_left _ (List.mem_append_right _ h)))
theorem fwX11_flap_X2 : ∀ w ∈ wsX20, w ∈ wsX11_flap := fun _ h => List.mem_cons_of_mem _ (List.mem_append_left _ (List.mem_append_right _ h))
abbrev rmX11_flap : Room := { frames := 1, cells := 0, slots := 0, locals := 21 }
set_option maxHeartbeats 4000000 in
set_option maxRecDepth 100000 in
theorem kX11_flap (l : Launch) (D : va_G) (cI cZ cS : ClassId) (zz : ZT) (ad : Nat → Nat) (σ : SS) (a1 : Int32) (rr : Int32) (σr : SS) (hf : pX11_flap σ a1 = some (rr, σr)) : CI l yX11_flap wsX11_flap rmX11_flap D (K3 cI cZ cS) zz [.ref (ad 0), .int a1] (wX11 cI cZ cS ad σ) (wX11 cI cZ cS ad σr) rr := by
  refine q_ofI (cc := cX11_flap) (maxL := 4) (ty := .int) (by decide) rfl (Nat.le_of_ble_eq_true rfl) ?_
  intro p e s m below meth c Q A ls hx hb hml hown hts hK hZ hA hP hD hS hl hret
  have hl : lv_has ls 4 [(0, .ref (ad 0)), (1, .int a1)] := hl
  unfold pX11_flap at hf
  refine lv_aload_n hx hb dX11_flap_0 rfl (lv_at hl 0 rfl) ?_
  refine va_get (D := D) (ci := 11) (C := RX11) (T := TX11) (N := 9) hx hb hts fwX11_flap_X11 hown hK hP 0 rfl rfl 1 (by decide) (hts _ (List.mem_of_getElem? (i := 1) rfl)) (fun _ h9 => h9) rfl dX11_flap_1 ?_
  refine va_get (D := D) (ci := 2) (C := RX2) (T := TX2) (N := 4) hx hb hts fwX11_flap_X2 hown hK hP 2 rfl rfl 0 (by decide) (hts _ (List.mem_of_getElem? (i := 2) rfl)) (fun _ h9 => h9) rfl dX11_flap_4 ?_
  refine lv_astore_n (lv' := [(2, .ref (ad 3)), (0, .ref (ad 0)), (1, .int a1)]) hx hb dX11_flap_7 rfl hl (by decide) rfl (fun ls hl => ?_)
  refine lv_iload_n hx hb dX11_flap_8 rfl (lv_at hl 2 rfl) ?_
  refine q_lt_go hf (fun j1 ej1 hf => ?_)
  have Jj1 : ∀ (H : Heap) (locs : List Loc) (ls : Array Slot), va_P D vwCl ((wX11 cI cZ cS ad) σ) H → va_D A ((wX11 cI cZ cS ad) σ) → va_S A s.heap H locs → lv_has ls 4 [(1, .int a1), (2, .ref (ad 3))] → j1 = some (rr, σr) → W p l e rmX11_flap s m ([.ref (ad 0), .int a1] : List Value).toArray below meth c H locs 0 0 Q (F0 m 27 ls []) := by
    intro  H locs ls hP hD hS hl hf
    have hf := ej1.symm.trans hf
    refine lv_aload_n hx hb dX11_flap_27 rfl (lv_at hl 1 rfl) ?_
    refine va_get (D := D) (ci := 0) (C := RX0) (T := TX0) (N := 13) hx hb hts fwX11_flap_X0 hown hK hP 3 rfl rfl 5 (by decide) (hts _ (List.mem_of_getElem? (i := 4) rfl)) (fun _ h9 => h9) rfl dX11_flap_28 ?_
    refine q_cSr (wf := (wX11 cI cZ cS ad)) (rest := []) ⟨hx, hb, hml, hown, hts⟩ hK hZ hA hP hD hS hf (fun x ho => kX11_bit l D cI cZ cS zz (σ 3 5) x ho) (va_cwS 1 hts gX11_flap_X11_bit rfl rfl rfl ndX11_bit.2 ⟨Nat.le_of_ble_eq_true rfl, Nat.le_of_ble_eq_true rfl⟩) rfl (hl.1) rfl (Nat.le_of_ble_eq_true rfl) dX11_flap_31 ⟨Nat.zero_le _, Nat.zero_le _⟩ (fun r2 H locs hf hP hD hS => ?_)
    refine lv_istore_n (lv' := [(3, .int r2), (1, .int a1), (2, .ref (ad 3))]) hx hb dX11_flap_34 rfl hl (by decide) rfl (fun ls hl => ?_)
    refine lv_aload_n hx hb dX11_flap_35 rfl (lv_at hl 2 rfl) ?_
    refine lv_iload_n hx hb dX11_flap_36 rfl (lv_at hl 1 rfl) ?_
    refine w_putZ (D := D) (wf := (wX11 cI cZ cS ad)) (cid := 3) (ci := 0) (C := RX0) (T := TX0) (N := 13) hx hb hts fwX11_flap_X0 tyX0 tyX0_ok nmX0 hown hK hP hD hS 3 rfl rfl 5 (by decide) (hts _ (List.mem_of_getElem? (i := 4) rfl)) (fun _ h9 => h9) rfl (tyX0_ok 5 (by decide)) (Nat.le_of_ble_eq_true rfl) hf rfl dX11_flap_37 (fun σ3 H locs hf hP hD hS => ?_)
    refine lv_iload_n hx hb dX11_flap_40 rfl (lv_at hl 0 rfl) ?_
    obtain ⟨hi1, hi2⟩ := Prod.mk.inj (Option.some.inj hf)
    subst hi1
    subst hi2
    exact hret _ _ _ _ dX11_flap_41 rfl hP hS
  refine lv_if_eq (tgt := 27) hx hb dX11_flap_9 (by decide) (fun h4 => ?_) (fun h4 => ?_)
  · have hf := (if_pos h4).symm.trans hf
    exact Jj1  _ _ _ hP hD hS (lv_sub hl [2, 0] rfl) hf
  · have hf := (if_neg h4).symm.trans hf
    refine lv_aload_n hx hb dX11_flap_12 rfl (lv_at hl 0 rfl) ?_
    refine lv_iconst (v := 1) hx hb dX11_flap_13 (by decide) ?_
    refine q_cVr (wf := (wX11 cI cZ cS ad)) (wc := wX0 cI cZ cS (fun i => ad (3 + i))) (rest := []) ⟨hx, hb, hml, hown, hts⟩ hK hZ hA hP hD hS hf (fun x ho => kX0_has l D cI cZ cS zz (fun i => ad (3 + i)) (q_sb σ 3) (1 : Int32) x ho) (cwV 1 hts gX11_flap_X0_has rfl rfl rfl ndX0_has ⟨Nat.le_of_ble_eq_true rfl, Nat.le_of_ble_eq_true rfl⟩) [3, 4, 5, 6, 7, 8, 9, 10, 11, 12, 13, 14, 15] rfl rfl rfl rfl rfl rfl (hl.1) rfl (Nat.le_of_ble_eq_true rfl) dX11_flap_14 ⟨Nat.zero_le _, Nat.zero_le _⟩ (fun r5 H locs hf hP hD hS => ?_)
    refine lv_if_eq (tgt := 27) hx hb dX11_flap_17 (by decide) (fun h6 => ?_) (fun h6 => ?_)
    · have hf := (if_pos h6).symm.trans hf
      exact Jj1  _ _ _ hP hD hS (lv_sub hl [2, 0] rfl) hf
    · have hf := (if_neg h6).symm.trans hf
      refine lv_aload_n hx hb dX11_flap_20 rfl (lv_at hl 1 rfl) ?_
      refine lv_ldc (v := -1000005) hx hb hown (hts _ (List.mem_of_getElem? (i := 3) rfl)) dX11_flap_21 ?_
      refine q_cVi (wf := (wX11 cI cZ cS ad)) (wc := wX11 cI cZ cS ad) (rest := []) ⟨hx, hb, hml, hown, hts⟩ hK hZ hA hP hD hS hf (fun x τ ho => kX11_tell l D cI cZ cS zz ad σ (-1000005 : Int32) x τ ho) (cwV 1 hts gX11_flap_X11_tell rfl rfl rfl ndX11_tell ⟨Nat.le_of_ble_eq_true rfl, Nat.le_of_ble_eq_true rfl⟩) [0, 1, 2, 3, 4, 5, 6, 7, 8, 9, 10, 11, 12, 13, 14, 15, 16, 17, 18, 19, 20, 21, 22, 23, 24, 25, 26, 27, 28, 29, 30, 31, 32, 33, 34, 35, 36, 37, 38, 39, 40, 41, 42, 43, 44, 45, 46, 47, 48, 49, 50, 51, 52, 53, 54, 55, 56, 57, 58, 59, 60, 61, 62, 63, 64, 65, 66, 67, 68, 69, 70, 71] rfl rfl [some 0, some 1, some 2, some 3, some 4, some 5, some 6, some 7, some 8, some 9, some 10, some 11, some 12, some 13, some 14, some 15, some 16, some 17, some 18, some 19, some 20, some 21, some 22, some 23, some 24, some 25, some 26, some 27, some 28, some 29, some 30, some 31, some 32, some 33, some 34, some 35, some 36, some 37, some 38, some 39, some 40, some 41, some 42, some 43, some 44, some 45, some 46, some 47, some 48, some 49, some 50, some 51, some 52, some 53, some 54, some 55, some 56, some 57, some 58, some 59, some 60, some 61, some 62, some 63, some 64, some 65, some 66, some 67, some 68, some 69, some 70, some 71] (by decide +kernel) (Nat.le_of_ble_eq_true rfl) (fun _ => rfl) (fun _ => rfl) (fun _ => rfl) rfl rfl rfl rfl (hl.1) rfl (Nat.le_of_ble_eq_true rfl) dX11_flap_23 ⟨Nat.zero_le _, Nat.zero_le _⟩ (fun r8 σ7 H locs hf hP hD hS => ?_)
      obtain ⟨hi1, hi2⟩ := Prod.mk.inj (Option.some.inj hf)
      subst hi1
      subst hi2
      exact hret _ _ _ _ dX11_flap_26 rfl hP hS
def pX11_minutes (σ : SS) (a1 : Int32) : Option (Int32 × SS) := q_cr (pX11_within a1 (1 : Int32) (200 : Int32)) (fun (r1 : Int32) => (if r1 = (0 : Int32) then q_ci (pX11_tell σ (-1000001 : Int32)) (fun (τ : SS) => τ) (fun (r5 : Int32) (σ4 : SS) => some (r5, σ4)) else q_cs (pX0_passMinutes (q_sb σ 3) a1) (fun (τ : SS) => (q_em σ 3 0 13 τ)) (fun (σ3 : SS) => some ((σ3 3 8), σ3))))
theorem fwX11_minutes_X0 : ∀ w ∈ wsX00, w ∈ wsX11_minutes := fun _ h => List.mem_cons_of_mem _ (List.mem_append_left _ (List.mem_append_left _ (List.mem_append_left _ (List.mem_append_right _ h))))
theorem fwX11_minutes_X11 : ∀ w ∈ wsX110, w ∈ wsX11_minutes := fun _ h => List.mem_cons_of_mem _ (List.mem_append_left _ (List.mem_append_left _ (List.mem_append_left _ (List.mem_append_left _ (List.mem_append_left _ (List.mem_append_right _ h))))))
theorem fwX11_minutes_X2 : ∀ w ∈ wsX20, w ∈ wsX11_minutes := fun _ h => List.mem_cons_of_mem _ (List.mem_append_left _ (List.mem_append_left _ (List.mem_append_left _ (List.mem_append_left _ (List.mem_append_right _ h)))))
abbrev rmX11_minutes : Room := { frames := 5, cells := 0, slots := 0, locals := 114 }
set_option maxHeartbeats 4000000 in
set_option maxRecDepth 100000 in
theorem kX11_minutes (l : Launch) (D : va_G) (cI cZ cS : ClassId) (zz : ZT) (ad : Nat → Nat) (σ : SS) (a1 : Int32) (rr : Int32) (σr : SS) (hf : pX11_minutes σ a1 = some (rr, σr)) : CI l yX11_minutes wsX11_minutes rmX11_minutes D (K3 cI cZ cS) zz [.ref (ad 0), .int a1] (wX11 cI cZ cS ad σ) (wX11 cI cZ cS ad σr) rr := by
  refine q_ofI (cc := cX11_minutes) (maxL := 2) (ty := .int) (by decide) rfl (Nat.le_of_ble_eq_true rfl) ?_
  intro p e s m below meth c Q A ls hx hb hml hown hts hK hZ hA hP hD hS hl hret
  have hl : lv_has ls 2 [(0, .ref (ad 0)), (1, .int a1)] := hl
  unfold pX11_minutes at hf
  refine lv_iload_n hx hb dX11_minutes_0 rfl (lv_at hl 1 rfl) ?_
  refine lv_iconst (v := 1) hx hb dX11_minutes_1 (by decide) ?_
  refine lv_sipush (v := 200) hx hb dX11_minutes_2 (by decide) ?_
  refine q_cSr (wf := (wX11 cI cZ cS ad)) (rest := []) ⟨hx, hb, hml, hown, hts⟩ hK hZ hA hP hD hS hf (fun x ho => kX11_within l D cI cZ cS zz a1 (1 : Int32) (200 : Int32) x ho) (va_cwS 3 hts gX11_minutes_X11_within rfl rfl rfl ndX11_within.2 ⟨Nat.le_of_ble_eq_true rfl, Nat.le_of_ble_eq_true rfl⟩) rfl (hl.1) rfl (Nat.le_of_ble_eq_true rfl) dX11_minutes_5 ⟨Nat.zero_le _, Nat.zero_le _⟩ (fun r1 H locs hf hP hD hS => ?_)
  refine lv_if_ne (tgt := 18) hx hb dX11_minutes_8 (by decide) (fun h2 => ?_) (fun h2 => ?_)
  · have hf := (if_neg h2).symm.trans hf
    refine lv_aload_n hx hb dX11_minutes_18 rfl (lv_at hl 0 rfl) ?_
    refine va_get (D := D) (ci := 11) (C := RX11) (T := TX11) (N := 9) hx hb hts fwX11_minutes_X11 hown hK hP 0 rfl rfl 1 (by decide) (hts _ (List.mem_of_getElem? (i := 2) rfl)) (fun _ h9 => h9) rfl dX11_minutes_19 ?_
    refine va_get (D := D) (ci := 2) (C := RX2) (T := TX2) (N := 4) hx hb hts fwX11_minutes_X2 hown hK hP 2 rfl rfl 0 (by decide) (hts _ (List.mem_of_getElem? (i := 3) rfl)) (fun _ h9 => h9) rfl dX11_minutes_22 ?_
    refine lv_iload_n hx hb dX11_minutes_25 rfl (lv_at hl 1 rfl) ?_
    refine q_cVv (wf := (wX11 cI cZ cS ad)) (wc := wX0 cI cZ cS (fun i => ad (3 + i))) (rest := []) ⟨hx, hb, hml, hown, hts⟩ hK hZ hA hP hD hS hf (fun x ho => kX0_passMinutes l D cI cZ cS zz (fun i => ad (3 + i)) (q_sb σ 3) a1 x ho) (cwV 1 hts gX11_minutes_X0_passMinutes rfl rfl rfl ndX0_passMinutes ⟨Nat.le_of_ble_eq_true rfl, Nat.le_of_ble_eq_true rfl⟩) [3, 4, 5, 6, 7, 8, 9, 10, 11, 12, 13, 14, 15] rfl rfl [none, none, none, some 0, some 1, some 2, some 3, some 4, some 5, some 6, some 7, some 8, some 9, some 10, some 11, some 12, none, none, none, none, none, none, none, none, none, none, none, none, none, none, none, none, none, none, none, none, none, none, none, none, none, none, none, none, none, none, none, none, none, none, none, none, none, none, none, none, none, none, none, none, none, none, none, none, none, none, none, none, none, none, none, none] (by decide +kernel) (Nat.le_of_ble_eq_true rfl) (fun _ => rfl) (fun _ => rfl) (fun _ => rfl) rfl rfl rfl rfl (hl.1) rfl (Nat.le_of_ble_eq_true rfl) dX11_minutes_26 ⟨Nat.zero_le _, Nat.zero_le _⟩ (fun σ3 H locs hf hP hD hS => ?_)
    refine lv_aload_n hx hb dX11_minutes_29 rfl (lv_at hl 0 rfl) ?_
    refine va_get (D := D) (ci := 11) (C := RX11) (T := TX11) (N := 9) hx hb hts fwX11_minutes_X11 hown hK hP 0 rfl rfl 1 (by decide) (hts _ (List.mem_of_getElem? (i := 2) rfl)) (fun _ h9 => h9) rfl dX11_minutes_30 ?_
    refine va_get (D := D) (ci := 2) (C := RX2) (T := TX2) (N := 4) hx hb hts fwX11_minutes_X2 hown hK hP 2 rfl rfl 0 (by decide) (hts _ (List.mem_of_getElem? (i := 3) rfl)) (fun _ h9 => h9) rfl dX11_minutes_33 ?_
    refine va_get (D := D) (ci := 0) (C := RX0) (T := TX0) (N := 13) hx hb hts fwX11_minutes_X0 hown hK hP 3 rfl rfl 8 (by decide) (hts _ (List.mem_of_getElem? (i := 4) rfl)) (fun _ h9 => h9) rfl dX11_minutes_36 ?_
    obtain ⟨hi1, hi2⟩ := Prod.mk.inj (Option.some.inj hf)
    subst hi1
    subst hi2
    exact hret _ _ _ _ dX11_minutes_39 rfl hP hS
  · have hf := (if_pos h2).symm.trans hf
    refine lv_aload_n hx hb dX11_minutes_11 rfl (lv_at hl 0 rfl) ?_
    refine lv_ldc (v := -1000001) hx hb hown (hts _ (List.mem_of_getElem? (i := 1) rfl)) dX11_minutes_12 ?_
    refine q_cVi (wf := (wX11 cI cZ cS ad)) (wc := wX11 cI cZ cS ad) (rest := []) ⟨hx, hb, hml, hown, hts⟩ hK hZ hA hP hD hS hf (fun x τ ho => kX11_tell l D cI cZ cS zz ad σ (-1000001 : Int32) x τ ho) (cwV 1 hts gX11_minutes_X11_tell rfl rfl rfl ndX11_tell ⟨Nat.le_of_ble_eq_true rfl, Nat.le_of_ble_eq_true rfl⟩) [0, 1, 2, 3, 4, 5, 6, 7, 8, 9, 10, 11, 12, 13, 14, 15, 16, 17, 18, 19, 20, 21, 22, 23, 24, 25, 26, 27, 28, 29, 30, 31, 32, 33, 34, 35, 36, 37, 38, 39, 40, 41, 42, 43, 44, 45, 46, 47, 48, 49, 50, 51, 52, 53, 54, 55, 56, 57, 58, 59, 60, 61, 62, 63, 64, 65, 66, 67, 68, 69, 70, 71] rfl rfl [some 0, some 1, some 2, some 3, some 4, some 5, some 6, some 7, some 8, some 9, some 10, some 11, some 12, some 13, some 14, some 15, some 16, some 17, some 18, some 19, some 20, some 21, some 22, some 23, some 24, some 25, some 26, some 27, some 28, some 29, some 30, some 31, some 32, some 33, some 34, some 35, some 36, some 37, some 38, some 39, some 40, some 41, some 42, some 43, some 44, some 45, some 46, some 47, some 48, some 49, some 50, some 51, some 52, some 53, some 54, some 55, some 56, some 57, some 58, some 59, some 60, some 61, some 62, some 63, some 64, some 65, some 66, some 67, some 68, some 69, some 70, some 71] (by decide +kernel) (Nat.le_of_ble_eq_true rfl) (fun _ => rfl) (fun _ => rfl) (fun _ => rfl) rfl rfl rfl rfl (hl.1) rfl (Nat.le_of_ble_eq_true rfl) dX11_minutes_14 ⟨Nat.zero_le _, Nat.zero_le _⟩ (fun r5 σ4 H locs hf hP hD hS => ?_)
    obtain ⟨hi1, hi2⟩ := Prod.mk.inj (Option.some.inj hf)
    subst hi1
    subst hi2
    exact hret _ _ _ _ dX11_minutes_17 rfl hP hS
def pX11_now (σ : SS) (a1 : Int32) : Option (Int32 × SS) := q_cr (pX11_within a1 (0 : Int32) (16 : Int32)) (fun (r1 : Int32) => (if r1 = (0 : Int32) then q_ci (pX11_tell σ (-1000001 : Int32)) (fun (τ : SS) => τ) (fun (r19 : Int32) (σ18 : SS) => some (r19, σ18)) else (if a1 = (8 : Int32) then some ((σ 3 9), σ) else (if a1 = (9 : Int32) then some ((σ 9 8), σ) else (if a1 = (10 : Int32) then q_cr (pX11_bit (σ 9 7)) (fun (r6 : Int32) => some (r6, σ)) else (if a1 = (11 : Int32) then q_cr (pX4_isDead (q_sb σ 9)) (fun (r8 : Int32) => q_cr (pX11_bit r8) (fun (r9 : Int32) => some (r9, σ))) else (if a1 = (12 : Int32) then some ((σ 3 10), σ) else (if a1 = (13 : Int32) then some ((σ 9 9), σ) else (if a1 = (14 : Int32) then some ((σ 3 11), σ) else (if a1 = (15 : Int32) then q_cr (pX11_bit (σ 9 5)) (fun (r14 : Int32) => some (r14, σ)) else (if a1 = (16 : Int32) then q_cr (pX11_bit (σ 3 5)) (fun (r16 : Int32) => some (r16, σ)) else q_cr (pX0_measure (q_sb σ 3) a1) (fun (r17 : Int32) => some (r17, σ)))))))))))))
theorem fwX11_now_X0 : ∀ w ∈ wsX00, w ∈ wsX11_now := fun _ h => List.mem_cons_of_mem _ (List.mem_append_left _ (List.mem_append_right _ h))
theorem fwX11_now_X11 : ∀ w ∈ wsX110, w ∈ wsX11_now := fun _ h => List.mem_cons_of_mem _ (List.mem_append_left _ (List.mem_append_left _ (List.mem_append_left _ (List.mem_append_right _ h))))
theorem fwX11_now_X2 : ∀ w ∈ wsX20, w ∈ wsX11_now := fun _ h => List.mem_cons_of_mem _ (List.mem_append_left _ (List.mem_append_left _ (List.mem_append_right _ h)))
theorem fwX11_now_X4 : ∀ w ∈ wsX40, w ∈ wsX11_now := fun _ h => List.mem_cons_of_mem _ (List.mem_append_right _ h)
abbrev rmX11_now : Room := { frames := 1, cells := 0, slots := 0, locals := 22 }
set_option maxHeartbeats 4000000 in
set_option maxRecDepth 100000 in
theorem kX11_now (l : Launch) (D : va_G) (cI cZ cS : ClassId) (zz : ZT) (ad : Nat → Nat) (σ : SS) (a1 : Int32) (rr : Int32) (σr : SS) (hf : pX11_now σ a1 = some (rr, σr)) : CI l yX11_now wsX11_now rmX11_now D (K3 cI cZ cS) zz [.ref (ad 0), .int a1] (wX11 cI cZ cS ad σ) (wX11 cI cZ cS ad σr) rr := by
  refine q_ofI (cc := cX11_now) (maxL := 3) (ty := .int) (by decide) rfl (Nat.le_of_ble_eq_true rfl) ?_
  intro p e s m below meth c Q A ls hx hb hml hown hts hK hZ hA hP hD hS hl hret
  have hl : lv_has ls 3 [(0, .ref (ad 0)), (1, .int a1)] := hl
  unfold pX11_now at hf
  refine lv_iload_n hx hb dX11_now_0 rfl (lv_at hl 1 rfl) ?_
  refine lv_iconst (v := 0) hx hb dX11_now_1 (by decide) ?_
  refine lv_bipush (v := 16) hx hb dX11_now_2 (by decide) ?_
  refine q_cSr (wf := (wX11 cI cZ cS ad)) (rest := []) ⟨hx, hb, hml, hown, hts⟩ hK hZ hA hP hD hS hf (fun x ho => kX11_within l D cI cZ cS zz a1 (0 : Int32) (16 : Int32) x ho) (va_cwS 3 hts gX11_now_X11_within rfl rfl rfl ndX11_within.2 ⟨Nat.le_of_ble_eq_true rfl, Nat.le_of_ble_eq_true rfl⟩) rfl (hl.1) rfl (Nat.le_of_ble_eq_true rfl) dX11_now_4 ⟨Nat.zero_le _, Nat.zero_le _⟩ (fun r1 H locs hf hP hD hS => ?_)
  refine lv_if_ne (tgt := 17) hx hb dX11_now_7 (by decide) (fun h2 => ?_) (fun h2 => ?_)
  · have hf := (if_neg h2).symm.trans hf
    refine lv_aload_n hx hb dX11_now_17 rfl (lv_at hl 0 rfl) ?_
    refine va_get (D := D) (ci := 11) (C := RX11) (T := TX11) (N := 9) hx hb hts fwX11_now_X11 hown hK hP 0 rfl rfl 1 (by decide) (hts _ (List.mem_of_getElem? (i := 2) rfl)) (fun _ h9 => h9) rfl dX11_now_18 ?_
    refine va_get (D := D) (ci := 2) (C := RX2) (T := TX2) (N := 4) hx hb hts fwX11_now_X2 hown hK hP 2 rfl rfl 0 (by decide) (hts _ (List.mem_of_getElem? (i := 3) rfl)) (fun _ h9 => h9) rfl dX11_now_21 ?_
    refine lv_astore_n (lv' := [(2, .ref (ad 3)), (0, .ref (ad 0)), (1, .int a1)]) hx hb dX11_now_24 rfl hl (by decide) rfl (fun ls hl => ?_)
    refine lv_iload_n hx hb dX11_now_25 rfl (lv_at hl 2 rfl) ?_
    by_cases h3 : a1 = (8 : Int32)
    · have hf := (if_pos h3).symm.trans hf
      refine lv_tableIn (tgt := 76) hx hb dX11_now_26 (by rw [h3]; decide) (by rw [h3]; decide) (by rw [h3]; rfl) (by decide) ?_
      refine lv_aload_n hx hb dX11_now_76 rfl (lv_at hl 0 rfl) ?_
      refine va_get (D := D) (ci := 0) (C := RX0) (T := TX0) (N := 13) hx hb hts fwX11_now_X0 hown hK hP 3 rfl rfl 9 (by decide) (hts _ (List.mem_of_getElem? (i := 4) rfl)) (fun _ h9 => h9) rfl dX11_now_77 ?_
      obtain ⟨hi1, hi2⟩ := Prod.mk.inj (Option.some.inj hf)
      subst hi1
      subst hi2
      exact hret _ _ _ _ dX11_now_80 rfl hP hS
    have hf := (if_neg h3).symm.trans hf
    by_cases h4 : a1 = (9 : Int32)
    · have hf := (if_pos h4).symm.trans hf
      refine lv_tableIn (tgt := 81) hx hb dX11_now_26 (by rw [h4]; decide) (by rw [h4]; decide) (by rw [h4]; rfl) (by decide) ?_
      refine lv_aload_n hx hb dX11_now_81 rfl (lv_at hl 0 rfl) ?_
      refine va_get (D := D) (ci := 0) (C := RX0) (T := TX0) (N := 13) hx hb hts fwX11_now_X0 hown hK hP 3 rfl rfl 1 (by decide) (hts _ (List.mem_of_getElem? (i := 5) rfl)) (fun _ h9 => h9) rfl dX11_now_82 ?_
      refine va_get (D := D) (ci := 4) (C := RX4) (T := TX4) (N := 11) hx hb hts fwX11_now_X4 hown hK hP 9 rfl rfl 8 (by decide) (hts _ (List.mem_of_getElem? (i := 6) rfl)) (fun _ h9 => h9) rfl dX11_now_85 ?_
      obtain ⟨hi1, hi2⟩ := Prod.mk.inj (Option.some.inj hf)
      subst hi1
      subst hi2
      exact hret _ _ _ _ dX11_now_88 rfl hP hS
    have hf := (if_neg h4).symm.trans hf
    by_cases h5 : a1 = (10 : Int32)
    · have hf := (if_pos h5).symm.trans hf
      refine lv_tableIn (tgt := 89) hx hb dX11_now_26 (by rw [h5]; decide) (by rw [h5]; decide) (by rw [h5]; rfl) (by decide) ?_
      refine lv_aload_n hx hb dX11_now_89 rfl (lv_at hl 0 rfl) ?_
      refine va_get (D := D) (ci := 0) (C := RX0) (T := TX0) (N := 13) hx hb hts fwX11_now_X0 hown hK hP 3 rfl rfl 1 (by decide) (hts _ (List.mem_of_getElem? (i := 5) rfl)) (fun _ h9 => h9) rfl dX11_now_90 ?_
      refine va_get (D := D) (ci := 4) (C := RX4) (T := TX4) (N := 11) hx hb hts fwX11_now_X4 hown hK hP 9 rfl rfl 7 (by decide) (hts _ (List.mem_of_getElem? (i := 7) rfl)) (fun _ h9 => h9) rfl dX11_now_93 ?_
      refine q_cSr (wf := (wX11 cI cZ cS ad)) (rest := []) ⟨hx, hb, hml, hown, hts⟩ hK hZ hA hP hD hS hf (fun x ho => kX11_bit l D cI cZ cS zz (σ 9 7) x ho) (va_cwS 1 hts gX11_now_X11_bit rfl rfl rfl ndX11_bit.2 ⟨Nat.le_of_ble_eq_true rfl, Nat.le_of_ble_eq_true rfl⟩) rfl (hl.1) rfl (Nat.le_of_ble_eq_true rfl) dX11_now_96 ⟨Nat.zero_le _, Nat.zero_le _⟩ (fun r6 H locs hf hP hD hS => ?_)
      obtain ⟨hi1, hi2⟩ := Prod.mk.inj (Option.some.inj hf)
      subst hi1
      subst hi2
      exact hret _ _ _ _ dX11_now_99 rfl hP hS
    have hf := (if_neg h5).symm.trans hf
    by_cases h7 : a1 = (11 : Int32)
    · have hf := (if_pos h7).symm.trans hf
      refine lv_tableIn (tgt := 100) hx hb dX11_now_26 (by rw [h7]; decide) (by rw [h7]; decide) (by rw [h7]; rfl) (by decide) ?_
      refine lv_aload_n hx hb dX11_now_100 rfl (lv_at hl 0 rfl) ?_
      refine va_get (D := D) (ci := 0) (C := RX0) (T := TX0) (N := 13) hx hb hts fwX11_now_X0 hown hK hP 3 rfl rfl 1 (by decide) (hts _ (List.mem_of_getElem? (i := 5) rfl)) (fun _ h9 => h9) rfl dX11_now_101 ?_
      refine q_cVr (wf := (wX11 cI cZ cS ad)) (wc := wX4 cI cZ cS (fun i => ad (9 + i))) (rest := []) ⟨hx, hb, hml, hown, hts⟩ hK hZ hA hP hD hS hf (fun x ho => kX4_isDead l D cI cZ cS zz (fun i => ad (9 + i)) (q_sb σ 9) x ho) (cwV 0 hts gX11_now_X4_isDead rfl rfl rfl ndX4_isDead ⟨Nat.le_of_ble_eq_true rfl, Nat.le_of_ble_eq_true rfl⟩) [9, 10] rfl rfl rfl rfl rfl rfl (hl.1) rfl (Nat.le_of_ble_eq_true rfl) dX11_now_104 ⟨Nat.zero_le _, Nat.zero_le _⟩ (fun r8 H locs hf hP hD hS => ?_)
      refine q_cSr (wf := (wX11 cI cZ cS ad)) (rest := []) ⟨hx, hb, hml, hown, hts⟩ hK hZ hA hP hD hS hf (fun x ho => kX11_bit l D cI cZ cS zz r8 x ho) (va_cwS 1 hts gX11_now_X11_bit rfl rfl rfl ndX11_bit.2 ⟨Nat.le_of_ble_eq_true rfl, Nat.le_of_ble_eq_true rfl⟩) rfl (hl.1) rfl (Nat.le_of_ble_eq_true rfl) dX11_now_107 ⟨Nat.zero_le _, Nat.zero_le _⟩ (fun r9 H locs hf hP hD hS => ?_)
      obtain ⟨hi1, hi2⟩ := Prod.mk.inj (Option.some.inj hf)
      subst hi1
      subst hi2
      exact hret _ _ _ _ dX11_now_110 rfl hP hS
    have hf := (if_neg h7).symm.trans hf
    by_cases h10 : a1 = (12 : Int32)
    · have hf := (if_pos h10).symm.trans hf
      refine lv_tableIn (tgt := 111) hx hb dX11_now_26 (by rw [h10]; decide) (by rw [h10]; decide) (by rw [h10]; rfl) (by decide) ?_
      refine lv_aload_n hx hb dX11_now_111 rfl (lv_at hl 0 rfl) ?_
      refine va_get (D := D) (ci := 0) (C := RX0) (T := TX0) (N := 13) hx hb hts fwX11_now_X0 hown hK hP 3 rfl rfl 10 (by decide) (hts _ (List.mem_of_getElem? (i := 8) rfl)) (fun _ h9 => h9) rfl dX11_now_112 ?_
      obtain ⟨hi1, hi2⟩ := Prod.mk.inj (Option.some.inj hf)
      subst hi1
      subst hi2
      exact hret _ _ _ _ dX11_now_115 rfl hP hS
    have hf := (if_neg h10).symm.trans hf
    by_cases h11 : a1 = (13 : Int32)
    · have hf := (if_pos h11).symm.trans hf
      refine lv_tableIn (tgt := 116) hx hb dX11_now_26 (by rw [h11]; decide) (by rw [h11]; decide) (by rw [h11]; rfl) (by decide) ?_
      refine lv_aload_n hx hb dX11_now_116 rfl (lv_at hl 0 rfl) ?_
      refine va_get (D := D) (ci := 0) (C := RX0) (T := TX0) (N := 13) hx hb hts fwX11_now_X0 hown hK hP 3 rfl rfl 1 (by decide) (hts _ (List.mem_of_getElem? (i := 5) rfl)) (fun _ h9 => h9) rfl dX11_now_117 ?_
      refine va_get (D := D) (ci := 4) (C := RX4) (T := TX4) (N := 11) hx hb hts fwX11_now_X4 hown hK hP 9 rfl rfl 9 (by decide) (hts _ (List.mem_of_getElem? (i := 9) rfl)) (fun _ h9 => h9) rfl dX11_now_120 ?_
      obtain ⟨hi1, hi2⟩ := Prod.mk.inj (Option.some.inj hf)
      subst hi1
      subst hi2
      exact hret _ _ _ _ dX11_now_123 rfl hP hS
    have hf := (if_neg h11).symm.trans hf
    by_cases h12 : a1 = (14 : Int32)
    · have hf := (if_pos h12).symm.trans hf
      refine lv_tableIn (tgt := 124) hx hb dX11_now_26 (by rw [h12]; decide) (by rw [h12]; decide) (by rw [h12]; rfl) (by decide) ?_
      refine lv_aload_n hx hb dX11_now_124 rfl (lv_at hl 0 rfl) ?_
      refine va_get (D := D) (ci := 0) (C := RX0) (T := TX0) (N := 13) hx hb hts fwX11_now_X0 hown hK hP 3 rfl rfl 11 (by decide) (hts _ (List.mem_of_getElem? (i := 10) rfl)) (fun _ h9 => h9) rfl dX11_now_125 ?_
      obtain ⟨hi1, hi2⟩ := Prod.mk.inj (Option.some.inj hf)
      subst hi1
      subst hi2
      exact hret _ _ _ _ dX11_now_128 rfl hP hS
    have hf := (if_neg h12).symm.trans hf
    by_cases h13 : a1 = (15 : Int32)
    · have hf := (if_pos h13).symm.trans hf
      refine lv_tableIn (tgt := 129) hx hb dX11_now_26 (by rw [h13]; decide) (by rw [h13]; decide) (by rw [h13]; rfl) (by decide) ?_
      refine lv_aload_n hx hb dX11_now_129 rfl (lv_at hl 0 rfl) ?_
      refine va_get (D := D) (ci := 0) (C := RX0) (T := TX0) (N := 13) hx hb hts fwX11_now_X0 hown hK hP 3 rfl rfl 1 (by decide) (hts _ (List.mem_of_getElem? (i := 5) rfl)) (fun _ h9 => h9) rfl dX11_now_130 ?_
      refine va_get (D := D) (ci := 4) (C := RX4) (T := TX4) (N := 11) hx hb hts fwX11_now_X4 hown hK hP 9 rfl rfl 5 (by decide) (hts _ (List.mem_of_getElem? (i := 11) rfl)) (fun _ h9 => h9) rfl dX11_now_133 ?_
      refine q_cSr (wf := (wX11 cI cZ cS ad)) (rest := []) ⟨hx, hb, hml, hown, hts⟩ hK hZ hA hP hD hS hf (fun x ho => kX11_bit l D cI cZ cS zz (σ 9 5) x ho) (va_cwS 1 hts gX11_now_X11_bit rfl rfl rfl ndX11_bit.2 ⟨Nat.le_of_ble_eq_true rfl, Nat.le_of_ble_eq_true rfl⟩) rfl (hl.1) rfl (Nat.le_of_ble_eq_true rfl) dX11_now_136 ⟨Nat.zero_le _, Nat.zero_le _⟩ (fun r14 H locs hf hP hD hS => ?_)
      obtain ⟨hi1, hi2⟩ := Prod.mk.inj (Option.some.inj hf)
      subst hi1
      subst hi2
      exact hret _ _ _ _ dX11_now_139 rfl hP hS
    have hf := (if_neg h13).symm.trans hf
    by_cases h15 : a1 = (16 : Int32)
    · have hf := (if_pos h15).symm.trans hf
      refine lv_tableIn (tgt := 140) hx hb dX11_now_26 (by rw [h15]; decide) (by rw [h15]; decide) (by rw [h15]; rfl) (by decide) ?_
      refine lv_aload_n hx hb dX11_now_140 rfl (lv_at hl 0 rfl) ?_
      refine va_get (D := D) (ci := 0) (C := RX0) (T := TX0) (N := 13) hx hb hts fwX11_now_X0 hown hK hP 3 rfl rfl 5 (by decide) (hts _ (List.mem_of_getElem? (i := 12) rfl)) (fun _ h9 => h9) rfl dX11_now_141 ?_
      refine q_cSr (wf := (wX11 cI cZ cS ad)) (rest := []) ⟨hx, hb, hml, hown, hts⟩ hK hZ hA hP hD hS hf (fun x ho => kX11_bit l D cI cZ cS zz (σ 3 5) x ho) (va_cwS 1 hts gX11_now_X11_bit rfl rfl rfl ndX11_bit.2 ⟨Nat.le_of_ble_eq_true rfl, Nat.le_of_ble_eq_true rfl⟩) rfl (hl.1) rfl (Nat.le_of_ble_eq_true rfl) dX11_now_144 ⟨Nat.zero_le _, Nat.zero_le _⟩ (fun r16 H locs hf hP hD hS => ?_)
      obtain ⟨hi1, hi2⟩ := Prod.mk.inj (Option.some.inj hf)
      subst hi1
      subst hi2
      exact hret _ _ _ _ dX11_now_147 rfl hP hS
    have hf := (if_neg h15).symm.trans hf
    refine lv_tableOut (tgt := 148) hx hb dX11_now_26 (by have := q_ne h3 (z := 8) rfl; have := q_ne h4 (z := 9) rfl; have := q_ne h5 (z := 10) rfl; have := q_ne h7 (z := 11) rfl; have := q_ne h10 (z := 12) rfl; have := q_ne h11 (z := 13) rfl; have := q_ne h12 (z := 14) rfl; have := q_ne h13 (z := 15) rfl; have := q_ne h15 (z := 16) rfl; omega) (by decide) ?_
    refine lv_aload_n hx hb dX11_now_148 rfl (lv_at hl 0 rfl) ?_
    refine lv_iload_n hx hb dX11_now_149 rfl (lv_at hl 2 rfl) ?_
    refine q_cVr (wf := (wX11 cI cZ cS ad)) (wc := wX0 cI cZ cS (fun i => ad (3 + i))) (rest := []) ⟨hx, hb, hml, hown, hts⟩ hK hZ hA hP hD hS hf (fun x ho => kX0_measure l D cI cZ cS zz (fun i => ad (3 + i)) (q_sb σ 3) a1 x ho) (cwV 1 hts gX11_now_X0_measure rfl rfl rfl ndX0_measure ⟨Nat.le_of_ble_eq_true rfl, Nat.le_of_ble_eq_true rfl⟩) [3, 4, 5, 6, 7, 8, 9, 10, 11, 12, 13, 14, 15] rfl rfl rfl rfl rfl rfl (hl.1) rfl (Nat.le_of_ble_eq_true rfl) dX11_now_150 ⟨Nat.zero_le _, Nat.zero_le _⟩ (fun r17 H locs hf hP hD hS => ?_)
    obtain ⟨hi1, hi2⟩ := Prod.mk.inj (Option.some.inj hf)
    subst hi1
    subst hi2
    exact hret _ _ _ _ dX11_now_153 rfl hP hS
  · have hf := (if_pos h2).symm.trans hf
    refine lv_aload_n hx hb dX11_now_10 rfl (lv_at hl 0 rfl) ?_
    refine lv_ldc (v := -1000001) hx hb hown (hts _ (List.mem_of_getElem? (i := 1) rfl)) dX11_now_11 ?_
    refine q_cVi (wf := (wX11 cI cZ cS ad)) (wc := wX11 cI cZ cS ad) (rest := []) ⟨hx, hb, hml, hown, hts⟩ hK hZ hA hP hD hS hf (fun x τ ho => kX11_tell l D cI cZ cS zz ad σ (-1000001 : Int32) x τ ho) (cwV 1 hts gX11_now_X11_tell rfl rfl rfl ndX11_tell ⟨Nat.le_of_ble_eq_true rfl, Nat.le_of_ble_eq_true rfl⟩) [0, 1, 2, 3, 4, 5, 6, 7, 8, 9, 10, 11, 12, 13, 14, 15, 16, 17, 18, 19, 20, 21, 22, 23, 24, 25, 26, 27, 28, 29, 30, 31, 32, 33, 34, 35, 36, 37, 38, 39, 40, 41, 42, 43, 44, 45, 46, 47, 48, 49, 50, 51, 52, 53, 54, 55, 56, 57, 58, 59, 60, 61, 62, 63, 64, 65, 66, 67, 68, 69, 70, 71] rfl rfl [some 0, some 1, some 2, some 3, some 4, some 5, some 6, some 7, some 8, some 9, some 10, some 11, some 12, some 13, some 14, some 15, some 16, some 17, some 18, some 19, some 20, some 21, some 22, some 23, some 24, some 25, some 26, some 27, some 28, some 29, some 30, some 31, some 32, some 33, some 34, some 35, some 36, some 37, some 38, some 39, some 40, some 41, some 42, some 43, some 44, some 45, some 46, some 47, some 48, some 49, some 50, some 51, some 52, some 53, some 54, some 55, some 56, some 57, some 58, some 59, some 60, some 61, some 62, some 63, some 64, some 65, some 66, some 67, some 68, some 69, some 70, some 71] (by decide +kernel) (Nat.le_of_ble_eq_true rfl) (fun _ => rfl) (fun _ => rfl) (fun _ => rfl) rfl rfl rfl rfl (hl.1) rfl (Nat.le_of_ble_eq_true rfl) dX11_now_13 ⟨Nat.zero_le _, Nat.zero_le _⟩ (fun r19 σ18 H locs hf hP hD hS => ?_)
    obtain ⟨hi1, hi2⟩ := Prod.mk.inj (Option.some.inj hf)
    subst hi1
    subst hi2
    exact hret _ _ _ _ dX11_now_16 rfl hP hS
def pX11_renew (σ : SS) : Option (Int32 × SS) := q_lt (σ 9 8) (fun x2_1 => q_lt (su σ 9 8 (0 : Int32)) (fun (σ2 : SS) => q_zz (0 : Int32) (q_lt (su σ2 9 7 (0 : Int32)) (fun (σ3 : SS) => some (x2_1, σ3)))))
theorem fwX11_renew_X0 : ∀ w ∈ wsX00, w ∈ wsX11_renew := fun _ h => List.mem_cons_of_mem _ (List.mem_append_left _ (List.mem_append_right _ h))
theorem fwX11_renew_X11 : ∀ w ∈ wsX110, w ∈ wsX11_renew := fun _ h => List.mem_cons_of_mem _ (List.mem_append_left _ (List.mem_append_left _ (List.mem_append_left _ (List.mem_append_right _ h))))
theorem fwX11_renew_X2 : ∀ w ∈ wsX20, w ∈ wsX11_renew := fun _ h => List.mem_cons_of_mem _ (List.mem_append_left _ (List.mem_append_left _ (List.mem_append_right _ h)))
theorem fwX11_renew_X4 : ∀ w ∈ wsX40, w ∈ wsX11_renew := fun _ h => List.mem_cons_of_mem _ (List.mem_append_right _ h)
abbrev rmX11_renew : Room := { frames := 0, cells := 0, slots := 0, locals := 0 }
set_option maxHeartbeats 4000000 in
set_option maxRecDepth 100000 in
theorem kX11_renew (l : Launch) (D : va_G) (cI cZ cS : ClassId) (zz : ZT) (ad : Nat → Nat) (σ : SS) (rr : Int32) (σr : SS) (hf : pX11_renew σ = some (rr, σr)) : CI l yX11_renew wsX11_renew rmX11_renew D (K3 cI cZ cS) zz [.ref (ad 0)] (wX11 cI cZ cS ad σ) (wX11 cI cZ cS ad σr) rr := by
  refine q_ofI (cc := cX11_renew) (maxL := 3) (ty := .int) (by decide) rfl (Nat.le_of_ble_eq_true rfl) ?_
  intro p e s m below meth c Q A ls hx hb hml hown hts hK hZ hA hP hD hS hl hret
  have hl : lv_has ls 3 [(0, .ref (ad 0))] := hl
  unfold pX11_renew at hf
  refine lv_aload_n hx hb dX11_renew_0 rfl (lv_at hl 0 rfl) ?_
  refine va_get (D := D) (ci := 11) (C := RX11) (T := TX11) (N := 9) hx hb hts fwX11_renew_X11 hown hK hP 0 rfl rfl 1 (by decide) (hts _ (List.mem_of_getElem? (i := 1) rfl)) (fun _ h9 => h9) rfl dX11_renew_1 ?_
  refine va_get (D := D) (ci := 2) (C := RX2) (T := TX2) (N := 4) hx hb hts fwX11_renew_X2 hown hK hP 2 rfl rfl 0 (by decide) (hts _ (List.mem_of_getElem? (i := 2) rfl)) (fun _ h9 => h9) rfl dX11_renew_4 ?_
  refine va_get (D := D) (ci := 0) (C := RX0) (T := TX0) (N := 13) hx hb hts fwX11_renew_X0 hown hK hP 3 rfl rfl 1 (by decide) (hts _ (List.mem_of_getElem? (i := 3) rfl)) (fun _ h9 => h9) rfl dX11_renew_7 ?_
  refine lv_astore_n (lv' := [(1, .ref (ad 9)), (0, .ref (ad 0))]) hx hb dX11_renew_10 rfl hl (by decide) rfl (fun ls hl => ?_)
  refine lv_aload_n hx hb dX11_renew_11 rfl (lv_at hl 0 rfl) ?_
  refine va_get (D := D) (ci := 4) (C := RX4) (T := TX4) (N := 11) hx hb hts fwX11_renew_X4 hown hK hP 9 rfl rfl 8 (by decide) (hts _ (List.mem_of_getElem? (i := 4) rfl)) (fun _ h9 => h9) rfl dX11_renew_12 ?_
  refine lv_topi (fun x2_1 ex2_1 => ?_)
  have hf := q_lt_at ex2_1 hf
  refine lv_istore_n (lv' := [(2, .int x2_1), (1, .ref (ad 9)), (0, .ref (ad 0))]) hx hb dX11_renew_15 rfl hl (by decide) rfl (fun ls hl => ?_)
  refine lv_aload_n hx hb dX11_renew_16 rfl (lv_at hl 1 rfl) ?_
  refine lv_iconst (v := 0) hx hb dX11_renew_17 (by decide) ?_
  refine w_put (D := D) (wf := (wX11 cI cZ cS ad)) (cid := 9) (ci := 4) (C := RX4) (T := TX4) (N := 11) hx hb hts fwX11_renew_X4 tyX4 tyX4_ok nmX4 hown hK hP hD hS 9 rfl rfl 8 (by decide) (hts _ (List.mem_of_getElem? (i := 4) rfl)) (fun _ h9 => h9) rfl (tyX4_ok 8 (by decide)) (Nat.le_of_ble_eq_true rfl) hf rfl dX11_renew_18 (fun σ2 H locs hf hP hD hS => ?_)
  refine lv_aload_n hx hb dX11_renew_21 rfl (lv_at hl 1 rfl) ?_
  refine lv_iconst (v := 0) hx hb dX11_renew_22 (by decide) ?_
  refine w_putZ (D := D) (wf := (wX11 cI cZ cS ad)) (cid := 9) (ci := 4) (C := RX4) (T := TX4) (N := 11) hx hb hts fwX11_renew_X4 tyX4 tyX4_ok nmX4 hown hK hP hD hS 9 rfl rfl 7 (by decide) (hts _ (List.mem_of_getElem? (i := 5) rfl)) (fun _ h9 => h9) rfl (tyX4_ok 7 (by decide)) (Nat.le_of_ble_eq_true rfl) hf rfl dX11_renew_23 (fun σ3 H locs hf hP hD hS => ?_)
  refine lv_iload_n hx hb dX11_renew_26 rfl (lv_at hl 0 rfl) ?_
  obtain ⟨hi1, hi2⟩ := Prod.mk.inj (Option.some.inj hf)
  subst hi1
  subst hi2
  exact hret _ _ _ _ dX11_renew_27 rfl hP hS
def pX11_start (σ : SS) (a1 : Int32) : Option (Int32 × SS) := q_cr (pX4_logged (q_sb σ 9)) (fun (r1 : Int32) => q_cr (pX11_within a1 (0 : Int32) (r1 - (1 : Int32))) (fun (r2 : Int32) => (if r2 = (0 : Int32) then q_ci (pX11_tell σ (-1000001 : Int32)) (fun (τ : SS) => τ) (fun (r6 : Int32) (σ5 : SS) => some (r6, σ5)) else q_rd (σ 10) 40 a1 (fun (v4 : Int32) => some (v4, σ)))))
theorem fwX11_start_X0 : ∀ w ∈ wsX00, w ∈ wsX11_start := fun _ h => List.mem_cons_of_mem _ (List.mem_append_left _ (List.mem_append_right _ h))
theorem fwX11_start_X11 : ∀ w ∈ wsX110, w ∈ wsX11_start := fun _ h => List.mem_cons_of_mem _ (List.mem_append_left _ (List.mem_append_left _ (List.mem_append_left _ (List.mem_append_right _ h))))
theorem fwX11_start_X2 : ∀ w ∈ wsX20, w ∈ wsX11_start := fun _ h => List.mem_cons_of_mem _ (List.mem_append_left _ (List.mem_append_left _ (List.mem_append_right _ h)))
theorem fwX11_start_X4 : ∀ w ∈ wsX40, w ∈ wsX11_start := fun _ h => List.mem_cons_of_mem _ (List.mem_append_right _ h)
abbrev rmX11_start : Room := { frames := 2, cells := 0, slots := 0, locals := 44 }
set_option maxHeartbeats 4000000 in
set_option maxRecDepth 100000 in
theorem kX11_start (l : Launch) (D : va_G) (cI cZ cS : ClassId) (zz : ZT) (ad : Nat → Nat) (σ : SS) (a1 : Int32) (rr : Int32) (σr : SS) (hf : pX11_start σ a1 = some (rr, σr)) : CI l yX11_start wsX11_start rmX11_start D (K3 cI cZ cS) zz [.ref (ad 0), .int a1] (wX11 cI cZ cS ad σ) (wX11 cI cZ cS ad σr) rr := by
  refine q_ofI (cc := cX11_start) (maxL := 3) (ty := .int) (by decide) rfl (Nat.le_of_ble_eq_true rfl) ?_
  intro p e s m below meth c Q A ls hx hb hml hown hts hK hZ hA hP hD hS hl hret
  have hl : lv_has ls 3 [(0, .ref (ad 0)), (1, .int a1)] := hl
  unfold pX11_start at hf
  refine lv_aload_n hx hb dX11_start_0 rfl (lv_at hl 0 rfl) ?_
  refine va_get (D := D) (ci := 11) (C := RX11) (T := TX11) (N := 9) hx hb hts fwX11_start_X11 hown hK hP 0 rfl rfl 1 (by decide) (hts _ (List.mem_of_getElem? (i := 1) rfl)) (fun _ h9 => h9) rfl dX11_start_1 ?_
  refine va_get (D := D) (ci := 2) (C := RX2) (T := TX2) (N := 4) hx hb hts fwX11_start_X2 hown hK hP 2 rfl rfl 0 (by decide) (hts _ (List.mem_of_getElem? (i := 2) rfl)) (fun _ h9 => h9) rfl dX11_start_4 ?_
  refine va_get (D := D) (ci := 0) (C := RX0) (T := TX0) (N := 13) hx hb hts fwX11_start_X0 hown hK hP 3 rfl rfl 1 (by decide) (hts _ (List.mem_of_getElem? (i := 3) rfl)) (fun _ h9 => h9) rfl dX11_start_7 ?_
  refine lv_astore_n (lv' := [(2, .ref (ad 9)), (0, .ref (ad 0)), (1, .int a1)]) hx hb dX11_start_10 rfl hl (by decide) rfl (fun ls hl => ?_)
  refine lv_iload_n hx hb dX11_start_11 rfl (lv_at hl 2 rfl) ?_
  refine lv_iconst (v := 0) hx hb dX11_start_12 (by decide) ?_
  refine lv_aload_n hx hb dX11_start_13 rfl (lv_at hl 0 rfl) ?_
  refine q_cVr (wf := (wX11 cI cZ cS ad)) (wc := wX4 cI cZ cS (fun i => ad (9 + i))) (rest := [.int (0 : Int32), .int a1]) ⟨hx, hb, hml, hown, hts⟩ hK hZ hA hP hD hS hf (fun x ho => kX4_logged l D cI cZ cS zz (fun i => ad (9 + i)) (q_sb σ 9) x ho) (cwV 0 hts gX11_start_X4_logged rfl rfl rfl ndX4_logged ⟨Nat.le_of_ble_eq_true rfl, Nat.le_of_ble_eq_true rfl⟩) [9, 10] rfl rfl rfl rfl rfl rfl (hl.1) rfl (Nat.le_of_ble_eq_true rfl) dX11_start_14 ⟨Nat.zero_le _, Nat.zero_le _⟩ (fun r1 H locs hf hP hD hS => ?_)
  refine lv_iconst (v := 1) hx hb dX11_start_17 (by decide) ?_
  refine lv_isub hx hb dX11_start_18 ?_
  refine q_cSr (wf := (wX11 cI cZ cS ad)) (rest := []) ⟨hx, hb, hml, hown, hts⟩ hK hZ hA hP hD hS hf (fun x ho => kX11_within l D cI cZ cS zz a1 (0 : Int32) (r1 - (1 : Int32)) x ho) (va_cwS 3 hts gX11_start_X11_within rfl rfl rfl ndX11_within.2 ⟨Nat.le_of_ble_eq_true rfl, Nat.le_of_ble_eq_true rfl⟩) rfl (hl.1) rfl (Nat.le_of_ble_eq_true rfl) dX11_start_19 ⟨Nat.zero_le _, Nat.zero_le _⟩ (fun r2 H locs hf hP hD hS => ?_)
  refine lv_if_ne (tgt := 32) hx hb dX11_start_22 (by decide) (fun h3 => ?_) (fun h3 => ?_)
  · have hf := (if_neg h3).symm.trans hf
    refine lv_aload_n hx hb dX11_start_32 rfl (lv_at hl 0 rfl) ?_
    refine va_get (D := D) (ci := 4) (C := RX4) (T := TX4) (N := 11) hx hb hts fwX11_start_X4 hown hK hP 9 rfl rfl 10 (by decide) (hts _ (List.mem_of_getElem? (i := 5) rfl)) (fun _ h9 => h9) rfl dX11_start_33 ?_
    refine lv_iload_n hx hb dX11_start_36 rfl (lv_at hl 2 rfl) ?_
    refine w_iald (wf := (wX11 cI cZ cS ad)) hx hb hK hP 10 0 rfl rfl hf dX11_start_37 (fun v4 hf => ?_)
    obtain ⟨hi1, hi2⟩ := Prod.mk.inj (Option.some.inj hf)
    subst hi1
    subst hi2
    exact hret _ _ _ _ dX11_start_38 rfl hP hS
  · have hf := (if_pos h3).symm.trans hf
    refine lv_aload_n hx hb dX11_start_25 rfl (lv_at hl 1 rfl) ?_
    refine lv_ldc (v := -1000001) hx hb hown (hts _ (List.mem_of_getElem? (i := 4) rfl)) dX11_start_26 ?_
    refine q_cVi (wf := (wX11 cI cZ cS ad)) (wc := wX11 cI cZ cS ad) (rest := []) ⟨hx, hb, hml, hown, hts⟩ hK hZ hA hP hD hS hf (fun x τ ho => kX11_tell l D cI cZ cS zz ad σ (-1000001 : Int32) x τ ho) (cwV 1 hts gX11_start_X11_tell rfl rfl rfl ndX11_tell ⟨Nat.le_of_ble_eq_true rfl, Nat.le_of_ble_eq_true rfl⟩) [0, 1, 2, 3, 4, 5, 6, 7, 8, 9, 10, 11, 12, 13, 14, 15, 16, 17, 18, 19, 20, 21, 22, 23, 24, 25, 26, 27, 28, 29, 30, 31, 32, 33, 34, 35, 36, 37, 38, 39, 40, 41, 42, 43, 44, 45, 46, 47, 48, 49, 50, 51, 52, 53, 54, 55, 56, 57, 58, 59, 60, 61, 62, 63, 64, 65, 66, 67, 68, 69, 70, 71] rfl rfl [some 0, some 1, some 2, some 3, some 4, some 5, some 6, some 7, some 8, some 9, some 10, some 11, some 12, some 13, some 14, some 15, some 16, some 17, some 18, some 19, some 20, some 21, some 22, some 23, some 24, some 25, some 26, some 27, some 28, some 29, some 30, some 31, some 32, some 33, some 34, some 35, some 36, some 37, some 38, some 39, some 40, some 41, some 42, some 43, some 44, some 45, some 46, some 47, some 48, some 49, some 50, some 51, some 52, some 53, some 54, some 55, some 56, some 57, some 58, some 59, some 60, some 61, some 62, some 63, some 64, some 65, some 66, some 67, some 68, some 69, some 70, some 71] (by decide +kernel) (Nat.le_of_ble_eq_true rfl) (fun _ => rfl) (fun _ => rfl) (fun _ => rfl) rfl rfl rfl rfl (hl.1) rfl (Nat.le_of_ble_eq_true rfl) dX11_start_28 ⟨Nat.zero_le _, Nat.zero_le _⟩ (fun r6 σ5 H locs hf hP hD hS => ?_)
    obtain ⟨hi1, hi2⟩ := Prod.mk.inj (Option.some.inj hf)
    subst hi1
    subst hi2
    exact hret _ _ _ _ dX11_start_31 rfl hP hS
def pX11_quickest (σ : SS) : Option (Int32 × SS) := q_cr (pX4_logged (q_sb σ 9)) (fun (r1 : Int32) => (if (2 : Int32) ≤ r1 then q_cr (pX4_leastBetweenStarts (q_sb σ 9)) (fun (r3 : Int32) => some (r3, σ)) else q_ci (pX11_tell σ (-1000004 : Int32)) (fun (τ : SS) => τ) (fun (r5 : Int32) (σ4 : SS) => some (r5, σ4))))
theorem fwX11_quickest_X0 : ∀ w ∈ wsX00, w ∈ wsX11_quickest := fun _ h => List.mem_cons_of_mem _ (List.mem_append_left _ (List.mem_append_right _ h))
theorem fwX11_quickest_X11 : ∀ w ∈ wsX110, w ∈ wsX11_quickest := fun _ h => List.mem_cons_of_mem _ (List.mem_append_left _ (List.mem_append_left _ (List.mem_append_left _ (List.mem_append_right _ h))))
theorem fwX11_quickest_X2 : ∀ w ∈ wsX20, w ∈ wsX11_quickest := fun _ h => List.mem_cons_of_mem _ (List.mem_append_left _ (List.mem_append_left _ (List.mem_append_right _ h)))
abbrev rmX11_quickest : Room := { frames := 3, cells := 0, slots := 0, locals := 66 }
set_option maxHeartbeats 4000000 in
set_option maxRecDepth 100000 in
theorem kX11_quickest (l : Launch) (D : va_G) (cI cZ cS : ClassId) (zz : ZT) (ad : Nat → Nat) (σ : SS) (rr : Int32) (σr : SS) (hf : pX11_quickest σ = some (rr, σr)) : CI l yX11_quickest wsX11_quickest rmX11_quickest D (K3 cI cZ cS) zz [.ref (ad 0)] (wX11 cI cZ cS ad σ) (wX11 cI cZ cS ad σr) rr := by
  refine q_ofI (cc := cX11_quickest) (maxL := 2) (ty := .int) (by decide) rfl (Nat.le_of_ble_eq_true rfl) ?_
  intro p e s m below meth c Q A ls hx hb hml hown hts hK hZ hA hP hD hS hl hret
  have hl : lv_has ls 2 [(0, .ref (ad 0))] := hl
  unfold pX11_quickest at hf
  refine lv_aload_n hx hb dX11_quickest_0 rfl (lv_at hl 0 rfl) ?_
  refine va_get (D := D) (ci := 11) (C := RX11) (T := TX11) (N := 9) hx hb hts fwX11_quickest_X11 hown hK hP 0 rfl rfl 1 (by decide) (hts _ (List.mem_of_getElem? (i := 1) rfl)) (fun _ h9 => h9) rfl dX11_quickest_1 ?_
  refine va_get (D := D) (ci := 2) (C := RX2) (T := TX2) (N := 4) hx hb hts fwX11_quickest_X2 hown hK hP 2 rfl rfl 0 (by decide) (hts _ (List.mem_of_getElem? (i := 2) rfl)) (fun _ h9 => h9) rfl dX11_quickest_4 ?_
  refine va_get (D := D) (ci := 0) (C := RX0) (T := TX0) (N := 13) hx hb hts fwX11_quickest_X0 hown hK hP 3 rfl rfl 1 (by decide) (hts _ (List.mem_of_getElem? (i := 3) rfl)) (fun _ h9 => h9) rfl dX11_quickest_7 ?_
  refine lv_astore_n (lv' := [(1, .ref (ad 9)), (0, .ref (ad 0))]) hx hb dX11_quickest_10 rfl hl (by decide) rfl (fun ls hl => ?_)
  refine lv_aload_n hx hb dX11_quickest_11 rfl (lv_at hl 0 rfl) ?_
  refine q_cVr (wf := (wX11 cI cZ cS ad)) (wc := wX4 cI cZ cS (fun i => ad (9 + i))) (rest := []) ⟨hx, hb, hml, hown, hts⟩ hK hZ hA hP hD hS hf (fun x ho => kX4_logged l D cI cZ cS zz (fun i => ad (9 + i)) (q_sb σ 9) x ho) (cwV 0 hts gX11_quickest_X4_logged rfl rfl rfl ndX4_logged ⟨Nat.le_of_ble_eq_true rfl, Nat.le_of_ble_eq_true rfl⟩) [9, 10] rfl rfl rfl rfl rfl rfl (hl.1) rfl (Nat.le_of_ble_eq_true rfl) dX11_quickest_12 ⟨Nat.zero_le _, Nat.zero_le _⟩ (fun r1 H locs hf hP hD hS => ?_)
  refine lv_iconst (v := 2) hx hb dX11_quickest_15 (by decide) ?_
  refine lv_icmp_ge (tgt := 26) hx hb dX11_quickest_16 (by decide) (fun h2 => ?_) (fun h2 => ?_)
  · have hf := (if_pos h2).symm.trans hf
    refine lv_aload_n hx hb dX11_quickest_26 rfl (lv_at hl 0 rfl) ?_
    refine q_cVr (wf := (wX11 cI cZ cS ad)) (wc := wX4 cI cZ cS (fun i => ad (9 + i))) (rest := []) ⟨hx, hb, hml, hown, hts⟩ hK hZ hA hP hD hS hf (fun x ho => kX4_leastBetweenStarts l D cI cZ cS zz (fun i => ad (9 + i)) (q_sb σ 9) x ho) (cwV 0 hts gX11_quickest_X4_leastBetweenStarts rfl rfl rfl ndX4_leastBetweenStarts ⟨Nat.le_of_ble_eq_true rfl, Nat.le_of_ble_eq_true rfl⟩) [9, 10] rfl rfl rfl rfl rfl rfl (hl.1) rfl (Nat.le_of_ble_eq_true rfl) dX11_quickest_27 ⟨Nat.zero_le _, Nat.zero_le _⟩ (fun r3 H locs hf hP hD hS => ?_)
    obtain ⟨hi1, hi2⟩ := Prod.mk.inj (Option.some.inj hf)
    subst hi1
    subst hi2
    exact hret _ _ _ _ dX11_quickest_30 rfl hP hS
  · have hf := (if_neg h2).symm.trans hf
    refine lv_aload_n hx hb dX11_quickest_19 rfl (lv_at hl 1 rfl) ?_
    refine lv_ldc (v := -1000004) hx hb hown (hts _ (List.mem_of_getElem? (i := 4) rfl)) dX11_quickest_20 ?_
    refine q_cVi (wf := (wX11 cI cZ cS ad)) (wc := wX11 cI cZ cS ad) (rest := []) ⟨hx, hb, hml, hown, hts⟩ hK hZ hA hP hD hS hf (fun x τ ho => kX11_tell l D cI cZ cS zz ad σ (-1000004 : Int32) x τ ho) (cwV 1 hts gX11_quickest_X11_tell rfl rfl rfl ndX11_tell ⟨Nat.le_of_ble_eq_true rfl, Nat.le_of_ble_eq_true rfl⟩) [0, 1, 2, 3, 4, 5, 6, 7, 8, 9, 10, 11, 12, 13, 14, 15, 16, 17, 18, 19, 20, 21, 22, 23, 24, 25, 26, 27, 28, 29, 30, 31, 32, 33, 34, 35, 36, 37, 38, 39, 40, 41, 42, 43, 44, 45, 46, 47, 48, 49, 50, 51, 52, 53, 54, 55, 56, 57, 58, 59, 60, 61, 62, 63, 64, 65, 66, 67, 68, 69, 70, 71] rfl rfl [some 0, some 1, some 2, some 3, some 4, some 5, some 6, some 7, some 8, some 9, some 10, some 11, some 12, some 13, some 14, some 15, some 16, some 17, some 18, some 19, some 20, some 21, some 22, some 23, some 24, some 25, some 26, some 27, some 28, some 29, some 30, some 31, some 32, some 33, some 34, some 35, some 36, some 37, some 38, some 39, some 40, some 41, some 42, some 43, some 44, some 45, some 46, some 47, some 48, some 49, some 50, some 51, some 52, some 53, some 54, some 55, some 56, some 57, some 58, some 59, some 60, some 61, some 62, some 63, some 64, some 65, some 66, some 67, some 68, some 69, some 70, some 71] (by decide +kernel) (Nat.le_of_ble_eq_true rfl) (fun _ => rfl) (fun _ => rfl) (fun _ => rfl) rfl rfl rfl rfl (hl.1) rfl (Nat.le_of_ble_eq_true rfl) dX11_quickest_22 ⟨Nat.zero_le _, Nat.zero_le _⟩ (fun r5 σ4 H locs hf hP hD hS => ?_)
    obtain ⟨hi1, hi2⟩ := Prod.mk.inj (Option.some.inj hf)
    subst hi1
    subst hi2
    exact hret _ _ _ _ dX11_quickest_25 rfl hP hS
def pX11_came (σ : SS) : Option (Int32 × SS) := (if (σ 4 0) = (0 : Int32) then q_ci (pX11_tell σ (-1000004 : Int32)) (fun (τ : SS) => τ) (fun (r4 : Int32) (σ3 : SS) => some (r4, σ3)) else q_cr (pX10_mostBrought (q_sb σ 4)) (fun (r2 : Int32) => some (r2, σ)))
theorem fwX11_came_X0 : ∀ w ∈ wsX00, w ∈ wsX11_came := fun _ h => List.mem_cons_of_mem _ (List.mem_append_left _ (List.mem_append_right _ h))
theorem fwX11_came_X10 : ∀ w ∈ wsX100, w ∈ wsX11_came := fun _ h => List.mem_cons_of_mem _ (List.mem_append_right _ h)
theorem fwX11_came_X11 : ∀ w ∈ wsX110, w ∈ wsX11_came := fun _ h => List.mem_cons_of_mem _ (List.mem_append_left _ (List.mem_append_left _ (List.mem_append_left _ (List.mem_append_right _ h))))
theorem fwX11_came_X2 : ∀ w ∈ wsX20, w ∈ wsX11_came := fun _ h => List.mem_cons_of_mem _ (List.mem_append_left _ (List.mem_append_left _ (List.mem_append_right _ h)))
abbrev rmX11_came : Room := { frames := 1, cells := 0, slots := 0, locals := 22 }
set_option maxHeartbeats 4000000 in
set_option maxRecDepth 100000 in
theorem kX11_came (l : Launch) (D : va_G) (cI cZ cS : ClassId) (zz : ZT) (ad : Nat → Nat) (σ : SS) (rr : Int32) (σr : SS) (hf : pX11_came σ = some (rr, σr)) : CI l yX11_came wsX11_came rmX11_came D (K3 cI cZ cS) zz [.ref (ad 0)] (wX11 cI cZ cS ad σ) (wX11 cI cZ cS ad σr) rr := by
  refine q_ofI (cc := cX11_came) (maxL := 1) (ty := .int) (by decide) rfl (Nat.le_of_ble_eq_true rfl) ?_
  intro p e s m below meth c Q A ls hx hb hml hown hts hK hZ hA hP hD hS hl hret
  have hl : lv_has ls 1 [(0, .ref (ad 0))] := hl
  unfold pX11_came at hf
  refine lv_aload_n hx hb dX11_came_0 rfl (lv_at hl 0 rfl) ?_
  refine va_get (D := D) (ci := 11) (C := RX11) (T := TX11) (N := 9) hx hb hts fwX11_came_X11 hown hK hP 0 rfl rfl 1 (by decide) (hts _ (List.mem_of_getElem? (i := 1) rfl)) (fun _ h9 => h9) rfl dX11_came_1 ?_
  refine va_get (D := D) (ci := 2) (C := RX2) (T := TX2) (N := 4) hx hb hts fwX11_came_X2 hown hK hP 2 rfl rfl 0 (by decide) (hts _ (List.mem_of_getElem? (i := 2) rfl)) (fun _ h9 => h9) rfl dX11_came_4 ?_
  refine va_get (D := D) (ci := 0) (C := RX0) (T := TX0) (N := 13) hx hb hts fwX11_came_X0 hown hK hP 3 rfl rfl 0 (by decide) (hts _ (List.mem_of_getElem? (i := 3) rfl)) (fun _ h9 => h9) rfl dX11_came_7 ?_
  refine va_get (D := D) (ci := 10) (C := RX10) (T := TX10) (N := 5) hx hb hts fwX11_came_X10 hown hK hP 4 rfl rfl 0 (by decide) (hts _ (List.mem_of_getElem? (i := 4) rfl)) (fun _ h9 => h9) rfl dX11_came_10 ?_
  refine lv_if_ne (tgt := 23) hx hb dX11_came_13 (by decide) (fun h1 => ?_) (fun h1 => ?_)
  · have hf := (if_neg h1).symm.trans hf
    refine lv_aload_n hx hb dX11_came_23 rfl (lv_at hl 0 rfl) ?_
    refine va_get (D := D) (ci := 11) (C := RX11) (T := TX11) (N := 9) hx hb hts fwX11_came_X11 hown hK hP 0 rfl rfl 1 (by decide) (hts _ (List.mem_of_getElem? (i := 1) rfl)) (fun _ h9 => h9) rfl dX11_came_24 ?_
    refine va_get (D := D) (ci := 2) (C := RX2) (T := TX2) (N := 4) hx hb hts fwX11_came_X2 hown hK hP 2 rfl rfl 0 (by decide) (hts _ (List.mem_of_getElem? (i := 2) rfl)) (fun _ h9 => h9) rfl dX11_came_27 ?_
    refine va_get (D := D) (ci := 0) (C := RX0) (T := TX0) (N := 13) hx hb hts fwX11_came_X0 hown hK hP 3 rfl rfl 0 (by decide) (hts _ (List.mem_of_getElem? (i := 3) rfl)) (fun _ h9 => h9) rfl dX11_came_30 ?_
    refine q_cVr (wf := (wX11 cI cZ cS ad)) (wc := wX10 cI cZ cS (fun i => ad (4 + i))) (rest := []) ⟨hx, hb, hml, hown, hts⟩ hK hZ hA hP hD hS hf (fun x ho => kX10_mostBrought l D cI cZ cS zz (fun i => ad (4 + i)) (q_sb σ 4) x ho) (cwV 0 hts gX11_came_X10_mostBrought rfl rfl rfl ndX10_mostBrought ⟨Nat.le_of_ble_eq_true rfl, Nat.le_of_ble_eq_true rfl⟩) [4, 5, 6, 7, 8] rfl rfl rfl rfl rfl rfl (hl.1) rfl (Nat.le_of_ble_eq_true rfl) dX11_came_33 ⟨Nat.zero_le _, Nat.zero_le _⟩ (fun r2 H locs hf hP hD hS => ?_)
    obtain ⟨hi1, hi2⟩ := Prod.mk.inj (Option.some.inj hf)
    subst hi1
    subst hi2
    exact hret _ _ _ _ dX11_came_36 rfl hP hS
  · have hf := (if_pos h1).symm.trans hf
    refine lv_aload_n hx hb dX11_came_16 rfl (lv_at hl 0 rfl) ?_
    refine lv_ldc (v := -1000004) hx hb hown (hts _ (List.mem_of_getElem? (i := 5) rfl)) dX11_came_17 ?_
    refine q_cVi (wf := (wX11 cI cZ cS ad)) (wc := wX11 cI cZ cS ad) (rest := []) ⟨hx, hb, hml, hown, hts⟩ hK hZ hA hP hD hS hf (fun x τ ho => kX11_tell l D cI cZ cS zz ad σ (-1000004 : Int32) x τ ho) (cwV 1 hts gX11_came_X11_tell rfl rfl rfl ndX11_tell ⟨Nat.le_of_ble_eq_true rfl, Nat.le_of_ble_eq_true rfl⟩) [0, 1, 2, 3, 4, 5, 6, 7, 8, 9, 10, 11, 12, 13, 14, 15, 16, 17, 18, 19, 20, 21, 22, 23, 24, 25, 26, 27, 28, 29, 30, 31, 32, 33, 34, 35, 36, 37, 38, 39, 40, 41, 42, 43, 44, 45, 46, 47, 48, 49, 50, 51, 52, 53, 54, 55, 56, 57, 58, 59, 60, 61, 62, 63, 64, 65, 66, 67, 68, 69, 70, 71] rfl rfl [some 0, some 1, some 2, some 3, some 4, some 5, some 6, some 7, some 8, some 9, some 10, some 11, some 12, some 13, some 14, some 15, some 16, some 17, some 18, some 19, some 20, some 21, some 22, some 23, some 24, some 25, some 26, some 27, some 28, some 29, some 30, some 31, some 32, some 33, some 34, some 35, some 36, some 37, some 38, some 39, some 40, some 41, some 42, some 43, some 44, some 45, some 46, some 47, some 48, some 49, some 50, some 51, some 52, some 53, some 54, some 55, some 56, some 57, some 58, some 59, some 60, some 61, some 62, some 63, some 64, some 65, some 66, some 67, some 68, some 69, some 70, some 71] (by decide +kernel) (Nat.le_of_ble_eq_true rfl) (fun _ => rfl) (fun _ => rfl) (fun _ => rfl) rfl rfl rfl rfl (hl.1) rfl (Nat.le_of_ble_eq_true rfl) dX11_came_19 ⟨Nat.zero_le _, Nat.zero_le _⟩ (fun r4 σ3 H locs hf hP hD hS => ?_)
    obtain ⟨hi1, hi2⟩ := Prod.mk.inj (Option.some.inj hf)
    subst hi1
    subst hi2
    exact hret _ _ _ _ dX11_came_22 rfl hP hS
def pX11_thing (σ : SS) (a1 : Int32) (a2 : Int32) (a3 : Int32) : Option (Int32 × SS) := q_cr (pX11_within a1 (1 : Int32) (99 : Int32)) (fun (r1 : Int32) => q_lt (q_ci (pX11_tell σ (-1000001 : Int32)) (fun (τ : SS) => τ) (fun (r4 : Int32) (σ3 : SS) => some (r4, σ3))) (fun j2 => (if r1 = (0 : Int32) then j2 else q_cr (pX11_within a2 (1 : Int32) (60 : Int32)) (fun (r6 : Int32) => (if r6 = (0 : Int32) then j2 else q_cr (pX11_within a3 (0 : Int32) (999 : Int32)) (fun (r8 : Int32) => (if r8 = (0 : Int32) then j2 else (if (σ 11 0) < (10 : Int32) then q_ci (pX9_add (q_sb σ 11) a1 a2 a3) (fun (τ : SS) => (q_em σ 11 0 4 τ)) (fun (r12 : Int32) (σ11 : SS) => some (r12, σ11)) else q_ci (pX11_tell σ (-1000002 : Int32)) (fun (τ : SS) => τ) (fun (r14 : Int32) (σ13 : SS) => some (r14, σ13))))))))))
theorem fwX11_thing_X0 : ∀ w ∈ wsX00, w ∈ wsX11_thing := fun _ h => List.mem_cons_of_mem _ (List.mem_append_left _ (List.mem_append_right _ h))
theorem fwX11_thing_X11 : ∀ w ∈ wsX110, w ∈ wsX11_thing := fun _ h => List.mem_cons_of_mem _ (List.mem_append_left _ (List.mem_append_left _ (List.mem_append_left _ (List.mem_append_right _ h))))
theorem fwX11_thing_X2 : ∀ w ∈ wsX20, w ∈ wsX11_thing := fun _ h => List.mem_cons_of_mem _ (List.mem_append_left _ (List.mem_append_left _ (List.mem_append_right _ h)))
theorem fwX11_thing_X9 : ∀ w ∈ wsX90, w ∈ wsX11_thing := fun _ h => List.mem_cons_of_mem _ (List.mem_append_right _ h)
abbrev rmX11_thing : Room := { frames := 1, cells := 0, slots := 0, locals := 23 }
set_option maxHeartbeats 4000000 in
set_option maxRecDepth 100000 in
theorem kX11_thing (l : Launch) (D : va_G) (cI cZ cS : ClassId) (zz : ZT) (ad : Nat → Nat) (σ : SS) (a1 : Int32) (a2 : Int32) (a3 : Int32) (rr : Int32) (σr : SS) (hf : pX11_thing σ a1 a2 a3 = some (rr, σr)) : CI l yX11_thing wsX11_thing rmX11_thing D (K3 cI cZ cS) zz [.ref (ad 0), .int a1, .int a2, .int a3] (wX11 cI cZ cS ad σ) (wX11 cI cZ cS ad σr) rr := by
  refine q_ofI (cc := cX11_thing) (maxL := 4) (ty := .int) (by decide) rfl (Nat.le_of_ble_eq_true rfl) ?_
  intro p e s m below meth c Q A ls hx hb hml hown hts hK hZ hA hP hD hS hl hret
  have hl : lv_has ls 4 [(0, .ref (ad 0)), (1, .int a1), (2, .int a2), (3, .int a3)] := hl
  unfold pX11_thing at hf
  refine lv_iload_n hx hb dX11_thing_0 rfl (lv_at hl 1 rfl) ?_
  refine lv_iconst (v := 1) hx hb dX11_thing_1 (by decide) ?_
  refine lv_bipush (v := 99) hx hb dX11_thing_2 (by decide) ?_
  refine q_cSr (wf := (wX11 cI cZ cS ad)) (rest := []) ⟨hx, hb, hml, hown, hts⟩ hK hZ hA hP hD hS hf (fun x ho => kX11_within l D cI cZ cS zz a1 (1 : Int32) (99 : Int32) x ho) (va_cwS 3 hts gX11_thing_X11_within rfl rfl rfl ndX11_within.2 ⟨Nat.le_of_ble_eq_true rfl, Nat.le_of_ble_eq_true rfl⟩) rfl (hl.1) rfl (Nat.le_of_ble_eq_true rfl) dX11_thing_4 ⟨Nat.zero_le _, Nat.zero_le _⟩ (fun r1 H locs hf hP hD hS => ?_)
  refine q_lt_go hf (fun j2 ej2 hf => ?_)
  have Jj2 : ∀ (H : Heap) (locs : List Loc) (ls : Array Slot), va_P D vwCl ((wX11 cI cZ cS ad) σ) H → va_D A ((wX11 cI cZ cS ad) σ) → va_S A s.heap H locs → lv_has ls 4 [(0, .ref (ad 0))] → j2 = some (rr, σr) → W p l e rmX11_thing s m ([.ref (ad 0), .int a1, .int a2, .int a3] : List Value).toArray below meth c H locs 0 0 Q (F0 m 31 ls []) := by
    intro  H locs ls hP hD hS hl hf
    have hf := ej2.symm.trans hf
    refine lv_aload_n hx hb dX11_thing_31 rfl (lv_at hl 0 rfl) ?_
    refine lv_ldc (v := -1000001) hx hb hown (hts _ (List.mem_of_getElem? (i := 1) rfl)) dX11_thing_32 ?_
    refine q_cVi (wf := (wX11 cI cZ cS ad)) (wc := wX11 cI cZ cS ad) (rest := []) ⟨hx, hb, hml, hown, hts⟩ hK hZ hA hP hD hS hf (fun x τ ho => kX11_tell l D cI cZ cS zz ad σ (-1000001 : Int32) x τ ho) (cwV 1 hts gX11_thing_X11_tell rfl rfl rfl ndX11_tell ⟨Nat.le_of_ble_eq_true rfl, Nat.le_of_ble_eq_true rfl⟩) [0, 1, 2, 3, 4, 5, 6, 7, 8, 9, 10, 11, 12, 13, 14, 15, 16, 17, 18, 19, 20, 21, 22, 23, 24, 25, 26, 27, 28, 29, 30, 31, 32, 33, 34, 35, 36, 37, 38, 39, 40, 41, 42, 43, 44, 45, 46, 47, 48, 49, 50, 51, 52, 53, 54, 55, 56, 57, 58, 59, 60, 61, 62, 63, 64, 65, 66, 67, 68, 69, 70, 71] rfl rfl [some 0, some 1, some 2, some 3, some 4, some 5, some 6, some 7, some 8, some 9, some 10, some 11, some 12, some 13, some 14, some 15, some 16, some 17, some 18, some 19, some 20, some 21, some 22, some 23, some 24, some 25, some 26, some 27, some 28, some 29, some 30, some 31, some 32, some 33, some 34, some 35, some 36, some 37, some 38, some 39, some 40, some 41, some 42, some 43, some 44, some 45, some 46, some 47, some 48, some 49, some 50, some 51, some 52, some 53, some 54, some 55, some 56, some 57, some 58, some 59, some 60, some 61, some 62, some 63, some 64, some 65, some 66, some 67, some 68, some 69, some 70, some 71] (by decide +kernel) (Nat.le_of_ble_eq_true rfl) (fun _ => rfl) (fun _ => rfl) (fun _ => rfl) rfl rfl rfl rfl (hl.1) rfl (Nat.le_of_ble_eq_true rfl) dX11_thing_34 ⟨Nat.zero_le _, Nat.zero_le _⟩ (fun r4 σ3 H locs hf hP hD hS => ?_)
    obtain ⟨hi1, hi2⟩ := Prod.mk.inj (Option.some.inj hf)
    subst hi1
    subst hi2
    exact hret _ _ _ _ dX11_thing_37 rfl hP hS
  refine lv_if_eq (tgt := 31) hx hb dX11_thing_7 (by decide) (fun h5 => ?_) (fun h5 => ?_)
  · have hf := (if_pos h5).symm.trans hf
    exact Jj2  _ _ _ hP hD hS (lv_sub hl [0] rfl) hf
  · have hf := (if_neg h5).symm.trans hf
    refine lv_iload_n hx hb dX11_thing_10 rfl (lv_at hl 2 rfl) ?_
    refine lv_iconst (v := 1) hx hb dX11_thing_11 (by decide) ?_
    refine lv_bipush (v := 60) hx hb dX11_thing_12 (by decide) ?_
    refine q_cSr (wf := (wX11 cI cZ cS ad)) (rest := []) ⟨hx, hb, hml, hown, hts⟩ hK hZ hA hP hD hS hf (fun x ho => kX11_within l D cI cZ cS zz a2 (1 : Int32) (60 : Int32) x ho) (va_cwS 3 hts gX11_thing_X11_within rfl rfl rfl ndX11_within.2 ⟨Nat.le_of_ble_eq_true rfl, Nat.le_of_ble_eq_true rfl⟩) rfl (hl.1) rfl (Nat.le_of_ble_eq_true rfl) dX11_thing_14 ⟨Nat.zero_le _, Nat.zero_le _⟩ (fun r6 H locs hf hP hD hS => ?_)
    refine lv_if_eq (tgt := 31) hx hb dX11_thing_17 (by decide) (fun h7 => ?_) (fun h7 => ?_)
    · have hf := (if_pos h7).symm.trans hf
      exact Jj2  _ _ _ hP hD hS (lv_sub hl [0] rfl) hf
    · have hf := (if_neg h7).symm.trans hf
      refine lv_iload_n hx hb dX11_thing_20 rfl (lv_at hl 3 rfl) ?_
      refine lv_iconst (v := 0) hx hb dX11_thing_21 (by decide) ?_
      refine lv_sipush (v := 999) hx hb dX11_thing_22 (by decide) ?_
      refine q_cSr (wf := (wX11 cI cZ cS ad)) (rest := []) ⟨hx, hb, hml, hown, hts⟩ hK hZ hA hP hD hS hf (fun x ho => kX11_within l D cI cZ cS zz a3 (0 : Int32) (999 : Int32) x ho) (va_cwS 3 hts gX11_thing_X11_within rfl rfl rfl ndX11_within.2 ⟨Nat.le_of_ble_eq_true rfl, Nat.le_of_ble_eq_true rfl⟩) rfl (hl.1) rfl (Nat.le_of_ble_eq_true rfl) dX11_thing_25 ⟨Nat.zero_le _, Nat.zero_le _⟩ (fun r8 H locs hf hP hD hS => ?_)
      refine lv_if_ne (tgt := 38) hx hb dX11_thing_28 (by decide) (fun h9 => ?_) (fun h9 => ?_)
      · have hf := (if_neg h9).symm.trans hf
        refine lv_aload_n hx hb dX11_thing_38 rfl (lv_at hl 0 rfl) ?_
        refine va_get (D := D) (ci := 11) (C := RX11) (T := TX11) (N := 9) hx hb hts fwX11_thing_X11 hown hK hP 0 rfl rfl 1 (by decide) (hts _ (List.mem_of_getElem? (i := 2) rfl)) (fun _ h9 => h9) rfl dX11_thing_39 ?_
        refine va_get (D := D) (ci := 2) (C := RX2) (T := TX2) (N := 4) hx hb hts fwX11_thing_X2 hown hK hP 2 rfl rfl 0 (by decide) (hts _ (List.mem_of_getElem? (i := 3) rfl)) (fun _ h9 => h9) rfl dX11_thing_42 ?_
        refine va_get (D := D) (ci := 0) (C := RX0) (T := TX0) (N := 13) hx hb hts fwX11_thing_X0 hown hK hP 3 rfl rfl 2 (by decide) (hts _ (List.mem_of_getElem? (i := 4) rfl)) (fun _ h9 => h9) rfl dX11_thing_45 ?_
        refine va_get (D := D) (ci := 9) (C := RX9) (T := TX9) (N := 6) hx hb hts fwX11_thing_X9 hown hK hP 11 rfl rfl 0 (by decide) (hts _ (List.mem_of_getElem? (i := 5) rfl)) (fun _ h9 => h9) rfl dX11_thing_48 ?_
        refine lv_bipush (v := 10) hx hb dX11_thing_51 (by decide) ?_
        refine lv_icmp_lt (tgt := 63) hx hb dX11_thing_53 (by decide) (fun h10 => ?_) (fun h10 => ?_)
        · have hf := (if_pos h10).symm.trans hf
          refine lv_aload_n hx hb dX11_thing_63 rfl (lv_at hl 0 rfl) ?_
          refine va_get (D := D) (ci := 11) (C := RX11) (T := TX11) (N := 9) hx hb hts fwX11_thing_X11 hown hK hP 0 rfl rfl 1 (by decide) (hts _ (List.mem_of_getElem? (i := 2) rfl)) (fun _ h9 => h9) rfl dX11_thing_64 ?_
          refine va_get (D := D) (ci := 2) (C := RX2) (T := TX2) (N := 4) hx hb hts fwX11_thing_X2 hown hK hP 2 rfl rfl 0 (by decide) (hts _ (List.mem_of_getElem? (i := 3) rfl)) (fun _ h9 => h9) rfl dX11_thing_67 ?_
          refine va_get (D := D) (ci := 0) (C := RX0) (T := TX0) (N := 13) hx hb hts fwX11_thing_X0 hown hK hP 3 rfl rfl 2 (by decide) (hts _ (List.mem_of_getElem? (i := 4) rfl)) (fun _ h9 => h9) rfl dX11_thing_70 ?_
          refine lv_iload_n hx hb dX11_thing_73 rfl (lv_at hl 1 rfl) ?_
          refine lv_iload_n hx hb dX11_thing_74 rfl (lv_at hl 2 rfl) ?_
          refine lv_iload_n hx hb dX11_thing_75 rfl (lv_at hl 3 rfl) ?_
          refine q_cVi (wf := (wX11 cI cZ cS ad)) (wc := wX9 cI cZ cS (fun i => ad (11 + i))) (rest := []) ⟨hx, hb, hml, hown, hts⟩ hK hZ hA hP hD hS hf (fun x τ ho => kX9_add l D cI cZ cS zz (fun i => ad (11 + i)) (q_sb σ 11) a1 a2 a3 x τ ho) (cwV 3 hts gX11_thing_X9_add rfl rfl rfl ndX9_add ⟨Nat.le_of_ble_eq_true rfl, Nat.le_of_ble_eq_true rfl⟩) [11, 12, 13, 14] rfl rfl [none, none, none, none, none, none, none, none, none, none, none, some 0, some 1, some 2, some 3, none, none, none, none, none, none, none, none, none, none, none, none, none, none, none, none, none, none, none, none, none, none, none, none, none, none, none, none, none, none, none, none, none, none, none, none, none, none, none, none, none, none, none, none, none, none, none, none, none, none, none, none, none, none, none, none, none] (by decide +kernel) (Nat.le_of_ble_eq_true rfl) (fun _ => rfl) (fun _ => rfl) (fun _ => rfl) rfl rfl rfl rfl (hl.1) rfl (Nat.le_of_ble_eq_true rfl) dX11_thing_76 ⟨Nat.zero_le _, Nat.zero_le _⟩ (fun r12 σ11 H locs hf hP hD hS => ?_)
          obtain ⟨hi1, hi2⟩ := Prod.mk.inj (Option.some.inj hf)
          subst hi1
          subst hi2
          exact hret _ _ _ _ dX11_thing_79 rfl hP hS
        · have hf := (if_neg h10).symm.trans hf
          refine lv_aload_n hx hb dX11_thing_56 rfl (lv_at hl 0 rfl) ?_
          refine lv_ldc (v := -1000002) hx hb hown (hts _ (List.mem_of_getElem? (i := 6) rfl)) dX11_thing_57 ?_
          refine q_cVi (wf := (wX11 cI cZ cS ad)) (wc := wX11 cI cZ cS ad) (rest := []) ⟨hx, hb, hml, hown, hts⟩ hK hZ hA hP hD hS hf (fun x τ ho => kX11_tell l D cI cZ cS zz ad σ (-1000002 : Int32) x τ ho) (cwV 1 hts gX11_thing_X11_tell rfl rfl rfl ndX11_tell ⟨Nat.le_of_ble_eq_true rfl, Nat.le_of_ble_eq_true rfl⟩) [0, 1, 2, 3, 4, 5, 6, 7, 8, 9, 10, 11, 12, 13, 14, 15, 16, 17, 18, 19, 20, 21, 22, 23, 24, 25, 26, 27, 28, 29, 30, 31, 32, 33, 34, 35, 36, 37, 38, 39, 40, 41, 42, 43, 44, 45, 46, 47, 48, 49, 50, 51, 52, 53, 54, 55, 56, 57, 58, 59, 60, 61, 62, 63, 64, 65, 66, 67, 68, 69, 70, 71] rfl rfl [some 0, some 1, some 2, some 3, some 4, some 5, some 6, some 7, some 8, some 9, some 10, some 11, some 12, some 13, some 14, some 15, some 16, some 17, some 18, some 19, some 20, some 21, some 22, some 23, some 24, some 25, some 26, some 27, some 28, some 29, some 30, some 31, some 32, some 33, some 34, some 35, some 36, some 37, some 38, some 39, some 40, some 41, some 42, some 43, some 44, some 45, some 46, some 47, some 48, some 49, some 50, some 51, some 52, some 53, some 54, some 55, some 56, some 57, some 58, some 59, some 60, some 61, some 62, some 63, some 64, some 65, some 66, some 67, some 68, some 69, some 70, some 71] (by decide +kernel) (Nat.le_of_ble_eq_true rfl) (fun _ => rfl) (fun _ => rfl) (fun _ => rfl) rfl rfl rfl rfl (hl.1) rfl (Nat.le_of_ble_eq_true rfl) dX11_thing_59 ⟨Nat.zero_le _, Nat.zero_le _⟩ (fun r14 σ13 H locs hf hP hD hS => ?_)
          obtain ⟨hi1, hi2⟩ := Prod.mk.inj (Option.some.inj hf)
          subst hi1
          subst hi2
          exact hret _ _ _ _ dX11_thing_62 rfl hP hS
      · have hf := (if_pos h9).symm.trans hf
        exact Jj2  _ _ _ hP hD hS (lv_sub hl [0] rfl) hf
def pX11_isThing (σ : SS) (a1 : Int32) : Option Int32 := q_cr (pX11_within a1 (0 : Int32) ((σ 11 0) - (1 : Int32))) (fun (r1 : Int32) => q_zz r1 (some r1))
theorem fwX11_isThing_X0 : ∀ w ∈ wsX00, w ∈ wsX11_isThing := fun _ h => List.mem_cons_of_mem _ (List.mem_append_left _ (List.mem_append_right _ h))
theorem fwX11_isThing_X11 : ∀ w ∈ wsX110, w ∈ wsX11_isThing := fun _ h => List.mem_cons_of_mem _ (List.mem_append_left _ (List.mem_append_left _ (List.mem_append_left _ (List.mem_append_right _ h))))
theorem fwX11_isThing_X2 : ∀ w ∈ wsX20, w ∈ wsX11_isThing := fun _ h => List.mem_cons_of_mem _ (List.mem_append_left _ (List.mem_append_left _ (List.mem_append_right _ h)))
theorem fwX11_isThing_X9 : ∀ w ∈ wsX90, w ∈ wsX11_isThing := fun _ h => List.mem_cons_of_mem _ (List.mem_append_right _ h)
abbrev rmX11_isThing : Room := { frames := 1, cells := 0, slots := 0, locals := 22 }
set_option maxHeartbeats 4000000 in
set_option maxRecDepth 100000 in
theorem kX11_isThing (l : Launch) (D : va_G) (cI cZ cS : ClassId) (zz : ZT) (ad : Nat → Nat) (σ : SS) (a1 : Int32) (rr : Int32) (hf : pX11_isThing σ a1 = some rr) : CI l yX11_isThing wsX11_isThing rmX11_isThing D (K3 cI cZ cS) zz [.ref (ad 0), .int a1] (wX11 cI cZ cS ad σ) (wX11 cI cZ cS ad σ) rr := by
  refine q_ofI (cc := cX11_isThing) (maxL := 2) (ty := .boolean) (by decide) rfl (Nat.le_of_ble_eq_true rfl) ?_
  intro p e s m below meth c Q A ls hx hb hml hown hts hK hZ hA hP hD hS hl hret
  have hl : lv_has ls 2 [(0, .ref (ad 0)), (1, .int a1)] := hl
  unfold pX11_isThing at hf
  refine lv_iload_n hx hb dX11_isThing_0 rfl (lv_at hl 1 rfl) ?_
  refine lv_iconst (v := 0) hx hb dX11_isThing_1 (by decide) ?_
  refine lv_aload_n hx hb dX11_isThing_2 rfl (lv_at hl 0 rfl) ?_
  refine va_get (D := D) (ci := 11) (C := RX11) (T := TX11) (N := 9) hx hb hts fwX11_isThing_X11 hown hK hP 0 rfl rfl 1 (by decide) (hts _ (List.mem_of_getElem? (i := 1) rfl)) (fun _ h9 => h9) rfl dX11_isThing_3 ?_
  refine va_get (D := D) (ci := 2) (C := RX2) (T := TX2) (N := 4) hx hb hts fwX11_isThing_X2 hown hK hP 2 rfl rfl 0 (by decide) (hts _ (List.mem_of_getElem? (i := 2) rfl)) (fun _ h9 => h9) rfl dX11_isThing_6 ?_
  refine va_get (D := D) (ci := 0) (C := RX0) (T := TX0) (N := 13) hx hb hts fwX11_isThing_X0 hown hK hP 3 rfl rfl 2 (by decide) (hts _ (List.mem_of_getElem? (i := 3) rfl)) (fun _ h9 => h9) rfl dX11_isThing_9 ?_
  refine va_get (D := D) (ci := 9) (C := RX9) (T := TX9) (N := 6) hx hb hts fwX11_isThing_X9 hown hK hP 11 rfl rfl 0 (by decide) (hts _ (List.mem_of_getElem? (i := 4) rfl)) (fun _ h9 => h9) rfl dX11_isThing_12 ?_
  refine lv_iconst (v := 1) hx hb dX11_isThing_15 (by decide) ?_
  refine lv_isub hx hb dX11_isThing_16 ?_
  refine q_cSr (wf := (wX11 cI cZ cS ad)) (rest := []) ⟨hx, hb, hml, hown, hts⟩ hK hZ hA hP hD hS hf (fun x ho => kX11_within l D cI cZ cS zz a1 (0 : Int32) ((σ 11 0) - (1 : Int32)) x ho) (va_cwS 3 hts gX11_isThing_X11_within rfl rfl rfl ndX11_within.2 ⟨Nat.le_of_ble_eq_true rfl, Nat.le_of_ble_eq_true rfl⟩) rfl (hl.1) rfl (Nat.le_of_ble_eq_true rfl) dX11_isThing_17 ⟨Nat.zero_le _, Nat.zero_le _⟩ (fun r1 H locs hf hP hD hS => ?_)
  obtain ⟨hz, hf⟩ := q_zz_o hf
  have hi1 := Option.some.inj hf
  subst hi1
  exact hret _ _ _ _ dX11_isThing_20 (q_zz_n hz).1 hP hS
def pX11_thingOf (σ : SS) (a1 : Int32) (a2 : Int32) : Option (Int32 × SS) := q_cr (pX11_isThing σ a1) (fun (r1 : Int32) => q_lt (q_ci (pX11_tell σ (-1000001 : Int32)) (fun (τ : SS) => τ) (fun (r4 : Int32) (σ3 : SS) => some (r4, σ3))) (fun j2 => (if r1 = (0 : Int32) then j2 else q_cr (pX11_within a2 (0 : Int32) (4 : Int32)) (fun (r6 : Int32) => (if r6 = (0 : Int32) then j2 else (if a2 = (0 : Int32) then q_rd (σ 12) 10 a1 (fun (v9 : Int32) => some (v9, σ)) else (if a2 = (1 : Int32) then q_rd (σ 13) 10 a1 (fun (v11 : Int32) => some (v11, σ)) else (if a2 = (2 : Int32) then q_rd (σ 14) 10 a1 (fun (v13 : Int32) => some (v13, σ)) else (if a2 = (3 : Int32) then q_cr (pX9_isLifted (q_sb σ 11) a1) (fun (r15 : Int32) => q_cr (pX11_bit r15) (fun (r16 : Int32) => some (r16, σ))) else q_cr (pX9_isHarmed (q_sb σ 11) a1) (fun (r17 : Int32) => q_cr (pX11_bit r17) (fun (r18 : Int32) => some (r18, σ))))))))))))
theorem fwX11_thingOf_X0 : ∀ w ∈ wsX00, w ∈ wsX11_thingOf := fun _ h => List.mem_cons_of_mem _ (List.mem_append_left _ (List.mem_append_right _ h))
theorem fwX11_thingOf_X11 : ∀ w ∈ wsX110, w ∈ wsX11_thingOf := fun _ h => List.mem_cons_of_mem _ (List.mem_append_left _ (List.mem_append_left _ (List.mem_append_left _ (List.mem_append_right _ h))))
theorem fwX11_thingOf_X2 : ∀ w ∈ wsX20, w ∈ wsX11_thingOf := fun _ h => List.mem_cons_of_mem _ (List.mem_append_left _ (List.mem_append_left _ (List.mem_append_right _ h)))
theorem fwX11_thingOf_X9 : ∀ w ∈ wsX90, w ∈ wsX11_thingOf := fun _ h => List.mem_cons_of_mem _ (List.mem_append_right _ h)
abbrev rmX11_thingOf : Room := { frames := 2, cells := 0, slots := 0, locals := 43 }
set_option maxHeartbeats 4000000 in
set_option maxRecDepth 100000 in
theorem kX11_thingOf (l : Launch) (D : va_G) (cI cZ cS : ClassId) (zz : ZT) (ad : Nat → Nat) (σ : SS) (a1 : Int32) (a2 : Int32) (rr : Int32) (σr : SS) (hf : pX11_thingOf σ a1 a2 = some (rr, σr)) : CI l yX11_thingOf wsX11_thingOf rmX11_thingOf D (K3 cI cZ cS) zz [.ref (ad 0), .int a1, .int a2] (wX11 cI cZ cS ad σ) (wX11 cI cZ cS ad σr) rr := by
  refine q_ofI (cc := cX11_thingOf) (maxL := 4) (ty := .int) (by decide) rfl (Nat.le_of_ble_eq_true rfl) ?_
  intro p e s m below meth c Q A ls hx hb hml hown hts hK hZ hA hP hD hS hl hret
  have hl : lv_has ls 4 [(0, .ref (ad 0)), (1, .int a1), (2, .int a2)] := hl
  unfold pX11_thingOf at hf
  refine lv_aload_n hx hb dX11_thingOf_0 rfl (lv_at hl 0 rfl) ?_
  refine lv_iload_n hx hb dX11_thingOf_1 rfl (lv_at hl 1 rfl) ?_
  refine q_cVr (wf := (wX11 cI cZ cS ad)) (wc := wX11 cI cZ cS ad) (rest := []) ⟨hx, hb, hml, hown, hts⟩ hK hZ hA hP hD hS hf (fun x ho => kX11_isThing l D cI cZ cS zz ad σ a1 x ho) (cwV 1 hts gX11_thingOf_X11_isThing rfl rfl rfl ndX11_isThing ⟨Nat.le_of_ble_eq_true rfl, Nat.le_of_ble_eq_true rfl⟩) [0, 1, 2, 3, 4, 5, 6, 7, 8, 9, 10, 11, 12, 13, 14, 15, 16, 17, 18, 19, 20, 21, 22, 23, 24, 25, 26, 27, 28, 29, 30, 31, 32, 33, 34, 35, 36, 37, 38, 39, 40, 41, 42, 43, 44, 45, 46, 47, 48, 49, 50, 51, 52, 53, 54, 55, 56, 57, 58, 59, 60, 61, 62, 63, 64, 65, 66, 67, 68, 69, 70, 71] rfl rfl rfl rfl rfl rfl (hl.1) rfl (Nat.le_of_ble_eq_true rfl) dX11_thingOf_2 ⟨Nat.zero_le _, Nat.zero_le _⟩ (fun r1 H locs hf hP hD hS => ?_)
  refine q_lt_go hf (fun j2 ej2 hf => ?_)
  have Jj2 : ∀ (H : Heap) (locs : List Loc) (ls : Array Slot), va_P D vwCl ((wX11 cI cZ cS ad) σ) H → va_D A ((wX11 cI cZ cS ad) σ) → va_S A s.heap H locs → lv_has ls 4 [(0, .ref (ad 0))] → j2 = some (rr, σr) → W p l e rmX11_thingOf s m ([.ref (ad 0), .int a1, .int a2] : List Value).toArray below meth c H locs 0 0 Q (F0 m 17 ls []) := by
    intro  H locs ls hP hD hS hl hf
    have hf := ej2.symm.trans hf
    refine lv_aload_n hx hb dX11_thingOf_17 rfl (lv_at hl 0 rfl) ?_
    refine lv_ldc (v := -1000001) hx hb hown (hts _ (List.mem_of_getElem? (i := 1) rfl)) dX11_thingOf_18 ?_
    refine q_cVi (wf := (wX11 cI cZ cS ad)) (wc := wX11 cI cZ cS ad) (rest := []) ⟨hx, hb, hml, hown, hts⟩ hK hZ hA hP hD hS hf (fun x τ ho => kX11_tell l D cI cZ cS zz ad σ (-1000001 : Int32) x τ ho) (cwV 1 hts gX11_thingOf_X11_tell rfl rfl rfl ndX11_tell ⟨Nat.le_of_ble_eq_true rfl, Nat.le_of_ble_eq_true rfl⟩) [0, 1, 2, 3, 4, 5, 6, 7, 8, 9, 10, 11, 12, 13, 14, 15, 16, 17, 18, 19, 20, 21, 22, 23, 24, 25, 26, 27, 28, 29, 30, 31, 32, 33, 34, 35, 36, 37, 38, 39, 40, 41, 42, 43, 44, 45, 46, 47, 48, 49, 50, 51, 52, 53, 54, 55, 56, 57, 58, 59, 60, 61, 62, 63, 64, 65, 66, 67, 68, 69, 70, 71] rfl rfl [some 0, some 1, some 2, some 3, some 4, some 5, some 6, some 7, some 8, some 9, some 10, some 11, some 12, some 13, some 14, some 15, some 16, some 17, some 18, some 19, some 20, some 21, some 22, some 23, some 24, some 25, some 26, some 27, some 28, some 29, some 30, some 31, some 32, some 33, some 34, some 35, some 36, some 37, some 38, some 39, some 40, some 41, some 42, some 43, some 44, some 45, some 46, some 47, some 48, some 49, some 50, some 51, some 52, some 53, some 54, some 55, some 56, some 57, some 58, some 59, some 60, some 61, some 62, some 63, some 64, some 65, some 66, some 67, some 68, some 69, some 70, some 71] (by decide +kernel) (Nat.le_of_ble_eq_true rfl) (fun _ => rfl) (fun _ => rfl) (fun _ => rfl) rfl rfl rfl rfl (hl.1) rfl (Nat.le_of_ble_eq_true rfl) dX11_thingOf_20 ⟨Nat.zero_le _, Nat.zero_le _⟩ (fun r4 σ3 H locs hf hP hD hS => ?_)
    obtain ⟨hi1, hi2⟩ := Prod.mk.inj (Option.some.inj hf)
    subst hi1
    subst hi2
    exact hret _ _ _ _ dX11_thingOf_23 rfl hP hS
  refine lv_if_eq (tgt := 17) hx hb dX11_thingOf_5 (by decide) (fun h5 => ?_) (fun h5 => ?_)
  · have hf := (if_pos h5).symm.trans hf
    exact Jj2  _ _ _ hP hD hS (lv_sub hl [0] rfl) hf
  · have hf := (if_neg h5).symm.trans hf
    refine lv_iload_n hx hb dX11_thingOf_8 rfl (lv_at hl 2 rfl) ?_
    refine lv_iconst (v := 0) hx hb dX11_thingOf_9 (by decide) ?_
    refine lv_iconst (v := 4) hx hb dX11_thingOf_10 (by decide) ?_
    refine q_cSr (wf := (wX11 cI cZ cS ad)) (rest := []) ⟨hx, hb, hml, hown, hts⟩ hK hZ hA hP hD hS hf (fun x ho => kX11_within l D cI cZ cS zz a2 (0 : Int32) (4 : Int32) x ho) (va_cwS 3 hts gX11_thingOf_X11_within rfl rfl rfl ndX11_within.2 ⟨Nat.le_of_ble_eq_true rfl, Nat.le_of_ble_eq_true rfl⟩) rfl (hl.1) rfl (Nat.le_of_ble_eq_true rfl) dX11_thingOf_11 ⟨Nat.zero_le _, Nat.zero_le _⟩ (fun r6 H locs hf hP hD hS => ?_)
    refine lv_if_ne (tgt := 24) hx hb dX11_thingOf_14 (by decide) (fun h7 => ?_) (fun h7 => ?_)
    · have hf := (if_neg h7).symm.trans hf
      refine lv_aload_n hx hb dX11_thingOf_24 rfl (lv_at hl 0 rfl) ?_
      refine va_get (D := D) (ci := 11) (C := RX11) (T := TX11) (N := 9) hx hb hts fwX11_thingOf_X11 hown hK hP 0 rfl rfl 1 (by decide) (hts _ (List.mem_of_getElem? (i := 2) rfl)) (fun _ h9 => h9) rfl dX11_thingOf_25 ?_
      refine va_get (D := D) (ci := 2) (C := RX2) (T := TX2) (N := 4) hx hb hts fwX11_thingOf_X2 hown hK hP 2 rfl rfl 0 (by decide) (hts _ (List.mem_of_getElem? (i := 3) rfl)) (fun _ h9 => h9) rfl dX11_thingOf_28 ?_
      refine va_get (D := D) (ci := 0) (C := RX0) (T := TX0) (N := 13) hx hb hts fwX11_thingOf_X0 hown hK hP 3 rfl rfl 2 (by decide) (hts _ (List.mem_of_getElem? (i := 4) rfl)) (fun _ h9 => h9) rfl dX11_thingOf_31 ?_
      refine lv_astore_n (lv' := [(3, .ref (ad 11)), (0, .ref (ad 0)), (1, .int a1), (2, .int a2)]) hx hb dX11_thingOf_34 rfl hl (by decide) rfl (fun ls hl => ?_)
      refine lv_iload_n hx hb dX11_thingOf_35 rfl (lv_at hl 3 rfl) ?_
      by_cases h8 : a2 = (0 : Int32)
      · have hf := (if_pos h8).symm.trans hf
        refine lv_tableIn (tgt := 68) hx hb dX11_thingOf_36 (by rw [h8]; decide) (by rw [h8]; decide) (by rw [h8]; rfl) (by decide) ?_
        refine lv_aload_n hx hb dX11_thingOf_68 rfl (lv_at hl 0 rfl) ?_
        refine va_get (D := D) (ci := 9) (C := RX9) (T := TX9) (N := 6) hx hb hts fwX11_thingOf_X9 hown hK hP 11 rfl rfl 1 (by decide) (hts _ (List.mem_of_getElem? (i := 5) rfl)) (fun _ h9 => h9) rfl dX11_thingOf_69 ?_
        refine lv_iload_n hx hb dX11_thingOf_72 rfl (lv_at hl 2 rfl) ?_
        refine w_iald (wf := (wX11 cI cZ cS ad)) hx hb hK hP 12 0 rfl rfl hf dX11_thingOf_73 (fun v9 hf => ?_)
        obtain ⟨hi1, hi2⟩ := Prod.mk.inj (Option.some.inj hf)
        subst hi1
        subst hi2
        exact hret _ _ _ _ dX11_thingOf_74 rfl hP hS
      have hf := (if_neg h8).symm.trans hf
      by_cases h10 : a2 = (1 : Int32)
      · have hf := (if_pos h10).symm.trans hf
        refine lv_tableIn (tgt := 75) hx hb dX11_thingOf_36 (by rw [h10]; decide) (by rw [h10]; decide) (by rw [h10]; rfl) (by decide) ?_
        refine lv_aload_n hx hb dX11_thingOf_75 rfl (lv_at hl 0 rfl) ?_
        refine va_get (D := D) (ci := 9) (C := RX9) (T := TX9) (N := 6) hx hb hts fwX11_thingOf_X9 hown hK hP 11 rfl rfl 2 (by decide) (hts _ (List.mem_of_getElem? (i := 6) rfl)) (fun _ h9 => h9) rfl dX11_thingOf_76 ?_
        refine lv_iload_n hx hb dX11_thingOf_79 rfl (lv_at hl 2 rfl) ?_
        refine w_iald (wf := (wX11 cI cZ cS ad)) hx hb hK hP 13 0 rfl rfl hf dX11_thingOf_80 (fun v11 hf => ?_)
        obtain ⟨hi1, hi2⟩ := Prod.mk.inj (Option.some.inj hf)
        subst hi1
        subst hi2
        exact hret _ _ _ _ dX11_thingOf_81 rfl hP hS
      have hf := (if_neg h10).symm.trans hf
      by_cases h12 : a2 = (2 : Int32)
      · have hf := (if_pos h12).symm.trans hf
        refine lv_tableIn (tgt := 82) hx hb dX11_thingOf_36 (by rw [h12]; decide) (by rw [h12]; decide) (by rw [h12]; rfl) (by decide) ?_
        refine lv_aload_n hx hb dX11_thingOf_82 rfl (lv_at hl 0 rfl) ?_
        refine va_get (D := D) (ci := 9) (C := RX9) (T := TX9) (N := 6) hx hb hts fwX11_thingOf_X9 hown hK hP 11 rfl rfl 3 (by decide) (hts _ (List.mem_of_getElem? (i := 7) rfl)) (fun _ h9 => h9) rfl dX11_thingOf_83 ?_
        refine lv_iload_n hx hb dX11_thingOf_86 rfl (lv_at hl 2 rfl) ?_
        refine w_iald (wf := (wX11 cI cZ cS ad)) hx hb hK hP 14 0 rfl rfl hf dX11_thingOf_87 (fun v13 hf => ?_)
        obtain ⟨hi1, hi2⟩ := Prod.mk.inj (Option.some.inj hf)
        subst hi1
        subst hi2
        exact hret _ _ _ _ dX11_thingOf_88 rfl hP hS
      have hf := (if_neg h12).symm.trans hf
      by_cases h14 : a2 = (3 : Int32)
      · have hf := (if_pos h14).symm.trans hf
        refine lv_tableIn (tgt := 89) hx hb dX11_thingOf_36 (by rw [h14]; decide) (by rw [h14]; decide) (by rw [h14]; rfl) (by decide) ?_
        refine lv_aload_n hx hb dX11_thingOf_89 rfl (lv_at hl 0 rfl) ?_
        refine lv_iload_n hx hb dX11_thingOf_90 rfl (lv_at hl 2 rfl) ?_
        refine q_cVr (wf := (wX11 cI cZ cS ad)) (wc := wX9 cI cZ cS (fun i => ad (11 + i))) (rest := []) ⟨hx, hb, hml, hown, hts⟩ hK hZ hA hP hD hS hf (fun x ho => kX9_isLifted l D cI cZ cS zz (fun i => ad (11 + i)) (q_sb σ 11) a1 x ho) (cwV 1 hts gX11_thingOf_X9_isLifted rfl rfl rfl ndX9_isLifted ⟨Nat.le_of_ble_eq_true rfl, Nat.le_of_ble_eq_true rfl⟩) [11, 12, 13, 14] rfl rfl rfl rfl rfl rfl (hl.1) rfl (Nat.le_of_ble_eq_true rfl) dX11_thingOf_91 ⟨Nat.zero_le _, Nat.zero_le _⟩ (fun r15 H locs hf hP hD hS => ?_)
        refine q_cSr (wf := (wX11 cI cZ cS ad)) (rest := []) ⟨hx, hb, hml, hown, hts⟩ hK hZ hA hP hD hS hf (fun x ho => kX11_bit l D cI cZ cS zz r15 x ho) (va_cwS 1 hts gX11_thingOf_X11_bit rfl rfl rfl ndX11_bit.2 ⟨Nat.le_of_ble_eq_true rfl, Nat.le_of_ble_eq_true rfl⟩) rfl (hl.1) rfl (Nat.le_of_ble_eq_true rfl) dX11_thingOf_94 ⟨Nat.zero_le _, Nat.zero_le _⟩ (fun r16 H locs hf hP hD hS => ?_)
        obtain ⟨hi1, hi2⟩ := Prod.mk.inj (Option.some.inj hf)
        subst hi1
        subst hi2
        exact hret _ _ _ _ dX11_thingOf_97 rfl hP hS
      have hf := (if_neg h14).symm.trans hf
      refine lv_tableOut (tgt := 98) hx hb dX11_thingOf_36 (by have := q_ne h8 (z := 0) rfl; have := q_ne h10 (z := 1) rfl; have := q_ne h12 (z := 2) rfl; have := q_ne h14 (z := 3) rfl; omega) (by decide) ?_
      refine lv_aload_n hx hb dX11_thingOf_98 rfl (lv_at hl 0 rfl) ?_
      refine lv_iload_n hx hb dX11_thingOf_99 rfl (lv_at hl 2 rfl) ?_
      refine q_cVr (wf := (wX11 cI cZ cS ad)) (wc := wX9 cI cZ cS (fun i => ad (11 + i))) (rest := []) ⟨hx, hb, hml, hown, hts⟩ hK hZ hA hP hD hS hf (fun x ho => kX9_isHarmed l D cI cZ cS zz (fun i => ad (11 + i)) (q_sb σ 11) a1 x ho) (cwV 1 hts gX11_thingOf_X9_isHarmed rfl rfl rfl ndX9_isHarmed ⟨Nat.le_of_ble_eq_true rfl, Nat.le_of_ble_eq_true rfl⟩) [11, 12, 13, 14] rfl rfl rfl rfl rfl rfl (hl.1) rfl (Nat.le_of_ble_eq_true rfl) dX11_thingOf_100 ⟨Nat.zero_le _, Nat.zero_le _⟩ (fun r17 H locs hf hP hD hS => ?_)
      refine q_cSr (wf := (wX11 cI cZ cS ad)) (rest := []) ⟨hx, hb, hml, hown, hts⟩ hK hZ hA hP hD hS hf (fun x ho => kX11_bit l D cI cZ cS zz r17 x ho) (va_cwS 1 hts gX11_thingOf_X11_bit rfl rfl rfl ndX11_bit.2 ⟨Nat.le_of_ble_eq_true rfl, Nat.le_of_ble_eq_true rfl⟩) rfl (hl.1) rfl (Nat.le_of_ble_eq_true rfl) dX11_thingOf_103 ⟨Nat.zero_le _, Nat.zero_le _⟩ (fun r18 H locs hf hP hD hS => ?_)
      obtain ⟨hi1, hi2⟩ := Prod.mk.inj (Option.some.inj hf)
      subst hi1
      subst hi2
      exact hret _ _ _ _ dX11_thingOf_106 rfl hP hS
    · have hf := (if_pos h7).symm.trans hf
      exact Jj2  _ _ _ hP hD hS (lv_sub hl [0] rfl) hf
def pX11_lift (σ : SS) (a1 : Int32) : Option (Int32 × SS) := q_cr (pX11_isThing σ a1) (fun (r1 : Int32) => (if r1 = (0 : Int32) then q_ci (pX11_tell σ (-1000001 : Int32)) (fun (τ : SS) => τ) (fun (r14 : Int32) (σ13 : SS) => some (r14, σ13)) else q_cr (pX9_isLifted (q_sb σ 11) a1) (fun (r3 : Int32) => q_lt (q_ci (pX11_tell σ (-1000005 : Int32)) (fun (τ : SS) => τ) (fun (r6 : Int32) (σ5 : SS) => some (r6, σ5))) (fun j4 => (if r3 = (0 : Int32) then q_cr (pX9_isHarmed (q_sb σ 11) a1) (fun (r8 : Int32) => (if r8 = (0 : Int32) then q_rd (σ 13) 10 a1 (fun (v10 : Int32) => q_cs (pX0_passMinutes (q_sb σ 3) v10) (fun (τ : SS) => (q_em σ 3 0 13 τ)) (fun (σ11 : SS) => q_lt (su σ11 11 4 ((σ11 11 4) ||| ((1 : Int32) <<< (a1 &&& (31 : Int32))))) (fun (σ12 : SS) => some ((σ12 3 8), σ12)))) else j4)) else j4)))))
theorem fwX11_lift_X0 : ∀ w ∈ wsX00, w ∈ wsX11_lift := fun _ h => List.mem_cons_of_mem _ (List.mem_append_left _ (List.mem_append_left _ (List.mem_append_left _ (List.mem_append_right _ h))))
theorem fwX11_lift_X11 : ∀ w ∈ wsX110, w ∈ wsX11_lift := fun _ h => List.mem_cons_of_mem _ (List.mem_append_left _ (List.mem_append_left _ (List.mem_append_left _ (List.mem_append_left _ (List.mem_append_left _ (List.mem_append_right _ h))))))
theorem fwX11_lift_X2 : ∀ w ∈ wsX20, w ∈ wsX11_lift := fun _ h => List.mem_cons_of_mem _ (List.mem_append_left _ (List.mem_append_left _ (List.mem_append_left _ (List.mem_append_left _ (List.mem_append_right _ h)))))
theorem fwX11_lift_X9 : ∀ w ∈ wsX90, w ∈ wsX11_lift := fun _ h => List.mem_cons_of_mem _ (List.mem_append_left _ (List.mem_append_left _ (List.mem_append_right _ h)))
abbrev rmX11_lift : Room := { frames := 5, cells := 0, slots := 0, locals := 114 }
set_option maxHeartbeats 4000000 in
set_option maxRecDepth 100000 in
theorem kX11_lift (l : Launch) (D : va_G) (cI cZ cS : ClassId) (zz : ZT) (ad : Nat → Nat) (σ : SS) (a1 : Int32) (rr : Int32) (σr : SS) (hf : pX11_lift σ a1 = some (rr, σr)) : CI l yX11_lift wsX11_lift rmX11_lift D (K3 cI cZ cS) zz [.ref (ad 0), .int a1] (wX11 cI cZ cS ad σ) (wX11 cI cZ cS ad σr) rr := by
  refine q_ofI (cc := cX11_lift) (maxL := 3) (ty := .int) (by decide) rfl (Nat.le_of_ble_eq_true rfl) ?_
  intro p e s m below meth c Q A ls hx hb hml hown hts hK hZ hA hP hD hS hl hret
  have hl : lv_has ls 3 [(0, .ref (ad 0)), (1, .int a1)] := hl
  unfold pX11_lift at hf
  refine lv_aload_n hx hb dX11_lift_0 rfl (lv_at hl 0 rfl) ?_
  refine lv_iload_n hx hb dX11_lift_1 rfl (lv_at hl 1 rfl) ?_
  refine q_cVr (wf := (wX11 cI cZ cS ad)) (wc := wX11 cI cZ cS ad) (rest := []) ⟨hx, hb, hml, hown, hts⟩ hK hZ hA hP hD hS hf (fun x ho => kX11_isThing l D cI cZ cS zz ad σ a1 x ho) (cwV 1 hts gX11_lift_X11_isThing rfl rfl rfl ndX11_isThing ⟨Nat.le_of_ble_eq_true rfl, Nat.le_of_ble_eq_true rfl⟩) [0, 1, 2, 3, 4, 5, 6, 7, 8, 9, 10, 11, 12, 13, 14, 15, 16, 17, 18, 19, 20, 21, 22, 23, 24, 25, 26, 27, 28, 29, 30, 31, 32, 33, 34, 35, 36, 37, 38, 39, 40, 41, 42, 43, 44, 45, 46, 47, 48, 49, 50, 51, 52, 53, 54, 55, 56, 57, 58, 59, 60, 61, 62, 63, 64, 65, 66, 67, 68, 69, 70, 71] rfl rfl rfl rfl rfl rfl (hl.1) rfl (Nat.le_of_ble_eq_true rfl) dX11_lift_2 ⟨Nat.zero_le _, Nat.zero_le _⟩ (fun r1 H locs hf hP hD hS => ?_)
  refine lv_if_ne (tgt := 15) hx hb dX11_lift_5 (by decide) (fun h2 => ?_) (fun h2 => ?_)
  · have hf := (if_neg h2).symm.trans hf
    refine lv_aload_n hx hb dX11_lift_15 rfl (lv_at hl 0 rfl) ?_
    refine va_get (D := D) (ci := 11) (C := RX11) (T := TX11) (N := 9) hx hb hts fwX11_lift_X11 hown hK hP 0 rfl rfl 1 (by decide) (hts _ (List.mem_of_getElem? (i := 2) rfl)) (fun _ h9 => h9) rfl dX11_lift_16 ?_
    refine va_get (D := D) (ci := 2) (C := RX2) (T := TX2) (N := 4) hx hb hts fwX11_lift_X2 hown hK hP 2 rfl rfl 0 (by decide) (hts _ (List.mem_of_getElem? (i := 3) rfl)) (fun _ h9 => h9) rfl dX11_lift_19 ?_
    refine va_get (D := D) (ci := 0) (C := RX0) (T := TX0) (N := 13) hx hb hts fwX11_lift_X0 hown hK hP 3 rfl rfl 2 (by decide) (hts _ (List.mem_of_getElem? (i := 4) rfl)) (fun _ h9 => h9) rfl dX11_lift_22 ?_
    refine lv_astore_n (lv' := [(2, .ref (ad 11)), (0, .ref (ad 0)), (1, .int a1)]) hx hb dX11_lift_25 rfl hl (by decide) rfl (fun ls hl => ?_)
    refine lv_aload_n hx hb dX11_lift_26 rfl (lv_at hl 0 rfl) ?_
    refine lv_iload_n hx hb dX11_lift_27 rfl (lv_at hl 2 rfl) ?_
    refine q_cVr (wf := (wX11 cI cZ cS ad)) (wc := wX9 cI cZ cS (fun i => ad (11 + i))) (rest := []) ⟨hx, hb, hml, hown, hts⟩ hK hZ hA hP hD hS hf (fun x ho => kX9_isLifted l D cI cZ cS zz (fun i => ad (11 + i)) (q_sb σ 11) a1 x ho) (cwV 1 hts gX11_lift_X9_isLifted rfl rfl rfl ndX9_isLifted ⟨Nat.le_of_ble_eq_true rfl, Nat.le_of_ble_eq_true rfl⟩) [11, 12, 13, 14] rfl rfl rfl rfl rfl rfl (hl.1) rfl (Nat.le_of_ble_eq_true rfl) dX11_lift_28 ⟨Nat.zero_le _, Nat.zero_le _⟩ (fun r3 H locs hf hP hD hS => ?_)
    refine q_lt_go hf (fun j4 ej4 hf => ?_)
    have Jj4 : ∀ (H : Heap) (locs : List Loc) (ls : Array Slot), va_P D vwCl ((wX11 cI cZ cS ad) σ) H → va_D A ((wX11 cI cZ cS ad) σ) → va_S A s.heap H locs → lv_has ls 3 [(0, .ref (ad 0))] → j4 = some (rr, σr) → W p l e rmX11_lift s m ([.ref (ad 0), .int a1] : List Value).toArray below meth c H locs 0 0 Q (F0 m 42 ls []) := by
      intro  H locs ls hP hD hS hl hf
      have hf := ej4.symm.trans hf
      refine lv_aload_n hx hb dX11_lift_42 rfl (lv_at hl 0 rfl) ?_
      refine lv_ldc (v := -1000005) hx hb hown (hts _ (List.mem_of_getElem? (i := 5) rfl)) dX11_lift_43 ?_
      refine q_cVi (wf := (wX11 cI cZ cS ad)) (wc := wX11 cI cZ cS ad) (rest := []) ⟨hx, hb, hml, hown, hts⟩ hK hZ hA hP hD hS hf (fun x τ ho => kX11_tell l D cI cZ cS zz ad σ (-1000005 : Int32) x τ ho) (cwV 1 hts gX11_lift_X11_tell rfl rfl rfl ndX11_tell ⟨Nat.le_of_ble_eq_true rfl, Nat.le_of_ble_eq_true rfl⟩) [0, 1, 2, 3, 4, 5, 6, 7, 8, 9, 10, 11, 12, 13, 14, 15, 16, 17, 18, 19, 20, 21, 22, 23, 24, 25, 26, 27, 28, 29, 30, 31, 32, 33, 34, 35, 36, 37, 38, 39, 40, 41, 42, 43, 44, 45, 46, 47, 48, 49, 50, 51, 52, 53, 54, 55, 56, 57, 58, 59, 60, 61, 62, 63, 64, 65, 66, 67, 68, 69, 70, 71] rfl rfl [some 0, some 1, some 2, some 3, some 4, some 5, some 6, some 7, some 8, some 9, some 10, some 11, some 12, some 13, some 14, some 15, some 16, some 17, some 18, some 19, some 20, some 21, some 22, some 23, some 24, some 25, some 26, some 27, some 28, some 29, some 30, some 31, some 32, some 33, some 34, some 35, some 36, some 37, some 38, some 39, some 40, some 41, some 42, some 43, some 44, some 45, some 46, some 47, some 48, some 49, some 50, some 51, some 52, some 53, some 54, some 55, some 56, some 57, some 58, some 59, some 60, some 61, some 62, some 63, some 64, some 65, some 66, some 67, some 68, some 69, some 70, some 71] (by decide +kernel) (Nat.le_of_ble_eq_true rfl) (fun _ => rfl) (fun _ => rfl) (fun _ => rfl) rfl rfl rfl rfl (hl.1) rfl (Nat.le_of_ble_eq_true rfl) dX11_lift_45 ⟨Nat.zero_le _, Nat.zero_le _⟩ (fun r6 σ5 H locs hf hP hD hS => ?_)
      obtain ⟨hi1, hi2⟩ := Prod.mk.inj (Option.some.inj hf)
      subst hi1
      subst hi2
      exact hret _ _ _ _ dX11_lift_48 rfl hP hS
    refine lv_if_ne (tgt := 42) hx hb dX11_lift_31 (by decide) (fun h7 => ?_) (fun h7 => ?_)
    · have hf := (if_neg h7).symm.trans hf
      exact Jj4  _ _ _ hP hD hS (lv_sub hl [1] rfl) hf
    · have hf := (if_pos h7).symm.trans hf
      refine lv_aload_n hx hb dX11_lift_34 rfl (lv_at hl 0 rfl) ?_
      refine lv_iload_n hx hb dX11_lift_35 rfl (lv_at hl 2 rfl) ?_
      refine q_cVr (wf := (wX11 cI cZ cS ad)) (wc := wX9 cI cZ cS (fun i => ad (11 + i))) (rest := []) ⟨hx, hb, hml, hown, hts⟩ hK hZ hA hP hD hS hf (fun x ho => kX9_isHarmed l D cI cZ cS zz (fun i => ad (11 + i)) (q_sb σ 11) a1 x ho) (cwV 1 hts gX11_lift_X9_isHarmed rfl rfl rfl ndX9_isHarmed ⟨Nat.le_of_ble_eq_true rfl, Nat.le_of_ble_eq_true rfl⟩) [11, 12, 13, 14] rfl rfl rfl rfl rfl rfl (hl.1) rfl (Nat.le_of_ble_eq_true rfl) dX11_lift_36 ⟨Nat.zero_le _, Nat.zero_le _⟩ (fun r8 H locs hf hP hD hS => ?_)
      refine lv_if_eq (tgt := 49) hx hb dX11_lift_39 (by decide) (fun h9 => ?_) (fun h9 => ?_)
      · have hf := (if_pos h9).symm.trans hf
        refine lv_aload_n hx hb dX11_lift_49 rfl (lv_at hl 1 rfl) ?_
        refine va_get (D := D) (ci := 11) (C := RX11) (T := TX11) (N := 9) hx hb hts fwX11_lift_X11 hown hK hP 0 rfl rfl 1 (by decide) (hts _ (List.mem_of_getElem? (i := 2) rfl)) (fun _ h9 => h9) rfl dX11_lift_50 ?_
        refine va_get (D := D) (ci := 2) (C := RX2) (T := TX2) (N := 4) hx hb hts fwX11_lift_X2 hown hK hP 2 rfl rfl 0 (by decide) (hts _ (List.mem_of_getElem? (i := 3) rfl)) (fun _ h9 => h9) rfl dX11_lift_53 ?_
        refine lv_aload_n hx hb dX11_lift_56 rfl (lv_at hl 0 rfl) ?_
        refine va_get (D := D) (ci := 9) (C := RX9) (T := TX9) (N := 6) hx hb hts fwX11_lift_X9 hown hK hP 11 rfl rfl 2 (by decide) (hts _ (List.mem_of_getElem? (i := 6) rfl)) (fun _ h9 => h9) rfl dX11_lift_57 ?_
        refine lv_iload_n hx hb dX11_lift_60 rfl (lv_at hl 2 rfl) ?_
        refine w_iald (wf := (wX11 cI cZ cS ad)) hx hb hK hP 13 0 rfl rfl hf dX11_lift_61 (fun v10 hf => ?_)
        refine q_cVv (wf := (wX11 cI cZ cS ad)) (wc := wX0 cI cZ cS (fun i => ad (3 + i))) (rest := []) ⟨hx, hb, hml, hown, hts⟩ hK hZ hA hP hD hS hf (fun x ho => kX0_passMinutes l D cI cZ cS zz (fun i => ad (3 + i)) (q_sb σ 3) v10 x ho) (cwV 1 hts gX11_lift_X0_passMinutes rfl rfl rfl ndX0_passMinutes ⟨Nat.le_of_ble_eq_true rfl, Nat.le_of_ble_eq_true rfl⟩) [3, 4, 5, 6, 7, 8, 9, 10, 11, 12, 13, 14, 15] rfl rfl [none, none, none, some 0, some 1, some 2, some 3, some 4, some 5, some 6, some 7, some 8, some 9, some 10, some 11, some 12, none, none, none, none, none, none, none, none, none, none, none, none, none, none, none, none, none, none, none, none, none, none, none, none, none, none, none, none, none, none, none, none, none, none, none, none, none, none, none, none, none, none, none, none, none, none, none, none, none, none, none, none, none, none, none, none] (by decide +kernel) (Nat.le_of_ble_eq_true rfl) (fun _ => rfl) (fun _ => rfl) (fun _ => rfl) rfl rfl rfl rfl (hl.1) rfl (Nat.le_of_ble_eq_true rfl) dX11_lift_62 ⟨Nat.zero_le _, Nat.zero_le _⟩ (fun σ11 H locs hf hP hD hS => ?_)
        refine lv_aload_n hx hb dX11_lift_65 rfl (lv_at hl 0 rfl) ?_
        refine lv_dup hx hb dX11_lift_66 rfl ?_
        refine va_get (D := D) (ci := 9) (C := RX9) (T := TX9) (N := 6) hx hb hts fwX11_lift_X9 hown hK hP 11 rfl rfl 4 (by decide) (hts _ (List.mem_of_getElem? (i := 7) rfl)) (fun _ h9 => h9) rfl dX11_lift_67 ?_
        refine lv_iconst (v := 1) hx hb dX11_lift_70 (by decide) ?_
        refine lv_iload_n hx hb dX11_lift_71 rfl (lv_at hl 2 rfl) ?_
        refine lv_ishl hx hb dX11_lift_72 ?_
        refine lv_ior hx hb dX11_lift_73 ?_
        refine w_put (D := D) (wf := (wX11 cI cZ cS ad)) (cid := 11) (ci := 9) (C := RX9) (T := TX9) (N := 6) hx hb hts fwX11_lift_X9 tyX9 tyX9_ok nmX9 hown hK hP hD hS 11 rfl rfl 4 (by decide) (hts _ (List.mem_of_getElem? (i := 7) rfl)) (fun _ h9 => h9) rfl (tyX9_ok 4 (by decide)) (Nat.le_of_ble_eq_true rfl) hf rfl dX11_lift_74 (fun σ12 H locs hf hP hD hS => ?_)
        refine lv_aload_n hx hb dX11_lift_77 rfl (lv_at hl 1 rfl) ?_
        refine va_get (D := D) (ci := 11) (C := RX11) (T := TX11) (N := 9) hx hb hts fwX11_lift_X11 hown hK hP 0 rfl rfl 1 (by decide) (hts _ (List.mem_of_getElem? (i := 2) rfl)) (fun _ h9 => h9) rfl dX11_lift_78 ?_
        refine va_get (D := D) (ci := 2) (C := RX2) (T := TX2) (N := 4) hx hb hts fwX11_lift_X2 hown hK hP 2 rfl rfl 0 (by decide) (hts _ (List.mem_of_getElem? (i := 3) rfl)) (fun _ h9 => h9) rfl dX11_lift_81 ?_
        refine va_get (D := D) (ci := 0) (C := RX0) (T := TX0) (N := 13) hx hb hts fwX11_lift_X0 hown hK hP 3 rfl rfl 8 (by decide) (hts _ (List.mem_of_getElem? (i := 8) rfl)) (fun _ h9 => h9) rfl dX11_lift_84 ?_
        obtain ⟨hi1, hi2⟩ := Prod.mk.inj (Option.some.inj hf)
        subst hi1
        subst hi2
        exact hret _ _ _ _ dX11_lift_87 rfl hP hS
      · have hf := (if_neg h9).symm.trans hf
        exact Jj4  _ _ _ hP hD hS (lv_sub hl [1] rfl) hf
  · have hf := (if_pos h2).symm.trans hf
    refine lv_aload_n hx hb dX11_lift_8 rfl (lv_at hl 0 rfl) ?_
    refine lv_ldc (v := -1000001) hx hb hown (hts _ (List.mem_of_getElem? (i := 1) rfl)) dX11_lift_9 ?_
    refine q_cVi (wf := (wX11 cI cZ cS ad)) (wc := wX11 cI cZ cS ad) (rest := []) ⟨hx, hb, hml, hown, hts⟩ hK hZ hA hP hD hS hf (fun x τ ho => kX11_tell l D cI cZ cS zz ad σ (-1000001 : Int32) x τ ho) (cwV 1 hts gX11_lift_X11_tell rfl rfl rfl ndX11_tell ⟨Nat.le_of_ble_eq_true rfl, Nat.le_of_ble_eq_true rfl⟩) [0, 1, 2, 3, 4, 5, 6, 7, 8, 9, 10, 11, 12, 13, 14, 15, 16, 17, 18, 19, 20, 21, 22, 23, 24, 25, 26, 27, 28, 29, 30, 31, 32, 33, 34, 35, 36, 37, 38, 39, 40, 41, 42, 43, 44, 45, 46, 47, 48, 49, 50, 51, 52, 53, 54, 55, 56, 57, 58, 59, 60, 61, 62, 63, 64, 65, 66, 67, 68, 69, 70, 71] rfl rfl [some 0, some 1, some 2, some 3, some 4, some 5, some 6, some 7, some 8, some 9, some 10, some 11, some 12, some 13, some 14, some 15, some 16, some 17, some 18, some 19, some 20, some 21, some 22, some 23, some 24, some 25, some 26, some 27, some 28, some 29, some 30, some 31, some 32, some 33, some 34, some 35, some 36, some 37, some 38, some 39, some 40, some 41, some 42, some 43, some 44, some 45, some 46, some 47, some 48, some 49, some 50, some 51, some 52, some 53, some 54, some 55, some 56, some 57, some 58, some 59, some 60, some 61, some 62, some 63, some 64, some 65, some 66, some 67, some 68, some 69, some 70, some 71] (by decide +kernel) (Nat.le_of_ble_eq_true rfl) (fun _ => rfl) (fun _ => rfl) (fun _ => rfl) rfl rfl rfl rfl (hl.1) rfl (Nat.le_of_ble_eq_true rfl) dX11_lift_11 ⟨Nat.zero_le _, Nat.zero_le _⟩ (fun r14 σ13 H locs hf hP hD hS => ?_)
    obtain ⟨hi1, hi2⟩ := Prod.mk.inj (Option.some.inj hf)
    subst hi1
    subst hi2
    exact hret _ _ _ _ dX11_lift_14 rfl hP hS
def pX11_down (σ : SS) (a1 : Int32) (a2 : Int32) : Option (Int32 × SS) := q_cr (pX11_isThing σ a1) (fun (r1 : Int32) => q_lt (q_ci (pX11_tell σ (-1000001 : Int32)) (fun (τ : SS) => τ) (fun (r4 : Int32) (σ3 : SS) => some (r4, σ3))) (fun j2 => (if r1 = (0 : Int32) then j2 else q_cr (pX11_within a2 (0 : Int32) (999 : Int32)) (fun (r6 : Int32) => (if r6 = (0 : Int32) then j2 else q_cr (pX9_isLifted (q_sb σ 11) a1) (fun (r8 : Int32) => q_cr (pX11_bit r8) (fun (r9 : Int32) => q_wr σ 14 10 a1 a2 (fun (σ10 : SS) => q_lt (su σ10 11 4 ((σ10 11 4) &&& (((1 : Int32) <<< (a1 &&& (31 : Int32))) ^^^ (-1 : Int32)))) (fun (σ11 : SS) => some (r9, σ11))))))))))
theorem fwX11_down_X0 : ∀ w ∈ wsX00, w ∈ wsX11_down := fun _ h => List.mem_cons_of_mem _ (List.mem_append_left _ (List.mem_append_right _ h))
theorem fwX11_down_X11 : ∀ w ∈ wsX110, w ∈ wsX11_down := fun _ h => List.mem_cons_of_mem _ (List.mem_append_left _ (List.mem_append_left _ (List.mem_append_left _ (List.mem_append_right _ h))))
theorem fwX11_down_X2 : ∀ w ∈ wsX20, w ∈ wsX11_down := fun _ h => List.mem_cons_of_mem _ (List.mem_append_left _ (List.mem_append_left _ (List.mem_append_right _ h)))
theorem fwX11_down_X9 : ∀ w ∈ wsX90, w ∈ wsX11_down := fun _ h => List.mem_cons_of_mem _ (List.mem_append_right _ h)
abbrev rmX11_down : Room := { frames := 2, cells := 0, slots := 0, locals := 43 }
set_option maxHeartbeats 4000000 in
set_option maxRecDepth 100000 in
theorem kX11_down (l : Launch) (D : va_G) (cI cZ cS : ClassId) (zz : ZT) (ad : Nat → Nat) (σ : SS) (a1 : Int32) (a2 : Int32) (rr : Int32) (σr : SS) (hf : pX11_down σ a1 a2 = some (rr, σr)) : CI l yX11_down wsX11_down rmX11_down D (K3 cI cZ cS) zz [.ref (ad 0), .int a1, .int a2] (wX11 cI cZ cS ad σ) (wX11 cI cZ cS ad σr) rr := by
  refine q_ofI (cc := cX11_down) (maxL := 5) (ty := .int) (by decide) rfl (Nat.le_of_ble_eq_true rfl) ?_
  intro p e s m below meth c Q A ls hx hb hml hown hts hK hZ hA hP hD hS hl hret
  have hl : lv_has ls 5 [(0, .ref (ad 0)), (1, .int a1), (2, .int a2)] := hl
  unfold pX11_down at hf
  refine lv_aload_n hx hb dX11_down_0 rfl (lv_at hl 0 rfl) ?_
  refine lv_iload_n hx hb dX11_down_1 rfl (lv_at hl 1 rfl) ?_
  refine q_cVr (wf := (wX11 cI cZ cS ad)) (wc := wX11 cI cZ cS ad) (rest := []) ⟨hx, hb, hml, hown, hts⟩ hK hZ hA hP hD hS hf (fun x ho => kX11_isThing l D cI cZ cS zz ad σ a1 x ho) (cwV 1 hts gX11_down_X11_isThing rfl rfl rfl ndX11_isThing ⟨Nat.le_of_ble_eq_true rfl, Nat.le_of_ble_eq_true rfl⟩) [0, 1, 2, 3, 4, 5, 6, 7, 8, 9, 10, 11, 12, 13, 14, 15, 16, 17, 18, 19, 20, 21, 22, 23, 24, 25, 26, 27, 28, 29, 30, 31, 32, 33, 34, 35, 36, 37, 38, 39, 40, 41, 42, 43, 44, 45, 46, 47, 48, 49, 50, 51, 52, 53, 54, 55, 56, 57, 58, 59, 60, 61, 62, 63, 64, 65, 66, 67, 68, 69, 70, 71] rfl rfl rfl rfl rfl rfl (hl.1) rfl (Nat.le_of_ble_eq_true rfl) dX11_down_2 ⟨Nat.zero_le _, Nat.zero_le _⟩ (fun r1 H locs hf hP hD hS => ?_)
  refine q_lt_go hf (fun j2 ej2 hf => ?_)
  have Jj2 : ∀ (H : Heap) (locs : List Loc) (ls : Array Slot), va_P D vwCl ((wX11 cI cZ cS ad) σ) H → va_D A ((wX11 cI cZ cS ad) σ) → va_S A s.heap H locs → lv_has ls 5 [(0, .ref (ad 0))] → j2 = some (rr, σr) → W p l e rmX11_down s m ([.ref (ad 0), .int a1, .int a2] : List Value).toArray below meth c H locs 0 0 Q (F0 m 19 ls []) := by
    intro  H locs ls hP hD hS hl hf
    have hf := ej2.symm.trans hf
    refine lv_aload_n hx hb dX11_down_19 rfl (lv_at hl 0 rfl) ?_
    refine lv_ldc (v := -1000001) hx hb hown (hts _ (List.mem_of_getElem? (i := 1) rfl)) dX11_down_20 ?_
    refine q_cVi (wf := (wX11 cI cZ cS ad)) (wc := wX11 cI cZ cS ad) (rest := []) ⟨hx, hb, hml, hown, hts⟩ hK hZ hA hP hD hS hf (fun x τ ho => kX11_tell l D cI cZ cS zz ad σ (-1000001 : Int32) x τ ho) (cwV 1 hts gX11_down_X11_tell rfl rfl rfl ndX11_tell ⟨Nat.le_of_ble_eq_true rfl, Nat.le_of_ble_eq_true rfl⟩) [0, 1, 2, 3, 4, 5, 6, 7, 8, 9, 10, 11, 12, 13, 14, 15, 16, 17, 18, 19, 20, 21, 22, 23, 24, 25, 26, 27, 28, 29, 30, 31, 32, 33, 34, 35, 36, 37, 38, 39, 40, 41, 42, 43, 44, 45, 46, 47, 48, 49, 50, 51, 52, 53, 54, 55, 56, 57, 58, 59, 60, 61, 62, 63, 64, 65, 66, 67, 68, 69, 70, 71] rfl rfl [some 0, some 1, some 2, some 3, some 4, some 5, some 6, some 7, some 8, some 9, some 10, some 11, some 12, some 13, some 14, some 15, some 16, some 17, some 18, some 19, some 20, some 21, some 22, some 23, some 24, some 25, some 26, some 27, some 28, some 29, some 30, some 31, some 32, some 33, some 34, some 35, some 36, some 37, some 38, some 39, some 40, some 41, some 42, some 43, some 44, some 45, some 46, some 47, some 48, some 49, some 50, some 51, some 52, some 53, some 54, some 55, some 56, some 57, some 58, some 59, some 60, some 61, some 62, some 63, some 64, some 65, some 66, some 67, some 68, some 69, some 70, some 71] (by decide +kernel) (Nat.le_of_ble_eq_true rfl) (fun _ => rfl) (fun _ => rfl) (fun _ => rfl) rfl rfl rfl rfl (hl.1) rfl (Nat.le_of_ble_eq_true rfl) dX11_down_22 ⟨Nat.zero_le _, Nat.zero_le _⟩ (fun r4 σ3 H locs hf hP hD hS => ?_)
    obtain ⟨hi1, hi2⟩ := Prod.mk.inj (Option.some.inj hf)
    subst hi1
    subst hi2
    exact hret _ _ _ _ dX11_down_25 rfl hP hS
  refine lv_if_eq (tgt := 19) hx hb dX11_down_5 (by decide) (fun h5 => ?_) (fun h5 => ?_)
  · have hf := (if_pos h5).symm.trans hf
    exact Jj2  _ _ _ hP hD hS (lv_sub hl [0] rfl) hf
  · have hf := (if_neg h5).symm.trans hf
    refine lv_iload_n hx hb dX11_down_8 rfl (lv_at hl 2 rfl) ?_
    refine lv_iconst (v := 0) hx hb dX11_down_9 (by decide) ?_
    refine lv_sipush (v := 999) hx hb dX11_down_10 (by decide) ?_
    refine q_cSr (wf := (wX11 cI cZ cS ad)) (rest := []) ⟨hx, hb, hml, hown, hts⟩ hK hZ hA hP hD hS hf (fun x ho => kX11_within l D cI cZ cS zz a2 (0 : Int32) (999 : Int32) x ho) (va_cwS 3 hts gX11_down_X11_within rfl rfl rfl ndX11_within.2 ⟨Nat.le_of_ble_eq_true rfl, Nat.le_of_ble_eq_true rfl⟩) rfl (hl.1) rfl (Nat.le_of_ble_eq_true rfl) dX11_down_13 ⟨Nat.zero_le _, Nat.zero_le _⟩ (fun r6 H locs hf hP hD hS => ?_)
    refine lv_if_ne (tgt := 26) hx hb dX11_down_16 (by decide) (fun h7 => ?_) (fun h7 => ?_)
    · have hf := (if_neg h7).symm.trans hf
      refine lv_aload_n hx hb dX11_down_26 rfl (lv_at hl 0 rfl) ?_
      refine va_get (D := D) (ci := 11) (C := RX11) (T := TX11) (N := 9) hx hb hts fwX11_down_X11 hown hK hP 0 rfl rfl 1 (by decide) (hts _ (List.mem_of_getElem? (i := 2) rfl)) (fun _ h9 => h9) rfl dX11_down_27 ?_
      refine va_get (D := D) (ci := 2) (C := RX2) (T := TX2) (N := 4) hx hb hts fwX11_down_X2 hown hK hP 2 rfl rfl 0 (by decide) (hts _ (List.mem_of_getElem? (i := 3) rfl)) (fun _ h9 => h9) rfl dX11_down_30 ?_
      refine va_get (D := D) (ci := 0) (C := RX0) (T := TX0) (N := 13) hx hb hts fwX11_down_X0 hown hK hP 3 rfl rfl 2 (by decide) (hts _ (List.mem_of_getElem? (i := 4) rfl)) (fun _ h9 => h9) rfl dX11_down_33 ?_
      refine lv_astore_n (lv' := [(3, .ref (ad 11)), (0, .ref (ad 0)), (1, .int a1), (2, .int a2)]) hx hb dX11_down_36 rfl hl (by decide) rfl (fun ls hl => ?_)
      refine lv_aload_n hx hb dX11_down_37 rfl (lv_at hl 0 rfl) ?_
      refine lv_iload_n hx hb dX11_down_38 rfl (lv_at hl 2 rfl) ?_
      refine q_cVr (wf := (wX11 cI cZ cS ad)) (wc := wX9 cI cZ cS (fun i => ad (11 + i))) (rest := []) ⟨hx, hb, hml, hown, hts⟩ hK hZ hA hP hD hS hf (fun x ho => kX9_isLifted l D cI cZ cS zz (fun i => ad (11 + i)) (q_sb σ 11) a1 x ho) (cwV 1 hts gX11_down_X9_isLifted rfl rfl rfl ndX9_isLifted ⟨Nat.le_of_ble_eq_true rfl, Nat.le_of_ble_eq_true rfl⟩) [11, 12, 13, 14] rfl rfl rfl rfl rfl rfl (hl.1) rfl (Nat.le_of_ble_eq_true rfl) dX11_down_39 ⟨Nat.zero_le _, Nat.zero_le _⟩ (fun r8 H locs hf hP hD hS => ?_)
      refine q_cSr (wf := (wX11 cI cZ cS ad)) (rest := []) ⟨hx, hb, hml, hown, hts⟩ hK hZ hA hP hD hS hf (fun x ho => kX11_bit l D cI cZ cS zz r8 x ho) (va_cwS 1 hts gX11_down_X11_bit rfl rfl rfl ndX11_bit.2 ⟨Nat.le_of_ble_eq_true rfl, Nat.le_of_ble_eq_true rfl⟩) rfl (hl.1) rfl (Nat.le_of_ble_eq_true rfl) dX11_down_42 ⟨Nat.zero_le _, Nat.zero_le _⟩ (fun r9 H locs hf hP hD hS => ?_)
      refine lv_istore (lv' := [(4, .int r9), (3, .ref (ad 11)), (0, .ref (ad 0)), (1, .int a1), (2, .int a2)]) hx hb dX11_down_45 hl (by decide) rfl (fun ls hl => ?_)
      refine lv_aload_n hx hb dX11_down_47 rfl (lv_at hl 1 rfl) ?_
      refine va_get (D := D) (ci := 9) (C := RX9) (T := TX9) (N := 6) hx hb hts fwX11_down_X9 hown hK hP 11 rfl rfl 3 (by decide) (hts _ (List.mem_of_getElem? (i := 5) rfl)) (fun _ h9 => h9) rfl dX11_down_48 ?_
      refine lv_iload_n hx hb dX11_down_51 rfl (lv_at hl 3 rfl) ?_
      refine lv_iload_n hx hb dX11_down_52 rfl (lv_at hl 4 rfl) ?_
      refine w_iast (wf := (wX11 cI cZ cS ad)) (cid := 14) hx hb hK hP hD hS 14 0 rfl rfl hf (fun _ => rfl) dX11_down_53 (fun σ10 H locs hf hP hD hS => ?_)
      refine lv_aload_n hx hb dX11_down_54 rfl (lv_at hl 1 rfl) ?_
      refine lv_dup hx hb dX11_down_55 rfl ?_
      refine va_get (D := D) (ci := 9) (C := RX9) (T := TX9) (N := 6) hx hb hts fwX11_down_X9 hown hK hP 11 rfl rfl 4 (by decide) (hts _ (List.mem_of_getElem? (i := 6) rfl)) (fun _ h9 => h9) rfl dX11_down_56 ?_
      refine lv_iconst (v := 1) hx hb dX11_down_59 (by decide) ?_
      refine lv_iload_n hx hb dX11_down_60 rfl (lv_at hl 3 rfl) ?_
      refine lv_ishl hx hb dX11_down_61 ?_
      refine lv_iconst (v := -1) hx hb dX11_down_62 (by decide) ?_
      refine lv_ixor hx hb dX11_down_63 ?_
      refine lv_iand hx hb dX11_down_64 ?_
      refine w_put (D := D) (wf := (wX11 cI cZ cS ad)) (cid := 11) (ci := 9) (C := RX9) (T := TX9) (N := 6) hx hb hts fwX11_down_X9 tyX9 tyX9_ok nmX9 hown hK hP hD hS 11 rfl rfl 4 (by decide) (hts _ (List.mem_of_getElem? (i := 6) rfl)) (fun _ h9 => h9) rfl (tyX9_ok 4 (by decide)) (Nat.le_of_ble_eq_true rfl) hf rfl dX11_down_65 (fun σ11 H locs hf hP hD hS => ?_)
      refine lv_iload hx hb dX11_down_68 (lv_at hl 0 rfl) ?_
      obtain ⟨hi1, hi2⟩ := Prod.mk.inj (Option.some.inj hf)
      subst hi1
      subst hi2
      exact hret _ _ _ _ dX11_down_70 rfl hP hS
    · have hf := (if_pos h7).symm.trans hf
      exact Jj2  _ _ _ hP hD hS (lv_sub hl [0] rfl) hf
def pX11_harm (σ : SS) : Option Int32 := q_cr (pX9_harmedWorth (q_sb σ 11)) (fun (r1 : Int32) => some r1)
theorem fwX11_harm_X0 : ∀ w ∈ wsX00, w ∈ wsX11_harm := fun _ h => List.mem_cons_of_mem _ (List.mem_append_left _ (List.mem_append_right _ h))
theorem fwX11_harm_X11 : ∀ w ∈ wsX110, w ∈ wsX11_harm := fun _ h => List.mem_cons_of_mem _ (List.mem_append_left _ (List.mem_append_left _ (List.mem_append_left _ (List.mem_append_right _ h))))
theorem fwX11_harm_X2 : ∀ w ∈ wsX20, w ∈ wsX11_harm := fun _ h => List.mem_cons_of_mem _ (List.mem_append_left _ (List.mem_append_left _ (List.mem_append_right _ h)))
abbrev rmX11_harm : Room := { frames := 2, cells := 0, slots := 0, locals := 43 }
set_option maxHeartbeats 4000000 in
set_option maxRecDepth 100000 in
theorem kX11_harm (l : Launch) (D : va_G) (cI cZ cS : ClassId) (zz : ZT) (ad : Nat → Nat) (σ : SS) (rr : Int32) (hf : pX11_harm σ = some rr) : CI l yX11_harm wsX11_harm rmX11_harm D (K3 cI cZ cS) zz [.ref (ad 0)] (wX11 cI cZ cS ad σ) (wX11 cI cZ cS ad σ) rr := by
  refine q_ofI (cc := cX11_harm) (maxL := 1) (ty := .int) (by decide) rfl (Nat.le_of_ble_eq_true rfl) ?_
  intro p e s m below meth c Q A ls hx hb hml hown hts hK hZ hA hP hD hS hl hret
  have hl : lv_has ls 1 [(0, .ref (ad 0))] := hl
  unfold pX11_harm at hf
  refine lv_aload_n hx hb dX11_harm_0 rfl (lv_at hl 0 rfl) ?_
  refine va_get (D := D) (ci := 11) (C := RX11) (T := TX11) (N := 9) hx hb hts fwX11_harm_X11 hown hK hP 0 rfl rfl 1 (by decide) (hts _ (List.mem_of_getElem? (i := 1) rfl)) (fun _ h9 => h9) rfl dX11_harm_1 ?_
  refine va_get (D := D) (ci := 2) (C := RX2) (T := TX2) (N := 4) hx hb hts fwX11_harm_X2 hown hK hP 2 rfl rfl 0 (by decide) (hts _ (List.mem_of_getElem? (i := 2) rfl)) (fun _ h9 => h9) rfl dX11_harm_4 ?_
  refine va_get (D := D) (ci := 0) (C := RX0) (T := TX0) (N := 13) hx hb hts fwX11_harm_X0 hown hK hP 3 rfl rfl 2 (by decide) (hts _ (List.mem_of_getElem? (i := 3) rfl)) (fun _ h9 => h9) rfl dX11_harm_7 ?_
  refine q_cVr (wf := (wX11 cI cZ cS ad)) (wc := wX9 cI cZ cS (fun i => ad (11 + i))) (rest := []) ⟨hx, hb, hml, hown, hts⟩ hK hZ hA hP hD hS hf (fun x ho => kX9_harmedWorth l D cI cZ cS zz (fun i => ad (11 + i)) (q_sb σ 11) x ho) (cwV 0 hts gX11_harm_X9_harmedWorth rfl rfl rfl ndX9_harmedWorth ⟨Nat.le_of_ble_eq_true rfl, Nat.le_of_ble_eq_true rfl⟩) [11, 12, 13, 14] rfl rfl rfl rfl rfl rfl (hl.1) rfl (Nat.le_of_ble_eq_true rfl) dX11_harm_10 ⟨Nat.zero_le _, Nat.zero_le _⟩ (fun r1 H locs hf hP hD hS => ?_)
  have hi1 := Option.some.inj hf
  subst hi1
  exact hret _ _ _ _ dX11_harm_13 rfl hP hS
def pX11_feed (σ : SS) (a1 : Int32) (a2 : Int32) : Option (Int32 × SS) := q_cr (pX11_within a2 (1 : Int32) (4 : Int32)) (fun (r1 : Int32) => (if r1 = (0 : Int32) then q_ci (pX11_tell σ (-1000001 : Int32)) (fun (τ : SS) => τ) (fun (r8 : Int32) (σ7 : SS) => some (r8, σ7)) else (if ((σ 40 1) + a2) ≤ (100 : Int32) then q_cs (pX8_append (q_sb σ 40) a1 a2) (fun (τ : SS) => (q_em σ 40 0 2 τ)) (fun (σ4 : SS) => some ((σ4 40 1), σ4)) else q_ci (pX11_tell σ (-1000002 : Int32)) (fun (τ : SS) => τ) (fun (r6 : Int32) (σ5 : SS) => some (r6, σ5)))))
theorem fwX11_feed_X11 : ∀ w ∈ wsX110, w ∈ wsX11_feed := fun _ h => List.mem_cons_of_mem _ (List.mem_append_left _ (List.mem_append_right _ h))
theorem fwX11_feed_X8 : ∀ w ∈ wsX80, w ∈ wsX11_feed := fun _ h => List.mem_cons_of_mem _ (List.mem_append_right _ h)
abbrev rmX11_feed : Room := { frames := 1, cells := 0, slots := 0, locals := 23 }
set_option maxHeartbeats 4000000 in
set_option maxRecDepth 100000 in
theorem kX11_feed (l : Launch) (D : va_G) (cI cZ cS : ClassId) (zz : ZT) (ad : Nat → Nat) (σ : SS) (a1 : Int32) (a2 : Int32) (rr : Int32) (σr : SS) (hf : pX11_feed σ a1 a2 = some (rr, σr)) : CI l yX11_feed wsX11_feed rmX11_feed D (K3 cI cZ cS) zz [.ref (ad 0), .int a1, .int a2] (wX11 cI cZ cS ad σ) (wX11 cI cZ cS ad σr) rr := by
  refine q_ofI (cc := cX11_feed) (maxL := 3) (ty := .int) (by decide) rfl (Nat.le_of_ble_eq_true rfl) ?_
  intro p e s m below meth c Q A ls hx hb hml hown hts hK hZ hA hP hD hS hl hret
  have hl : lv_has ls 3 [(0, .ref (ad 0)), (1, .int a1), (2, .int a2)] := hl
  unfold pX11_feed at hf
  refine lv_iload_n hx hb dX11_feed_0 rfl (lv_at hl 2 rfl) ?_
  refine lv_iconst (v := 1) hx hb dX11_feed_1 (by decide) ?_
  refine lv_iconst (v := 4) hx hb dX11_feed_2 (by decide) ?_
  refine q_cSr (wf := (wX11 cI cZ cS ad)) (rest := []) ⟨hx, hb, hml, hown, hts⟩ hK hZ hA hP hD hS hf (fun x ho => kX11_within l D cI cZ cS zz a2 (1 : Int32) (4 : Int32) x ho) (va_cwS 3 hts gX11_feed_X11_within rfl rfl rfl ndX11_within.2 ⟨Nat.le_of_ble_eq_true rfl, Nat.le_of_ble_eq_true rfl⟩) rfl (hl.1) rfl (Nat.le_of_ble_eq_true rfl) dX11_feed_3 ⟨Nat.zero_le _, Nat.zero_le _⟩ (fun r1 H locs hf hP hD hS => ?_)
  refine lv_if_ne (tgt := 16) hx hb dX11_feed_6 (by decide) (fun h2 => ?_) (fun h2 => ?_)
  · have hf := (if_neg h2).symm.trans hf
    refine lv_aload_n hx hb dX11_feed_16 rfl (lv_at hl 0 rfl) ?_
    refine va_get (D := D) (ci := 11) (C := RX11) (T := TX11) (N := 9) hx hb hts fwX11_feed_X11 hown hK hP 0 rfl rfl 4 (by decide) (hts _ (List.mem_of_getElem? (i := 2) rfl)) (fun _ h9 => h9) rfl dX11_feed_17 ?_
    refine va_get (D := D) (ci := 8) (C := RX8) (T := TX8) (N := 2) hx hb hts fwX11_feed_X8 hown hK hP 40 rfl rfl 1 (by decide) (hts _ (List.mem_of_getElem? (i := 3) rfl)) (fun _ h9 => h9) rfl dX11_feed_20 ?_
    refine lv_iload_n hx hb dX11_feed_23 rfl (lv_at hl 2 rfl) ?_
    refine lv_iadd hx hb dX11_feed_24 ?_
    refine lv_bipush (v := 100) hx hb dX11_feed_25 (by decide) ?_
    refine lv_icmp_le (tgt := 37) hx hb dX11_feed_27 (by decide) (fun h3 => ?_) (fun h3 => ?_)
    · have hf := (if_pos h3).symm.trans hf
      refine lv_aload_n hx hb dX11_feed_37 rfl (lv_at hl 0 rfl) ?_
      refine va_get (D := D) (ci := 11) (C := RX11) (T := TX11) (N := 9) hx hb hts fwX11_feed_X11 hown hK hP 0 rfl rfl 4 (by decide) (hts _ (List.mem_of_getElem? (i := 2) rfl)) (fun _ h9 => h9) rfl dX11_feed_38 ?_
      refine lv_iload_n hx hb dX11_feed_41 rfl (lv_at hl 1 rfl) ?_
      refine lv_iload_n hx hb dX11_feed_42 rfl (lv_at hl 2 rfl) ?_
      refine q_cVv (wf := (wX11 cI cZ cS ad)) (wc := wX8 cI cZ cS (fun i => ad (40 + i))) (rest := []) ⟨hx, hb, hml, hown, hts⟩ hK hZ hA hP hD hS hf (fun x ho => kX8_append l D cI cZ cS zz (fun i => ad (40 + i)) (q_sb σ 40) a1 a2 x ho) (cwV 2 hts gX11_feed_X8_append rfl rfl rfl ndX8_append ⟨Nat.le_of_ble_eq_true rfl, Nat.le_of_ble_eq_true rfl⟩) [40, 41] rfl rfl [none, none, none, none, none, none, none, none, none, none, none, none, none, none, none, none, none, none, none, none, none, none, none, none, none, none, none, none, none, none, none, none, none, none, none, none, none, none, none, none, some 0, some 1, none, none, none, none, none, none, none, none, none, none, none, none, none, none, none, none, none, none, none, none, none, none, none, none, none, none, none, none, none, none] (by decide +kernel) (Nat.le_of_ble_eq_true rfl) (fun _ => rfl) (fun _ => rfl) (fun _ => rfl) rfl rfl rfl rfl (hl.1) rfl (Nat.le_of_ble_eq_true rfl) dX11_feed_43 ⟨Nat.zero_le _, Nat.zero_le _⟩ (fun σ4 H locs hf hP hD hS => ?_)
      refine lv_aload_n hx hb dX11_feed_46 rfl (lv_at hl 0 rfl) ?_
      refine va_get (D := D) (ci := 11) (C := RX11) (T := TX11) (N := 9) hx hb hts fwX11_feed_X11 hown hK hP 0 rfl rfl 4 (by decide) (hts _ (List.mem_of_getElem? (i := 2) rfl)) (fun _ h9 => h9) rfl dX11_feed_47 ?_
      refine va_get (D := D) (ci := 8) (C := RX8) (T := TX8) (N := 2) hx hb hts fwX11_feed_X8 hown hK hP 40 rfl rfl 1 (by decide) (hts _ (List.mem_of_getElem? (i := 3) rfl)) (fun _ h9 => h9) rfl dX11_feed_50 ?_
      obtain ⟨hi1, hi2⟩ := Prod.mk.inj (Option.some.inj hf)
      subst hi1
      subst hi2
      exact hret _ _ _ _ dX11_feed_53 rfl hP hS
    · have hf := (if_neg h3).symm.trans hf
      refine lv_aload_n hx hb dX11_feed_30 rfl (lv_at hl 0 rfl) ?_
      refine lv_ldc (v := -1000002) hx hb hown (hts _ (List.mem_of_getElem? (i := 4) rfl)) dX11_feed_31 ?_
      refine q_cVi (wf := (wX11 cI cZ cS ad)) (wc := wX11 cI cZ cS ad) (rest := []) ⟨hx, hb, hml, hown, hts⟩ hK hZ hA hP hD hS hf (fun x τ ho => kX11_tell l D cI cZ cS zz ad σ (-1000002 : Int32) x τ ho) (cwV 1 hts gX11_feed_X11_tell rfl rfl rfl ndX11_tell ⟨Nat.le_of_ble_eq_true rfl, Nat.le_of_ble_eq_true rfl⟩) [0, 1, 2, 3, 4, 5, 6, 7, 8, 9, 10, 11, 12, 13, 14, 15, 16, 17, 18, 19, 20, 21, 22, 23, 24, 25, 26, 27, 28, 29, 30, 31, 32, 33, 34, 35, 36, 37, 38, 39, 40, 41, 42, 43, 44, 45, 46, 47, 48, 49, 50, 51, 52, 53, 54, 55, 56, 57, 58, 59, 60, 61, 62, 63, 64, 65, 66, 67, 68, 69, 70, 71] rfl rfl [some 0, some 1, some 2, some 3, some 4, some 5, some 6, some 7, some 8, some 9, some 10, some 11, some 12, some 13, some 14, some 15, some 16, some 17, some 18, some 19, some 20, some 21, some 22, some 23, some 24, some 25, some 26, some 27, some 28, some 29, some 30, some 31, some 32, some 33, some 34, some 35, some 36, some 37, some 38, some 39, some 40, some 41, some 42, some 43, some 44, some 45, some 46, some 47, some 48, some 49, some 50, some 51, some 52, some 53, some 54, some 55, some 56, some 57, some 58, some 59, some 60, some 61, some 62, some 63, some 64, some 65, some 66, some 67, some 68, some 69, some 70, some 71] (by decide +kernel) (Nat.le_of_ble_eq_true rfl) (fun _ => rfl) (fun _ => rfl) (fun _ => rfl) rfl rfl rfl rfl (hl.1) rfl (Nat.le_of_ble_eq_true rfl) dX11_feed_33 ⟨Nat.zero_le _, Nat.zero_le _⟩ (fun r6 σ5 H locs hf hP hD hS => ?_)
      obtain ⟨hi1, hi2⟩ := Prod.mk.inj (Option.some.inj hf)
      subst hi1
      subst hi2
      exact hret _ _ _ _ dX11_feed_36 rfl hP hS
  · have hf := (if_pos h2).symm.trans hf
    refine lv_aload_n hx hb dX11_feed_9 rfl (lv_at hl 0 rfl) ?_
    refine lv_ldc (v := -1000001) hx hb hown (hts _ (List.mem_of_getElem? (i := 1) rfl)) dX11_feed_10 ?_
    refine q_cVi (wf := (wX11 cI cZ cS ad)) (wc := wX11 cI cZ cS ad) (rest := []) ⟨hx, hb, hml, hown, hts⟩ hK hZ hA hP hD hS hf (fun x τ ho => kX11_tell l D cI cZ cS zz ad σ (-1000001 : Int32) x τ ho) (cwV 1 hts gX11_feed_X11_tell rfl rfl rfl ndX11_tell ⟨Nat.le_of_ble_eq_true rfl, Nat.le_of_ble_eq_true rfl⟩) [0, 1, 2, 3, 4, 5, 6, 7, 8, 9, 10, 11, 12, 13, 14, 15, 16, 17, 18, 19, 20, 21, 22, 23, 24, 25, 26, 27, 28, 29, 30, 31, 32, 33, 34, 35, 36, 37, 38, 39, 40, 41, 42, 43, 44, 45, 46, 47, 48, 49, 50, 51, 52, 53, 54, 55, 56, 57, 58, 59, 60, 61, 62, 63, 64, 65, 66, 67, 68, 69, 70, 71] rfl rfl [some 0, some 1, some 2, some 3, some 4, some 5, some 6, some 7, some 8, some 9, some 10, some 11, some 12, some 13, some 14, some 15, some 16, some 17, some 18, some 19, some 20, some 21, some 22, some 23, some 24, some 25, some 26, some 27, some 28, some 29, some 30, some 31, some 32, some 33, some 34, some 35, some 36, some 37, some 38, some 39, some 40, some 41, some 42, some 43, some 44, some 45, some 46, some 47, some 48, some 49, some 50, some 51, some 52, some 53, some 54, some 55, some 56, some 57, some 58, some 59, some 60, some 61, some 62, some 63, some 64, some 65, some 66, some 67, some 68, some 69, some 70, some 71] (by decide +kernel) (Nat.le_of_ble_eq_true rfl) (fun _ => rfl) (fun _ => rfl) (fun _ => rfl) rfl rfl rfl rfl (hl.1) rfl (Nat.le_of_ble_eq_true rfl) dX11_feed_12 ⟨Nat.zero_le _, Nat.zero_le _⟩ (fun r8 σ7 H locs hf hP hD hS => ?_)
    obtain ⟨hi1, hi2⟩ := Prod.mk.inj (Option.some.inj hf)
    subst hi1
    subst hi2
    exact hret _ _ _ _ dX11_feed_15 rfl hP hS
def pX11_wipe (σ : SS) : Option (Int32 × SS) := q_lt (σ 40 1) (fun x1_1 => q_lt (su σ 40 1 (0 : Int32)) (fun (σ2 : SS) => some (x1_1, σ2)))
theorem fwX11_wipe_X11 : ∀ w ∈ wsX110, w ∈ wsX11_wipe := fun _ h => List.mem_cons_of_mem _ (List.mem_append_left _ (List.mem_append_right _ h))
theorem fwX11_wipe_X8 : ∀ w ∈ wsX80, w ∈ wsX11_wipe := fun _ h => List.mem_cons_of_mem _ (List.mem_append_right _ h)
abbrev rmX11_wipe : Room := { frames := 0, cells := 0, slots := 0, locals := 0 }
set_option maxHeartbeats 4000000 in
set_option maxRecDepth 100000 in
theorem kX11_wipe (l : Launch) (D : va_G) (cI cZ cS : ClassId) (zz : ZT) (ad : Nat → Nat) (σ : SS) (rr : Int32) (σr : SS) (hf : pX11_wipe σ = some (rr, σr)) : CI l yX11_wipe wsX11_wipe rmX11_wipe D (K3 cI cZ cS) zz [.ref (ad 0)] (wX11 cI cZ cS ad σ) (wX11 cI cZ cS ad σr) rr := by
  refine q_ofI (cc := cX11_wipe) (maxL := 2) (ty := .int) (by decide) rfl (Nat.le_of_ble_eq_true rfl) ?_
  intro p e s m below meth c Q A ls hx hb hml hown hts hK hZ hA hP hD hS hl hret
  have hl : lv_has ls 2 [(0, .ref (ad 0))] := hl
  unfold pX11_wipe at hf
  refine lv_aload_n hx hb dX11_wipe_0 rfl (lv_at hl 0 rfl) ?_
  refine va_get (D := D) (ci := 11) (C := RX11) (T := TX11) (N := 9) hx hb hts fwX11_wipe_X11 hown hK hP 0 rfl rfl 4 (by decide) (hts _ (List.mem_of_getElem? (i := 1) rfl)) (fun _ h9 => h9) rfl dX11_wipe_1 ?_
  refine va_get (D := D) (ci := 8) (C := RX8) (T := TX8) (N := 2) hx hb hts fwX11_wipe_X8 hown hK hP 40 rfl rfl 1 (by decide) (hts _ (List.mem_of_getElem? (i := 2) rfl)) (fun _ h9 => h9) rfl dX11_wipe_4 ?_
  refine lv_topi (fun x1_1 ex1_1 => ?_)
  have hf := q_lt_at ex1_1 hf
  refine lv_istore_n (lv' := [(1, .int x1_1), (0, .ref (ad 0))]) hx hb dX11_wipe_7 rfl hl (by decide) rfl (fun ls hl => ?_)
  refine lv_aload_n hx hb dX11_wipe_8 rfl (lv_at hl 1 rfl) ?_
  refine va_get (D := D) (ci := 11) (C := RX11) (T := TX11) (N := 9) hx hb hts fwX11_wipe_X11 hown hK hP 0 rfl rfl 4 (by decide) (hts _ (List.mem_of_getElem? (i := 1) rfl)) (fun _ h9 => h9) rfl dX11_wipe_9 ?_
  refine lv_iconst (v := 0) hx hb dX11_wipe_12 (by decide) ?_
  refine w_put (D := D) (wf := (wX11 cI cZ cS ad)) (cid := 40) (ci := 8) (C := RX8) (T := TX8) (N := 2) hx hb hts fwX11_wipe_X8 tyX8 tyX8_ok nmX8 hown hK hP hD hS 40 rfl rfl 1 (by decide) (hts _ (List.mem_of_getElem? (i := 2) rfl)) (fun _ h9 => h9) rfl (tyX8_ok 1 (by decide)) (Nat.le_of_ble_eq_true rfl) hf rfl dX11_wipe_13 (fun σ2 H locs hf hP hD hS => ?_)
  refine lv_iload_n hx hb dX11_wipe_16 rfl (lv_at hl 0 rfl) ?_
  obtain ⟨hi1, hi2⟩ := Prod.mk.inj (Option.some.inj hf)
  subst hi1
  subst hi2
  exact hret _ _ _ _ dX11_wipe_17 rfl hP hS
def pX11_isSky (σ : SS) (a1 : Int32) : Option Int32 := q_cr (pX11_within a1 (0 : Int32) ((σ 16 0) - (1 : Int32))) (fun (r1 : Int32) => q_zz r1 (some r1))
theorem fwX11_isSky_X11 : ∀ w ∈ wsX110, w ∈ wsX11_isSky := fun _ h => List.mem_cons_of_mem _ (List.mem_append_left _ (List.mem_append_left _ (List.mem_append_right _ h)))
theorem fwX11_isSky_X2 : ∀ w ∈ wsX20, w ∈ wsX11_isSky := fun _ h => List.mem_cons_of_mem _ (List.mem_append_left _ (List.mem_append_right _ h))
theorem fwX11_isSky_X7 : ∀ w ∈ wsX70, w ∈ wsX11_isSky := fun _ h => List.mem_cons_of_mem _ (List.mem_append_right _ h)
abbrev rmX11_isSky : Room := { frames := 1, cells := 0, slots := 0, locals := 22 }
set_option maxHeartbeats 4000000 in
set_option maxRecDepth 100000 in
theorem kX11_isSky (l : Launch) (D : va_G) (cI cZ cS : ClassId) (zz : ZT) (ad : Nat → Nat) (σ : SS) (a1 : Int32) (rr : Int32) (hf : pX11_isSky σ a1 = some rr) : CI l yX11_isSky wsX11_isSky rmX11_isSky D (K3 cI cZ cS) zz [.ref (ad 0), .int a1] (wX11 cI cZ cS ad σ) (wX11 cI cZ cS ad σ) rr := by
  refine q_ofI (cc := cX11_isSky) (maxL := 2) (ty := .boolean) (by decide) rfl (Nat.le_of_ble_eq_true rfl) ?_
  intro p e s m below meth c Q A ls hx hb hml hown hts hK hZ hA hP hD hS hl hret
  have hl : lv_has ls 2 [(0, .ref (ad 0)), (1, .int a1)] := hl
  unfold pX11_isSky at hf
  refine lv_iload_n hx hb dX11_isSky_0 rfl (lv_at hl 1 rfl) ?_
  refine lv_iconst (v := 0) hx hb dX11_isSky_1 (by decide) ?_
  refine lv_aload_n hx hb dX11_isSky_2 rfl (lv_at hl 0 rfl) ?_
  refine va_get (D := D) (ci := 11) (C := RX11) (T := TX11) (N := 9) hx hb hts fwX11_isSky_X11 hown hK hP 0 rfl rfl 1 (by decide) (hts _ (List.mem_of_getElem? (i := 1) rfl)) (fun _ h9 => h9) rfl dX11_isSky_3 ?_
  refine va_get (D := D) (ci := 2) (C := RX2) (T := TX2) (N := 4) hx hb hts fwX11_isSky_X2 hown hK hP 2 rfl rfl 1 (by decide) (hts _ (List.mem_of_getElem? (i := 2) rfl)) (fun _ h9 => h9) rfl dX11_isSky_6 ?_
  refine va_get (D := D) (ci := 7) (C := RX7) (T := TX7) (N := 4) hx hb hts fwX11_isSky_X7 hown hK hP 16 rfl rfl 0 (by decide) (hts _ (List.mem_of_getElem? (i := 3) rfl)) (fun _ h9 => h9) rfl dX11_isSky_9 ?_
  refine lv_iconst (v := 1) hx hb dX11_isSky_12 (by decide) ?_
  refine lv_isub hx hb dX11_isSky_13 ?_
  refine q_cSr (wf := (wX11 cI cZ cS ad)) (rest := []) ⟨hx, hb, hml, hown, hts⟩ hK hZ hA hP hD hS hf (fun x ho => kX11_within l D cI cZ cS zz a1 (0 : Int32) ((σ 16 0) - (1 : Int32)) x ho) (va_cwS 3 hts gX11_isSky_X11_within rfl rfl rfl ndX11_within.2 ⟨Nat.le_of_ble_eq_true rfl, Nat.le_of_ble_eq_true rfl⟩) rfl (hl.1) rfl (Nat.le_of_ble_eq_true rfl) dX11_isSky_14 ⟨Nat.zero_le _, Nat.zero_le _⟩ (fun r1 H locs hf hP hD hS => ?_)
  obtain ⟨hz, hf⟩ := q_zz_o hf
  have hi1 := Option.some.inj hf
  subst hi1
  exact hret _ _ _ _ dX11_isSky_17 (q_zz_n hz).1 hP hS
def pX11_skyOf (σ : SS) (a1 : Int32) (a2 : Int32) : Option (Int32 × SS) := q_cr (pX11_isSky σ a1) (fun (r1 : Int32) => q_lt (q_ci (pX11_tell σ (-1000001 : Int32)) (fun (τ : SS) => τ) (fun (r4 : Int32) (σ3 : SS) => some (r4, σ3))) (fun j2 => (if r1 = (0 : Int32) then j2 else q_cr (pX11_within a2 (0 : Int32) (1 : Int32)) (fun (r6 : Int32) => (if r6 = (0 : Int32) then j2 else q_lt (fun (y8 : Int32) => some (y8, σ)) (fun j9 => (if a2 = (0 : Int32) then q_rd (σ 17) 6 a1 (fun (v12 : Int32) => j9 v12) else q_cr (pX7_minutesOf (q_sb σ 16) a1) (fun (r11 : Int32) => j9 r11))))))))
theorem fwX11_skyOf_X11 : ∀ w ∈ wsX110, w ∈ wsX11_skyOf := fun _ h => List.mem_cons_of_mem _ (List.mem_append_left _ (List.mem_append_left _ (List.mem_append_right _ h)))
theorem fwX11_skyOf_X2 : ∀ w ∈ wsX20, w ∈ wsX11_skyOf := fun _ h => List.mem_cons_of_mem _ (List.mem_append_left _ (List.mem_append_right _ h))
theorem fwX11_skyOf_X7 : ∀ w ∈ wsX70, w ∈ wsX11_skyOf := fun _ h => List.mem_cons_of_mem _ (List.mem_append_right _ h)
abbrev rmX11_skyOf : Room := { frames := 2, cells := 0, slots := 0, locals := 43 }
set_option maxHeartbeats 4000000 in
set_option maxRecDepth 100000 in
theorem kX11_skyOf (l : Launch) (D : va_G) (cI cZ cS : ClassId) (zz : ZT) (ad : Nat → Nat) (σ : SS) (a1 : Int32) (a2 : Int32) (rr : Int32) (σr : SS) (hf : pX11_skyOf σ a1 a2 = some (rr, σr)) : CI l yX11_skyOf wsX11_skyOf rmX11_skyOf D (K3 cI cZ cS) zz [.ref (ad 0), .int a1, .int a2] (wX11 cI cZ cS ad σ) (wX11 cI cZ cS ad σr) rr := by
  refine q_ofI (cc := cX11_skyOf) (maxL := 3) (ty := .int) (by decide) rfl (Nat.le_of_ble_eq_true rfl) ?_
  intro p e s m below meth c Q A ls hx hb hml hown hts hK hZ hA hP hD hS hl hret
  have hl : lv_has ls 3 [(0, .ref (ad 0)), (1, .int a1), (2, .int a2)] := hl
  unfold pX11_skyOf at hf
  refine lv_aload_n hx hb dX11_skyOf_0 rfl (lv_at hl 0 rfl) ?_
  refine lv_iload_n hx hb dX11_skyOf_1 rfl (lv_at hl 1 rfl) ?_
  refine q_cVr (wf := (wX11 cI cZ cS ad)) (wc := wX11 cI cZ cS ad) (rest := []) ⟨hx, hb, hml, hown, hts⟩ hK hZ hA hP hD hS hf (fun x ho => kX11_isSky l D cI cZ cS zz ad σ a1 x ho) (cwV 1 hts gX11_skyOf_X11_isSky rfl rfl rfl ndX11_isSky ⟨Nat.le_of_ble_eq_true rfl, Nat.le_of_ble_eq_true rfl⟩) [0, 1, 2, 3, 4, 5, 6, 7, 8, 9, 10, 11, 12, 13, 14, 15, 16, 17, 18, 19, 20, 21, 22, 23, 24, 25, 26, 27, 28, 29, 30, 31, 32, 33, 34, 35, 36, 37, 38, 39, 40, 41, 42, 43, 44, 45, 46, 47, 48, 49, 50, 51, 52, 53, 54, 55, 56, 57, 58, 59, 60, 61, 62, 63, 64, 65, 66, 67, 68, 69, 70, 71] rfl rfl rfl rfl rfl rfl (hl.1) rfl (Nat.le_of_ble_eq_true rfl) dX11_skyOf_2 ⟨Nat.zero_le _, Nat.zero_le _⟩ (fun r1 H locs hf hP hD hS => ?_)
  refine q_lt_go hf (fun j2 ej2 hf => ?_)
  have Jj2 : ∀ (H : Heap) (locs : List Loc) (ls : Array Slot), va_P D vwCl ((wX11 cI cZ cS ad) σ) H → va_D A ((wX11 cI cZ cS ad) σ) → va_S A s.heap H locs → lv_has ls 3 [(0, .ref (ad 0))] → j2 = some (rr, σr) → W p l e rmX11_skyOf s m ([.ref (ad 0), .int a1, .int a2] : List Value).toArray below meth c H locs 0 0 Q (F0 m 17 ls []) := by
    intro  H locs ls hP hD hS hl hf
    have hf := ej2.symm.trans hf
    refine lv_aload_n hx hb dX11_skyOf_17 rfl (lv_at hl 0 rfl) ?_
    refine lv_ldc (v := -1000001) hx hb hown (hts _ (List.mem_of_getElem? (i := 1) rfl)) dX11_skyOf_18 ?_
    refine q_cVi (wf := (wX11 cI cZ cS ad)) (wc := wX11 cI cZ cS ad) (rest := []) ⟨hx, hb, hml, hown, hts⟩ hK hZ hA hP hD hS hf (fun x τ ho => kX11_tell l D cI cZ cS zz ad σ (-1000001 : Int32) x τ ho) (cwV 1 hts gX11_skyOf_X11_tell rfl rfl rfl ndX11_tell ⟨Nat.le_of_ble_eq_true rfl, Nat.le_of_ble_eq_true rfl⟩) [0, 1, 2, 3, 4, 5, 6, 7, 8, 9, 10, 11, 12, 13, 14, 15, 16, 17, 18, 19, 20, 21, 22, 23, 24, 25, 26, 27, 28, 29, 30, 31, 32, 33, 34, 35, 36, 37, 38, 39, 40, 41, 42, 43, 44, 45, 46, 47, 48, 49, 50, 51, 52, 53, 54, 55, 56, 57, 58, 59, 60, 61, 62, 63, 64, 65, 66, 67, 68, 69, 70, 71] rfl rfl [some 0, some 1, some 2, some 3, some 4, some 5, some 6, some 7, some 8, some 9, some 10, some 11, some 12, some 13, some 14, some 15, some 16, some 17, some 18, some 19, some 20, some 21, some 22, some 23, some 24, some 25, some 26, some 27, some 28, some 29, some 30, some 31, some 32, some 33, some 34, some 35, some 36, some 37, some 38, some 39, some 40, some 41, some 42, some 43, some 44, some 45, some 46, some 47, some 48, some 49, some 50, some 51, some 52, some 53, some 54, some 55, some 56, some 57, some 58, some 59, some 60, some 61, some 62, some 63, some 64, some 65, some 66, some 67, some 68, some 69, some 70, some 71] (by decide +kernel) (Nat.le_of_ble_eq_true rfl) (fun _ => rfl) (fun _ => rfl) (fun _ => rfl) rfl rfl rfl rfl (hl.1) rfl (Nat.le_of_ble_eq_true rfl) dX11_skyOf_20 ⟨Nat.zero_le _, Nat.zero_le _⟩ (fun r4 σ3 H locs hf hP hD hS => ?_)
    obtain ⟨hi1, hi2⟩ := Prod.mk.inj (Option.some.inj hf)
    subst hi1
    subst hi2
    exact hret _ _ _ _ dX11_skyOf_23 rfl hP hS
  refine lv_if_eq (tgt := 17) hx hb dX11_skyOf_5 (by decide) (fun h5 => ?_) (fun h5 => ?_)
  · have hf := (if_pos h5).symm.trans hf
    exact Jj2  _ _ _ hP hD hS (lv_sub hl [0] rfl) hf
  · have hf := (if_neg h5).symm.trans hf
    refine lv_iload_n hx hb dX11_skyOf_8 rfl (lv_at hl 2 rfl) ?_
    refine lv_iconst (v := 0) hx hb dX11_skyOf_9 (by decide) ?_
    refine lv_iconst (v := 1) hx hb dX11_skyOf_10 (by decide) ?_
    refine q_cSr (wf := (wX11 cI cZ cS ad)) (rest := []) ⟨hx, hb, hml, hown, hts⟩ hK hZ hA hP hD hS hf (fun x ho => kX11_within l D cI cZ cS zz a2 (0 : Int32) (1 : Int32) x ho) (va_cwS 3 hts gX11_skyOf_X11_within rfl rfl rfl ndX11_within.2 ⟨Nat.le_of_ble_eq_true rfl, Nat.le_of_ble_eq_true rfl⟩) rfl (hl.1) rfl (Nat.le_of_ble_eq_true rfl) dX11_skyOf_11 ⟨Nat.zero_le _, Nat.zero_le _⟩ (fun r6 H locs hf hP hD hS => ?_)
    refine lv_if_ne (tgt := 24) hx hb dX11_skyOf_14 (by decide) (fun h7 => ?_) (fun h7 => ?_)
    · have hf := (if_neg h7).symm.trans hf
      refine lv_iload_n hx hb dX11_skyOf_24 rfl (lv_at hl 2 rfl) ?_
      refine q_lt_go hf (fun j9 ej9 hf => ?_)
      have Jj9 : ∀ (y8 : Int32) (H : Heap) (locs : List Loc) (ls : Array Slot), va_P D vwCl ((wX11 cI cZ cS ad) σ) H → va_D A ((wX11 cI cZ cS ad) σ) → va_S A s.heap H locs → lv_has ls 3 [] → j9 y8 = some (rr, σr) → W p l e rmX11_skyOf s m ([.ref (ad 0), .int a1, .int a2] : List Value).toArray below meth c H locs 0 0 Q (F0 m 54 ls [.int y8]) := by
        intro y8 H locs ls hP hD hS hl hf
        have hf := (congrFun ej9 y8).symm.trans hf
        obtain ⟨hi1, hi2⟩ := Prod.mk.inj (Option.some.inj hf)
        subst hi1
        subst hi2
        exact hret _ _ _ _ dX11_skyOf_54 rfl hP hS
      refine lv_if_ne (tgt := 43) hx hb dX11_skyOf_25 (by decide) (fun h10 => ?_) (fun h10 => ?_)
      · have hf := (if_neg h10).symm.trans hf
        refine lv_aload_n hx hb dX11_skyOf_43 rfl (lv_at hl 0 rfl) ?_
        refine va_get (D := D) (ci := 11) (C := RX11) (T := TX11) (N := 9) hx hb hts fwX11_skyOf_X11 hown hK hP 0 rfl rfl 1 (by decide) (hts _ (List.mem_of_getElem? (i := 2) rfl)) (fun _ h9 => h9) rfl dX11_skyOf_44 ?_
        refine va_get (D := D) (ci := 2) (C := RX2) (T := TX2) (N := 4) hx hb hts fwX11_skyOf_X2 hown hK hP 2 rfl rfl 1 (by decide) (hts _ (List.mem_of_getElem? (i := 3) rfl)) (fun _ h9 => h9) rfl dX11_skyOf_47 ?_
        refine lv_iload_n hx hb dX11_skyOf_50 rfl (lv_at hl 1 rfl) ?_
        refine q_cVr (wf := (wX11 cI cZ cS ad)) (wc := wX7 cI cZ cS (fun i => ad (16 + i))) (rest := []) ⟨hx, hb, hml, hown, hts⟩ hK hZ hA hP hD hS hf (fun x ho => kX7_minutesOf l D cI cZ cS zz (fun i => ad (16 + i)) (q_sb σ 16) a1 x ho) (cwV 1 hts gX11_skyOf_X7_minutesOf rfl rfl rfl ndX7_minutesOf ⟨Nat.le_of_ble_eq_true rfl, Nat.le_of_ble_eq_true rfl⟩) [16, 17, 18, 19] rfl rfl rfl rfl rfl rfl (hl.1) rfl (Nat.le_of_ble_eq_true rfl) dX11_skyOf_51 ⟨Nat.zero_le _, Nat.zero_le _⟩ (fun r11 H locs hf hP hD hS => ?_)
        exact Jj9 r11 _ _ _ hP hD hS (lv_sub hl [] rfl) hf
      · have hf := (if_pos h10).symm.trans hf
        refine lv_aload_n hx hb dX11_skyOf_28 rfl (lv_at hl 0 rfl) ?_
        refine va_get (D := D) (ci := 11) (C := RX11) (T := TX11) (N := 9) hx hb hts fwX11_skyOf_X11 hown hK hP 0 rfl rfl 1 (by decide) (hts _ (List.mem_of_getElem? (i := 2) rfl)) (fun _ h9 => h9) rfl dX11_skyOf_29 ?_
        refine va_get (D := D) (ci := 2) (C := RX2) (T := TX2) (N := 4) hx hb hts fwX11_skyOf_X2 hown hK hP 2 rfl rfl 1 (by decide) (hts _ (List.mem_of_getElem? (i := 3) rfl)) (fun _ h9 => h9) rfl dX11_skyOf_32 ?_
        refine va_get (D := D) (ci := 7) (C := RX7) (T := TX7) (N := 4) hx hb hts fwX11_skyOf_X7 hown hK hP 16 rfl rfl 1 (by decide) (hts _ (List.mem_of_getElem? (i := 4) rfl)) (fun _ h9 => h9) rfl dX11_skyOf_35 ?_
        refine lv_iload_n hx hb dX11_skyOf_38 rfl (lv_at hl 1 rfl) ?_
        refine w_iald (wf := (wX11 cI cZ cS ad)) hx hb hK hP 17 0 rfl rfl hf dX11_skyOf_39 (fun v12 hf => ?_)
        refine lv_goto (tgt := 54) hx hb dX11_skyOf_40 (by decide) ?_
        exact Jj9 v12 _ _ _ hP hD hS (lv_sub hl [] rfl) hf
    · have hf := (if_pos h7).symm.trans hf
      exact Jj2  _ _ _ hP hD hS (lv_sub hl [0] rfl) hf
def pX11_play (σ : SS) (a1 : Int32) : Option (Int32 × SS) := q_cr (pX11_isSky σ a1) (fun (r1 : Int32) => (if r1 = (0 : Int32) then q_ci (pX11_tell σ (-1000001 : Int32)) (fun (τ : SS) => τ) (fun (r5 : Int32) (σ4 : SS) => some (r5, σ4)) else q_cs (pX7_perform (q_ap 4 (q_sb σ 16) (q_sb σ 3)) a1) (fun (τ : SS) => (q_em (q_em σ 16 0 4 τ) 3 4 13 τ)) (fun (σ3 : SS) => some ((σ3 3 8), σ3))))
theorem fwX11_play_X0 : ∀ w ∈ wsX00, w ∈ wsX11_play := fun _ h => List.mem_cons_of_mem _ (List.mem_append_left _ (List.mem_append_left _ (List.mem_append_left _ (List.mem_append_left _ (List.mem_append_right _ h)))))
theorem fwX11_play_X11 : ∀ w ∈ wsX110, w ∈ wsX11_play := fun _ h => List.mem_cons_of_mem _ (List.mem_append_left _ (List.mem_append_left _ (List.mem_append_left _ (List.mem_append_left _ (List.mem_append_left _ (List.mem_append_left _ (List.mem_append_right _ h)))))))
theorem fwX11_play_X2 : ∀ w ∈ wsX20, w ∈ wsX11_play := fun _ h => List.mem_cons_of_mem _ (List.mem_append_left _ (List.mem_append_left _ (List.mem_append_left _ (List.mem_append_left _ (List.mem_append_left _ (List.mem_append_right _ h))))))
abbrev rmX11_play : Room := { frames := 5, cells := 0, slots := 0, locals := 118 }
set_option maxHeartbeats 4000000 in
set_option maxRecDepth 100000 in
theorem kX11_play (l : Launch) (D : va_G) (cI cZ cS : ClassId) (zz : ZT) (ad : Nat → Nat) (σ : SS) (a1 : Int32) (rr : Int32) (σr : SS) (hf : pX11_play σ a1 = some (rr, σr)) : CI l yX11_play wsX11_play rmX11_play D (K3 cI cZ cS) zz [.ref (ad 0), .int a1] (wX11 cI cZ cS ad σ) (wX11 cI cZ cS ad σr) rr := by
  refine q_ofI (cc := cX11_play) (maxL := 2) (ty := .int) (by decide) rfl (Nat.le_of_ble_eq_true rfl) ?_
  intro p e s m below meth c Q A ls hx hb hml hown hts hK hZ hA hP hD hS hl hret
  have hl : lv_has ls 2 [(0, .ref (ad 0)), (1, .int a1)] := hl
  unfold pX11_play at hf
  refine lv_aload_n hx hb dX11_play_0 rfl (lv_at hl 0 rfl) ?_
  refine lv_iload_n hx hb dX11_play_1 rfl (lv_at hl 1 rfl) ?_
  refine q_cVr (wf := (wX11 cI cZ cS ad)) (wc := wX11 cI cZ cS ad) (rest := []) ⟨hx, hb, hml, hown, hts⟩ hK hZ hA hP hD hS hf (fun x ho => kX11_isSky l D cI cZ cS zz ad σ a1 x ho) (cwV 1 hts gX11_play_X11_isSky rfl rfl rfl ndX11_isSky ⟨Nat.le_of_ble_eq_true rfl, Nat.le_of_ble_eq_true rfl⟩) [0, 1, 2, 3, 4, 5, 6, 7, 8, 9, 10, 11, 12, 13, 14, 15, 16, 17, 18, 19, 20, 21, 22, 23, 24, 25, 26, 27, 28, 29, 30, 31, 32, 33, 34, 35, 36, 37, 38, 39, 40, 41, 42, 43, 44, 45, 46, 47, 48, 49, 50, 51, 52, 53, 54, 55, 56, 57, 58, 59, 60, 61, 62, 63, 64, 65, 66, 67, 68, 69, 70, 71] rfl rfl rfl rfl rfl rfl (hl.1) rfl (Nat.le_of_ble_eq_true rfl) dX11_play_2 ⟨Nat.zero_le _, Nat.zero_le _⟩ (fun r1 H locs hf hP hD hS => ?_)
  refine lv_if_ne (tgt := 15) hx hb dX11_play_5 (by decide) (fun h2 => ?_) (fun h2 => ?_)
  · have hf := (if_neg h2).symm.trans hf
    refine lv_aload_n hx hb dX11_play_15 rfl (lv_at hl 0 rfl) ?_
    refine va_get (D := D) (ci := 11) (C := RX11) (T := TX11) (N := 9) hx hb hts fwX11_play_X11 hown hK hP 0 rfl rfl 1 (by decide) (hts _ (List.mem_of_getElem? (i := 2) rfl)) (fun _ h9 => h9) rfl dX11_play_16 ?_
    refine va_get (D := D) (ci := 2) (C := RX2) (T := TX2) (N := 4) hx hb hts fwX11_play_X2 hown hK hP 2 rfl rfl 1 (by decide) (hts _ (List.mem_of_getElem? (i := 3) rfl)) (fun _ h9 => h9) rfl dX11_play_19 ?_
    refine lv_iload_n hx hb dX11_play_22 rfl (lv_at hl 1 rfl) ?_
    refine lv_aload_n hx hb dX11_play_23 rfl (lv_at hl 0 rfl) ?_
    refine va_get (D := D) (ci := 11) (C := RX11) (T := TX11) (N := 9) hx hb hts fwX11_play_X11 hown hK hP 0 rfl rfl 1 (by decide) (hts _ (List.mem_of_getElem? (i := 2) rfl)) (fun _ h9 => h9) rfl dX11_play_24 ?_
    refine va_get (D := D) (ci := 2) (C := RX2) (T := TX2) (N := 4) hx hb hts fwX11_play_X2 hown hK hP 2 rfl rfl 0 (by decide) (hts _ (List.mem_of_getElem? (i := 4) rfl)) (fun _ h9 => h9) rfl dX11_play_27 ?_
    refine q_cVv (wf := (wX11 cI cZ cS ad)) (wc := wX7_X0 cI cZ cS (fun i => ad (if i < 4 then 16 + i else 3 + (i - 4)))) (rest := []) ⟨hx, hb, hml, hown, hts⟩ hK hZ hA hP hD hS hf (fun x ho => kX7_perform l D cI cZ cS zz (fun i => ad (if i < 4 then 16 + i else 3 + (i - 4))) (q_ap 4 (q_sb σ 16) (q_sb σ 3)) a1 x ho) (cwV 2 hts gX11_play_X7_perform rfl rfl rfl ndX7_perform ⟨Nat.le_of_ble_eq_true rfl, Nat.le_of_ble_eq_true rfl⟩) [16, 17, 18, 19, 3, 4, 5, 6, 7, 8, 9, 10, 11, 12, 13, 14, 15] rfl rfl [none, none, none, some 4, some 5, some 6, some 7, some 8, some 9, some 10, some 11, some 12, some 13, some 14, some 15, some 16, some 0, some 1, some 2, some 3, none, none, none, none, none, none, none, none, none, none, none, none, none, none, none, none, none, none, none, none, none, none, none, none, none, none, none, none, none, none, none, none, none, none, none, none, none, none, none, none, none, none, none, none, none, none, none, none, none, none, none, none] (by decide +kernel) (Nat.le_of_ble_eq_true rfl) (fun _ => rfl) (fun _ => rfl) (fun _ => rfl) rfl rfl rfl rfl (hl.1) rfl (Nat.le_of_ble_eq_true rfl) dX11_play_30 ⟨Nat.zero_le _, Nat.zero_le _⟩ (fun σ3 H locs hf hP hD hS => ?_)
    refine lv_aload_n hx hb dX11_play_33 rfl (lv_at hl 0 rfl) ?_
    refine va_get (D := D) (ci := 11) (C := RX11) (T := TX11) (N := 9) hx hb hts fwX11_play_X11 hown hK hP 0 rfl rfl 1 (by decide) (hts _ (List.mem_of_getElem? (i := 2) rfl)) (fun _ h9 => h9) rfl dX11_play_34 ?_
    refine va_get (D := D) (ci := 2) (C := RX2) (T := TX2) (N := 4) hx hb hts fwX11_play_X2 hown hK hP 2 rfl rfl 0 (by decide) (hts _ (List.mem_of_getElem? (i := 4) rfl)) (fun _ h9 => h9) rfl dX11_play_37 ?_
    refine va_get (D := D) (ci := 0) (C := RX0) (T := TX0) (N := 13) hx hb hts fwX11_play_X0 hown hK hP 3 rfl rfl 8 (by decide) (hts _ (List.mem_of_getElem? (i := 5) rfl)) (fun _ h9 => h9) rfl dX11_play_40 ?_
    obtain ⟨hi1, hi2⟩ := Prod.mk.inj (Option.some.inj hf)
    subst hi1
    subst hi2
    exact hret _ _ _ _ dX11_play_43 rfl hP hS
  · have hf := (if_pos h2).symm.trans hf
    refine lv_aload_n hx hb dX11_play_8 rfl (lv_at hl 0 rfl) ?_
    refine lv_ldc (v := -1000001) hx hb hown (hts _ (List.mem_of_getElem? (i := 1) rfl)) dX11_play_9 ?_
    refine q_cVi (wf := (wX11 cI cZ cS ad)) (wc := wX11 cI cZ cS ad) (rest := []) ⟨hx, hb, hml, hown, hts⟩ hK hZ hA hP hD hS hf (fun x τ ho => kX11_tell l D cI cZ cS zz ad σ (-1000001 : Int32) x τ ho) (cwV 1 hts gX11_play_X11_tell rfl rfl rfl ndX11_tell ⟨Nat.le_of_ble_eq_true rfl, Nat.le_of_ble_eq_true rfl⟩) [0, 1, 2, 3, 4, 5, 6, 7, 8, 9, 10, 11, 12, 13, 14, 15, 16, 17, 18, 19, 20, 21, 22, 23, 24, 25, 26, 27, 28, 29, 30, 31, 32, 33, 34, 35, 36, 37, 38, 39, 40, 41, 42, 43, 44, 45, 46, 47, 48, 49, 50, 51, 52, 53, 54, 55, 56, 57, 58, 59, 60, 61, 62, 63, 64, 65, 66, 67, 68, 69, 70, 71] rfl rfl [some 0, some 1, some 2, some 3, some 4, some 5, some 6, some 7, some 8, some 9, some 10, some 11, some 12, some 13, some 14, some 15, some 16, some 17, some 18, some 19, some 20, some 21, some 22, some 23, some 24, some 25, some 26, some 27, some 28, some 29, some 30, some 31, some 32, some 33, some 34, some 35, some 36, some 37, some 38, some 39, some 40, some 41, some 42, some 43, some 44, some 45, some 46, some 47, some 48, some 49, some 50, some 51, some 52, some 53, some 54, some 55, some 56, some 57, some 58, some 59, some 60, some 61, some 62, some 63, some 64, some 65, some 66, some 67, some 68, some 69, some 70, some 71] (by decide +kernel) (Nat.le_of_ble_eq_true rfl) (fun _ => rfl) (fun _ => rfl) (fun _ => rfl) rfl rfl rfl rfl (hl.1) rfl (Nat.le_of_ble_eq_true rfl) dX11_play_11 ⟨Nat.zero_le _, Nat.zero_le _⟩ (fun r5 σ4 H locs hf hP hD hS => ?_)
    obtain ⟨hi1, hi2⟩ := Prod.mk.inj (Option.some.inj hf)
    subst hi1
    subst hi2
    exact hret _ _ _ _ dX11_play_14 rfl hP hS
def pX11_ahead (σ : SS) (a1 : Int32) (a2 : Int32) : Option (Int32 × SS) := q_cr (pX11_within a1 (0 : Int32) (400 : Int32)) (fun (r1 : Int32) => q_lt (q_ci (pX11_tell σ (-1000001 : Int32)) (fun (τ : SS) => τ) (fun (r4 : Int32) (σ3 : SS) => some (r4, σ3))) (fun j2 => (if r1 = (0 : Int32) then j2 else q_cr (pX11_within a2 (0 : Int32) (3 : Int32)) (fun (r6 : Int32) => (if r6 = (0 : Int32) then j2 else q_ci (pX3_behindMinutes (q_ap 1 (q_sb σ 52) (q_ap 13 (q_sb σ 3) (q_sb σ 53))) a1 a2) (fun (τ : SS) => (q_em (q_em (q_em σ 52 0 1 τ) 3 1 13 τ) 53 14 14 τ)) (fun (r9 : Int32) (σ8 : SS) => some (r9, σ8)))))))
theorem fwX11_ahead_X11 : ∀ w ∈ wsX110, w ∈ wsX11_ahead := fun _ h => List.mem_cons_of_mem _ (List.mem_append_left _ (List.mem_append_left _ (List.mem_append_left _ (List.mem_append_left _ (List.mem_append_left _ (List.mem_append_right _ h))))))
abbrev rmX11_ahead : Room := { frames := 6, cells := 0, slots := 0, locals := 164 }
set_option maxHeartbeats 4000000 in
set_option maxRecDepth 100000 in
theorem kX11_ahead (l : Launch) (D : va_G) (cI cZ cS : ClassId) (zz : ZT) (ad : Nat → Nat) (σ : SS) (a1 : Int32) (a2 : Int32) (rr : Int32) (σr : SS) (hf : pX11_ahead σ a1 a2 = some (rr, σr)) : CI l yX11_ahead wsX11_ahead rmX11_ahead D (K3 cI cZ cS) zz [.ref (ad 0), .int a1, .int a2] (wX11 cI cZ cS ad σ) (wX11 cI cZ cS ad σr) rr := by
  refine q_ofI (cc := cX11_ahead) (maxL := 3) (ty := .int) (by decide) rfl (Nat.le_of_ble_eq_true rfl) ?_
  intro p e s m below meth c Q A ls hx hb hml hown hts hK hZ hA hP hD hS hl hret
  have hl : lv_has ls 3 [(0, .ref (ad 0)), (1, .int a1), (2, .int a2)] := hl
  unfold pX11_ahead at hf
  refine lv_iload_n hx hb dX11_ahead_0 rfl (lv_at hl 1 rfl) ?_
  refine lv_iconst (v := 0) hx hb dX11_ahead_1 (by decide) ?_
  refine lv_sipush (v := 400) hx hb dX11_ahead_2 (by decide) ?_
  refine q_cSr (wf := (wX11 cI cZ cS ad)) (rest := []) ⟨hx, hb, hml, hown, hts⟩ hK hZ hA hP hD hS hf (fun x ho => kX11_within l D cI cZ cS zz a1 (0 : Int32) (400 : Int32) x ho) (va_cwS 3 hts gX11_ahead_X11_within rfl rfl rfl ndX11_within.2 ⟨Nat.le_of_ble_eq_true rfl, Nat.le_of_ble_eq_true rfl⟩) rfl (hl.1) rfl (Nat.le_of_ble_eq_true rfl) dX11_ahead_5 ⟨Nat.zero_le _, Nat.zero_le _⟩ (fun r1 H locs hf hP hD hS => ?_)
  refine q_lt_go hf (fun j2 ej2 hf => ?_)
  have Jj2 : ∀ (H : Heap) (locs : List Loc) (ls : Array Slot), va_P D vwCl ((wX11 cI cZ cS ad) σ) H → va_D A ((wX11 cI cZ cS ad) σ) → va_S A s.heap H locs → lv_has ls 3 [(0, .ref (ad 0))] → j2 = some (rr, σr) → W p l e rmX11_ahead s m ([.ref (ad 0), .int a1, .int a2] : List Value).toArray below meth c H locs 0 0 Q (F0 m 20 ls []) := by
    intro  H locs ls hP hD hS hl hf
    have hf := ej2.symm.trans hf
    refine lv_aload_n hx hb dX11_ahead_20 rfl (lv_at hl 0 rfl) ?_
    refine lv_ldc (v := -1000001) hx hb hown (hts _ (List.mem_of_getElem? (i := 1) rfl)) dX11_ahead_21 ?_
    refine q_cVi (wf := (wX11 cI cZ cS ad)) (wc := wX11 cI cZ cS ad) (rest := []) ⟨hx, hb, hml, hown, hts⟩ hK hZ hA hP hD hS hf (fun x τ ho => kX11_tell l D cI cZ cS zz ad σ (-1000001 : Int32) x τ ho) (cwV 1 hts gX11_ahead_X11_tell rfl rfl rfl ndX11_tell ⟨Nat.le_of_ble_eq_true rfl, Nat.le_of_ble_eq_true rfl⟩) [0, 1, 2, 3, 4, 5, 6, 7, 8, 9, 10, 11, 12, 13, 14, 15, 16, 17, 18, 19, 20, 21, 22, 23, 24, 25, 26, 27, 28, 29, 30, 31, 32, 33, 34, 35, 36, 37, 38, 39, 40, 41, 42, 43, 44, 45, 46, 47, 48, 49, 50, 51, 52, 53, 54, 55, 56, 57, 58, 59, 60, 61, 62, 63, 64, 65, 66, 67, 68, 69, 70, 71] rfl rfl [some 0, some 1, some 2, some 3, some 4, some 5, some 6, some 7, some 8, some 9, some 10, some 11, some 12, some 13, some 14, some 15, some 16, some 17, some 18, some 19, some 20, some 21, some 22, some 23, some 24, some 25, some 26, some 27, some 28, some 29, some 30, some 31, some 32, some 33, some 34, some 35, some 36, some 37, some 38, some 39, some 40, some 41, some 42, some 43, some 44, some 45, some 46, some 47, some 48, some 49, some 50, some 51, some 52, some 53, some 54, some 55, some 56, some 57, some 58, some 59, some 60, some 61, some 62, some 63, some 64, some 65, some 66, some 67, some 68, some 69, some 70, some 71] (by decide +kernel) (Nat.le_of_ble_eq_true rfl) (fun _ => rfl) (fun _ => rfl) (fun _ => rfl) rfl rfl rfl rfl (hl.1) rfl (Nat.le_of_ble_eq_true rfl) dX11_ahead_23 ⟨Nat.zero_le _, Nat.zero_le _⟩ (fun r4 σ3 H locs hf hP hD hS => ?_)
    obtain ⟨hi1, hi2⟩ := Prod.mk.inj (Option.some.inj hf)
    subst hi1
    subst hi2
    exact hret _ _ _ _ dX11_ahead_26 rfl hP hS
  refine lv_if_eq (tgt := 20) hx hb dX11_ahead_8 (by decide) (fun h5 => ?_) (fun h5 => ?_)
  · have hf := (if_pos h5).symm.trans hf
    exact Jj2  _ _ _ hP hD hS (lv_sub hl [0] rfl) hf
  · have hf := (if_neg h5).symm.trans hf
    refine lv_iload_n hx hb dX11_ahead_11 rfl (lv_at hl 2 rfl) ?_
    refine lv_iconst (v := 0) hx hb dX11_ahead_12 (by decide) ?_
    refine lv_iconst (v := 3) hx hb dX11_ahead_13 (by decide) ?_
    refine q_cSr (wf := (wX11 cI cZ cS ad)) (rest := []) ⟨hx, hb, hml, hown, hts⟩ hK hZ hA hP hD hS hf (fun x ho => kX11_within l D cI cZ cS zz a2 (0 : Int32) (3 : Int32) x ho) (va_cwS 3 hts gX11_ahead_X11_within rfl rfl rfl ndX11_within.2 ⟨Nat.le_of_ble_eq_true rfl, Nat.le_of_ble_eq_true rfl⟩) rfl (hl.1) rfl (Nat.le_of_ble_eq_true rfl) dX11_ahead_14 ⟨Nat.zero_le _, Nat.zero_le _⟩ (fun r6 H locs hf hP hD hS => ?_)
    refine lv_if_ne (tgt := 27) hx hb dX11_ahead_17 (by decide) (fun h7 => ?_) (fun h7 => ?_)
    · have hf := (if_neg h7).symm.trans hf
      refine lv_aload_n hx hb dX11_ahead_27 rfl (lv_at hl 0 rfl) ?_
      refine va_get (D := D) (ci := 11) (C := RX11) (T := TX11) (N := 9) hx hb hts fwX11_ahead_X11 hown hK hP 0 rfl rfl 7 (by decide) (hts _ (List.mem_of_getElem? (i := 2) rfl)) (fun _ h9 => h9) rfl dX11_ahead_28 ?_
      refine lv_iload_n hx hb dX11_ahead_31 rfl (lv_at hl 1 rfl) ?_
      refine lv_iload_n hx hb dX11_ahead_32 rfl (lv_at hl 2 rfl) ?_
      refine q_cVi (wf := (wX11 cI cZ cS ad)) (wc := wX3 cI cZ cS (fun i => ad (if i < 1 then 52 + i else if i < 14 then 3 + (i - 1) else 53 + (i - 14)))) (rest := []) ⟨hx, hb, hml, hown, hts⟩ hK hZ hA hP hD hS hf (fun x τ ho => kX3_behindMinutes l D cI cZ cS zz (fun i => ad (if i < 1 then 52 + i else if i < 14 then 3 + (i - 1) else 53 + (i - 14))) (q_ap 1 (q_sb σ 52) (q_ap 13 (q_sb σ 3) (q_sb σ 53))) a1 a2 x τ ho) (cwV 2 hts gX11_ahead_X3_behindMinutes rfl rfl rfl ndX3_behindMinutes ⟨Nat.le_of_ble_eq_true rfl, Nat.le_of_ble_eq_true rfl⟩) [52, 3, 4, 5, 6, 7, 8, 9, 10, 11, 12, 13, 14, 15, 53, 54, 55, 56, 57, 58, 59, 60, 61, 62, 63, 64, 65, 66] rfl rfl [none, none, none, some 1, some 2, some 3, some 4, some 5, some 6, some 7, some 8, some 9, some 10, some 11, some 12, some 13, none, none, none, none, none, none, none, none, none, none, none, none, none, none, none, none, none, none, none, none, none, none, none, none, none, none, none, none, none, none, none, none, none, none, none, none, some 0, some 14, some 15, some 16, some 17, some 18, some 19, some 20, some 21, some 22, some 23, some 24, some 25, some 26, some 27, none, none, none, none, none] (by decide +kernel) (Nat.le_of_ble_eq_true rfl) (fun _ => rfl) (fun _ => rfl) (fun _ => rfl) rfl rfl rfl rfl (hl.1) rfl (Nat.le_of_ble_eq_true rfl) dX11_ahead_33 ⟨Nat.zero_le _, Nat.zero_le _⟩ (fun r9 σ8 H locs hf hP hD hS => ?_)
      obtain ⟨hi1, hi2⟩ := Prod.mk.inj (Option.some.inj hf)
      subst hi1
      subst hi2
      exact hret _ _ _ _ dX11_ahead_36 rfl hP hS
    · have hf := (if_pos h7).symm.trans hf
      exact Jj2  _ _ _ hP hD hS (lv_sub hl [0] rfl) hf
def pX11_under (σ : SS) (a1 : Int32) (a2 : Int32) : Option (Int32 × SS) := q_cr (pX11_isSky σ a1) (fun (r1 : Int32) => q_lt (q_ci (pX11_tell σ (-1000001 : Int32)) (fun (τ : SS) => τ) (fun (r4 : Int32) (σ3 : SS) => some (r4, σ3))) (fun j2 => (if r1 = (0 : Int32) then j2 else q_cr (pX11_within a2 (0 : Int32) (3 : Int32)) (fun (r6 : Int32) => (if r6 = (0 : Int32) then j2 else q_ci (pX3_behindSky (q_ap 1 (q_sb σ 52) (q_ap 13 (q_sb σ 3) (q_ap 14 (q_sb σ 53) (q_sb σ 16)))) a1 a2) (fun (τ : SS) => (q_em (q_em (q_em (q_em σ 52 0 1 τ) 3 1 13 τ) 53 14 14 τ) 16 28 4 τ)) (fun (r9 : Int32) (σ8 : SS) => some (r9, σ8)))))))
theorem fwX11_under_X11 : ∀ w ∈ wsX110, w ∈ wsX11_under := fun _ h => List.mem_cons_of_mem _ (List.mem_append_left _ (List.mem_append_left _ (List.mem_append_left _ (List.mem_append_left _ (List.mem_append_left _ (List.mem_append_left _ (List.mem_append_left _ (List.mem_append_right _ h))))))))
theorem fwX11_under_X2 : ∀ w ∈ wsX20, w ∈ wsX11_under := fun _ h => List.mem_cons_of_mem _ (List.mem_append_left _ (List.mem_append_left _ (List.mem_append_left _ (List.mem_append_left _ (List.mem_append_left _ (List.mem_append_left _ (List.mem_append_right _ h)))))))
abbrev rmX11_under : Room := { frames := 6, cells := 0, slots := 0, locals := 165 }
set_option maxHeartbeats 4000000 in
set_option maxRecDepth 100000 in
theorem kX11_under (l : Launch) (D : va_G) (cI cZ cS : ClassId) (zz : ZT) (ad : Nat → Nat) (σ : SS) (a1 : Int32) (a2 : Int32) (rr : Int32) (σr : SS) (hf : pX11_under σ a1 a2 = some (rr, σr)) : CI l yX11_under wsX11_under rmX11_under D (K3 cI cZ cS) zz [.ref (ad 0), .int a1, .int a2] (wX11 cI cZ cS ad σ) (wX11 cI cZ cS ad σr) rr := by
  refine q_ofI (cc := cX11_under) (maxL := 3) (ty := .int) (by decide) rfl (Nat.le_of_ble_eq_true rfl) ?_
  intro p e s m below meth c Q A ls hx hb hml hown hts hK hZ hA hP hD hS hl hret
  have hl : lv_has ls 3 [(0, .ref (ad 0)), (1, .int a1), (2, .int a2)] := hl
  unfold pX11_under at hf
  refine lv_aload_n hx hb dX11_under_0 rfl (lv_at hl 0 rfl) ?_
  refine lv_iload_n hx hb dX11_under_1 rfl (lv_at hl 1 rfl) ?_
  refine q_cVr (wf := (wX11 cI cZ cS ad)) (wc := wX11 cI cZ cS ad) (rest := []) ⟨hx, hb, hml, hown, hts⟩ hK hZ hA hP hD hS hf (fun x ho => kX11_isSky l D cI cZ cS zz ad σ a1 x ho) (cwV 1 hts gX11_under_X11_isSky rfl rfl rfl ndX11_isSky ⟨Nat.le_of_ble_eq_true rfl, Nat.le_of_ble_eq_true rfl⟩) [0, 1, 2, 3, 4, 5, 6, 7, 8, 9, 10, 11, 12, 13, 14, 15, 16, 17, 18, 19, 20, 21, 22, 23, 24, 25, 26, 27, 28, 29, 30, 31, 32, 33, 34, 35, 36, 37, 38, 39, 40, 41, 42, 43, 44, 45, 46, 47, 48, 49, 50, 51, 52, 53, 54, 55, 56, 57, 58, 59, 60, 61, 62, 63, 64, 65, 66, 67, 68, 69, 70, 71] rfl rfl rfl rfl rfl rfl (hl.1) rfl (Nat.le_of_ble_eq_true rfl) dX11_under_2 ⟨Nat.zero_le _, Nat.zero_le _⟩ (fun r1 H locs hf hP hD hS => ?_)
  refine q_lt_go hf (fun j2 ej2 hf => ?_)
  have Jj2 : ∀ (H : Heap) (locs : List Loc) (ls : Array Slot), va_P D vwCl ((wX11 cI cZ cS ad) σ) H → va_D A ((wX11 cI cZ cS ad) σ) → va_S A s.heap H locs → lv_has ls 3 [(0, .ref (ad 0))] → j2 = some (rr, σr) → W p l e rmX11_under s m ([.ref (ad 0), .int a1, .int a2] : List Value).toArray below meth c H locs 0 0 Q (F0 m 17 ls []) := by
    intro  H locs ls hP hD hS hl hf
    have hf := ej2.symm.trans hf
    refine lv_aload_n hx hb dX11_under_17 rfl (lv_at hl 0 rfl) ?_
    refine lv_ldc (v := -1000001) hx hb hown (hts _ (List.mem_of_getElem? (i := 1) rfl)) dX11_under_18 ?_
    refine q_cVi (wf := (wX11 cI cZ cS ad)) (wc := wX11 cI cZ cS ad) (rest := []) ⟨hx, hb, hml, hown, hts⟩ hK hZ hA hP hD hS hf (fun x τ ho => kX11_tell l D cI cZ cS zz ad σ (-1000001 : Int32) x τ ho) (cwV 1 hts gX11_under_X11_tell rfl rfl rfl ndX11_tell ⟨Nat.le_of_ble_eq_true rfl, Nat.le_of_ble_eq_true rfl⟩) [0, 1, 2, 3, 4, 5, 6, 7, 8, 9, 10, 11, 12, 13, 14, 15, 16, 17, 18, 19, 20, 21, 22, 23, 24, 25, 26, 27, 28, 29, 30, 31, 32, 33, 34, 35, 36, 37, 38, 39, 40, 41, 42, 43, 44, 45, 46, 47, 48, 49, 50, 51, 52, 53, 54, 55, 56, 57, 58, 59, 60, 61, 62, 63, 64, 65, 66, 67, 68, 69, 70, 71] rfl rfl [some 0, some 1, some 2, some 3, some 4, some 5, some 6, some 7, some 8, some 9, some 10, some 11, some 12, some 13, some 14, some 15, some 16, some 17, some 18, some 19, some 20, some 21, some 22, some 23, some 24, some 25, some 26, some 27, some 28, some 29, some 30, some 31, some 32, some 33, some 34, some 35, some 36, some 37, some 38, some 39, some 40, some 41, some 42, some 43, some 44, some 45, some 46, some 47, some 48, some 49, some 50, some 51, some 52, some 53, some 54, some 55, some 56, some 57, some 58, some 59, some 60, some 61, some 62, some 63, some 64, some 65, some 66, some 67, some 68, some 69, some 70, some 71] (by decide +kernel) (Nat.le_of_ble_eq_true rfl) (fun _ => rfl) (fun _ => rfl) (fun _ => rfl) rfl rfl rfl rfl (hl.1) rfl (Nat.le_of_ble_eq_true rfl) dX11_under_20 ⟨Nat.zero_le _, Nat.zero_le _⟩ (fun r4 σ3 H locs hf hP hD hS => ?_)
    obtain ⟨hi1, hi2⟩ := Prod.mk.inj (Option.some.inj hf)
    subst hi1
    subst hi2
    exact hret _ _ _ _ dX11_under_23 rfl hP hS
  refine lv_if_eq (tgt := 17) hx hb dX11_under_5 (by decide) (fun h5 => ?_) (fun h5 => ?_)
  · have hf := (if_pos h5).symm.trans hf
    exact Jj2  _ _ _ hP hD hS (lv_sub hl [0] rfl) hf
  · have hf := (if_neg h5).symm.trans hf
    refine lv_iload_n hx hb dX11_under_8 rfl (lv_at hl 2 rfl) ?_
    refine lv_iconst (v := 0) hx hb dX11_under_9 (by decide) ?_
    refine lv_iconst (v := 3) hx hb dX11_under_10 (by decide) ?_
    refine q_cSr (wf := (wX11 cI cZ cS ad)) (rest := []) ⟨hx, hb, hml, hown, hts⟩ hK hZ hA hP hD hS hf (fun x ho => kX11_within l D cI cZ cS zz a2 (0 : Int32) (3 : Int32) x ho) (va_cwS 3 hts gX11_under_X11_within rfl rfl rfl ndX11_within.2 ⟨Nat.le_of_ble_eq_true rfl, Nat.le_of_ble_eq_true rfl⟩) rfl (hl.1) rfl (Nat.le_of_ble_eq_true rfl) dX11_under_11 ⟨Nat.zero_le _, Nat.zero_le _⟩ (fun r6 H locs hf hP hD hS => ?_)
    refine lv_if_ne (tgt := 24) hx hb dX11_under_14 (by decide) (fun h7 => ?_) (fun h7 => ?_)
    · have hf := (if_neg h7).symm.trans hf
      refine lv_aload_n hx hb dX11_under_24 rfl (lv_at hl 0 rfl) ?_
      refine va_get (D := D) (ci := 11) (C := RX11) (T := TX11) (N := 9) hx hb hts fwX11_under_X11 hown hK hP 0 rfl rfl 7 (by decide) (hts _ (List.mem_of_getElem? (i := 2) rfl)) (fun _ h9 => h9) rfl dX11_under_25 ?_
      refine lv_aload_n hx hb dX11_under_28 rfl (lv_at hl 0 rfl) ?_
      refine va_get (D := D) (ci := 11) (C := RX11) (T := TX11) (N := 9) hx hb hts fwX11_under_X11 hown hK hP 0 rfl rfl 1 (by decide) (hts _ (List.mem_of_getElem? (i := 3) rfl)) (fun _ h9 => h9) rfl dX11_under_29 ?_
      refine va_get (D := D) (ci := 2) (C := RX2) (T := TX2) (N := 4) hx hb hts fwX11_under_X2 hown hK hP 2 rfl rfl 1 (by decide) (hts _ (List.mem_of_getElem? (i := 4) rfl)) (fun _ h9 => h9) rfl dX11_under_32 ?_
      refine lv_iload_n hx hb dX11_under_35 rfl (lv_at hl 1 rfl) ?_
      refine lv_iload_n hx hb dX11_under_36 rfl (lv_at hl 2 rfl) ?_
      refine q_cVi (wf := (wX11 cI cZ cS ad)) (wc := wX3_X7 cI cZ cS (fun i => ad (if i < 1 then 52 + i else if i < 14 then 3 + (i - 1) else if i < 28 then 53 + (i - 14) else 16 + (i - 28)))) (rest := []) ⟨hx, hb, hml, hown, hts⟩ hK hZ hA hP hD hS hf (fun x τ ho => kX3_behindSky l D cI cZ cS zz (fun i => ad (if i < 1 then 52 + i else if i < 14 then 3 + (i - 1) else if i < 28 then 53 + (i - 14) else 16 + (i - 28))) (q_ap 1 (q_sb σ 52) (q_ap 13 (q_sb σ 3) (q_ap 14 (q_sb σ 53) (q_sb σ 16)))) a1 a2 x τ ho) (cwV 3 hts gX11_under_X3_behindSky rfl rfl rfl ndX3_behindSky ⟨Nat.le_of_ble_eq_true rfl, Nat.le_of_ble_eq_true rfl⟩) [52, 3, 4, 5, 6, 7, 8, 9, 10, 11, 12, 13, 14, 15, 53, 54, 55, 56, 57, 58, 59, 60, 61, 62, 63, 64, 65, 66, 16, 17, 18, 19] rfl rfl [none, none, none, some 1, some 2, some 3, some 4, some 5, some 6, some 7, some 8, some 9, some 10, some 11, some 12, some 13, some 28, some 29, some 30, some 31, none, none, none, none, none, none, none, none, none, none, none, none, none, none, none, none, none, none, none, none, none, none, none, none, none, none, none, none, none, none, none, none, some 0, some 14, some 15, some 16, some 17, some 18, some 19, some 20, some 21, some 22, some 23, some 24, some 25, some 26, some 27, none, none, none, none, none] (by decide +kernel) (Nat.le_of_ble_eq_true rfl) (fun _ => rfl) (fun _ => rfl) (fun _ => rfl) rfl rfl rfl rfl (hl.1) rfl (Nat.le_of_ble_eq_true rfl) dX11_under_37 ⟨Nat.zero_le _, Nat.zero_le _⟩ (fun r9 σ8 H locs hf hP hD hS => ?_)
      obtain ⟨hi1, hi2⟩ := Prod.mk.inj (Option.some.inj hf)
      subst hi1
      subst hi2
      exact hret _ _ _ _ dX11_under_40 rfl hP hS
    · have hf := (if_pos h7).symm.trans hf
      exact Jj2  _ _ _ hP hD hS (lv_sub hl [0] rfl) hf
def pX11_orNone (σ : SS) (a1 : Int32) : Option (Int32 × SS) := q_lt (fun (σ2 : SS) (y1 : Int32) => some (y1, σ2)) (fun j3 => (if a1 = (-1 : Int32) then q_ci (pX11_tell σ (-1000004 : Int32)) (fun (τ : SS) => τ) (fun (r6 : Int32) (σ5 : SS) => j3 σ5 r6) else j3 σ a1))
abbrev rmX11_orNone : Room := { frames := 1, cells := 0, slots := 0, locals := 21 }
set_option maxHeartbeats 4000000 in
set_option maxRecDepth 100000 in
theorem kX11_orNone (l : Launch) (D : va_G) (cI cZ cS : ClassId) (zz : ZT) (ad : Nat → Nat) (σ : SS) (a1 : Int32) (rr : Int32) (σr : SS) (hf : pX11_orNone σ a1 = some (rr, σr)) : CI l yX11_orNone wsX11_orNone rmX11_orNone D (K3 cI cZ cS) zz [.ref (ad 0), .int a1] (wX11 cI cZ cS ad σ) (wX11 cI cZ cS ad σr) rr := by
  refine q_ofI (cc := cX11_orNone) (maxL := 2) (ty := .int) (by decide) rfl (Nat.le_of_ble_eq_true rfl) ?_
  intro p e s m below meth c Q A ls hx hb hml hown hts hK hZ hA hP hD hS hl hret
  have hl : lv_has ls 2 [(0, .ref (ad 0)), (1, .int a1)] := hl
  unfold pX11_orNone at hf
  refine lv_iload_n hx hb dX11_orNone_0 rfl (lv_at hl 1 rfl) ?_
  refine lv_iconst (v := -1) hx hb dX11_orNone_1 (by decide) ?_
  refine q_lt_go hf (fun j3 ej3 hf => ?_)
  have Jj3 : ∀ (σ2 : SS) (y1 : Int32) (H : Heap) (locs : List Loc) (ls : Array Slot), va_P D vwCl ((wX11 cI cZ cS ad) σ2) H → va_D A ((wX11 cI cZ cS ad) σ2) → va_S A s.heap H locs → lv_has ls 2 [] → j3 σ2 y1 = some (rr, σr) → W p l e rmX11_orNone s m ([.ref (ad 0), .int a1] : List Value).toArray below meth c H locs 0 0 Q (F0 m 15 ls [.int y1]) := by
    intro σ2 y1 H locs ls hP hD hS hl hf
    have hf := (congrFun (congrFun ej3 σ2) y1).symm.trans hf
    obtain ⟨hi1, hi2⟩ := Prod.mk.inj (Option.some.inj hf)
    subst hi1
    subst hi2
    exact hret _ _ _ _ dX11_orNone_15 rfl hP hS
  refine lv_icmp_ne (tgt := 14) hx hb dX11_orNone_2 (by decide) (fun h4 => ?_) (fun h4 => ?_)
  · have hf := (if_neg h4).symm.trans hf
    refine lv_iload_n hx hb dX11_orNone_14 rfl (lv_at hl 1 rfl) ?_
    exact Jj3 σ a1 _ _ _ hP hD hS (lv_sub hl [] rfl) hf
  · have hf := (if_pos h4).symm.trans hf
    refine lv_aload_n hx hb dX11_orNone_5 rfl (lv_at hl 0 rfl) ?_
    refine lv_ldc (v := -1000004) hx hb hown (hts _ (List.mem_of_getElem? (i := 1) rfl)) dX11_orNone_6 ?_
    refine q_cVi (wf := (wX11 cI cZ cS ad)) (wc := wX11 cI cZ cS ad) (rest := []) ⟨hx, hb, hml, hown, hts⟩ hK hZ hA hP hD hS hf (fun x τ ho => kX11_tell l D cI cZ cS zz ad σ (-1000004 : Int32) x τ ho) (cwV 1 hts gX11_orNone_X11_tell rfl rfl rfl ndX11_tell ⟨Nat.le_of_ble_eq_true rfl, Nat.le_of_ble_eq_true rfl⟩) [0, 1, 2, 3, 4, 5, 6, 7, 8, 9, 10, 11, 12, 13, 14, 15, 16, 17, 18, 19, 20, 21, 22, 23, 24, 25, 26, 27, 28, 29, 30, 31, 32, 33, 34, 35, 36, 37, 38, 39, 40, 41, 42, 43, 44, 45, 46, 47, 48, 49, 50, 51, 52, 53, 54, 55, 56, 57, 58, 59, 60, 61, 62, 63, 64, 65, 66, 67, 68, 69, 70, 71] rfl rfl [some 0, some 1, some 2, some 3, some 4, some 5, some 6, some 7, some 8, some 9, some 10, some 11, some 12, some 13, some 14, some 15, some 16, some 17, some 18, some 19, some 20, some 21, some 22, some 23, some 24, some 25, some 26, some 27, some 28, some 29, some 30, some 31, some 32, some 33, some 34, some 35, some 36, some 37, some 38, some 39, some 40, some 41, some 42, some 43, some 44, some 45, some 46, some 47, some 48, some 49, some 50, some 51, some 52, some 53, some 54, some 55, some 56, some 57, some 58, some 59, some 60, some 61, some 62, some 63, some 64, some 65, some 66, some 67, some 68, some 69, some 70, some 71] (by decide +kernel) (Nat.le_of_ble_eq_true rfl) (fun _ => rfl) (fun _ => rfl) (fun _ => rfl) rfl rfl rfl rfl (hl.1) rfl (Nat.le_of_ble_eq_true rfl) dX11_orNone_8 ⟨Nat.zero_le _, Nat.zero_le _⟩ (fun r6 σ5 H locs hf hP hD hS => ?_)
    refine lv_goto (tgt := 15) hx hb dX11_orNone_11 (by decide) ?_
    exact Jj3 σ5 r6 _ _ _ hP hD hS (lv_sub hl [] rfl) hf
def pX11_reaches (σ : SS) (a1 : Int32) : Option (Int32 × SS) := q_cr (pX11_within a1 (0 : Int32) (9999 : Int32)) (fun (r1 : Int32) => (if r1 = (0 : Int32) then q_ci (pX11_tell σ (-1000001 : Int32)) (fun (τ : SS) => τ) (fun (r8 : Int32) (σ7 : SS) => some (r8, σ7)) else q_ci (pX3_firstMinuteAbove (q_ap 1 (q_sb σ 52) (q_ap 13 (q_sb σ 3) (q_sb σ 53))) a1) (fun (τ : SS) => (q_em (q_em (q_em σ 52 0 1 τ) 3 1 13 τ) 53 14 14 τ)) (fun (r4 : Int32) (σ3 : SS) => q_ci (pX11_orNone σ3 r4) (fun (τ : SS) => τ) (fun (r6 : Int32) (σ5 : SS) => some (r6, σ5)))))
theorem fwX11_reaches_X11 : ∀ w ∈ wsX110, w ∈ wsX11_reaches := fun _ h => List.mem_cons_of_mem _ (List.mem_append_left _ (List.mem_append_left _ (List.mem_append_left _ (List.mem_append_left _ (List.mem_append_left _ (List.mem_append_right _ h))))))
abbrev rmX11_reaches : Room := { frames := 6, cells := 0, slots := 0, locals := 164 }
set_option maxHeartbeats 4000000 in
set_option maxRecDepth 100000 in
theorem kX11_reaches (l : Launch) (D : va_G) (cI cZ cS : ClassId) (zz : ZT) (ad : Nat → Nat) (σ : SS) (a1 : Int32) (rr : Int32) (σr : SS) (hf : pX11_reaches σ a1 = some (rr, σr)) : CI l yX11_reaches wsX11_reaches rmX11_reaches D (K3 cI cZ cS) zz [.ref (ad 0), .int a1] (wX11 cI cZ cS ad σ) (wX11 cI cZ cS ad σr) rr := by
  refine q_ofI (cc := cX11_reaches) (maxL := 2) (ty := .int) (by decide) rfl (Nat.le_of_ble_eq_true rfl) ?_
  intro p e s m below meth c Q A ls hx hb hml hown hts hK hZ hA hP hD hS hl hret
  have hl : lv_has ls 2 [(0, .ref (ad 0)), (1, .int a1)] := hl
  unfold pX11_reaches at hf
  refine lv_iload_n hx hb dX11_reaches_0 rfl (lv_at hl 1 rfl) ?_
  refine lv_iconst (v := 0) hx hb dX11_reaches_1 (by decide) ?_
  refine lv_sipush (v := 9999) hx hb dX11_reaches_2 (by decide) ?_
  refine q_cSr (wf := (wX11 cI cZ cS ad)) (rest := []) ⟨hx, hb, hml, hown, hts⟩ hK hZ hA hP hD hS hf (fun x ho => kX11_within l D cI cZ cS zz a1 (0 : Int32) (9999 : Int32) x ho) (va_cwS 3 hts gX11_reaches_X11_within rfl rfl rfl ndX11_within.2 ⟨Nat.le_of_ble_eq_true rfl, Nat.le_of_ble_eq_true rfl⟩) rfl (hl.1) rfl (Nat.le_of_ble_eq_true rfl) dX11_reaches_5 ⟨Nat.zero_le _, Nat.zero_le _⟩ (fun r1 H locs hf hP hD hS => ?_)
  refine lv_if_ne (tgt := 18) hx hb dX11_reaches_8 (by decide) (fun h2 => ?_) (fun h2 => ?_)
  · have hf := (if_neg h2).symm.trans hf
    refine lv_aload_n hx hb dX11_reaches_18 rfl (lv_at hl 0 rfl) ?_
    refine lv_aload_n hx hb dX11_reaches_19 rfl (lv_at hl 0 rfl) ?_
    refine va_get (D := D) (ci := 11) (C := RX11) (T := TX11) (N := 9) hx hb hts fwX11_reaches_X11 hown hK hP 0 rfl rfl 7 (by decide) (hts _ (List.mem_of_getElem? (i := 2) rfl)) (fun _ h9 => h9) rfl dX11_reaches_20 ?_
    refine lv_iload_n hx hb dX11_reaches_23 rfl (lv_at hl 1 rfl) ?_
    refine q_cVi (wf := (wX11 cI cZ cS ad)) (wc := wX3 cI cZ cS (fun i => ad (if i < 1 then 52 + i else if i < 14 then 3 + (i - 1) else 53 + (i - 14)))) (rest := [.ref (ad 0)]) ⟨hx, hb, hml, hown, hts⟩ hK hZ hA hP hD hS hf (fun x τ ho => kX3_firstMinuteAbove l D cI cZ cS zz (fun i => ad (if i < 1 then 52 + i else if i < 14 then 3 + (i - 1) else 53 + (i - 14))) (q_ap 1 (q_sb σ 52) (q_ap 13 (q_sb σ 3) (q_sb σ 53))) a1 x τ ho) (cwV 1 hts gX11_reaches_X3_firstMinuteAbove rfl rfl rfl ndX3_firstMinuteAbove ⟨Nat.le_of_ble_eq_true rfl, Nat.le_of_ble_eq_true rfl⟩) [52, 3, 4, 5, 6, 7, 8, 9, 10, 11, 12, 13, 14, 15, 53, 54, 55, 56, 57, 58, 59, 60, 61, 62, 63, 64, 65, 66] rfl rfl [none, none, none, some 1, some 2, some 3, some 4, some 5, some 6, some 7, some 8, some 9, some 10, some 11, some 12, some 13, none, none, none, none, none, none, none, none, none, none, none, none, none, none, none, none, none, none, none, none, none, none, none, none, none, none, none, none, none, none, none, none, none, none, none, none, some 0, some 14, some 15, some 16, some 17, some 18, some 19, some 20, some 21, some 22, some 23, some 24, some 25, some 26, some 27, none, none, none, none, none] (by decide +kernel) (Nat.le_of_ble_eq_true rfl) (fun _ => rfl) (fun _ => rfl) (fun _ => rfl) rfl rfl rfl rfl (hl.1) rfl (Nat.le_of_ble_eq_true rfl) dX11_reaches_24 ⟨Nat.zero_le _, Nat.zero_le _⟩ (fun r4 σ3 H locs hf hP hD hS => ?_)
    refine q_cVi (wf := (wX11 cI cZ cS ad)) (wc := wX11 cI cZ cS ad) (rest := []) ⟨hx, hb, hml, hown, hts⟩ hK hZ hA hP hD hS hf (fun x τ ho => kX11_orNone l D cI cZ cS zz ad σ3 r4 x τ ho) (cwV 1 hts gX11_reaches_X11_orNone rfl rfl rfl ndX11_orNone ⟨Nat.le_of_ble_eq_true rfl, Nat.le_of_ble_eq_true rfl⟩) [0, 1, 2, 3, 4, 5, 6, 7, 8, 9, 10, 11, 12, 13, 14, 15, 16, 17, 18, 19, 20, 21, 22, 23, 24, 25, 26, 27, 28, 29, 30, 31, 32, 33, 34, 35, 36, 37, 38, 39, 40, 41, 42, 43, 44, 45, 46, 47, 48, 49, 50, 51, 52, 53, 54, 55, 56, 57, 58, 59, 60, 61, 62, 63, 64, 65, 66, 67, 68, 69, 70, 71] rfl rfl [some 0, some 1, some 2, some 3, some 4, some 5, some 6, some 7, some 8, some 9, some 10, some 11, some 12, some 13, some 14, some 15, some 16, some 17, some 18, some 19, some 20, some 21, some 22, some 23, some 24, some 25, some 26, some 27, some 28, some 29, some 30, some 31, some 32, some 33, some 34, some 35, some 36, some 37, some 38, some 39, some 40, some 41, some 42, some 43, some 44, some 45, some 46, some 47, some 48, some 49, some 50, some 51, some 52, some 53, some 54, some 55, some 56, some 57, some 58, some 59, some 60, some 61, some 62, some 63, some 64, some 65, some 66, some 67, some 68, some 69, some 70, some 71] (by decide +kernel) (Nat.le_of_ble_eq_true rfl) (fun _ => rfl) (fun _ => rfl) (fun _ => rfl) rfl rfl rfl rfl (hl.1) rfl (Nat.le_of_ble_eq_true rfl) dX11_reaches_27 ⟨Nat.zero_le _, Nat.zero_le _⟩ (fun r6 σ5 H locs hf hP hD hS => ?_)
    obtain ⟨hi1, hi2⟩ := Prod.mk.inj (Option.some.inj hf)
    subst hi1
    subst hi2
    exact hret _ _ _ _ dX11_reaches_30 rfl hP hS
  · have hf := (if_pos h2).symm.trans hf
    refine lv_aload_n hx hb dX11_reaches_11 rfl (lv_at hl 0 rfl) ?_
    refine lv_ldc (v := -1000001) hx hb hown (hts _ (List.mem_of_getElem? (i := 1) rfl)) dX11_reaches_12 ?_
    refine q_cVi (wf := (wX11 cI cZ cS ad)) (wc := wX11 cI cZ cS ad) (rest := []) ⟨hx, hb, hml, hown, hts⟩ hK hZ hA hP hD hS hf (fun x τ ho => kX11_tell l D cI cZ cS zz ad σ (-1000001 : Int32) x τ ho) (cwV 1 hts gX11_reaches_X11_tell rfl rfl rfl ndX11_tell ⟨Nat.le_of_ble_eq_true rfl, Nat.le_of_ble_eq_true rfl⟩) [0, 1, 2, 3, 4, 5, 6, 7, 8, 9, 10, 11, 12, 13, 14, 15, 16, 17, 18, 19, 20, 21, 22, 23, 24, 25, 26, 27, 28, 29, 30, 31, 32, 33, 34, 35, 36, 37, 38, 39, 40, 41, 42, 43, 44, 45, 46, 47, 48, 49, 50, 51, 52, 53, 54, 55, 56, 57, 58, 59, 60, 61, 62, 63, 64, 65, 66, 67, 68, 69, 70, 71] rfl rfl [some 0, some 1, some 2, some 3, some 4, some 5, some 6, some 7, some 8, some 9, some 10, some 11, some 12, some 13, some 14, some 15, some 16, some 17, some 18, some 19, some 20, some 21, some 22, some 23, some 24, some 25, some 26, some 27, some 28, some 29, some 30, some 31, some 32, some 33, some 34, some 35, some 36, some 37, some 38, some 39, some 40, some 41, some 42, some 43, some 44, some 45, some 46, some 47, some 48, some 49, some 50, some 51, some 52, some 53, some 54, some 55, some 56, some 57, some 58, some 59, some 60, some 61, some 62, some 63, some 64, some 65, some 66, some 67, some 68, some 69, some 70, some 71] (by decide +kernel) (Nat.le_of_ble_eq_true rfl) (fun _ => rfl) (fun _ => rfl) (fun _ => rfl) rfl rfl rfl rfl (hl.1) rfl (Nat.le_of_ble_eq_true rfl) dX11_reaches_14 ⟨Nat.zero_le _, Nat.zero_le _⟩ (fun r8 σ7 H locs hf hP hD hS => ?_)
    obtain ⟨hi1, hi2⟩ := Prod.mk.inj (Option.some.inj hf)
    subst hi1
    subst hi2
    exact hret _ _ _ _ dX11_reaches_17 rfl hP hS
def pX11_isTrial (a1 : Int32) (a2 : Int32) : Option Int32 := q_cr (pX11_within a1 (1 : Int32) (200 : Int32)) (fun (r1 : Int32) => q_lt (fun (y2 : Int32) => q_zz y2 (some y2)) (fun j3 => q_lt (j3 (0 : Int32)) (fun j4 => (if r1 = (0 : Int32) then j4 else q_cr (pX11_within a2 (0 : Int32) (9999 : Int32)) (fun (r6 : Int32) => (if r6 = (0 : Int32) then j4 else j3 (1 : Int32)))))))
abbrev rmX11_isTrial : Room := { frames := 1, cells := 0, slots := 0, locals := 22 }
set_option maxHeartbeats 4000000 in
set_option maxRecDepth 100000 in
theorem kX11_isTrial (l : Launch) (D : va_G) (cI cZ cS : ClassId) (zz : ZT) (a1 : Int32) (a2 : Int32) (rr : Int32) (hf : pX11_isTrial a1 a2 = some rr) : CI l yX11_isTrial wsX11_isTrial rmX11_isTrial D (K3 cI cZ cS) zz [.int a1, .int a2] [] [] rr := by
  refine q_ofI (cc := cX11_isTrial) (maxL := 2) (ty := .boolean) (by decide) rfl (Nat.le_of_ble_eq_true rfl) ?_
  intro p e s m below meth c Q A ls hx hb hml hown hts hK hZ hA hP hD hS hl hret
  have hl : lv_has ls 2 [(0, .int a1), (1, .int a2)] := hl
  unfold pX11_isTrial at hf
  refine lv_iload_n hx hb dX11_isTrial_0 rfl (lv_at hl 0 rfl) ?_
  refine lv_iconst (v := 1) hx hb dX11_isTrial_1 (by decide) ?_
  refine lv_sipush (v := 200) hx hb dX11_isTrial_2 (by decide) ?_
  refine q_cSr (wf := (fun (_ : SS) => ([] : va_W))) (σ := q_s0) (rest := []) ⟨hx, hb, hml, hown, hts⟩ hK hZ hA hP hD hS hf (fun x ho => kX11_within l D cI cZ cS zz a1 (1 : Int32) (200 : Int32) x ho) (va_cwS 3 hts gX11_isTrial_X11_within rfl rfl rfl ndX11_within.2 ⟨Nat.le_of_ble_eq_true rfl, Nat.le_of_ble_eq_true rfl⟩) rfl (hl.1) rfl (Nat.le_of_ble_eq_true rfl) dX11_isTrial_5 ⟨Nat.zero_le _, Nat.zero_le _⟩ (fun r1 H locs hf hP hD hS => ?_)
  refine q_lt_go hf (fun j3 ej3 hf => ?_)
  have Jj3 : ∀ (y2 : Int32) (H : Heap) (locs : List Loc) (ls : Array Slot), va_P D vwCl ([] : va_W) H → va_D A ([] : va_W) → va_S A s.heap H locs → lv_has ls 2 [] → j3 y2 = some rr → W p l e rmX11_isTrial s m ([.int a1, .int a2] : List Value).toArray below meth c H locs 0 0 Q (F0 m 27 ls [.int y2]) := by
    intro y2 H locs ls hP hD hS hl hf
    have hf := (congrFun ej3 y2).symm.trans hf
    obtain ⟨hz, hf⟩ := q_zz_o hf
    have hi1 := Option.some.inj hf
    subst hi1
    exact hret _ _ _ _ dX11_isTrial_27 (q_zz_n hz).1 hP hS
  refine q_lt_go hf (fun j4 ej4 hf => ?_)
  have Jj4 : ∀ (H : Heap) (locs : List Loc) (ls : Array Slot), va_P D vwCl ([] : va_W) H → va_D A ([] : va_W) → va_S A s.heap H locs → lv_has ls 2 [] → j4 = some rr → W p l e rmX11_isTrial s m ([.int a1, .int a2] : List Value).toArray below meth c H locs 0 0 Q (F0 m 26 ls []) := by
    intro  H locs ls hP hD hS hl hf
    have hf := ej4.symm.trans hf
    refine lv_iconst (v := 0) hx hb dX11_isTrial_26 (by decide) ?_
    exact Jj3 (0 : Int32) _ _ _ hP hD hS (lv_sub hl [] rfl) hf
  refine lv_if_eq (tgt := 26) hx hb dX11_isTrial_8 (by decide) (fun h5 => ?_) (fun h5 => ?_)
  · have hf := (if_pos h5).symm.trans hf
    exact Jj4  _ _ _ hP hD hS (lv_sub hl [] rfl) hf
  · have hf := (if_neg h5).symm.trans hf
    refine lv_iload_n hx hb dX11_isTrial_11 rfl (lv_at hl 1 rfl) ?_
    refine lv_iconst (v := 0) hx hb dX11_isTrial_12 (by decide) ?_
    refine lv_sipush (v := 9999) hx hb dX11_isTrial_13 (by decide) ?_
    refine q_cSr (wf := (fun (_ : SS) => ([] : va_W))) (σ := q_s0) (rest := []) ⟨hx, hb, hml, hown, hts⟩ hK hZ hA hP hD hS hf (fun x ho => kX11_within l D cI cZ cS zz a2 (0 : Int32) (9999 : Int32) x ho) (va_cwS 3 hts gX11_isTrial_X11_within rfl rfl rfl ndX11_within.2 ⟨Nat.le_of_ble_eq_true rfl, Nat.le_of_ble_eq_true rfl⟩) rfl (hl.1) rfl (Nat.le_of_ble_eq_true rfl) dX11_isTrial_16 ⟨Nat.zero_le _, Nat.zero_le _⟩ (fun r6 H locs hf hP hD hS => ?_)
    refine lv_if_eq (tgt := 26) hx hb dX11_isTrial_19 (by decide) (fun h7 => ?_) (fun h7 => ?_)
    · have hf := (if_pos h7).symm.trans hf
      exact Jj4  _ _ _ hP hD hS (lv_sub hl [] rfl) hf
    · have hf := (if_neg h7).symm.trans hf
      refine lv_iconst (v := 1) hx hb dX11_isTrial_22 (by decide) ?_
      refine lv_goto (tgt := 27) hx hb dX11_isTrial_23 (by decide) ?_
      exact Jj3 (1 : Int32) _ _ _ hP hD hS (lv_sub hl [] rfl) hf
def pX11_bestOn (σ : SS) (a1 : Int32) (a2 : Int32) : Option (Int32 × SS) := q_cr (pX11_isTrial a1 a2) (fun (r1 : Int32) => (if r1 = (0 : Int32) then q_ci (pX11_tell σ (-1000001 : Int32)) (fun (τ : SS) => τ) (fun (r8 : Int32) (σ7 : SS) => some (r8, σ7)) else q_ci (pX3_bestOnMark (q_ap 1 (q_sb σ 52) (q_ap 13 (q_sb σ 3) (q_sb σ 53))) a1 a2) (fun (τ : SS) => (q_em (q_em (q_em σ 52 0 1 τ) 3 1 13 τ) 53 14 14 τ)) (fun (r4 : Int32) (σ3 : SS) => q_ci (pX11_orNone σ3 r4) (fun (τ : SS) => τ) (fun (r6 : Int32) (σ5 : SS) => some (r6, σ5)))))
theorem fwX11_bestOn_X11 : ∀ w ∈ wsX110, w ∈ wsX11_bestOn := fun _ h => List.mem_cons_of_mem _ (List.mem_append_left _ (List.mem_append_left _ (List.mem_append_left _ (List.mem_append_left _ (List.mem_append_left _ (List.mem_append_right _ h))))))
abbrev rmX11_bestOn : Room := { frames := 7, cells := 0, slots := 0, locals := 189 }
set_option maxHeartbeats 4000000 in
set_option maxRecDepth 100000 in
theorem kX11_bestOn (l : Launch) (D : va_G) (cI cZ cS : ClassId) (zz : ZT) (ad : Nat → Nat) (σ : SS) (a1 : Int32) (a2 : Int32) (rr : Int32) (σr : SS) (hf : pX11_bestOn σ a1 a2 = some (rr, σr)) : CI l yX11_bestOn wsX11_bestOn rmX11_bestOn D (K3 cI cZ cS) zz [.ref (ad 0), .int a1, .int a2] (wX11 cI cZ cS ad σ) (wX11 cI cZ cS ad σr) rr := by
  refine q_ofI (cc := cX11_bestOn) (maxL := 3) (ty := .int) (by decide) rfl (Nat.le_of_ble_eq_true rfl) ?_
  intro p e s m below meth c Q A ls hx hb hml hown hts hK hZ hA hP hD hS hl hret
  have hl : lv_has ls 3 [(0, .ref (ad 0)), (1, .int a1), (2, .int a2)] := hl
  unfold pX11_bestOn at hf
  refine lv_iload_n hx hb dX11_bestOn_0 rfl (lv_at hl 1 rfl) ?_
  refine lv_iload_n hx hb dX11_bestOn_1 rfl (lv_at hl 2 rfl) ?_
  refine q_cSr (wf := (wX11 cI cZ cS ad)) (rest := []) ⟨hx, hb, hml, hown, hts⟩ hK hZ hA hP hD hS hf (fun x ho => kX11_isTrial l D cI cZ cS zz a1 a2 x ho) (va_cwS 2 hts gX11_bestOn_X11_isTrial rfl rfl rfl ndX11_isTrial.2 ⟨Nat.le_of_ble_eq_true rfl, Nat.le_of_ble_eq_true rfl⟩) rfl (hl.1) rfl (Nat.le_of_ble_eq_true rfl) dX11_bestOn_2 ⟨Nat.zero_le _, Nat.zero_le _⟩ (fun r1 H locs hf hP hD hS => ?_)
  refine lv_if_ne (tgt := 15) hx hb dX11_bestOn_5 (by decide) (fun h2 => ?_) (fun h2 => ?_)
  · have hf := (if_neg h2).symm.trans hf
    refine lv_aload_n hx hb dX11_bestOn_15 rfl (lv_at hl 0 rfl) ?_
    refine lv_aload_n hx hb dX11_bestOn_16 rfl (lv_at hl 0 rfl) ?_
    refine va_get (D := D) (ci := 11) (C := RX11) (T := TX11) (N := 9) hx hb hts fwX11_bestOn_X11 hown hK hP 0 rfl rfl 7 (by decide) (hts _ (List.mem_of_getElem? (i := 2) rfl)) (fun _ h9 => h9) rfl dX11_bestOn_17 ?_
    refine lv_iload_n hx hb dX11_bestOn_20 rfl (lv_at hl 1 rfl) ?_
    refine lv_iload_n hx hb dX11_bestOn_21 rfl (lv_at hl 2 rfl) ?_
    refine q_cVi (wf := (wX11 cI cZ cS ad)) (wc := wX3 cI cZ cS (fun i => ad (if i < 1 then 52 + i else if i < 14 then 3 + (i - 1) else 53 + (i - 14)))) (rest := [.ref (ad 0)]) ⟨hx, hb, hml, hown, hts⟩ hK hZ hA hP hD hS hf (fun x τ ho => kX3_bestOnMark l D cI cZ cS zz (fun i => ad (if i < 1 then 52 + i else if i < 14 then 3 + (i - 1) else 53 + (i - 14))) (q_ap 1 (q_sb σ 52) (q_ap 13 (q_sb σ 3) (q_sb σ 53))) a1 a2 x τ ho) (cwV 2 hts gX11_bestOn_X3_bestOnMark rfl rfl rfl ndX3_bestOnMark ⟨Nat.le_of_ble_eq_true rfl, Nat.le_of_ble_eq_true rfl⟩) [52, 3, 4, 5, 6, 7, 8, 9, 10, 11, 12, 13, 14, 15, 53, 54, 55, 56, 57, 58, 59, 60, 61, 62, 63, 64, 65, 66] rfl rfl [none, none, none, some 1, some 2, some 3, some 4, some 5, some 6, some 7, some 8, some 9, some 10, some 11, some 12, some 13, none, none, none, none, none, none, none, none, none, none, none, none, none, none, none, none, none, none, none, none, none, none, none, none, none, none, none, none, none, none, none, none, none, none, none, none, some 0, some 14, some 15, some 16, some 17, some 18, some 19, some 20, some 21, some 22, some 23, some 24, some 25, some 26, some 27, none, none, none, none, none] (by decide +kernel) (Nat.le_of_ble_eq_true rfl) (fun _ => rfl) (fun _ => rfl) (fun _ => rfl) rfl rfl rfl rfl (hl.1) rfl (Nat.le_of_ble_eq_true rfl) dX11_bestOn_22 ⟨Nat.zero_le _, Nat.zero_le _⟩ (fun r4 σ3 H locs hf hP hD hS => ?_)
    refine q_cVi (wf := (wX11 cI cZ cS ad)) (wc := wX11 cI cZ cS ad) (rest := []) ⟨hx, hb, hml, hown, hts⟩ hK hZ hA hP hD hS hf (fun x τ ho => kX11_orNone l D cI cZ cS zz ad σ3 r4 x τ ho) (cwV 1 hts gX11_bestOn_X11_orNone rfl rfl rfl ndX11_orNone ⟨Nat.le_of_ble_eq_true rfl, Nat.le_of_ble_eq_true rfl⟩) [0, 1, 2, 3, 4, 5, 6, 7, 8, 9, 10, 11, 12, 13, 14, 15, 16, 17, 18, 19, 20, 21, 22, 23, 24, 25, 26, 27, 28, 29, 30, 31, 32, 33, 34, 35, 36, 37, 38, 39, 40, 41, 42, 43, 44, 45, 46, 47, 48, 49, 50, 51, 52, 53, 54, 55, 56, 57, 58, 59, 60, 61, 62, 63, 64, 65, 66, 67, 68, 69, 70, 71] rfl rfl [some 0, some 1, some 2, some 3, some 4, some 5, some 6, some 7, some 8, some 9, some 10, some 11, some 12, some 13, some 14, some 15, some 16, some 17, some 18, some 19, some 20, some 21, some 22, some 23, some 24, some 25, some 26, some 27, some 28, some 29, some 30, some 31, some 32, some 33, some 34, some 35, some 36, some 37, some 38, some 39, some 40, some 41, some 42, some 43, some 44, some 45, some 46, some 47, some 48, some 49, some 50, some 51, some 52, some 53, some 54, some 55, some 56, some 57, some 58, some 59, some 60, some 61, some 62, some 63, some 64, some 65, some 66, some 67, some 68, some 69, some 70, some 71] (by decide +kernel) (Nat.le_of_ble_eq_true rfl) (fun _ => rfl) (fun _ => rfl) (fun _ => rfl) rfl rfl rfl rfl (hl.1) rfl (Nat.le_of_ble_eq_true rfl) dX11_bestOn_25 ⟨Nat.zero_le _, Nat.zero_le _⟩ (fun r6 σ5 H locs hf hP hD hS => ?_)
    obtain ⟨hi1, hi2⟩ := Prod.mk.inj (Option.some.inj hf)
    subst hi1
    subst hi2
    exact hret _ _ _ _ dX11_bestOn_28 rfl hP hS
  · have hf := (if_pos h2).symm.trans hf
    refine lv_aload_n hx hb dX11_bestOn_8 rfl (lv_at hl 0 rfl) ?_
    refine lv_ldc (v := -1000001) hx hb hown (hts _ (List.mem_of_getElem? (i := 1) rfl)) dX11_bestOn_9 ?_
    refine q_cVi (wf := (wX11 cI cZ cS ad)) (wc := wX11 cI cZ cS ad) (rest := []) ⟨hx, hb, hml, hown, hts⟩ hK hZ hA hP hD hS hf (fun x τ ho => kX11_tell l D cI cZ cS zz ad σ (-1000001 : Int32) x τ ho) (cwV 1 hts gX11_bestOn_X11_tell rfl rfl rfl ndX11_tell ⟨Nat.le_of_ble_eq_true rfl, Nat.le_of_ble_eq_true rfl⟩) [0, 1, 2, 3, 4, 5, 6, 7, 8, 9, 10, 11, 12, 13, 14, 15, 16, 17, 18, 19, 20, 21, 22, 23, 24, 25, 26, 27, 28, 29, 30, 31, 32, 33, 34, 35, 36, 37, 38, 39, 40, 41, 42, 43, 44, 45, 46, 47, 48, 49, 50, 51, 52, 53, 54, 55, 56, 57, 58, 59, 60, 61, 62, 63, 64, 65, 66, 67, 68, 69, 70, 71] rfl rfl [some 0, some 1, some 2, some 3, some 4, some 5, some 6, some 7, some 8, some 9, some 10, some 11, some 12, some 13, some 14, some 15, some 16, some 17, some 18, some 19, some 20, some 21, some 22, some 23, some 24, some 25, some 26, some 27, some 28, some 29, some 30, some 31, some 32, some 33, some 34, some 35, some 36, some 37, some 38, some 39, some 40, some 41, some 42, some 43, some 44, some 45, some 46, some 47, some 48, some 49, some 50, some 51, some 52, some 53, some 54, some 55, some 56, some 57, some 58, some 59, some 60, some 61, some 62, some 63, some 64, some 65, some 66, some 67, some 68, some 69, some 70, some 71] (by decide +kernel) (Nat.le_of_ble_eq_true rfl) (fun _ => rfl) (fun _ => rfl) (fun _ => rfl) rfl rfl rfl rfl (hl.1) rfl (Nat.le_of_ble_eq_true rfl) dX11_bestOn_11 ⟨Nat.zero_le _, Nat.zero_le _⟩ (fun r8 σ7 H locs hf hP hD hS => ?_)
    obtain ⟨hi1, hi2⟩ := Prod.mk.inj (Option.some.inj hf)
    subst hi1
    subst hi2
    exact hret _ _ _ _ dX11_bestOn_14 rfl hP hS
def pX11_rateFor (σ : SS) (a1 : Int32) (a2 : Int32) : Option (Int32 × SS) := q_cr (pX11_isTrial a1 a2) (fun (r1 : Int32) => (if r1 = (0 : Int32) then q_ci (pX11_tell σ (-1000001 : Int32)) (fun (τ : SS) => τ) (fun (r8 : Int32) (σ7 : SS) => some (r8, σ7)) else q_ci (pX3_leastRate (q_ap 1 (q_sb σ 52) (q_ap 13 (q_sb σ 3) (q_sb σ 53))) a1 a2) (fun (τ : SS) => (q_em (q_em (q_em σ 52 0 1 τ) 3 1 13 τ) 53 14 14 τ)) (fun (r4 : Int32) (σ3 : SS) => q_ci (pX11_orNone σ3 r4) (fun (τ : SS) => τ) (fun (r6 : Int32) (σ5 : SS) => some (r6, σ5)))))
theorem fwX11_rateFor_X11 : ∀ w ∈ wsX110, w ∈ wsX11_rateFor := fun _ h => List.mem_cons_of_mem _ (List.mem_append_left _ (List.mem_append_left _ (List.mem_append_left _ (List.mem_append_left _ (List.mem_append_left _ (List.mem_append_right _ h))))))
abbrev rmX11_rateFor : Room := { frames := 7, cells := 0, slots := 0, locals := 187 }
set_option maxHeartbeats 4000000 in
set_option maxRecDepth 100000 in
theorem kX11_rateFor (l : Launch) (D : va_G) (cI cZ cS : ClassId) (zz : ZT) (ad : Nat → Nat) (σ : SS) (a1 : Int32) (a2 : Int32) (rr : Int32) (σr : SS) (hf : pX11_rateFor σ a1 a2 = some (rr, σr)) : CI l yX11_rateFor wsX11_rateFor rmX11_rateFor D (K3 cI cZ cS) zz [.ref (ad 0), .int a1, .int a2] (wX11 cI cZ cS ad σ) (wX11 cI cZ cS ad σr) rr := by
  refine q_ofI (cc := cX11_rateFor) (maxL := 3) (ty := .int) (by decide) rfl (Nat.le_of_ble_eq_true rfl) ?_
  intro p e s m below meth c Q A ls hx hb hml hown hts hK hZ hA hP hD hS hl hret
  have hl : lv_has ls 3 [(0, .ref (ad 0)), (1, .int a1), (2, .int a2)] := hl
  unfold pX11_rateFor at hf
  refine lv_iload_n hx hb dX11_rateFor_0 rfl (lv_at hl 1 rfl) ?_
  refine lv_iload_n hx hb dX11_rateFor_1 rfl (lv_at hl 2 rfl) ?_
  refine q_cSr (wf := (wX11 cI cZ cS ad)) (rest := []) ⟨hx, hb, hml, hown, hts⟩ hK hZ hA hP hD hS hf (fun x ho => kX11_isTrial l D cI cZ cS zz a1 a2 x ho) (va_cwS 2 hts gX11_rateFor_X11_isTrial rfl rfl rfl ndX11_isTrial.2 ⟨Nat.le_of_ble_eq_true rfl, Nat.le_of_ble_eq_true rfl⟩) rfl (hl.1) rfl (Nat.le_of_ble_eq_true rfl) dX11_rateFor_2 ⟨Nat.zero_le _, Nat.zero_le _⟩ (fun r1 H locs hf hP hD hS => ?_)
  refine lv_if_ne (tgt := 15) hx hb dX11_rateFor_5 (by decide) (fun h2 => ?_) (fun h2 => ?_)
  · have hf := (if_neg h2).symm.trans hf
    refine lv_aload_n hx hb dX11_rateFor_15 rfl (lv_at hl 0 rfl) ?_
    refine lv_aload_n hx hb dX11_rateFor_16 rfl (lv_at hl 0 rfl) ?_
    refine va_get (D := D) (ci := 11) (C := RX11) (T := TX11) (N := 9) hx hb hts fwX11_rateFor_X11 hown hK hP 0 rfl rfl 7 (by decide) (hts _ (List.mem_of_getElem? (i := 2) rfl)) (fun _ h9 => h9) rfl dX11_rateFor_17 ?_
    refine lv_iload_n hx hb dX11_rateFor_20 rfl (lv_at hl 1 rfl) ?_
    refine lv_iload_n hx hb dX11_rateFor_21 rfl (lv_at hl 2 rfl) ?_
    refine q_cVi (wf := (wX11 cI cZ cS ad)) (wc := wX3 cI cZ cS (fun i => ad (if i < 1 then 52 + i else if i < 14 then 3 + (i - 1) else 53 + (i - 14)))) (rest := [.ref (ad 0)]) ⟨hx, hb, hml, hown, hts⟩ hK hZ hA hP hD hS hf (fun x τ ho => kX3_leastRate l D cI cZ cS zz (fun i => ad (if i < 1 then 52 + i else if i < 14 then 3 + (i - 1) else 53 + (i - 14))) (q_ap 1 (q_sb σ 52) (q_ap 13 (q_sb σ 3) (q_sb σ 53))) a1 a2 x τ ho) (cwV 2 hts gX11_rateFor_X3_leastRate rfl rfl rfl ndX3_leastRate ⟨Nat.le_of_ble_eq_true rfl, Nat.le_of_ble_eq_true rfl⟩) [52, 3, 4, 5, 6, 7, 8, 9, 10, 11, 12, 13, 14, 15, 53, 54, 55, 56, 57, 58, 59, 60, 61, 62, 63, 64, 65, 66] rfl rfl [none, none, none, some 1, some 2, some 3, some 4, some 5, some 6, some 7, some 8, some 9, some 10, some 11, some 12, some 13, none, none, none, none, none, none, none, none, none, none, none, none, none, none, none, none, none, none, none, none, none, none, none, none, none, none, none, none, none, none, none, none, none, none, none, none, some 0, some 14, some 15, some 16, some 17, some 18, some 19, some 20, some 21, some 22, some 23, some 24, some 25, some 26, some 27, none, none, none, none, none] (by decide +kernel) (Nat.le_of_ble_eq_true rfl) (fun _ => rfl) (fun _ => rfl) (fun _ => rfl) rfl rfl rfl rfl (hl.1) rfl (Nat.le_of_ble_eq_true rfl) dX11_rateFor_22 ⟨Nat.zero_le _, Nat.zero_le _⟩ (fun r4 σ3 H locs hf hP hD hS => ?_)
    refine q_cVi (wf := (wX11 cI cZ cS ad)) (wc := wX11 cI cZ cS ad) (rest := []) ⟨hx, hb, hml, hown, hts⟩ hK hZ hA hP hD hS hf (fun x τ ho => kX11_orNone l D cI cZ cS zz ad σ3 r4 x τ ho) (cwV 1 hts gX11_rateFor_X11_orNone rfl rfl rfl ndX11_orNone ⟨Nat.le_of_ble_eq_true rfl, Nat.le_of_ble_eq_true rfl⟩) [0, 1, 2, 3, 4, 5, 6, 7, 8, 9, 10, 11, 12, 13, 14, 15, 16, 17, 18, 19, 20, 21, 22, 23, 24, 25, 26, 27, 28, 29, 30, 31, 32, 33, 34, 35, 36, 37, 38, 39, 40, 41, 42, 43, 44, 45, 46, 47, 48, 49, 50, 51, 52, 53, 54, 55, 56, 57, 58, 59, 60, 61, 62, 63, 64, 65, 66, 67, 68, 69, 70, 71] rfl rfl [some 0, some 1, some 2, some 3, some 4, some 5, some 6, some 7, some 8, some 9, some 10, some 11, some 12, some 13, some 14, some 15, some 16, some 17, some 18, some 19, some 20, some 21, some 22, some 23, some 24, some 25, some 26, some 27, some 28, some 29, some 30, some 31, some 32, some 33, some 34, some 35, some 36, some 37, some 38, some 39, some 40, some 41, some 42, some 43, some 44, some 45, some 46, some 47, some 48, some 49, some 50, some 51, some 52, some 53, some 54, some 55, some 56, some 57, some 58, some 59, some 60, some 61, some 62, some 63, some 64, some 65, some 66, some 67, some 68, some 69, some 70, some 71] (by decide +kernel) (Nat.le_of_ble_eq_true rfl) (fun _ => rfl) (fun _ => rfl) (fun _ => rfl) rfl rfl rfl rfl (hl.1) rfl (Nat.le_of_ble_eq_true rfl) dX11_rateFor_25 ⟨Nat.zero_le _, Nat.zero_le _⟩ (fun r6 σ5 H locs hf hP hD hS => ?_)
    obtain ⟨hi1, hi2⟩ := Prod.mk.inj (Option.some.inj hf)
    subst hi1
    subst hi2
    exact hret _ _ _ _ dX11_rateFor_28 rfl hP hS
  · have hf := (if_pos h2).symm.trans hf
    refine lv_aload_n hx hb dX11_rateFor_8 rfl (lv_at hl 0 rfl) ?_
    refine lv_ldc (v := -1000001) hx hb hown (hts _ (List.mem_of_getElem? (i := 1) rfl)) dX11_rateFor_9 ?_
    refine q_cVi (wf := (wX11 cI cZ cS ad)) (wc := wX11 cI cZ cS ad) (rest := []) ⟨hx, hb, hml, hown, hts⟩ hK hZ hA hP hD hS hf (fun x τ ho => kX11_tell l D cI cZ cS zz ad σ (-1000001 : Int32) x τ ho) (cwV 1 hts gX11_rateFor_X11_tell rfl rfl rfl ndX11_tell ⟨Nat.le_of_ble_eq_true rfl, Nat.le_of_ble_eq_true rfl⟩) [0, 1, 2, 3, 4, 5, 6, 7, 8, 9, 10, 11, 12, 13, 14, 15, 16, 17, 18, 19, 20, 21, 22, 23, 24, 25, 26, 27, 28, 29, 30, 31, 32, 33, 34, 35, 36, 37, 38, 39, 40, 41, 42, 43, 44, 45, 46, 47, 48, 49, 50, 51, 52, 53, 54, 55, 56, 57, 58, 59, 60, 61, 62, 63, 64, 65, 66, 67, 68, 69, 70, 71] rfl rfl [some 0, some 1, some 2, some 3, some 4, some 5, some 6, some 7, some 8, some 9, some 10, some 11, some 12, some 13, some 14, some 15, some 16, some 17, some 18, some 19, some 20, some 21, some 22, some 23, some 24, some 25, some 26, some 27, some 28, some 29, some 30, some 31, some 32, some 33, some 34, some 35, some 36, some 37, some 38, some 39, some 40, some 41, some 42, some 43, some 44, some 45, some 46, some 47, some 48, some 49, some 50, some 51, some 52, some 53, some 54, some 55, some 56, some 57, some 58, some 59, some 60, some 61, some 62, some 63, some 64, some 65, some 66, some 67, some 68, some 69, some 70, some 71] (by decide +kernel) (Nat.le_of_ble_eq_true rfl) (fun _ => rfl) (fun _ => rfl) (fun _ => rfl) rfl rfl rfl rfl (hl.1) rfl (Nat.le_of_ble_eq_true rfl) dX11_rateFor_11 ⟨Nat.zero_le _, Nat.zero_le _⟩ (fun r8 σ7 H locs hf hP hD hS => ?_)
    obtain ⟨hi1, hi2⟩ := Prod.mk.inj (Option.some.inj hf)
    subst hi1
    subst hi2
    exact hret _ _ _ _ dX11_rateFor_14 rfl hP hS
def pX11_batteryFor (σ : SS) (a1 : Int32) (a2 : Int32) : Option (Int32 × SS) := q_cr (pX11_isTrial a1 a2) (fun (r1 : Int32) => (if r1 = (0 : Int32) then q_ci (pX11_tell σ (-1000001 : Int32)) (fun (τ : SS) => τ) (fun (r8 : Int32) (σ7 : SS) => some (r8, σ7)) else q_ci (pX3_leastBattery (q_ap 1 (q_sb σ 52) (q_ap 13 (q_sb σ 3) (q_sb σ 53))) a1 a2) (fun (τ : SS) => (q_em (q_em (q_em σ 52 0 1 τ) 3 1 13 τ) 53 14 14 τ)) (fun (r4 : Int32) (σ3 : SS) => q_ci (pX11_orNone σ3 r4) (fun (τ : SS) => τ) (fun (r6 : Int32) (σ5 : SS) => some (r6, σ5)))))
theorem fwX11_batteryFor_X11 : ∀ w ∈ wsX110, w ∈ wsX11_batteryFor := fun _ h => List.mem_cons_of_mem _ (List.mem_append_left _ (List.mem_append_left _ (List.mem_append_left _ (List.mem_append_left _ (List.mem_append_left _ (List.mem_append_right _ h))))))
abbrev rmX11_batteryFor : Room := { frames := 7, cells := 0, slots := 0, locals := 187 }
set_option maxHeartbeats 4000000 in
set_option maxRecDepth 100000 in
theorem kX11_batteryFor (l : Launch) (D : va_G) (cI cZ cS : ClassId) (zz : ZT) (ad : Nat → Nat) (σ : SS) (a1 : Int32) (a2 : Int32) (rr : Int32) (σr : SS) (hf : pX11_batteryFor σ a1 a2 = some (rr, σr)) : CI l yX11_batteryFor wsX11_batteryFor rmX11_batteryFor D (K3 cI cZ cS) zz [.ref (ad 0), .int a1, .int a2] (wX11 cI cZ cS ad σ) (wX11 cI cZ cS ad σr) rr := by
  refine q_ofI (cc := cX11_batteryFor) (maxL := 3) (ty := .int) (by decide) rfl (Nat.le_of_ble_eq_true rfl) ?_
  intro p e s m below meth c Q A ls hx hb hml hown hts hK hZ hA hP hD hS hl hret
  have hl : lv_has ls 3 [(0, .ref (ad 0)), (1, .int a1), (2, .int a2)] := hl
  unfold pX11_batteryFor at hf
  refine lv_iload_n hx hb dX11_batteryFor_0 rfl (lv_at hl 1 rfl) ?_
  refine lv_iload_n hx hb dX11_batteryFor_1 rfl (lv_at hl 2 rfl) ?_
  refine q_cSr (wf := (wX11 cI cZ cS ad)) (rest := []) ⟨hx, hb, hml, hown, hts⟩ hK hZ hA hP hD hS hf (fun x ho => kX11_isTrial l D cI cZ cS zz a1 a2 x ho) (va_cwS 2 hts gX11_batteryFor_X11_isTrial rfl rfl rfl ndX11_isTrial.2 ⟨Nat.le_of_ble_eq_true rfl, Nat.le_of_ble_eq_true rfl⟩) rfl (hl.1) rfl (Nat.le_of_ble_eq_true rfl) dX11_batteryFor_2 ⟨Nat.zero_le _, Nat.zero_le _⟩ (fun r1 H locs hf hP hD hS => ?_)
  refine lv_if_ne (tgt := 15) hx hb dX11_batteryFor_5 (by decide) (fun h2 => ?_) (fun h2 => ?_)
  · have hf := (if_neg h2).symm.trans hf
    refine lv_aload_n hx hb dX11_batteryFor_15 rfl (lv_at hl 0 rfl) ?_
    refine lv_aload_n hx hb dX11_batteryFor_16 rfl (lv_at hl 0 rfl) ?_
    refine va_get (D := D) (ci := 11) (C := RX11) (T := TX11) (N := 9) hx hb hts fwX11_batteryFor_X11 hown hK hP 0 rfl rfl 7 (by decide) (hts _ (List.mem_of_getElem? (i := 2) rfl)) (fun _ h9 => h9) rfl dX11_batteryFor_17 ?_
    refine lv_iload_n hx hb dX11_batteryFor_20 rfl (lv_at hl 1 rfl) ?_
    refine lv_iload_n hx hb dX11_batteryFor_21 rfl (lv_at hl 2 rfl) ?_
    refine q_cVi (wf := (wX11 cI cZ cS ad)) (wc := wX3 cI cZ cS (fun i => ad (if i < 1 then 52 + i else if i < 14 then 3 + (i - 1) else 53 + (i - 14)))) (rest := [.ref (ad 0)]) ⟨hx, hb, hml, hown, hts⟩ hK hZ hA hP hD hS hf (fun x τ ho => kX3_leastBattery l D cI cZ cS zz (fun i => ad (if i < 1 then 52 + i else if i < 14 then 3 + (i - 1) else 53 + (i - 14))) (q_ap 1 (q_sb σ 52) (q_ap 13 (q_sb σ 3) (q_sb σ 53))) a1 a2 x τ ho) (cwV 2 hts gX11_batteryFor_X3_leastBattery rfl rfl rfl ndX3_leastBattery ⟨Nat.le_of_ble_eq_true rfl, Nat.le_of_ble_eq_true rfl⟩) [52, 3, 4, 5, 6, 7, 8, 9, 10, 11, 12, 13, 14, 15, 53, 54, 55, 56, 57, 58, 59, 60, 61, 62, 63, 64, 65, 66] rfl rfl [none, none, none, some 1, some 2, some 3, some 4, some 5, some 6, some 7, some 8, some 9, some 10, some 11, some 12, some 13, none, none, none, none, none, none, none, none, none, none, none, none, none, none, none, none, none, none, none, none, none, none, none, none, none, none, none, none, none, none, none, none, none, none, none, none, some 0, some 14, some 15, some 16, some 17, some 18, some 19, some 20, some 21, some 22, some 23, some 24, some 25, some 26, some 27, none, none, none, none, none] (by decide +kernel) (Nat.le_of_ble_eq_true rfl) (fun _ => rfl) (fun _ => rfl) (fun _ => rfl) rfl rfl rfl rfl (hl.1) rfl (Nat.le_of_ble_eq_true rfl) dX11_batteryFor_22 ⟨Nat.zero_le _, Nat.zero_le _⟩ (fun r4 σ3 H locs hf hP hD hS => ?_)
    refine q_cVi (wf := (wX11 cI cZ cS ad)) (wc := wX11 cI cZ cS ad) (rest := []) ⟨hx, hb, hml, hown, hts⟩ hK hZ hA hP hD hS hf (fun x τ ho => kX11_orNone l D cI cZ cS zz ad σ3 r4 x τ ho) (cwV 1 hts gX11_batteryFor_X11_orNone rfl rfl rfl ndX11_orNone ⟨Nat.le_of_ble_eq_true rfl, Nat.le_of_ble_eq_true rfl⟩) [0, 1, 2, 3, 4, 5, 6, 7, 8, 9, 10, 11, 12, 13, 14, 15, 16, 17, 18, 19, 20, 21, 22, 23, 24, 25, 26, 27, 28, 29, 30, 31, 32, 33, 34, 35, 36, 37, 38, 39, 40, 41, 42, 43, 44, 45, 46, 47, 48, 49, 50, 51, 52, 53, 54, 55, 56, 57, 58, 59, 60, 61, 62, 63, 64, 65, 66, 67, 68, 69, 70, 71] rfl rfl [some 0, some 1, some 2, some 3, some 4, some 5, some 6, some 7, some 8, some 9, some 10, some 11, some 12, some 13, some 14, some 15, some 16, some 17, some 18, some 19, some 20, some 21, some 22, some 23, some 24, some 25, some 26, some 27, some 28, some 29, some 30, some 31, some 32, some 33, some 34, some 35, some 36, some 37, some 38, some 39, some 40, some 41, some 42, some 43, some 44, some 45, some 46, some 47, some 48, some 49, some 50, some 51, some 52, some 53, some 54, some 55, some 56, some 57, some 58, some 59, some 60, some 61, some 62, some 63, some 64, some 65, some 66, some 67, some 68, some 69, some 70, some 71] (by decide +kernel) (Nat.le_of_ble_eq_true rfl) (fun _ => rfl) (fun _ => rfl) (fun _ => rfl) rfl rfl rfl rfl (hl.1) rfl (Nat.le_of_ble_eq_true rfl) dX11_batteryFor_25 ⟨Nat.zero_le _, Nat.zero_le _⟩ (fun r6 σ5 H locs hf hP hD hS => ?_)
    obtain ⟨hi1, hi2⟩ := Prod.mk.inj (Option.some.inj hf)
    subst hi1
    subst hi2
    exact hret _ _ _ _ dX11_batteryFor_28 rfl hP hS
  · have hf := (if_pos h2).symm.trans hf
    refine lv_aload_n hx hb dX11_batteryFor_8 rfl (lv_at hl 0 rfl) ?_
    refine lv_ldc (v := -1000001) hx hb hown (hts _ (List.mem_of_getElem? (i := 1) rfl)) dX11_batteryFor_9 ?_
    refine q_cVi (wf := (wX11 cI cZ cS ad)) (wc := wX11 cI cZ cS ad) (rest := []) ⟨hx, hb, hml, hown, hts⟩ hK hZ hA hP hD hS hf (fun x τ ho => kX11_tell l D cI cZ cS zz ad σ (-1000001 : Int32) x τ ho) (cwV 1 hts gX11_batteryFor_X11_tell rfl rfl rfl ndX11_tell ⟨Nat.le_of_ble_eq_true rfl, Nat.le_of_ble_eq_true rfl⟩) [0, 1, 2, 3, 4, 5, 6, 7, 8, 9, 10, 11, 12, 13, 14, 15, 16, 17, 18, 19, 20, 21, 22, 23, 24, 25, 26, 27, 28, 29, 30, 31, 32, 33, 34, 35, 36, 37, 38, 39, 40, 41, 42, 43, 44, 45, 46, 47, 48, 49, 50, 51, 52, 53, 54, 55, 56, 57, 58, 59, 60, 61, 62, 63, 64, 65, 66, 67, 68, 69, 70, 71] rfl rfl [some 0, some 1, some 2, some 3, some 4, some 5, some 6, some 7, some 8, some 9, some 10, some 11, some 12, some 13, some 14, some 15, some 16, some 17, some 18, some 19, some 20, some 21, some 22, some 23, some 24, some 25, some 26, some 27, some 28, some 29, some 30, some 31, some 32, some 33, some 34, some 35, some 36, some 37, some 38, some 39, some 40, some 41, some 42, some 43, some 44, some 45, some 46, some 47, some 48, some 49, some 50, some 51, some 52, some 53, some 54, some 55, some 56, some 57, some 58, some 59, some 60, some 61, some 62, some 63, some 64, some 65, some 66, some 67, some 68, some 69, some 70, some 71] (by decide +kernel) (Nat.le_of_ble_eq_true rfl) (fun _ => rfl) (fun _ => rfl) (fun _ => rfl) rfl rfl rfl rfl (hl.1) rfl (Nat.le_of_ble_eq_true rfl) dX11_batteryFor_11 ⟨Nat.zero_le _, Nat.zero_le _⟩ (fun r8 σ7 H locs hf hP hD hS => ?_)
    obtain ⟨hi1, hi2⟩ := Prod.mk.inj (Option.some.inj hf)
    subst hi1
    subst hi2
    exact hret _ _ _ _ dX11_batteryFor_14 rfl hP hS
def pX11_cost (σ : SS) (a1 : Int32) (a2 : Int32) : Option (Int32 × SS) := q_cr (pX11_within a1 (0 : Int32) (3 : Int32)) (fun (r1 : Int32) => q_lt (q_ci (pX11_tell σ (-1000001 : Int32)) (fun (τ : SS) => τ) (fun (r4 : Int32) (σ3 : SS) => some (r4, σ3))) (fun j2 => (if r1 = (0 : Int32) then j2 else q_cr (pX11_within a2 (0 : Int32) (999 : Int32)) (fun (r6 : Int32) => (if r6 = (0 : Int32) then j2 else q_rd (σ 15) 4 a1 (fun (v8 : Int32) => q_wr σ 15 4 a1 a2 (fun (σ9 : SS) => some (v8, σ9))))))))
theorem fwX11_cost_X0 : ∀ w ∈ wsX00, w ∈ wsX11_cost := fun _ h => List.mem_cons_of_mem _ (List.mem_append_right _ h)
theorem fwX11_cost_X11 : ∀ w ∈ wsX110, w ∈ wsX11_cost := fun _ h => List.mem_cons_of_mem _ (List.mem_append_left _ (List.mem_append_left _ (List.mem_append_right _ h)))
theorem fwX11_cost_X2 : ∀ w ∈ wsX20, w ∈ wsX11_cost := fun _ h => List.mem_cons_of_mem _ (List.mem_append_left _ (List.mem_append_right _ h))
abbrev rmX11_cost : Room := { frames := 1, cells := 0, slots := 0, locals := 22 }
set_option maxHeartbeats 4000000 in
set_option maxRecDepth 100000 in
theorem kX11_cost (l : Launch) (D : va_G) (cI cZ cS : ClassId) (zz : ZT) (ad : Nat → Nat) (σ : SS) (a1 : Int32) (a2 : Int32) (rr : Int32) (σr : SS) (hf : pX11_cost σ a1 a2 = some (rr, σr)) : CI l yX11_cost wsX11_cost rmX11_cost D (K3 cI cZ cS) zz [.ref (ad 0), .int a1, .int a2] (wX11 cI cZ cS ad σ) (wX11 cI cZ cS ad σr) rr := by
  refine q_ofI (cc := cX11_cost) (maxL := 4) (ty := .int) (by decide) rfl (Nat.le_of_ble_eq_true rfl) ?_
  intro p e s m below meth c Q A ls hx hb hml hown hts hK hZ hA hP hD hS hl hret
  have hl : lv_has ls 4 [(0, .ref (ad 0)), (1, .int a1), (2, .int a2)] := hl
  unfold pX11_cost at hf
  refine lv_iload_n hx hb dX11_cost_0 rfl (lv_at hl 1 rfl) ?_
  refine lv_iconst (v := 0) hx hb dX11_cost_1 (by decide) ?_
  refine lv_iconst (v := 3) hx hb dX11_cost_2 (by decide) ?_
  refine q_cSr (wf := (wX11 cI cZ cS ad)) (rest := []) ⟨hx, hb, hml, hown, hts⟩ hK hZ hA hP hD hS hf (fun x ho => kX11_within l D cI cZ cS zz a1 (0 : Int32) (3 : Int32) x ho) (va_cwS 3 hts gX11_cost_X11_within rfl rfl rfl ndX11_within.2 ⟨Nat.le_of_ble_eq_true rfl, Nat.le_of_ble_eq_true rfl⟩) rfl (hl.1) rfl (Nat.le_of_ble_eq_true rfl) dX11_cost_3 ⟨Nat.zero_le _, Nat.zero_le _⟩ (fun r1 H locs hf hP hD hS => ?_)
  refine q_lt_go hf (fun j2 ej2 hf => ?_)
  have Jj2 : ∀ (H : Heap) (locs : List Loc) (ls : Array Slot), va_P D vwCl ((wX11 cI cZ cS ad) σ) H → va_D A ((wX11 cI cZ cS ad) σ) → va_S A s.heap H locs → lv_has ls 4 [(0, .ref (ad 0))] → j2 = some (rr, σr) → W p l e rmX11_cost s m ([.ref (ad 0), .int a1, .int a2] : List Value).toArray below meth c H locs 0 0 Q (F0 m 20 ls []) := by
    intro  H locs ls hP hD hS hl hf
    have hf := ej2.symm.trans hf
    refine lv_aload_n hx hb dX11_cost_20 rfl (lv_at hl 0 rfl) ?_
    refine lv_ldc (v := -1000001) hx hb hown (hts _ (List.mem_of_getElem? (i := 1) rfl)) dX11_cost_21 ?_
    refine q_cVi (wf := (wX11 cI cZ cS ad)) (wc := wX11 cI cZ cS ad) (rest := []) ⟨hx, hb, hml, hown, hts⟩ hK hZ hA hP hD hS hf (fun x τ ho => kX11_tell l D cI cZ cS zz ad σ (-1000001 : Int32) x τ ho) (cwV 1 hts gX11_cost_X11_tell rfl rfl rfl ndX11_tell ⟨Nat.le_of_ble_eq_true rfl, Nat.le_of_ble_eq_true rfl⟩) [0, 1, 2, 3, 4, 5, 6, 7, 8, 9, 10, 11, 12, 13, 14, 15, 16, 17, 18, 19, 20, 21, 22, 23, 24, 25, 26, 27, 28, 29, 30, 31, 32, 33, 34, 35, 36, 37, 38, 39, 40, 41, 42, 43, 44, 45, 46, 47, 48, 49, 50, 51, 52, 53, 54, 55, 56, 57, 58, 59, 60, 61, 62, 63, 64, 65, 66, 67, 68, 69, 70, 71] rfl rfl [some 0, some 1, some 2, some 3, some 4, some 5, some 6, some 7, some 8, some 9, some 10, some 11, some 12, some 13, some 14, some 15, some 16, some 17, some 18, some 19, some 20, some 21, some 22, some 23, some 24, some 25, some 26, some 27, some 28, some 29, some 30, some 31, some 32, some 33, some 34, some 35, some 36, some 37, some 38, some 39, some 40, some 41, some 42, some 43, some 44, some 45, some 46, some 47, some 48, some 49, some 50, some 51, some 52, some 53, some 54, some 55, some 56, some 57, some 58, some 59, some 60, some 61, some 62, some 63, some 64, some 65, some 66, some 67, some 68, some 69, some 70, some 71] (by decide +kernel) (Nat.le_of_ble_eq_true rfl) (fun _ => rfl) (fun _ => rfl) (fun _ => rfl) rfl rfl rfl rfl (hl.1) rfl (Nat.le_of_ble_eq_true rfl) dX11_cost_23 ⟨Nat.zero_le _, Nat.zero_le _⟩ (fun r4 σ3 H locs hf hP hD hS => ?_)
    obtain ⟨hi1, hi2⟩ := Prod.mk.inj (Option.some.inj hf)
    subst hi1
    subst hi2
    exact hret _ _ _ _ dX11_cost_26 rfl hP hS
  refine lv_if_eq (tgt := 20) hx hb dX11_cost_6 (by decide) (fun h5 => ?_) (fun h5 => ?_)
  · have hf := (if_pos h5).symm.trans hf
    exact Jj2  _ _ _ hP hD hS (lv_sub hl [0] rfl) hf
  · have hf := (if_neg h5).symm.trans hf
    refine lv_iload_n hx hb dX11_cost_9 rfl (lv_at hl 2 rfl) ?_
    refine lv_iconst (v := 0) hx hb dX11_cost_10 (by decide) ?_
    refine lv_sipush (v := 999) hx hb dX11_cost_11 (by decide) ?_
    refine q_cSr (wf := (wX11 cI cZ cS ad)) (rest := []) ⟨hx, hb, hml, hown, hts⟩ hK hZ hA hP hD hS hf (fun x ho => kX11_within l D cI cZ cS zz a2 (0 : Int32) (999 : Int32) x ho) (va_cwS 3 hts gX11_cost_X11_within rfl rfl rfl ndX11_within.2 ⟨Nat.le_of_ble_eq_true rfl, Nat.le_of_ble_eq_true rfl⟩) rfl (hl.1) rfl (Nat.le_of_ble_eq_true rfl) dX11_cost_14 ⟨Nat.zero_le _, Nat.zero_le _⟩ (fun r6 H locs hf hP hD hS => ?_)
    refine lv_if_ne (tgt := 27) hx hb dX11_cost_17 (by decide) (fun h7 => ?_) (fun h7 => ?_)
    · have hf := (if_neg h7).symm.trans hf
      refine lv_aload_n hx hb dX11_cost_27 rfl (lv_at hl 0 rfl) ?_
      refine va_get (D := D) (ci := 11) (C := RX11) (T := TX11) (N := 9) hx hb hts fwX11_cost_X11 hown hK hP 0 rfl rfl 1 (by decide) (hts _ (List.mem_of_getElem? (i := 2) rfl)) (fun _ h9 => h9) rfl dX11_cost_28 ?_
      refine va_get (D := D) (ci := 2) (C := RX2) (T := TX2) (N := 4) hx hb hts fwX11_cost_X2 hown hK hP 2 rfl rfl 0 (by decide) (hts _ (List.mem_of_getElem? (i := 3) rfl)) (fun _ h9 => h9) rfl dX11_cost_31 ?_
      refine va_get (D := D) (ci := 0) (C := RX0) (T := TX0) (N := 13) hx hb hts fwX11_cost_X0 hown hK hP 3 rfl rfl 3 (by decide) (hts _ (List.mem_of_getElem? (i := 4) rfl)) (fun _ h9 => h9) rfl dX11_cost_34 ?_
      refine lv_iload_n hx hb dX11_cost_37 rfl (lv_at hl 1 rfl) ?_
      refine w_iald (wf := (wX11 cI cZ cS ad)) hx hb hK hP 15 0 rfl rfl hf dX11_cost_38 (fun v8 hf => ?_)
      refine lv_istore_n (lv' := [(3, .int v8), (0, .ref (ad 0)), (1, .int a1), (2, .int a2)]) hx hb dX11_cost_39 rfl hl (by decide) rfl (fun ls hl => ?_)
      refine lv_aload_n hx hb dX11_cost_40 rfl (lv_at hl 1 rfl) ?_
      refine va_get (D := D) (ci := 11) (C := RX11) (T := TX11) (N := 9) hx hb hts fwX11_cost_X11 hown hK hP 0 rfl rfl 1 (by decide) (hts _ (List.mem_of_getElem? (i := 2) rfl)) (fun _ h9 => h9) rfl dX11_cost_41 ?_
      refine va_get (D := D) (ci := 2) (C := RX2) (T := TX2) (N := 4) hx hb hts fwX11_cost_X2 hown hK hP 2 rfl rfl 0 (by decide) (hts _ (List.mem_of_getElem? (i := 3) rfl)) (fun _ h9 => h9) rfl dX11_cost_44 ?_
      refine va_get (D := D) (ci := 0) (C := RX0) (T := TX0) (N := 13) hx hb hts fwX11_cost_X0 hown hK hP 3 rfl rfl 3 (by decide) (hts _ (List.mem_of_getElem? (i := 4) rfl)) (fun _ h9 => h9) rfl dX11_cost_47 ?_
      refine lv_iload_n hx hb dX11_cost_50 rfl (lv_at hl 2 rfl) ?_
      refine lv_iload_n hx hb dX11_cost_51 rfl (lv_at hl 3 rfl) ?_
      refine w_iast (wf := (wX11 cI cZ cS ad)) (cid := 15) hx hb hK hP hD hS 15 0 rfl rfl hf (fun _ => rfl) dX11_cost_52 (fun σ9 H locs hf hP hD hS => ?_)
      refine lv_iload_n hx hb dX11_cost_53 rfl (lv_at hl 0 rfl) ?_
      obtain ⟨hi1, hi2⟩ := Prod.mk.inj (Option.some.inj hf)
      subst hi1
      subst hi2
      exact hret _ _ _ _ dX11_cost_54 rfl hP hS
    · have hf := (if_pos h7).symm.trans hf
      exact Jj2  _ _ _ hP hD hS (lv_sub hl [0] rfl) hf
def pX11_build (σ : SS) (a1 : Int32) : Option (Int32 × SS) := q_cr (pX11_within a1 (0 : Int32) (3 : Int32)) (fun (r1 : Int32) => (if r1 = (0 : Int32) then q_ci (pX11_tell σ (-1000001 : Int32)) (fun (τ : SS) => τ) (fun (r9 : Int32) (σ8 : SS) => some (r9, σ8)) else q_cr (pX0_has (q_sb σ 3) a1) (fun (r3 : Int32) => (if r3 = (0 : Int32) then q_cs (pX0_construct (q_sb σ 3) a1) (fun (τ : SS) => (q_em σ 3 0 13 τ)) (fun (σ5 : SS) => some ((σ5 3 4), σ5)) else q_ci (pX11_tell σ (-1000005 : Int32)) (fun (τ : SS) => τ) (fun (r7 : Int32) (σ6 : SS) => some (r7, σ6))))))
theorem fwX11_build_X0 : ∀ w ∈ wsX00, w ∈ wsX11_build := fun _ h => List.mem_cons_of_mem _ (List.mem_append_left _ (List.mem_append_right _ h))
theorem fwX11_build_X11 : ∀ w ∈ wsX110, w ∈ wsX11_build := fun _ h => List.mem_cons_of_mem _ (List.mem_append_left _ (List.mem_append_left _ (List.mem_append_left _ (List.mem_append_right _ h))))
theorem fwX11_build_X2 : ∀ w ∈ wsX20, w ∈ wsX11_build := fun _ h => List.mem_cons_of_mem _ (List.mem_append_left _ (List.mem_append_left _ (List.mem_append_right _ h)))
abbrev rmX11_build : Room := { frames := 2, cells := 0, slots := 0, locals := 45 }
set_option maxHeartbeats 4000000 in
set_option maxRecDepth 100000 in
theorem kX11_build (l : Launch) (D : va_G) (cI cZ cS : ClassId) (zz : ZT) (ad : Nat → Nat) (σ : SS) (a1 : Int32) (rr : Int32) (σr : SS) (hf : pX11_build σ a1 = some (rr, σr)) : CI l yX11_build wsX11_build rmX11_build D (K3 cI cZ cS) zz [.ref (ad 0), .int a1] (wX11 cI cZ cS ad σ) (wX11 cI cZ cS ad σr) rr := by
  refine q_ofI (cc := cX11_build) (maxL := 2) (ty := .int) (by decide) rfl (Nat.le_of_ble_eq_true rfl) ?_
  intro p e s m below meth c Q A ls hx hb hml hown hts hK hZ hA hP hD hS hl hret
  have hl : lv_has ls 2 [(0, .ref (ad 0)), (1, .int a1)] := hl
  unfold pX11_build at hf
  refine lv_iload_n hx hb dX11_build_0 rfl (lv_at hl 1 rfl) ?_
  refine lv_iconst (v := 0) hx hb dX11_build_1 (by decide) ?_
  refine lv_iconst (v := 3) hx hb dX11_build_2 (by decide) ?_
  refine q_cSr (wf := (wX11 cI cZ cS ad)) (rest := []) ⟨hx, hb, hml, hown, hts⟩ hK hZ hA hP hD hS hf (fun x ho => kX11_within l D cI cZ cS zz a1 (0 : Int32) (3 : Int32) x ho) (va_cwS 3 hts gX11_build_X11_within rfl rfl rfl ndX11_within.2 ⟨Nat.le_of_ble_eq_true rfl, Nat.le_of_ble_eq_true rfl⟩) rfl (hl.1) rfl (Nat.le_of_ble_eq_true rfl) dX11_build_3 ⟨Nat.zero_le _, Nat.zero_le _⟩ (fun r1 H locs hf hP hD hS => ?_)
  refine lv_if_ne (tgt := 16) hx hb dX11_build_6 (by decide) (fun h2 => ?_) (fun h2 => ?_)
  · have hf := (if_neg h2).symm.trans hf
    refine lv_aload_n hx hb dX11_build_16 rfl (lv_at hl 0 rfl) ?_
    refine va_get (D := D) (ci := 11) (C := RX11) (T := TX11) (N := 9) hx hb hts fwX11_build_X11 hown hK hP 0 rfl rfl 1 (by decide) (hts _ (List.mem_of_getElem? (i := 2) rfl)) (fun _ h9 => h9) rfl dX11_build_17 ?_
    refine va_get (D := D) (ci := 2) (C := RX2) (T := TX2) (N := 4) hx hb hts fwX11_build_X2 hown hK hP 2 rfl rfl 0 (by decide) (hts _ (List.mem_of_getElem? (i := 3) rfl)) (fun _ h9 => h9) rfl dX11_build_20 ?_
    refine lv_iload_n hx hb dX11_build_23 rfl (lv_at hl 1 rfl) ?_
    refine q_cVr (wf := (wX11 cI cZ cS ad)) (wc := wX0 cI cZ cS (fun i => ad (3 + i))) (rest := []) ⟨hx, hb, hml, hown, hts⟩ hK hZ hA hP hD hS hf (fun x ho => kX0_has l D cI cZ cS zz (fun i => ad (3 + i)) (q_sb σ 3) a1 x ho) (cwV 1 hts gX11_build_X0_has rfl rfl rfl ndX0_has ⟨Nat.le_of_ble_eq_true rfl, Nat.le_of_ble_eq_true rfl⟩) [3, 4, 5, 6, 7, 8, 9, 10, 11, 12, 13, 14, 15] rfl rfl rfl rfl rfl rfl (hl.1) rfl (Nat.le_of_ble_eq_true rfl) dX11_build_24 ⟨Nat.zero_le _, Nat.zero_le _⟩ (fun r3 H locs hf hP hD hS => ?_)
    refine lv_if_eq (tgt := 37) hx hb dX11_build_27 (by decide) (fun h4 => ?_) (fun h4 => ?_)
    · have hf := (if_pos h4).symm.trans hf
      refine lv_aload_n hx hb dX11_build_37 rfl (lv_at hl 0 rfl) ?_
      refine va_get (D := D) (ci := 11) (C := RX11) (T := TX11) (N := 9) hx hb hts fwX11_build_X11 hown hK hP 0 rfl rfl 1 (by decide) (hts _ (List.mem_of_getElem? (i := 2) rfl)) (fun _ h9 => h9) rfl dX11_build_38 ?_
      refine va_get (D := D) (ci := 2) (C := RX2) (T := TX2) (N := 4) hx hb hts fwX11_build_X2 hown hK hP 2 rfl rfl 0 (by decide) (hts _ (List.mem_of_getElem? (i := 3) rfl)) (fun _ h9 => h9) rfl dX11_build_41 ?_
      refine lv_iload_n hx hb dX11_build_44 rfl (lv_at hl 1 rfl) ?_
      refine q_cVv (wf := (wX11 cI cZ cS ad)) (wc := wX0 cI cZ cS (fun i => ad (3 + i))) (rest := []) ⟨hx, hb, hml, hown, hts⟩ hK hZ hA hP hD hS hf (fun x ho => kX0_construct l D cI cZ cS zz (fun i => ad (3 + i)) (q_sb σ 3) a1 x ho) (cwV 1 hts gX11_build_X0_construct rfl rfl rfl ndX0_construct ⟨Nat.le_of_ble_eq_true rfl, Nat.le_of_ble_eq_true rfl⟩) [3, 4, 5, 6, 7, 8, 9, 10, 11, 12, 13, 14, 15] rfl rfl [none, none, none, some 0, some 1, some 2, some 3, some 4, some 5, some 6, some 7, some 8, some 9, some 10, some 11, some 12, none, none, none, none, none, none, none, none, none, none, none, none, none, none, none, none, none, none, none, none, none, none, none, none, none, none, none, none, none, none, none, none, none, none, none, none, none, none, none, none, none, none, none, none, none, none, none, none, none, none, none, none, none, none, none, none] (by decide +kernel) (Nat.le_of_ble_eq_true rfl) (fun _ => rfl) (fun _ => rfl) (fun _ => rfl) rfl rfl rfl rfl (hl.1) rfl (Nat.le_of_ble_eq_true rfl) dX11_build_45 ⟨Nat.zero_le _, Nat.zero_le _⟩ (fun σ5 H locs hf hP hD hS => ?_)
      refine lv_aload_n hx hb dX11_build_48 rfl (lv_at hl 0 rfl) ?_
      refine va_get (D := D) (ci := 11) (C := RX11) (T := TX11) (N := 9) hx hb hts fwX11_build_X11 hown hK hP 0 rfl rfl 1 (by decide) (hts _ (List.mem_of_getElem? (i := 2) rfl)) (fun _ h9 => h9) rfl dX11_build_49 ?_
      refine va_get (D := D) (ci := 2) (C := RX2) (T := TX2) (N := 4) hx hb hts fwX11_build_X2 hown hK hP 2 rfl rfl 0 (by decide) (hts _ (List.mem_of_getElem? (i := 3) rfl)) (fun _ h9 => h9) rfl dX11_build_52 ?_
      refine va_get (D := D) (ci := 0) (C := RX0) (T := TX0) (N := 13) hx hb hts fwX11_build_X0 hown hK hP 3 rfl rfl 4 (by decide) (hts _ (List.mem_of_getElem? (i := 5) rfl)) (fun _ h9 => h9) rfl dX11_build_55 ?_
      obtain ⟨hi1, hi2⟩ := Prod.mk.inj (Option.some.inj hf)
      subst hi1
      subst hi2
      exact hret _ _ _ _ dX11_build_58 rfl hP hS
    · have hf := (if_neg h4).symm.trans hf
      refine lv_aload_n hx hb dX11_build_30 rfl (lv_at hl 0 rfl) ?_
      refine lv_ldc (v := -1000005) hx hb hown (hts _ (List.mem_of_getElem? (i := 4) rfl)) dX11_build_31 ?_
      refine q_cVi (wf := (wX11 cI cZ cS ad)) (wc := wX11 cI cZ cS ad) (rest := []) ⟨hx, hb, hml, hown, hts⟩ hK hZ hA hP hD hS hf (fun x τ ho => kX11_tell l D cI cZ cS zz ad σ (-1000005 : Int32) x τ ho) (cwV 1 hts gX11_build_X11_tell rfl rfl rfl ndX11_tell ⟨Nat.le_of_ble_eq_true rfl, Nat.le_of_ble_eq_true rfl⟩) [0, 1, 2, 3, 4, 5, 6, 7, 8, 9, 10, 11, 12, 13, 14, 15, 16, 17, 18, 19, 20, 21, 22, 23, 24, 25, 26, 27, 28, 29, 30, 31, 32, 33, 34, 35, 36, 37, 38, 39, 40, 41, 42, 43, 44, 45, 46, 47, 48, 49, 50, 51, 52, 53, 54, 55, 56, 57, 58, 59, 60, 61, 62, 63, 64, 65, 66, 67, 68, 69, 70, 71] rfl rfl [some 0, some 1, some 2, some 3, some 4, some 5, some 6, some 7, some 8, some 9, some 10, some 11, some 12, some 13, some 14, some 15, some 16, some 17, some 18, some 19, some 20, some 21, some 22, some 23, some 24, some 25, some 26, some 27, some 28, some 29, some 30, some 31, some 32, some 33, some 34, some 35, some 36, some 37, some 38, some 39, some 40, some 41, some 42, some 43, some 44, some 45, some 46, some 47, some 48, some 49, some 50, some 51, some 52, some 53, some 54, some 55, some 56, some 57, some 58, some 59, some 60, some 61, some 62, some 63, some 64, some 65, some 66, some 67, some 68, some 69, some 70, some 71] (by decide +kernel) (Nat.le_of_ble_eq_true rfl) (fun _ => rfl) (fun _ => rfl) (fun _ => rfl) rfl rfl rfl rfl (hl.1) rfl (Nat.le_of_ble_eq_true rfl) dX11_build_33 ⟨Nat.zero_le _, Nat.zero_le _⟩ (fun r7 σ6 H locs hf hP hD hS => ?_)
      obtain ⟨hi1, hi2⟩ := Prod.mk.inj (Option.some.inj hf)
      subst hi1
      subst hi2
      exact hret _ _ _ _ dX11_build_36 rfl hP hS
  · have hf := (if_pos h2).symm.trans hf
    refine lv_aload_n hx hb dX11_build_9 rfl (lv_at hl 0 rfl) ?_
    refine lv_ldc (v := -1000001) hx hb hown (hts _ (List.mem_of_getElem? (i := 1) rfl)) dX11_build_10 ?_
    refine q_cVi (wf := (wX11 cI cZ cS ad)) (wc := wX11 cI cZ cS ad) (rest := []) ⟨hx, hb, hml, hown, hts⟩ hK hZ hA hP hD hS hf (fun x τ ho => kX11_tell l D cI cZ cS zz ad σ (-1000001 : Int32) x τ ho) (cwV 1 hts gX11_build_X11_tell rfl rfl rfl ndX11_tell ⟨Nat.le_of_ble_eq_true rfl, Nat.le_of_ble_eq_true rfl⟩) [0, 1, 2, 3, 4, 5, 6, 7, 8, 9, 10, 11, 12, 13, 14, 15, 16, 17, 18, 19, 20, 21, 22, 23, 24, 25, 26, 27, 28, 29, 30, 31, 32, 33, 34, 35, 36, 37, 38, 39, 40, 41, 42, 43, 44, 45, 46, 47, 48, 49, 50, 51, 52, 53, 54, 55, 56, 57, 58, 59, 60, 61, 62, 63, 64, 65, 66, 67, 68, 69, 70, 71] rfl rfl [some 0, some 1, some 2, some 3, some 4, some 5, some 6, some 7, some 8, some 9, some 10, some 11, some 12, some 13, some 14, some 15, some 16, some 17, some 18, some 19, some 20, some 21, some 22, some 23, some 24, some 25, some 26, some 27, some 28, some 29, some 30, some 31, some 32, some 33, some 34, some 35, some 36, some 37, some 38, some 39, some 40, some 41, some 42, some 43, some 44, some 45, some 46, some 47, some 48, some 49, some 50, some 51, some 52, some 53, some 54, some 55, some 56, some 57, some 58, some 59, some 60, some 61, some 62, some 63, some 64, some 65, some 66, some 67, some 68, some 69, some 70, some 71] (by decide +kernel) (Nat.le_of_ble_eq_true rfl) (fun _ => rfl) (fun _ => rfl) (fun _ => rfl) rfl rfl rfl rfl (hl.1) rfl (Nat.le_of_ble_eq_true rfl) dX11_build_12 ⟨Nat.zero_le _, Nat.zero_le _⟩ (fun r9 σ8 H locs hf hP hD hS => ?_)
    obtain ⟨hi1, hi2⟩ := Prod.mk.inj (Option.some.inj hf)
    subst hi1
    subst hi2
    exact hret _ _ _ _ dX11_build_15 rfl hP hS
def pX11_worth (σ : SS) (a1 : Int32) (a2 : Int32) (a3 : Int32) : Option (Int32 × SS) := q_cr (pX11_isSky σ a1) (fun (r1 : Int32) => q_lt (q_ci (pX11_tell σ (-1000001 : Int32)) (fun (τ : SS) => τ) (fun (r4 : Int32) (σ3 : SS) => some (r4, σ3))) (fun j2 => (if r1 = (0 : Int32) then j2 else q_cr (pX11_within a2 (0 : Int32) (9999 : Int32)) (fun (r6 : Int32) => (if r6 = (0 : Int32) then j2 else q_cr (pX11_within a3 (0 : Int32) (1 : Int32)) (fun (r8 : Int32) => (if r8 = (0 : Int32) then j2 else q_ci (pX3_bestWorks (q_ap 1 (q_sb σ 52) (q_ap 13 (q_sb σ 3) (q_ap 14 (q_sb σ 53) (q_sb σ 16)))) a1 a2 a3) (fun (τ : SS) => (q_em (q_em (q_em (q_em σ 52 0 1 τ) 3 1 13 τ) 53 14 14 τ) 16 28 4 τ)) (fun (r11 : Int32) (σ10 : SS) => some (r11, σ10)))))))))
theorem fwX11_worth_X11 : ∀ w ∈ wsX110, w ∈ wsX11_worth := fun _ h => List.mem_cons_of_mem _ (List.mem_append_left _ (List.mem_append_left _ (List.mem_append_left _ (List.mem_append_left _ (List.mem_append_left _ (List.mem_append_left _ (List.mem_append_left _ (List.mem_append_right _ h))))))))
theorem fwX11_worth_X2 : ∀ w ∈ wsX20, w ∈ wsX11_worth := fun _ h => List.mem_cons_of_mem _ (List.mem_append_left _ (List.mem_append_left _ (List.mem_append_left _ (List.mem_append_left _ (List.mem_append_left _ (List.mem_append_left _ (List.mem_append_right _ h)))))))
abbrev rmX11_worth : Room := { frames := 6, cells := 0, slots := 0, locals := 172 }
set_option maxHeartbeats 4000000 in
set_option maxRecDepth 100000 in
theorem kX11_worth (l : Launch) (D : va_G) (cI cZ cS : ClassId) (zz : ZT) (ad : Nat → Nat) (σ : SS) (a1 : Int32) (a2 : Int32) (a3 : Int32) (rr : Int32) (σr : SS) (hf : pX11_worth σ a1 a2 a3 = some (rr, σr)) : CI l yX11_worth wsX11_worth rmX11_worth D (K3 cI cZ cS) zz [.ref (ad 0), .int a1, .int a2, .int a3] (wX11 cI cZ cS ad σ) (wX11 cI cZ cS ad σr) rr := by
  refine q_ofI (cc := cX11_worth) (maxL := 4) (ty := .int) (by decide) rfl (Nat.le_of_ble_eq_true rfl) ?_
  intro p e s m below meth c Q A ls hx hb hml hown hts hK hZ hA hP hD hS hl hret
  have hl : lv_has ls 4 [(0, .ref (ad 0)), (1, .int a1), (2, .int a2), (3, .int a3)] := hl
  unfold pX11_worth at hf
  refine lv_aload_n hx hb dX11_worth_0 rfl (lv_at hl 0 rfl) ?_
  refine lv_iload_n hx hb dX11_worth_1 rfl (lv_at hl 1 rfl) ?_
  refine q_cVr (wf := (wX11 cI cZ cS ad)) (wc := wX11 cI cZ cS ad) (rest := []) ⟨hx, hb, hml, hown, hts⟩ hK hZ hA hP hD hS hf (fun x ho => kX11_isSky l D cI cZ cS zz ad σ a1 x ho) (cwV 1 hts gX11_worth_X11_isSky rfl rfl rfl ndX11_isSky ⟨Nat.le_of_ble_eq_true rfl, Nat.le_of_ble_eq_true rfl⟩) [0, 1, 2, 3, 4, 5, 6, 7, 8, 9, 10, 11, 12, 13, 14, 15, 16, 17, 18, 19, 20, 21, 22, 23, 24, 25, 26, 27, 28, 29, 30, 31, 32, 33, 34, 35, 36, 37, 38, 39, 40, 41, 42, 43, 44, 45, 46, 47, 48, 49, 50, 51, 52, 53, 54, 55, 56, 57, 58, 59, 60, 61, 62, 63, 64, 65, 66, 67, 68, 69, 70, 71] rfl rfl rfl rfl rfl rfl (hl.1) rfl (Nat.le_of_ble_eq_true rfl) dX11_worth_2 ⟨Nat.zero_le _, Nat.zero_le _⟩ (fun r1 H locs hf hP hD hS => ?_)
  refine q_lt_go hf (fun j2 ej2 hf => ?_)
  have Jj2 : ∀ (H : Heap) (locs : List Loc) (ls : Array Slot), va_P D vwCl ((wX11 cI cZ cS ad) σ) H → va_D A ((wX11 cI cZ cS ad) σ) → va_S A s.heap H locs → lv_has ls 4 [(0, .ref (ad 0))] → j2 = some (rr, σr) → W p l e rmX11_worth s m ([.ref (ad 0), .int a1, .int a2, .int a3] : List Value).toArray below meth c H locs 0 0 Q (F0 m 28 ls []) := by
    intro  H locs ls hP hD hS hl hf
    have hf := ej2.symm.trans hf
    refine lv_aload_n hx hb dX11_worth_28 rfl (lv_at hl 0 rfl) ?_
    refine lv_ldc (v := -1000001) hx hb hown (hts _ (List.mem_of_getElem? (i := 1) rfl)) dX11_worth_29 ?_
    refine q_cVi (wf := (wX11 cI cZ cS ad)) (wc := wX11 cI cZ cS ad) (rest := []) ⟨hx, hb, hml, hown, hts⟩ hK hZ hA hP hD hS hf (fun x τ ho => kX11_tell l D cI cZ cS zz ad σ (-1000001 : Int32) x τ ho) (cwV 1 hts gX11_worth_X11_tell rfl rfl rfl ndX11_tell ⟨Nat.le_of_ble_eq_true rfl, Nat.le_of_ble_eq_true rfl⟩) [0, 1, 2, 3, 4, 5, 6, 7, 8, 9, 10, 11, 12, 13, 14, 15, 16, 17, 18, 19, 20, 21, 22, 23, 24, 25, 26, 27, 28, 29, 30, 31, 32, 33, 34, 35, 36, 37, 38, 39, 40, 41, 42, 43, 44, 45, 46, 47, 48, 49, 50, 51, 52, 53, 54, 55, 56, 57, 58, 59, 60, 61, 62, 63, 64, 65, 66, 67, 68, 69, 70, 71] rfl rfl [some 0, some 1, some 2, some 3, some 4, some 5, some 6, some 7, some 8, some 9, some 10, some 11, some 12, some 13, some 14, some 15, some 16, some 17, some 18, some 19, some 20, some 21, some 22, some 23, some 24, some 25, some 26, some 27, some 28, some 29, some 30, some 31, some 32, some 33, some 34, some 35, some 36, some 37, some 38, some 39, some 40, some 41, some 42, some 43, some 44, some 45, some 46, some 47, some 48, some 49, some 50, some 51, some 52, some 53, some 54, some 55, some 56, some 57, some 58, some 59, some 60, some 61, some 62, some 63, some 64, some 65, some 66, some 67, some 68, some 69, some 70, some 71] (by decide +kernel) (Nat.le_of_ble_eq_true rfl) (fun _ => rfl) (fun _ => rfl) (fun _ => rfl) rfl rfl rfl rfl (hl.1) rfl (Nat.le_of_ble_eq_true rfl) dX11_worth_31 ⟨Nat.zero_le _, Nat.zero_le _⟩ (fun r4 σ3 H locs hf hP hD hS => ?_)
    obtain ⟨hi1, hi2⟩ := Prod.mk.inj (Option.some.inj hf)
    subst hi1
    subst hi2
    exact hret _ _ _ _ dX11_worth_34 rfl hP hS
  refine lv_if_eq (tgt := 28) hx hb dX11_worth_5 (by decide) (fun h5 => ?_) (fun h5 => ?_)
  · have hf := (if_pos h5).symm.trans hf
    exact Jj2  _ _ _ hP hD hS (lv_sub hl [0] rfl) hf
  · have hf := (if_neg h5).symm.trans hf
    refine lv_iload_n hx hb dX11_worth_8 rfl (lv_at hl 2 rfl) ?_
    refine lv_iconst (v := 0) hx hb dX11_worth_9 (by decide) ?_
    refine lv_sipush (v := 9999) hx hb dX11_worth_10 (by decide) ?_
    refine q_cSr (wf := (wX11 cI cZ cS ad)) (rest := []) ⟨hx, hb, hml, hown, hts⟩ hK hZ hA hP hD hS hf (fun x ho => kX11_within l D cI cZ cS zz a2 (0 : Int32) (9999 : Int32) x ho) (va_cwS 3 hts gX11_worth_X11_within rfl rfl rfl ndX11_within.2 ⟨Nat.le_of_ble_eq_true rfl, Nat.le_of_ble_eq_true rfl⟩) rfl (hl.1) rfl (Nat.le_of_ble_eq_true rfl) dX11_worth_13 ⟨Nat.zero_le _, Nat.zero_le _⟩ (fun r6 H locs hf hP hD hS => ?_)
    refine lv_if_eq (tgt := 28) hx hb dX11_worth_16 (by decide) (fun h7 => ?_) (fun h7 => ?_)
    · have hf := (if_pos h7).symm.trans hf
      exact Jj2  _ _ _ hP hD hS (lv_sub hl [0] rfl) hf
    · have hf := (if_neg h7).symm.trans hf
      refine lv_iload_n hx hb dX11_worth_19 rfl (lv_at hl 3 rfl) ?_
      refine lv_iconst (v := 0) hx hb dX11_worth_20 (by decide) ?_
      refine lv_iconst (v := 1) hx hb dX11_worth_21 (by decide) ?_
      refine q_cSr (wf := (wX11 cI cZ cS ad)) (rest := []) ⟨hx, hb, hml, hown, hts⟩ hK hZ hA hP hD hS hf (fun x ho => kX11_within l D cI cZ cS zz a3 (0 : Int32) (1 : Int32) x ho) (va_cwS 3 hts gX11_worth_X11_within rfl rfl rfl ndX11_within.2 ⟨Nat.le_of_ble_eq_true rfl, Nat.le_of_ble_eq_true rfl⟩) rfl (hl.1) rfl (Nat.le_of_ble_eq_true rfl) dX11_worth_22 ⟨Nat.zero_le _, Nat.zero_le _⟩ (fun r8 H locs hf hP hD hS => ?_)
      refine lv_if_ne (tgt := 35) hx hb dX11_worth_25 (by decide) (fun h9 => ?_) (fun h9 => ?_)
      · have hf := (if_neg h9).symm.trans hf
        refine lv_aload_n hx hb dX11_worth_35 rfl (lv_at hl 0 rfl) ?_
        refine va_get (D := D) (ci := 11) (C := RX11) (T := TX11) (N := 9) hx hb hts fwX11_worth_X11 hown hK hP 0 rfl rfl 7 (by decide) (hts _ (List.mem_of_getElem? (i := 2) rfl)) (fun _ h9 => h9) rfl dX11_worth_36 ?_
        refine lv_aload_n hx hb dX11_worth_39 rfl (lv_at hl 0 rfl) ?_
        refine va_get (D := D) (ci := 11) (C := RX11) (T := TX11) (N := 9) hx hb hts fwX11_worth_X11 hown hK hP 0 rfl rfl 1 (by decide) (hts _ (List.mem_of_getElem? (i := 3) rfl)) (fun _ h9 => h9) rfl dX11_worth_40 ?_
        refine va_get (D := D) (ci := 2) (C := RX2) (T := TX2) (N := 4) hx hb hts fwX11_worth_X2 hown hK hP 2 rfl rfl 1 (by decide) (hts _ (List.mem_of_getElem? (i := 4) rfl)) (fun _ h9 => h9) rfl dX11_worth_43 ?_
        refine lv_iload_n hx hb dX11_worth_46 rfl (lv_at hl 1 rfl) ?_
        refine lv_iload_n hx hb dX11_worth_47 rfl (lv_at hl 2 rfl) ?_
        refine lv_iload_n hx hb dX11_worth_48 rfl (lv_at hl 3 rfl) ?_
        refine q_cVi (wf := (wX11 cI cZ cS ad)) (wc := wX3_X7 cI cZ cS (fun i => ad (if i < 1 then 52 + i else if i < 14 then 3 + (i - 1) else if i < 28 then 53 + (i - 14) else 16 + (i - 28)))) (rest := []) ⟨hx, hb, hml, hown, hts⟩ hK hZ hA hP hD hS hf (fun x τ ho => kX3_bestWorks l D cI cZ cS zz (fun i => ad (if i < 1 then 52 + i else if i < 14 then 3 + (i - 1) else if i < 28 then 53 + (i - 14) else 16 + (i - 28))) (q_ap 1 (q_sb σ 52) (q_ap 13 (q_sb σ 3) (q_ap 14 (q_sb σ 53) (q_sb σ 16)))) a1 a2 a3 x τ ho) (cwV 4 hts gX11_worth_X3_bestWorks rfl rfl rfl ndX3_bestWorks ⟨Nat.le_of_ble_eq_true rfl, Nat.le_of_ble_eq_true rfl⟩) [52, 3, 4, 5, 6, 7, 8, 9, 10, 11, 12, 13, 14, 15, 53, 54, 55, 56, 57, 58, 59, 60, 61, 62, 63, 64, 65, 66, 16, 17, 18, 19] rfl rfl [none, none, none, some 1, some 2, some 3, some 4, some 5, some 6, some 7, some 8, some 9, some 10, some 11, some 12, some 13, some 28, some 29, some 30, some 31, none, none, none, none, none, none, none, none, none, none, none, none, none, none, none, none, none, none, none, none, none, none, none, none, none, none, none, none, none, none, none, none, some 0, some 14, some 15, some 16, some 17, some 18, some 19, some 20, some 21, some 22, some 23, some 24, some 25, some 26, some 27, none, none, none, none, none] (by decide +kernel) (Nat.le_of_ble_eq_true rfl) (fun _ => rfl) (fun _ => rfl) (fun _ => rfl) rfl rfl rfl rfl (hl.1) rfl (Nat.le_of_ble_eq_true rfl) dX11_worth_49 ⟨Nat.zero_le _, Nat.zero_le _⟩ (fun r11 σ10 H locs hf hP hD hS => ?_)
        obtain ⟨hi1, hi2⟩ := Prod.mk.inj (Option.some.inj hf)
        subst hi1
        subst hi2
        exact hret _ _ _ _ dX11_worth_52 rfl hP hS
      · have hf := (if_pos h9).symm.trans hf
        exact Jj2  _ _ _ hP hD hS (lv_sub hl [0] rfl) hf
def pX11_rescue (σ : SS) (a1 : Int32) : Option (Int32 × SS) := q_cr (pX11_within a1 (0 : Int32) (2 : Int32)) (fun (r1 : Int32) => (if r1 = (0 : Int32) then q_ci (pX11_tell σ (-1000001 : Int32)) (fun (τ : SS) => τ) (fun (r7 : Int32) (σ6 : SS) => some (r7, σ6)) else q_cs (pX3_foreseeLimits (q_ap 1 (q_sb σ 52) (q_ap 13 (q_sb σ 3) (q_ap 14 (q_sb σ 53) (q_sb σ 68))))) (fun (τ : SS) => (q_em (q_em (q_em (q_em σ 52 0 1 τ) 3 1 13 τ) 53 14 14 τ) 68 28 1 τ)) (fun (σ3 : SS) => q_ci (pX1_liftable (q_ap 2 (q_sb σ3 67) (q_ap 4 (q_sb σ3 11) (q_sb σ3 69))) a1) (fun (τ : SS) => (q_em (q_em (q_em σ3 67 0 2 τ) 11 2 4 τ) 69 6 3 τ)) (fun (r5 : Int32) (σ4 : SS) => some (r5, σ4)))))
theorem fwX11_rescue_X1 : ∀ w ∈ wsX10, w ∈ wsX11_rescue := fun _ h => List.mem_cons_of_mem _ (List.mem_append_left _ (List.mem_append_left _ (List.mem_append_left _ (List.mem_append_left _ (List.mem_append_left _ (List.mem_append_right _ h))))))
theorem fwX11_rescue_X11 : ∀ w ∈ wsX110, w ∈ wsX11_rescue := fun _ h => List.mem_cons_of_mem _ (List.mem_append_left _ (List.mem_append_left _ (List.mem_append_left _ (List.mem_append_left _ (List.mem_append_left _ (List.mem_append_left _ (List.mem_append_right _ h)))))))
abbrev rmX11_rescue : Room := { frames := 6, cells := 0, slots := 0, locals := 166 }
set_option maxHeartbeats 4000000 in
set_option maxRecDepth 100000 in
theorem kX11_rescue (l : Launch) (D : va_G) (cI cZ cS : ClassId) (zz : ZT) (ad : Nat → Nat) (σ : SS) (a1 : Int32) (rr : Int32) (σr : SS) (hf : pX11_rescue σ a1 = some (rr, σr)) : CI l yX11_rescue wsX11_rescue rmX11_rescue D (K3 cI cZ cS) zz [.ref (ad 0), .int a1] (wX11 cI cZ cS ad σ) (wX11 cI cZ cS ad σr) rr := by
  refine q_ofI (cc := cX11_rescue) (maxL := 2) (ty := .int) (by decide) rfl (Nat.le_of_ble_eq_true rfl) ?_
  intro p e s m below meth c Q A ls hx hb hml hown hts hK hZ hA hP hD hS hl hret
  have hl : lv_has ls 2 [(0, .ref (ad 0)), (1, .int a1)] := hl
  unfold pX11_rescue at hf
  refine lv_iload_n hx hb dX11_rescue_0 rfl (lv_at hl 1 rfl) ?_
  refine lv_iconst (v := 0) hx hb dX11_rescue_1 (by decide) ?_
  refine lv_iconst (v := 2) hx hb dX11_rescue_2 (by decide) ?_
  refine q_cSr (wf := (wX11 cI cZ cS ad)) (rest := []) ⟨hx, hb, hml, hown, hts⟩ hK hZ hA hP hD hS hf (fun x ho => kX11_within l D cI cZ cS zz a1 (0 : Int32) (2 : Int32) x ho) (va_cwS 3 hts gX11_rescue_X11_within rfl rfl rfl ndX11_within.2 ⟨Nat.le_of_ble_eq_true rfl, Nat.le_of_ble_eq_true rfl⟩) rfl (hl.1) rfl (Nat.le_of_ble_eq_true rfl) dX11_rescue_3 ⟨Nat.zero_le _, Nat.zero_le _⟩ (fun r1 H locs hf hP hD hS => ?_)
  refine lv_if_ne (tgt := 16) hx hb dX11_rescue_6 (by decide) (fun h2 => ?_) (fun h2 => ?_)
  · have hf := (if_neg h2).symm.trans hf
    refine lv_aload_n hx hb dX11_rescue_16 rfl (lv_at hl 0 rfl) ?_
    refine va_get (D := D) (ci := 11) (C := RX11) (T := TX11) (N := 9) hx hb hts fwX11_rescue_X11 hown hK hP 0 rfl rfl 7 (by decide) (hts _ (List.mem_of_getElem? (i := 2) rfl)) (fun _ h9 => h9) rfl dX11_rescue_17 ?_
    refine lv_aload_n hx hb dX11_rescue_20 rfl (lv_at hl 0 rfl) ?_
    refine va_get (D := D) (ci := 11) (C := RX11) (T := TX11) (N := 9) hx hb hts fwX11_rescue_X11 hown hK hP 0 rfl rfl 8 (by decide) (hts _ (List.mem_of_getElem? (i := 3) rfl)) (fun _ h9 => h9) rfl dX11_rescue_21 ?_
    refine va_get (D := D) (ci := 1) (C := RX1) (T := TX1) (N := 5) hx hb hts fwX11_rescue_X1 hown hK hP 67 rfl rfl 0 (by decide) (hts _ (List.mem_of_getElem? (i := 4) rfl)) (fun _ h9 => h9) rfl dX11_rescue_24 ?_
    refine q_cVv (wf := (wX11 cI cZ cS ad)) (wc := wX3_A10 cI cZ cS (fun i => ad (if i < 1 then 52 + i else if i < 14 then 3 + (i - 1) else if i < 28 then 53 + (i - 14) else 68 + (i - 28)))) (rest := []) ⟨hx, hb, hml, hown, hts⟩ hK hZ hA hP hD hS hf (fun x ho => kX3_foreseeLimits l D cI cZ cS zz (fun i => ad (if i < 1 then 52 + i else if i < 14 then 3 + (i - 1) else if i < 28 then 53 + (i - 14) else 68 + (i - 28))) (q_ap 1 (q_sb σ 52) (q_ap 13 (q_sb σ 3) (q_ap 14 (q_sb σ 53) (q_sb σ 68)))) x ho) (cwV 1 hts gX11_rescue_X3_foreseeLimits rfl rfl rfl ndX3_foreseeLimits ⟨Nat.le_of_ble_eq_true rfl, Nat.le_of_ble_eq_true rfl⟩) [52, 3, 4, 5, 6, 7, 8, 9, 10, 11, 12, 13, 14, 15, 53, 54, 55, 56, 57, 58, 59, 60, 61, 62, 63, 64, 65, 66, 68] rfl rfl [none, none, none, some 1, some 2, some 3, some 4, some 5, some 6, some 7, some 8, some 9, some 10, some 11, some 12, some 13, none, none, none, none, none, none, none, none, none, none, none, none, none, none, none, none, none, none, none, none, none, none, none, none, none, none, none, none, none, none, none, none, none, none, none, none, some 0, some 14, some 15, some 16, some 17, some 18, some 19, some 20, some 21, some 22, some 23, some 24, some 25, some 26, some 27, none, some 28, none, none, none] (by decide +kernel) (Nat.le_of_ble_eq_true rfl) (fun _ => rfl) (fun _ => rfl) (fun _ => rfl) rfl rfl rfl rfl (hl.1) rfl (Nat.le_of_ble_eq_true rfl) dX11_rescue_27 ⟨Nat.zero_le _, Nat.zero_le _⟩ (fun σ3 H locs hf hP hD hS => ?_)
    refine lv_aload_n hx hb dX11_rescue_30 rfl (lv_at hl 0 rfl) ?_
    refine va_get (D := D) (ci := 11) (C := RX11) (T := TX11) (N := 9) hx hb hts fwX11_rescue_X11 hown hK hP 0 rfl rfl 8 (by decide) (hts _ (List.mem_of_getElem? (i := 3) rfl)) (fun _ h9 => h9) rfl dX11_rescue_31 ?_
    refine lv_iload_n hx hb dX11_rescue_34 rfl (lv_at hl 1 rfl) ?_
    refine q_cVi (wf := (wX11 cI cZ cS ad)) (wc := wX1 cI cZ cS (fun i => ad (if i < 2 then 67 + i else if i < 6 then 11 + (i - 2) else 69 + (i - 6)))) (rest := []) ⟨hx, hb, hml, hown, hts⟩ hK hZ hA hP hD hS hf (fun x τ ho => kX1_liftable l D cI cZ cS zz (fun i => ad (if i < 2 then 67 + i else if i < 6 then 11 + (i - 2) else 69 + (i - 6))) (q_ap 2 (q_sb σ3 67) (q_ap 4 (q_sb σ3 11) (q_sb σ3 69))) a1 x τ ho) (cwV 1 hts gX11_rescue_X1_liftable rfl rfl rfl ndX1_liftable ⟨Nat.le_of_ble_eq_true rfl, Nat.le_of_ble_eq_true rfl⟩) [67, 68, 11, 12, 13, 14, 69, 70, 71] rfl rfl [none, none, none, none, none, none, none, none, none, none, none, some 2, some 3, some 4, some 5, none, none, none, none, none, none, none, none, none, none, none, none, none, none, none, none, none, none, none, none, none, none, none, none, none, none, none, none, none, none, none, none, none, none, none, none, none, none, none, none, none, none, none, none, none, none, none, none, none, none, none, none, some 0, some 1, some 6, some 7, some 8] (by decide +kernel) (Nat.le_of_ble_eq_true rfl) (fun _ => rfl) (fun _ => rfl) (fun _ => rfl) rfl rfl rfl rfl (hl.1) rfl (Nat.le_of_ble_eq_true rfl) dX11_rescue_35 ⟨Nat.zero_le _, Nat.zero_le _⟩ (fun r5 σ4 H locs hf hP hD hS => ?_)
    obtain ⟨hi1, hi2⟩ := Prod.mk.inj (Option.some.inj hf)
    subst hi1
    subst hi2
    exact hret _ _ _ _ dX11_rescue_38 rfl hP hS
  · have hf := (if_pos h2).symm.trans hf
    refine lv_aload_n hx hb dX11_rescue_9 rfl (lv_at hl 0 rfl) ?_
    refine lv_ldc (v := -1000001) hx hb hown (hts _ (List.mem_of_getElem? (i := 1) rfl)) dX11_rescue_10 ?_
    refine q_cVi (wf := (wX11 cI cZ cS ad)) (wc := wX11 cI cZ cS ad) (rest := []) ⟨hx, hb, hml, hown, hts⟩ hK hZ hA hP hD hS hf (fun x τ ho => kX11_tell l D cI cZ cS zz ad σ (-1000001 : Int32) x τ ho) (cwV 1 hts gX11_rescue_X11_tell rfl rfl rfl ndX11_tell ⟨Nat.le_of_ble_eq_true rfl, Nat.le_of_ble_eq_true rfl⟩) [0, 1, 2, 3, 4, 5, 6, 7, 8, 9, 10, 11, 12, 13, 14, 15, 16, 17, 18, 19, 20, 21, 22, 23, 24, 25, 26, 27, 28, 29, 30, 31, 32, 33, 34, 35, 36, 37, 38, 39, 40, 41, 42, 43, 44, 45, 46, 47, 48, 49, 50, 51, 52, 53, 54, 55, 56, 57, 58, 59, 60, 61, 62, 63, 64, 65, 66, 67, 68, 69, 70, 71] rfl rfl [some 0, some 1, some 2, some 3, some 4, some 5, some 6, some 7, some 8, some 9, some 10, some 11, some 12, some 13, some 14, some 15, some 16, some 17, some 18, some 19, some 20, some 21, some 22, some 23, some 24, some 25, some 26, some 27, some 28, some 29, some 30, some 31, some 32, some 33, some 34, some 35, some 36, some 37, some 38, some 39, some 40, some 41, some 42, some 43, some 44, some 45, some 46, some 47, some 48, some 49, some 50, some 51, some 52, some 53, some 54, some 55, some 56, some 57, some 58, some 59, some 60, some 61, some 62, some 63, some 64, some 65, some 66, some 67, some 68, some 69, some 70, some 71] (by decide +kernel) (Nat.le_of_ble_eq_true rfl) (fun _ => rfl) (fun _ => rfl) (fun _ => rfl) rfl rfl rfl rfl (hl.1) rfl (Nat.le_of_ble_eq_true rfl) dX11_rescue_12 ⟨Nat.zero_le _, Nat.zero_le _⟩ (fun r7 σ6 H locs hf hP hD hS => ?_)
    obtain ⟨hi1, hi2⟩ := Prod.mk.inj (Option.some.inj hf)
    subst hi1
    subst hi2
    exact hret _ _ _ _ dX11_rescue_15 rfl hP hS
def pX11_shelf (σ : SS) (a1 : Int32) (a2 : Int32) : Option (Int32 × SS) := q_cr (pX11_within a1 (0 : Int32) (600 : Int32)) (fun (r1 : Int32) => q_lt (q_ci (pX11_tell σ (-1000001 : Int32)) (fun (τ : SS) => τ) (fun (r4 : Int32) (σ3 : SS) => some (r4, σ3))) (fun j2 => (if r1 = (0 : Int32) then j2 else q_cr (pX11_within a2 (0 : Int32) (1 : Int32)) (fun (r6 : Int32) => (if r6 = (0 : Int32) then j2 else q_ci (pX1_shelved (q_ap 2 (q_sb σ 67) (q_ap 4 (q_sb σ 11) (q_sb σ 69))) a1 a2) (fun (τ : SS) => (q_em (q_em (q_em σ 67 0 2 τ) 11 2 4 τ) 69 6 3 τ)) (fun (r9 : Int32) (σ8 : SS) => some (r9, σ8)))))))
theorem fwX11_shelf_X11 : ∀ w ∈ wsX110, w ∈ wsX11_shelf := fun _ h => List.mem_cons_of_mem _ (List.mem_append_left _ (List.mem_append_left _ (List.mem_append_right _ h)))
abbrev rmX11_shelf : Room := { frames := 2, cells := 0, slots := 0, locals := 47 }
set_option maxHeartbeats 4000000 in
set_option maxRecDepth 100000 in
theorem kX11_shelf (l : Launch) (D : va_G) (cI cZ cS : ClassId) (zz : ZT) (ad : Nat → Nat) (σ : SS) (a1 : Int32) (a2 : Int32) (rr : Int32) (σr : SS) (hf : pX11_shelf σ a1 a2 = some (rr, σr)) : CI l yX11_shelf wsX11_shelf rmX11_shelf D (K3 cI cZ cS) zz [.ref (ad 0), .int a1, .int a2] (wX11 cI cZ cS ad σ) (wX11 cI cZ cS ad σr) rr := by
  refine q_ofI (cc := cX11_shelf) (maxL := 3) (ty := .int) (by decide) rfl (Nat.le_of_ble_eq_true rfl) ?_
  intro p e s m below meth c Q A ls hx hb hml hown hts hK hZ hA hP hD hS hl hret
  have hl : lv_has ls 3 [(0, .ref (ad 0)), (1, .int a1), (2, .int a2)] := hl
  unfold pX11_shelf at hf
  refine lv_iload_n hx hb dX11_shelf_0 rfl (lv_at hl 1 rfl) ?_
  refine lv_iconst (v := 0) hx hb dX11_shelf_1 (by decide) ?_
  refine lv_sipush (v := 600) hx hb dX11_shelf_2 (by decide) ?_
  refine q_cSr (wf := (wX11 cI cZ cS ad)) (rest := []) ⟨hx, hb, hml, hown, hts⟩ hK hZ hA hP hD hS hf (fun x ho => kX11_within l D cI cZ cS zz a1 (0 : Int32) (600 : Int32) x ho) (va_cwS 3 hts gX11_shelf_X11_within rfl rfl rfl ndX11_within.2 ⟨Nat.le_of_ble_eq_true rfl, Nat.le_of_ble_eq_true rfl⟩) rfl (hl.1) rfl (Nat.le_of_ble_eq_true rfl) dX11_shelf_5 ⟨Nat.zero_le _, Nat.zero_le _⟩ (fun r1 H locs hf hP hD hS => ?_)
  refine q_lt_go hf (fun j2 ej2 hf => ?_)
  have Jj2 : ∀ (H : Heap) (locs : List Loc) (ls : Array Slot), va_P D vwCl ((wX11 cI cZ cS ad) σ) H → va_D A ((wX11 cI cZ cS ad) σ) → va_S A s.heap H locs → lv_has ls 3 [(0, .ref (ad 0))] → j2 = some (rr, σr) → W p l e rmX11_shelf s m ([.ref (ad 0), .int a1, .int a2] : List Value).toArray below meth c H locs 0 0 Q (F0 m 20 ls []) := by
    intro  H locs ls hP hD hS hl hf
    have hf := ej2.symm.trans hf
    refine lv_aload_n hx hb dX11_shelf_20 rfl (lv_at hl 0 rfl) ?_
    refine lv_ldc (v := -1000001) hx hb hown (hts _ (List.mem_of_getElem? (i := 1) rfl)) dX11_shelf_21 ?_
    refine q_cVi (wf := (wX11 cI cZ cS ad)) (wc := wX11 cI cZ cS ad) (rest := []) ⟨hx, hb, hml, hown, hts⟩ hK hZ hA hP hD hS hf (fun x τ ho => kX11_tell l D cI cZ cS zz ad σ (-1000001 : Int32) x τ ho) (cwV 1 hts gX11_shelf_X11_tell rfl rfl rfl ndX11_tell ⟨Nat.le_of_ble_eq_true rfl, Nat.le_of_ble_eq_true rfl⟩) [0, 1, 2, 3, 4, 5, 6, 7, 8, 9, 10, 11, 12, 13, 14, 15, 16, 17, 18, 19, 20, 21, 22, 23, 24, 25, 26, 27, 28, 29, 30, 31, 32, 33, 34, 35, 36, 37, 38, 39, 40, 41, 42, 43, 44, 45, 46, 47, 48, 49, 50, 51, 52, 53, 54, 55, 56, 57, 58, 59, 60, 61, 62, 63, 64, 65, 66, 67, 68, 69, 70, 71] rfl rfl [some 0, some 1, some 2, some 3, some 4, some 5, some 6, some 7, some 8, some 9, some 10, some 11, some 12, some 13, some 14, some 15, some 16, some 17, some 18, some 19, some 20, some 21, some 22, some 23, some 24, some 25, some 26, some 27, some 28, some 29, some 30, some 31, some 32, some 33, some 34, some 35, some 36, some 37, some 38, some 39, some 40, some 41, some 42, some 43, some 44, some 45, some 46, some 47, some 48, some 49, some 50, some 51, some 52, some 53, some 54, some 55, some 56, some 57, some 58, some 59, some 60, some 61, some 62, some 63, some 64, some 65, some 66, some 67, some 68, some 69, some 70, some 71] (by decide +kernel) (Nat.le_of_ble_eq_true rfl) (fun _ => rfl) (fun _ => rfl) (fun _ => rfl) rfl rfl rfl rfl (hl.1) rfl (Nat.le_of_ble_eq_true rfl) dX11_shelf_23 ⟨Nat.zero_le _, Nat.zero_le _⟩ (fun r4 σ3 H locs hf hP hD hS => ?_)
    obtain ⟨hi1, hi2⟩ := Prod.mk.inj (Option.some.inj hf)
    subst hi1
    subst hi2
    exact hret _ _ _ _ dX11_shelf_26 rfl hP hS
  refine lv_if_eq (tgt := 20) hx hb dX11_shelf_8 (by decide) (fun h5 => ?_) (fun h5 => ?_)
  · have hf := (if_pos h5).symm.trans hf
    exact Jj2  _ _ _ hP hD hS (lv_sub hl [0] rfl) hf
  · have hf := (if_neg h5).symm.trans hf
    refine lv_iload_n hx hb dX11_shelf_11 rfl (lv_at hl 2 rfl) ?_
    refine lv_iconst (v := 0) hx hb dX11_shelf_12 (by decide) ?_
    refine lv_iconst (v := 1) hx hb dX11_shelf_13 (by decide) ?_
    refine q_cSr (wf := (wX11 cI cZ cS ad)) (rest := []) ⟨hx, hb, hml, hown, hts⟩ hK hZ hA hP hD hS hf (fun x ho => kX11_within l D cI cZ cS zz a2 (0 : Int32) (1 : Int32) x ho) (va_cwS 3 hts gX11_shelf_X11_within rfl rfl rfl ndX11_within.2 ⟨Nat.le_of_ble_eq_true rfl, Nat.le_of_ble_eq_true rfl⟩) rfl (hl.1) rfl (Nat.le_of_ble_eq_true rfl) dX11_shelf_14 ⟨Nat.zero_le _, Nat.zero_le _⟩ (fun r6 H locs hf hP hD hS => ?_)
    refine lv_if_ne (tgt := 27) hx hb dX11_shelf_17 (by decide) (fun h7 => ?_) (fun h7 => ?_)
    · have hf := (if_neg h7).symm.trans hf
      refine lv_aload_n hx hb dX11_shelf_27 rfl (lv_at hl 0 rfl) ?_
      refine va_get (D := D) (ci := 11) (C := RX11) (T := TX11) (N := 9) hx hb hts fwX11_shelf_X11 hown hK hP 0 rfl rfl 8 (by decide) (hts _ (List.mem_of_getElem? (i := 2) rfl)) (fun _ h9 => h9) rfl dX11_shelf_28 ?_
      refine lv_iload_n hx hb dX11_shelf_31 rfl (lv_at hl 1 rfl) ?_
      refine lv_iload_n hx hb dX11_shelf_32 rfl (lv_at hl 2 rfl) ?_
      refine q_cVi (wf := (wX11 cI cZ cS ad)) (wc := wX1 cI cZ cS (fun i => ad (if i < 2 then 67 + i else if i < 6 then 11 + (i - 2) else 69 + (i - 6)))) (rest := []) ⟨hx, hb, hml, hown, hts⟩ hK hZ hA hP hD hS hf (fun x τ ho => kX1_shelved l D cI cZ cS zz (fun i => ad (if i < 2 then 67 + i else if i < 6 then 11 + (i - 2) else 69 + (i - 6))) (q_ap 2 (q_sb σ 67) (q_ap 4 (q_sb σ 11) (q_sb σ 69))) a1 a2 x τ ho) (cwV 2 hts gX11_shelf_X1_shelved rfl rfl rfl ndX1_shelved ⟨Nat.le_of_ble_eq_true rfl, Nat.le_of_ble_eq_true rfl⟩) [67, 68, 11, 12, 13, 14, 69, 70, 71] rfl rfl [none, none, none, none, none, none, none, none, none, none, none, some 2, some 3, some 4, some 5, none, none, none, none, none, none, none, none, none, none, none, none, none, none, none, none, none, none, none, none, none, none, none, none, none, none, none, none, none, none, none, none, none, none, none, none, none, none, none, none, none, none, none, none, none, none, none, none, none, none, none, none, some 0, some 1, some 6, some 7, some 8] (by decide +kernel) (Nat.le_of_ble_eq_true rfl) (fun _ => rfl) (fun _ => rfl) (fun _ => rfl) rfl rfl rfl rfl (hl.1) rfl (Nat.le_of_ble_eq_true rfl) dX11_shelf_33 ⟨Nat.zero_le _, Nat.zero_le _⟩ (fun r9 σ8 H locs hf hP hD hS => ?_)
      obtain ⟨hi1, hi2⟩ := Prod.mk.inj (Option.some.inj hf)
      subst hi1
      subst hi2
      exact hret _ _ _ _ dX11_shelf_36 rfl hP hS
    · have hf := (if_pos h7).symm.trans hf
      exact Jj2  _ _ _ hP hD hS (lv_sub hl [0] rfl) hf
