def pX2_draw (σ : SS) : Option (Int32 × SS) := q_lt (su σ 0 3 (((σ 0 3) * (1103515245 : Int32)) + (12345 : Int32))) (fun (σ1 : SS) => some ((Int32.toUInt32 (σ1 0 3) >>> (Int32.toUInt32 (8 : Int32) &&& Int32.toUInt32 31)).toInt32, σ1))
theorem fwX2_draw_X2 : ∀ w ∈ wsX20, w ∈ wsX2_draw := fun _ h => List.mem_cons_of_mem _ (List.mem_append_right _ h)
abbrev rmX2_draw : Room := { frames := 0, cells := 0, slots := 0, locals := 0 }
set_option maxHeartbeats 4000000 in
set_option maxRecDepth 100000 in
theorem kX2_draw (l : Launch) (D : va_G) (cI cZ cS : ClassId) (zz : ZT) (ad : Nat → Nat) (σ : SS) (rr : Int32) (σr : SS) (hf : pX2_draw σ = some (rr, σr)) : CI l yX2_draw wsX2_draw rmX2_draw D (K3 cI cZ cS) zz [.ref (ad 0)] (wX2 cI cZ cS ad σ) (wX2 cI cZ cS ad σr) rr := by
  refine q_ofI (cc := cX2_draw) (maxL := 1) (ty := .int) (by decide) rfl (Nat.le_of_ble_eq_true rfl) ?_
  intro p e s m below meth c Q A ls hx hb hml hown hts hK hZ hA hP hD hS hl hret
  have hl : lv_has ls 1 [(0, .ref (ad 0))] := hl
  unfold pX2_draw at hf
  refine lv_aload_n hx hb dX2_draw_0 rfl (lv_at hl 0 rfl) ?_
  refine lv_aload_n hx hb dX2_draw_1 rfl (lv_at hl 0 rfl) ?_
  refine va_get (D := D) (ci := 2) (C := RX2) (T := TX2) (N := 4) hx hb hts fwX2_draw_X2 hown hK hP 0 rfl rfl 3 (by decide) (hts _ (List.mem_of_getElem? (i := 1) rfl)) (fun _ h9 => h9) rfl dX2_draw_2 ?_
  refine lv_ldc (v := 1103515245) hx hb hown (hts _ (List.mem_of_getElem? (i := 2) rfl)) dX2_draw_5 ?_
  refine lv_imul hx hb dX2_draw_7 ?_
  refine lv_sipush (v := 12345) hx hb dX2_draw_8 (by decide) ?_
  refine lv_iadd hx hb dX2_draw_11 ?_
  refine w_put (D := D) (wf := (wX2 cI cZ cS ad)) (cid := 0) (ci := 2) (C := RX2) (T := TX2) (N := 4) hx hb hts fwX2_draw_X2 tyX2 tyX2_ok nmX2 hown hK hP hD hS 0 rfl rfl 3 (by decide) (hts _ (List.mem_of_getElem? (i := 1) rfl)) (fun _ h9 => h9) rfl (tyX2_ok 3 (by decide)) (Nat.le_of_ble_eq_true rfl) hf rfl dX2_draw_12 (fun σ1 H locs hf hP hD hS => ?_)
  refine lv_aload_n hx hb dX2_draw_15 rfl (lv_at hl 0 rfl) ?_
  refine va_get (D := D) (ci := 2) (C := RX2) (T := TX2) (N := 4) hx hb hts fwX2_draw_X2 hown hK hP 0 rfl rfl 3 (by decide) (hts _ (List.mem_of_getElem? (i := 1) rfl)) (fun _ h9 => h9) rfl dX2_draw_16 ?_
  refine lv_bipush (v := 8) hx hb dX2_draw_19 (by decide) ?_
  refine lv_iushr hx hb dX2_draw_21 rfl ?_
  obtain ⟨hi1, hi2⟩ := Prod.mk.inj (Option.some.inj hf)
  subst hi1
  subst hi2
  exact hret _ _ _ _ dX2_draw_22 rfl hP hS
def pX2_becomeLike (σ : SS) : Option SS := q_cs (pX0_becomeLike (q_ap 13 (q_sb σ 1) (q_sb σ 20))) (fun (τ : SS) => (q_em (q_em σ 1 0 13 τ) 20 13 13 τ)) (fun (σ1 : SS) => q_cs (pX7_becomeLike (q_ap 4 (q_sb σ1 14) (q_sb σ1 33))) (fun (τ : SS) => (q_em (q_em σ1 14 0 4 τ) 33 4 4 τ)) (fun (σ2 : SS) => q_ac σ2 37 10 18 10 (0 : Int32) (0 : Int32) (10 : Int32) (fun (σ3 : SS) => q_lt (su σ3 0 3 (σ3 19 3)) (fun (σ4 : SS) => some σ4))))
theorem fwX2_becomeLike_X2 : ∀ w ∈ wsX20, w ∈ wsX2_becomeLike := fun _ h => List.mem_cons_of_mem _ (List.mem_append_left _ (List.mem_append_left _ (List.mem_append_left _ (List.mem_append_left _ (List.mem_append_left _ (List.mem_append_right _ h))))))
abbrev rmX2_becomeLike : Room := { frames := 4, cells := 0, slots := 0, locals := 122 }
set_option maxHeartbeats 4000000 in
set_option maxRecDepth 100000 in
theorem kX2_becomeLike (l : Launch) (D : va_G) (cI cZ cS : ClassId) (zz : ZT) (ad : Nat → Nat) (σ : SS) (σr : SS) (hf : pX2_becomeLike σ = some σr) : CV l yX2_becomeLike wsX2_becomeLike rmX2_becomeLike D (K3 cI cZ cS) zz [.ref (ad 0), .ref (ad 19)] (wX2_X2 cI cZ cS ad σ) (wX2_X2 cI cZ cS ad σr) := by
  refine q_ofV (cc := cX2_becomeLike) (maxL := 2) (by decide) rfl (Nat.le_of_ble_eq_true rfl) ?_
  intro p e s m below meth c Q A ls hx hb hml hown hts hK hZ hA hP hD hS hl hret
  have hl : lv_has ls 2 [(0, .ref (ad 0)), (1, .ref (ad 19))] := hl
  unfold pX2_becomeLike at hf
  refine lv_aload_n hx hb dX2_becomeLike_0 rfl (lv_at hl 0 rfl) ?_
  refine va_get (D := D) (ci := 2) (C := RX2) (T := TX2) (N := 4) hx hb hts fwX2_becomeLike_X2 hown hK hP 0 rfl rfl 0 (by decide) (hts _ (List.mem_of_getElem? (i := 1) rfl)) (fun _ h9 => h9) rfl dX2_becomeLike_1 ?_
  refine lv_aload_n hx hb dX2_becomeLike_4 rfl (lv_at hl 1 rfl) ?_
  refine va_get (D := D) (ci := 2) (C := RX2) (T := TX2) (N := 4) hx hb hts fwX2_becomeLike_X2 hown hK hP 19 rfl rfl 0 (by decide) (hts _ (List.mem_of_getElem? (i := 1) rfl)) (fun _ h9 => h9) rfl dX2_becomeLike_5 ?_
  refine q_cVv (wf := (wX2_X2 cI cZ cS ad)) (wc := wX0_X0 cI cZ cS (fun i => ad (if i < 13 then 1 + i else 20 + (i - 13)))) (rest := []) ⟨hx, hb, hml, hown, hts⟩ hK hZ hA hP hD hS hf (fun x ho => kX0_becomeLike l D cI cZ cS zz (fun i => ad (if i < 13 then 1 + i else 20 + (i - 13))) (q_ap 13 (q_sb σ 1) (q_sb σ 20)) x ho) (cwV 1 hts gX2_becomeLike_X0_becomeLike rfl rfl rfl ndX0_becomeLike ⟨Nat.le_of_ble_eq_true rfl, Nat.le_of_ble_eq_true rfl⟩) [1, 2, 3, 4, 5, 6, 7, 8, 9, 10, 11, 12, 13, 20, 21, 22, 23, 24, 25, 26, 27, 28, 29, 30, 31, 32] rfl rfl [none, some 0, some 1, some 2, some 3, some 4, some 5, some 6, some 7, some 8, some 9, some 10, some 11, some 12, none, none, none, none, none, none, some 13, some 14, some 15, some 16, some 17, some 18, some 19, some 20, some 21, some 22, some 23, some 24, some 25, none, none, none, none, none] (by decide +kernel) (Nat.le_of_ble_eq_true rfl) (fun _ => rfl) (fun _ => rfl) (fun _ => rfl) rfl rfl rfl rfl (hl.1) rfl (Nat.le_of_ble_eq_true rfl) dX2_becomeLike_8 ⟨Nat.zero_le _, Nat.zero_le _⟩ (fun σ1 H locs hf hP hD hS => ?_)
  refine lv_aload_n hx hb dX2_becomeLike_11 rfl (lv_at hl 0 rfl) ?_
  refine va_get (D := D) (ci := 2) (C := RX2) (T := TX2) (N := 4) hx hb hts fwX2_becomeLike_X2 hown hK hP 0 rfl rfl 1 (by decide) (hts _ (List.mem_of_getElem? (i := 2) rfl)) (fun _ h9 => h9) rfl dX2_becomeLike_12 ?_
  refine lv_aload_n hx hb dX2_becomeLike_15 rfl (lv_at hl 1 rfl) ?_
  refine va_get (D := D) (ci := 2) (C := RX2) (T := TX2) (N := 4) hx hb hts fwX2_becomeLike_X2 hown hK hP 19 rfl rfl 1 (by decide) (hts _ (List.mem_of_getElem? (i := 2) rfl)) (fun _ h9 => h9) rfl dX2_becomeLike_16 ?_
  refine q_cVv (wf := (wX2_X2 cI cZ cS ad)) (wc := wX7_X7 cI cZ cS (fun i => ad (if i < 4 then 14 + i else 33 + (i - 4)))) (rest := []) ⟨hx, hb, hml, hown, hts⟩ hK hZ hA hP hD hS hf (fun x ho => kX7_becomeLike l D cI cZ cS zz (fun i => ad (if i < 4 then 14 + i else 33 + (i - 4))) (q_ap 4 (q_sb σ1 14) (q_sb σ1 33)) x ho) (cwV 1 hts gX2_becomeLike_X7_becomeLike rfl rfl rfl ndX7_becomeLike ⟨Nat.le_of_ble_eq_true rfl, Nat.le_of_ble_eq_true rfl⟩) [14, 15, 16, 17, 33, 34, 35, 36] rfl rfl [none, none, none, none, none, none, none, none, none, none, none, none, none, none, some 0, some 1, some 2, some 3, none, none, none, none, none, none, none, none, none, none, none, none, none, none, none, some 4, some 5, some 6, some 7, none] (by decide +kernel) (Nat.le_of_ble_eq_true rfl) (fun _ => rfl) (fun _ => rfl) (fun _ => rfl) rfl rfl rfl rfl (hl.1) rfl (Nat.le_of_ble_eq_true rfl) dX2_becomeLike_19 ⟨Nat.zero_le _, Nat.zero_le _⟩ (fun σ2 H locs hf hP hD hS => ?_)
  refine lv_aload_n hx hb dX2_becomeLike_22 rfl (lv_at hl 1 rfl) ?_
  refine va_get (D := D) (ci := 2) (C := RX2) (T := TX2) (N := 4) hx hb hts fwX2_becomeLike_X2 hown hK hP 19 rfl rfl 2 (by decide) (hts _ (List.mem_of_getElem? (i := 3) rfl)) (fun _ h9 => h9) rfl dX2_becomeLike_23 ?_
  refine lv_iconst (v := 0) hx hb dX2_becomeLike_26 (by decide) ?_
  refine lv_aload_n hx hb dX2_becomeLike_27 rfl (lv_at hl 0 rfl) ?_
  refine va_get (D := D) (ci := 2) (C := RX2) (T := TX2) (N := 4) hx hb hts fwX2_becomeLike_X2 hown hK hP 0 rfl rfl 2 (by decide) (hts _ (List.mem_of_getElem? (i := 3) rfl)) (fun _ h9 => h9) rfl dX2_becomeLike_28 ?_
  refine lv_iconst (v := 0) hx hb dX2_becomeLike_31 (by decide) ?_
  refine lv_bipush (v := 10) hx hb dX2_becomeLike_32 (by decide) ?_
  refine w_copy (D := D) (wf := (wX2_X2 cI cZ cS ad)) (i0 := 37) (i1 := 18) hx hb (hml.trans hl.1.symm) hown (hts _ (List.mem_of_getElem? (i := 4) rfl)) (hts _ (List.mem_of_getElem? (i := 5) rfl)) (hts _ (List.mem_of_getElem? (i := 6) rfl)) (hts _ (List.mem_of_getElem? (i := 7) rfl)) hK hP hD hS 37 18 0 rfl rfl rfl hf (fun _ => rfl) (Nat.le_of_ble_eq_true rfl) (Nat.le_of_ble_eq_true rfl) dX2_becomeLike_34 (fun σ3 H locs hf hP hD hS => ?_)
  refine lv_aload_n hx hb dX2_becomeLike_37 rfl (lv_at hl 0 rfl) ?_
  refine lv_aload_n hx hb dX2_becomeLike_38 rfl (lv_at hl 1 rfl) ?_
  refine va_get (D := D) (ci := 2) (C := RX2) (T := TX2) (N := 4) hx hb hts fwX2_becomeLike_X2 hown hK hP 19 rfl rfl 3 (by decide) (hts _ (List.mem_of_getElem? (i := 8) rfl)) (fun _ h9 => h9) rfl dX2_becomeLike_39 ?_
  refine w_put (D := D) (wf := (wX2_X2 cI cZ cS ad)) (cid := 0) (ci := 2) (C := RX2) (T := TX2) (N := 4) hx hb hts fwX2_becomeLike_X2 tyX2 tyX2_ok nmX2 hown hK hP hD hS 0 rfl rfl 3 (by decide) (hts _ (List.mem_of_getElem? (i := 8) rfl)) (fun _ h9 => h9) rfl (tyX2_ok 3 (by decide)) (Nat.le_of_ble_eq_true rfl) hf rfl dX2_becomeLike_42 (fun σ4 H locs hf hP hD hS => ?_)
  have hi1 := Option.some.inj hf
  subst hi1
  exact hret _ _ _ _ dX2_becomeLike_45 hP hS
