def pX3_begin (σ : SS) : Option SS := q_cs (pX0_becomeLike (q_ap 13 (q_sb σ 14) (q_sb σ 1))) (fun (τ : SS) => (q_em (q_em σ 14 0 13 τ) 1 13 13 τ)) (fun (σ1 : SS) => q_lt (su σ1 14 12 (0 : Int32)) (fun (σ2 : SS) => some σ2))
theorem fwX3_begin_X0 : ∀ w ∈ wsX00, w ∈ wsX3_begin := fun _ h => List.mem_cons_of_mem _ (List.mem_append_left _ (List.mem_append_left _ (List.mem_append_left _ (List.mem_append_right _ h))))
theorem fwX3_begin_X3 : ∀ w ∈ wsX30, w ∈ wsX3_begin := fun _ h => List.mem_cons_of_mem _ (List.mem_append_left _ (List.mem_append_left _ (List.mem_append_left _ (List.mem_append_left _ (List.mem_append_right _ h)))))
abbrev rmX3_begin : Room := { frames := 4, cells := 0, slots := 0, locals := 122 }
set_option maxHeartbeats 4000000 in
set_option maxRecDepth 100000 in
theorem kX3_begin (l : Launch) (D : va_G) (cI cZ cS : ClassId) (zz : ZT) (ad : Nat → Nat) (σ : SS) (σr : SS) (hf : pX3_begin σ = some σr) : CV l yX3_begin wsX3_begin rmX3_begin D (K3 cI cZ cS) zz [.ref (ad 0)] (wX3 cI cZ cS ad σ) (wX3 cI cZ cS ad σr) := by
  refine q_ofV (cc := cX3_begin) (maxL := 1) (by decide) rfl (Nat.le_of_ble_eq_true rfl) ?_
  intro p e s m below meth c Q A ls hx hb hml hown hts hK hZ hA hP hD hS hl hret
  have hl : lv_has ls 1 [(0, .ref (ad 0))] := hl
  unfold pX3_begin at hf
  refine lv_aload_n hx hb dX3_begin_0 rfl (lv_at hl 0 rfl) ?_
  refine va_get (D := D) (ci := 3) (C := RX3) (T := TX3) (N := 3) hx hb hts fwX3_begin_X3 hown hK hP 0 rfl rfl 1 (by decide) (hts _ (List.mem_of_getElem? (i := 1) rfl)) (fun _ h9 => h9) rfl dX3_begin_1 ?_
  refine lv_aload_n hx hb dX3_begin_4 rfl (lv_at hl 0 rfl) ?_
  refine va_get (D := D) (ci := 3) (C := RX3) (T := TX3) (N := 3) hx hb hts fwX3_begin_X3 hown hK hP 0 rfl rfl 0 (by decide) (hts _ (List.mem_of_getElem? (i := 2) rfl)) (fun _ h9 => h9) rfl dX3_begin_5 ?_
  refine q_cVv (wf := (wX3 cI cZ cS ad)) (wc := wX0_X0 cI cZ cS (fun i => ad (if i < 13 then 14 + i else 1 + (i - 13)))) (rest := []) ⟨hx, hb, hml, hown, hts⟩ hK hZ hA hP hD hS hf (fun x ho => kX0_becomeLike l D cI cZ cS zz (fun i => ad (if i < 13 then 14 + i else 1 + (i - 13))) (q_ap 13 (q_sb σ 14) (q_sb σ 1)) x ho) (cwV 1 hts gX3_begin_X0_becomeLike rfl rfl rfl ndX0_becomeLike ⟨Nat.le_of_ble_eq_true rfl, Nat.le_of_ble_eq_true rfl⟩) [14, 15, 16, 17, 18, 19, 20, 21, 22, 23, 24, 25, 26, 1, 2, 3, 4, 5, 6, 7, 8, 9, 10, 11, 12, 13] rfl rfl [none, some 13, some 14, some 15, some 16, some 17, some 18, some 19, some 20, some 21, some 22, some 23, some 24, some 25, some 0, some 1, some 2, some 3, some 4, some 5, some 6, some 7, some 8, some 9, some 10, some 11, some 12, none] (by decide +kernel) (Nat.le_of_ble_eq_true rfl) (fun _ => rfl) (fun _ => rfl) (fun _ => rfl) rfl rfl rfl rfl (hl.1) rfl (Nat.le_of_ble_eq_true rfl) dX3_begin_8 ⟨Nat.zero_le _, Nat.zero_le _⟩ (fun σ1 H locs hf hP hD hS => ?_)
  refine lv_aload_n hx hb dX3_begin_11 rfl (lv_at hl 0 rfl) ?_
  refine va_get (D := D) (ci := 3) (C := RX3) (T := TX3) (N := 3) hx hb hts fwX3_begin_X3 hown hK hP 0 rfl rfl 1 (by decide) (hts _ (List.mem_of_getElem? (i := 1) rfl)) (fun _ h9 => h9) rfl dX3_begin_12 ?_
  refine lv_iconst (v := 0) hx hb dX3_begin_15 (by decide) ?_
  refine w_put (D := D) (wf := (wX3 cI cZ cS ad)) (cid := 14) (ci := 0) (C := RX0) (T := TX0) (N := 13) hx hb hts fwX3_begin_X0 tyX0 tyX0_ok nmX0 hown hK hP hD hS 14 rfl rfl 12 (by decide) (hts _ (List.mem_of_getElem? (i := 3) rfl)) (fun _ h9 => h9) rfl (tyX0_ok 12 (by decide)) (Nat.le_of_ble_eq_true rfl) hf rfl dX3_begin_16 (fun σ2 H locs hf hP hD hS => ?_)
  have hi1 := Option.some.inj hf
  subst hi1
  exact hret _ _ _ _ dX3_begin_19 hP hS
